/-! ===== the whole text ===== -/
theorem q_lines {v : Nat → Nat} {n L : Nat} {e : QP} : ∀ (m a s : Nat) (C : Nat → Nat → Int32) (J : Nat → Nat → Int64) (R : Nat → Nat → Int32) (K : Nat → Nat → Int64) (D N : Nat) (cl : Nat → Nat), n - s ≤ m → 2 * a ≤ s → q_Pt v n C J R K s → q_BR C J R K D N cl → q_Sta C →
    ∃ (x : Int32) (C' : Nat → Nat → Int32) (J' : Nat → Nat → Int64) (R' : Nat → Nat → Int32) (K' : Nat → Nat → Int64), kX9_readBoard 67 [some (.ref 31), none, none, none, some (.int 1), some (.int (nI a))] [] (qm C J (3, 17, 17, 2, L)) = some (some (.int x), qm C' J' (3, 17, 17, 2, L)) ∧ kX12_readAll 93 [some (.ref 64), none] [] (qm R K e) = some (none, qm R' K' e) ∧ q_Gf C J R K C' J' R' K' ∧ ((x = 0 ∧ R' 64 2 = 0 ∧ ∃ D N cl, q_BR C' J' R' K' D N cl) ∨ (x = C' 31 12 ∧ q_Fl C' R')) := by
  intro m
  induction m with
  | zero =>
    intro a s C J R K D N cl hm ha hp hB hS
    have hn := hp.1.1
    have hsn := hp.2.2.2.2.2.1
    have ha16 : nI a < (1600 : Int32) := nI_lt (b := 1600) (by omega) (by omega)
    by_cases h0 : C 31 5 = 0
    · refine ⟨0, C, J, R, K, ?_, ?_, q_Gf_refl C J R K, Or.inl ⟨rfl, hp.ok, D, N, cl, hB⟩⟩
      · rw [eX9_readBoard_67, if_pos ha16, eX9_readBoard_75, if_neg (by decide), eX9_readBoard_80, if_pos h0, eX9_readBoard_99, hB.1.2.2.2.2.2.2.2.1]
      · rw [eX12_readAll_93, if_pos hp.ok, eX12_readAll_100, if_pos (hp.fin.mp h0), eX12_readAll_114]
    · rcases q_lineD (L := L) (e := e) hp hB hS with ⟨C', J', R', K', D', N', cl', s', e1, e2, e3, e4, e5, e6⟩ | ⟨C', J', R', K', e1, e2, e3, e4⟩
      · have := e5.2.2.2.2.2.1
        omega
      · refine ⟨C' 31 12, C', J', R', K', ?_, ?_, e3, Or.inr ⟨rfl, e4⟩⟩
        · have hend : kX9_readBoard 67 [some (.ref 31), none, none, none, some (.int 0), some (.int (nI a + 1))] [] (qm C' J' (3, 17, 17, 2, L)) = some (some (.int (C' 31 12)), qm C' J' (3, 17, 17, 2, L)) := by
            rw [eX9_readBoard_67]
            by_cases g : nI a + 1 < (1600 : Int32)
            · rw [if_pos g, eX9_readBoard_75, if_pos rfl, eX9_readBoard_99]
            · rw [if_neg g, eX9_readBoard_99]
          rw [eX9_readBoard_67, if_pos ha16, eX9_readBoard_75, if_neg (by decide), eX9_readBoard_80, if_neg h0, eX9_readBoard_87, e1]
          simp only [Option.bind_some, Option.toList_some, Option.toList_none, List.nil_append, List.cons_append, q_ck_tt, Bool.and_true, Bool.true_and, if_true, if_false, reduceCtorEq]
          rw [eX9_readBoard_91, hend]
        · rw [eX12_readAll_93, if_pos hp.ok, eX12_readAll_100, if_neg (fun g => h0 (hp.fin.mpr g)), eX12_readAll_107, e2]
          simp only [Option.bind_some, Option.toList_some, Option.toList_none, List.nil_append, List.cons_append, q_ck_tt, Bool.and_true, Bool.true_and, if_true, if_false, reduceCtorEq]
          rw [eX12_readAll_111, eX12_readAll_93, if_neg (q_pos_ne e4.2.1), eX12_readAll_114]
  | succ m ih =>
    intro a s C J R K D N cl hm ha hp hB hS
    have hn := hp.1.1
    have hsn := hp.2.2.2.2.2.1
    have ha16 : nI a < (1600 : Int32) := nI_lt (b := 1600) (by omega) (by omega)
    by_cases h0 : C 31 5 = 0
    · refine ⟨0, C, J, R, K, ?_, ?_, q_Gf_refl C J R K, Or.inl ⟨rfl, hp.ok, D, N, cl, hB⟩⟩
      · rw [eX9_readBoard_67, if_pos ha16, eX9_readBoard_75, if_neg (by decide), eX9_readBoard_80, if_pos h0, eX9_readBoard_99, hB.1.2.2.2.2.2.2.2.1]
      · rw [eX12_readAll_93, if_pos hp.ok, eX12_readAll_100, if_pos (hp.fin.mp h0), eX12_readAll_114]
    · rcases q_lineD (L := L) (e := e) hp hB hS with ⟨C', J', R', K', D', N', cl', s', e1, e2, e3, e4, e5, e6⟩ | ⟨C', J', R', K', e1, e2, e3, e4⟩
      · have hS' : q_Sta C' := ⟨fun k => by rw [(e3.1 1000 (by omega)).1]; exact hS.1 k, fun k => by rw [(e3.1 1001 (by omega)).1]; exact hS.2.1 k, fun k => by rw [(e3.1 1002 (by omega)).1]; exact hS.2.2.1 k, fun k => by rw [(e3.1 1003 (by omega)).1]; exact hS.2.2.2 k⟩
        obtain ⟨x, C2, J2, R2, K2, f1, f2, f3, f4⟩ := ih (a + 1) s' C' J' R' K' D' N' cl' (by omega) (by omega) e5 e6 hS'
        refine ⟨x, C2, J2, R2, K2, ?_, ?_, q_Gf_trans e3 f3, f4⟩
        · rw [eX9_readBoard_67, if_pos ha16, eX9_readBoard_75, if_neg (by decide), eX9_readBoard_80, if_neg h0, eX9_readBoard_87, e1]
          simp only [Option.bind_some, Option.toList_some, Option.toList_none, List.nil_append, List.cons_append, q_ck_tt, Bool.and_true, Bool.true_and, if_true, if_false, reduceCtorEq]
          rw [eX9_readBoard_91, show nI a + 1 = nI (a + 1) from nI_add a 1, f1]
        · rw [eX12_readAll_93, if_pos hp.ok, eX12_readAll_100, if_neg (fun g => h0 (hp.fin.mpr g)), eX12_readAll_107, e2]
          simp only [Option.bind_some, Option.toList_some, Option.toList_none, List.nil_append, List.cons_append, q_ck_tt, Bool.and_true, Bool.true_and, if_true, if_false, reduceCtorEq]
          rw [eX12_readAll_111, f2]
      · refine ⟨C' 31 12, C', J', R', K', ?_, ?_, e3, Or.inr ⟨rfl, e4⟩⟩
        · have hend : kX9_readBoard 67 [some (.ref 31), none, none, none, some (.int 0), some (.int (nI a + 1))] [] (qm C' J' (3, 17, 17, 2, L)) = some (some (.int (C' 31 12)), qm C' J' (3, 17, 17, 2, L)) := by
            rw [eX9_readBoard_67]
            by_cases g : nI a + 1 < (1600 : Int32)
            · rw [if_pos g, eX9_readBoard_75, if_pos rfl, eX9_readBoard_99]
            · rw [if_neg g, eX9_readBoard_99]
          rw [eX9_readBoard_67, if_pos ha16, eX9_readBoard_75, if_neg (by decide), eX9_readBoard_80, if_neg h0, eX9_readBoard_87, e1]
          simp only [Option.bind_some, Option.toList_some, Option.toList_none, List.nil_append, List.cons_append, q_ck_tt, Bool.and_true, Bool.true_and, if_true, if_false, reduceCtorEq]
          rw [eX9_readBoard_91, hend]
        · rw [eX12_readAll_93, if_pos hp.ok, eX12_readAll_100, if_neg (fun g => h0 (hp.fin.mpr g)), eX12_readAll_107, e2]
          simp only [Option.bind_some, Option.toList_some, Option.toList_none, List.nil_append, List.cons_append, q_ck_tt, Bool.and_true, Bool.true_and, if_true, if_false, reduceCtorEq]
          rw [eX12_readAll_111, eX12_readAll_93, if_neg (q_pos_ne e4.2.1), eX12_readAll_114]
/-! ===== the class clears the board that it reads into ===== -/
theorem fJ7_fq_23 (I : Nat → Nat → Int32) (J : Nat → Nat → Int64) (e : QP) (v : Int32) : mJ7_fill_53178 [.ref 23, .int v] (qm I J e) = some (none, qm (va_up I 23 (fun k => if k < 6 then v else I 23 k)) J e) := by
  have hst : ∀ i, i < 6 → kJ7_fill_53178 5 [some (.ref 23), some (.int v), some (.int (nI i)), some (.int 6)] [] (qm (va_up I 23 (fun k => if k < i then v else I 23 k)) J e) = kJ7_fill_53178 5 [some (.ref 23), some (.int v), some (.int (nI (i + 1))), some (.int 6)] [] (qm (va_up I 23 (fun k => if k < i + 1 then v else I 23 k)) J e) := by
    intro i hi
    rw [eJ7_fill_53178_23_5, if_pos (show nI i < (6 : Int32) from nI_lt (b := 6) hi (by decide)), eJ7_fill_53178_23_10, q_in_nI hi (by omega), nI_n (by omega), Bool.true_and, q_ck_tt, show nI i + 1 = nI (i + 1) from nI_add i 1, q_up_up]
    congr 3
    congr 1
    funext x
    by_cases hx : x = i
    · subst hx; rw [va_hit, if_pos (by omega)]
    · rw [va_miss hx]
      by_cases h3 : x < i
      · rw [if_pos h3, if_pos (by omega)]
      · rw [if_neg h3, if_neg (by omega)]
  have hl := q_for (fun i (a : Nat → Int32) => kJ7_fill_53178 5 [some (.ref 23), some (.int v), some (.int (nI i)), some (.int 6)] [] (qm (va_up I 23 a) J e)) 6 (fun i k => if k < i then v else I 23 k) hst
  have h0 : (fun k => if k < 0 then v else I 23 k) = I 23 := by
    funext x
    rw [if_neg (by omega)]
  rw [h0, va_up_id] at hl
  rw [bJ7_fill_53178_23, eJ7_fill_53178_23_0]
  refine Eq.trans hl ?_
  rw [eJ7_fill_53178_23_5, if_neg (by decide), eJ7_fill_53178_23_20]
theorem fJ7_fq_24 (I : Nat → Nat → Int32) (J : Nat → Nat → Int64) (e : QP) (v : Int32) : mJ7_fill_53178 [.ref 24, .int v] (qm I J e) = some (none, qm (va_up I 24 (fun k => if k < 6 then v else I 24 k)) J e) := by
  have hst : ∀ i, i < 6 → kJ7_fill_53178 5 [some (.ref 24), some (.int v), some (.int (nI i)), some (.int 6)] [] (qm (va_up I 24 (fun k => if k < i then v else I 24 k)) J e) = kJ7_fill_53178 5 [some (.ref 24), some (.int v), some (.int (nI (i + 1))), some (.int 6)] [] (qm (va_up I 24 (fun k => if k < i + 1 then v else I 24 k)) J e) := by
    intro i hi
    rw [eJ7_fill_53178_24_5, if_pos (show nI i < (6 : Int32) from nI_lt (b := 6) hi (by decide)), eJ7_fill_53178_24_10, q_in_nI hi (by omega), nI_n (by omega), Bool.true_and, q_ck_tt, show nI i + 1 = nI (i + 1) from nI_add i 1, q_up_up]
    congr 3
    congr 1
    funext x
    by_cases hx : x = i
    · subst hx; rw [va_hit, if_pos (by omega)]
    · rw [va_miss hx]
      by_cases h3 : x < i
      · rw [if_pos h3, if_pos (by omega)]
      · rw [if_neg h3, if_neg (by omega)]
  have hl := q_for (fun i (a : Nat → Int32) => kJ7_fill_53178 5 [some (.ref 24), some (.int v), some (.int (nI i)), some (.int 6)] [] (qm (va_up I 24 a) J e)) 6 (fun i k => if k < i then v else I 24 k) hst
  have h0 : (fun k => if k < 0 then v else I 24 k) = I 24 := by
    funext x
    rw [if_neg (by omega)]
  rw [h0, va_up_id] at hl
  rw [bJ7_fill_53178_24, eJ7_fill_53178_24_0]
  refine Eq.trans hl ?_
  rw [eJ7_fill_53178_24_5, if_neg (by decide), eJ7_fill_53178_24_20]
theorem fJ7_fq_25 (I : Nat → Nat → Int32) (J : Nat → Nat → Int64) (e : QP) (v : Int32) : mJ7_fill_53178 [.ref 25, .int v] (qm I J e) = some (none, qm (va_up I 25 (fun k => if k < 6 then v else I 25 k)) J e) := by
  have hst : ∀ i, i < 6 → kJ7_fill_53178 5 [some (.ref 25), some (.int v), some (.int (nI i)), some (.int 6)] [] (qm (va_up I 25 (fun k => if k < i then v else I 25 k)) J e) = kJ7_fill_53178 5 [some (.ref 25), some (.int v), some (.int (nI (i + 1))), some (.int 6)] [] (qm (va_up I 25 (fun k => if k < i + 1 then v else I 25 k)) J e) := by
    intro i hi
    rw [eJ7_fill_53178_25_5, if_pos (show nI i < (6 : Int32) from nI_lt (b := 6) hi (by decide)), eJ7_fill_53178_25_10, q_in_nI hi (by omega), nI_n (by omega), Bool.true_and, q_ck_tt, show nI i + 1 = nI (i + 1) from nI_add i 1, q_up_up]
    congr 3
    congr 1
    funext x
    by_cases hx : x = i
    · subst hx; rw [va_hit, if_pos (by omega)]
    · rw [va_miss hx]
      by_cases h3 : x < i
      · rw [if_pos h3, if_pos (by omega)]
      · rw [if_neg h3, if_neg (by omega)]
  have hl := q_for (fun i (a : Nat → Int32) => kJ7_fill_53178 5 [some (.ref 25), some (.int v), some (.int (nI i)), some (.int 6)] [] (qm (va_up I 25 a) J e)) 6 (fun i k => if k < i then v else I 25 k) hst
  have h0 : (fun k => if k < 0 then v else I 25 k) = I 25 := by
    funext x
    rw [if_neg (by omega)]
  rw [h0, va_up_id] at hl
  rw [bJ7_fill_53178_25, eJ7_fill_53178_25_0]
  refine Eq.trans hl ?_
  rw [eJ7_fill_53178_25_5, if_neg (by decide), eJ7_fill_53178_25_20]
theorem fJ7_fq_26 (I : Nat → Nat → Int32) (J : Nat → Nat → Int64) (e : QP) (v : Int32) : mJ7_fill_53178 [.ref 26, .int v] (qm I J e) = some (none, qm (va_up I 26 (fun k => if k < 24 then v else I 26 k)) J e) := by
  have hst : ∀ i, i < 24 → kJ7_fill_53178 5 [some (.ref 26), some (.int v), some (.int (nI i)), some (.int 24)] [] (qm (va_up I 26 (fun k => if k < i then v else I 26 k)) J e) = kJ7_fill_53178 5 [some (.ref 26), some (.int v), some (.int (nI (i + 1))), some (.int 24)] [] (qm (va_up I 26 (fun k => if k < i + 1 then v else I 26 k)) J e) := by
    intro i hi
    rw [eJ7_fill_53178_26_5, if_pos (show nI i < (24 : Int32) from nI_lt (b := 24) hi (by decide)), eJ7_fill_53178_26_10, q_in_nI hi (by omega), nI_n (by omega), Bool.true_and, q_ck_tt, show nI i + 1 = nI (i + 1) from nI_add i 1, q_up_up]
    congr 3
    congr 1
    funext x
    by_cases hx : x = i
    · subst hx; rw [va_hit, if_pos (by omega)]
    · rw [va_miss hx]
      by_cases h3 : x < i
      · rw [if_pos h3, if_pos (by omega)]
      · rw [if_neg h3, if_neg (by omega)]
  have hl := q_for (fun i (a : Nat → Int32) => kJ7_fill_53178 5 [some (.ref 26), some (.int v), some (.int (nI i)), some (.int 24)] [] (qm (va_up I 26 a) J e)) 24 (fun i k => if k < i then v else I 26 k) hst
  have h0 : (fun k => if k < 0 then v else I 26 k) = I 26 := by
    funext x
    rw [if_neg (by omega)]
  rw [h0, va_up_id] at hl
  rw [bJ7_fill_53178_26, eJ7_fill_53178_26_0]
  refine Eq.trans hl ?_
  rw [eJ7_fill_53178_26_5, if_neg (by decide), eJ7_fill_53178_26_20]
theorem q_clearC (C : Nat → Nat → Int32) (J : Nat → Nat → Int64) (e : QP) : ∃ C', mX0_clear [.ref 17] (qm C J e) = some (none, qm C' J e) ∧ (∀ p, (p < 17 ∨ 28 < p) → C' p = C p) ∧ (C' 17 0 = 0 ∧ C' 17 5 = 0 ∧ C' 17 11 = 0 ∧ C' 17 14 = 0 ∧ C' 17 15 = 0) ∧ (∀ k, k < 6 → C' 23 k = 0 ∧ C' 24 k = 0 ∧ C' 25 k = -1) ∧ (∀ k, k < 24 → C' 26 k = -1) ∧ (∀ k, k < 5 → C' 27 k = 0) ∧ C' 28 2 = 0 ∧ C' 28 3 = 0 := by
  generalize h1 : q_up (q_up C 17 0 0) 17 5 0 = C1
  generalize h2 : va_up C1 23 (fun k => if k < 6 then 0 else C1 23 k) = C2
  generalize h3 : va_up C2 24 (fun k => if k < 6 then 0 else C2 24 k) = C3
  generalize h4 : va_up C3 25 (fun k => if k < 6 then -1 else C3 25 k) = C4
  generalize h5 : va_up C4 26 (fun k => if k < 24 then -1 else C4 26 k) = C5
  generalize h6 : q_up (q_up (q_up (q_up (q_up (q_up C5 17 11 0) 27 0 0) 27 1 0) 27 2 0) 27 3 0) 27 4 0 = C6
  generalize h7 : q_up (q_up (q_up (q_up C6 28 2 0) 28 3 0) 17 14 0) 17 15 0 = C7
  have o1 : ∀ p, p ≠ 17 → C1 p = C p := fun p x => by rw [← h1, q_up_at3 _ _ x, q_up_at3 _ _ x]
  have o2 : ∀ p, p ≠ 23 → C2 p = C1 p := fun p x => by rw [← h2, va_miss x]
  have o3 : ∀ p, p ≠ 24 → C3 p = C2 p := fun p x => by rw [← h3, va_miss x]
  have o4 : ∀ p, p ≠ 25 → C4 p = C3 p := fun p x => by rw [← h4, va_miss x]
  have o5 : ∀ p, p ≠ 26 → C5 p = C4 p := fun p x => by rw [← h5, va_miss x]
  have o6 : ∀ p, p ≠ 17 → p ≠ 27 → C6 p = C5 p := fun p x y => by rw [← h6, q_up_at3 _ _ y, q_up_at3 _ _ y, q_up_at3 _ _ y, q_up_at3 _ _ y, q_up_at3 _ _ y, q_up_at3 _ _ x]
  have o7 : ∀ p, p ≠ 17 → p ≠ 28 → C7 p = C6 p := fun p x y => by rw [← h7, q_up_at3 _ _ x, q_up_at3 _ _ x, q_up_at3 _ _ y, q_up_at3 _ _ y]
  have s17 : ∀ k, C7 17 k = if k = 15 then 0 else if k = 14 then 0 else if k = 11 then 0 else if k = 5 then 0 else if k = 0 then 0 else C 17 k := by
    intro k
    have e5 : C5 17 = C1 17 := by rw [o5 17 (by decide), o4 17 (by decide), o3 17 (by decide), o2 17 (by decide)]
    have e6 : ∀ k, C6 17 k = if k = 11 then 0 else C5 17 k := fun k => by
      rw [← h6, q_up_at3 _ _ (by decide), q_up_at3 _ _ (by decide), q_up_at3 _ _ (by decide), q_up_at3 _ _ (by decide), q_up_at3 _ _ (by decide), q_up_at, if_pos rfl]
    have e7 : C7 17 k = if k = 15 then 0 else if k = 14 then 0 else C6 17 k := by
      rw [← h7, q_up_at, if_pos rfl, q_up_at, if_pos rfl, q_up_at3 _ _ (by decide), q_up_at3 _ _ (by decide)]
    rw [e7, e6, e5, ← h1, q_up_at, if_pos rfl, q_up_at, if_pos rfl]
  refine ⟨C7, ?_, ?_, ⟨?_, ?_, ?_, ?_, ?_⟩, ?_, ?_, ?_, ?_, ?_⟩
  · rw [bX0_clear, eX0_clear_0, h1, fJ7_fq_23, h2]
    simp only [Option.bind_some, Option.toList_some, Option.toList_none, List.nil_append, List.cons_append, q_ck_tt, Bool.and_true, Bool.true_and, if_true, if_false, reduceCtorEq]
    rw [eX0_clear_18, fJ7_fq_24, h3]
    simp only [Option.bind_some, Option.toList_some, Option.toList_none, List.nil_append, List.cons_append, q_ck_tt, Bool.and_true, Bool.true_and, if_true, if_false, reduceCtorEq]
    rw [eX0_clear_26, fJ7_fq_25, h4]
    simp only [Option.bind_some, Option.toList_some, Option.toList_none, List.nil_append, List.cons_append, q_ck_tt, Bool.and_true, Bool.true_and, if_true, if_false, reduceCtorEq]
    rw [eX0_clear_34, fJ7_fq_26, h5]
    simp only [Option.bind_some, Option.toList_some, Option.toList_none, List.nil_append, List.cons_append, q_ck_tt, Bool.and_true, Bool.true_and, if_true, if_false, reduceCtorEq]
    rw [eX0_clear_42, bX3_mendAll_27, eX3_mendAll_27_0, eX3_mendAll_27_22, h6]
    simp only [Option.bind_some, Option.toList_some, Option.toList_none, List.nil_append, List.cons_append, q_ck_tt, Bool.and_true, Bool.true_and, if_true, if_false, reduceCtorEq]
    rw [eX0_clear_54, bX4_clear, eX4_clear_0]
    simp only [Option.bind_some, Option.toList_some, Option.toList_none, List.nil_append, List.cons_append, q_ck_tt, Bool.and_true, Bool.true_and, if_true, if_false, reduceCtorEq]
    rw [eX0_clear_61, h7]
  · intro p hp
    rw [o7 p (by omega) (by omega), o6 p (by omega) (by omega), o5 p (by omega), o4 p (by omega), o3 p (by omega), o2 p (by omega), o1 p (by omega)]
  · rw [s17]; rfl
  · rw [s17]; rfl
  · rw [s17]; rfl
  · rw [s17]; rfl
  · rw [s17]; rfl
  · intro k hk
    refine ⟨?_, ?_, ?_⟩
    · rw [o7 23 (by decide) (by decide), o6 23 (by decide) (by decide), o5 23 (by decide), o4 23 (by decide), o3 23 (by decide), ← h2, va_hit, if_pos hk]
    · rw [o7 24 (by decide) (by decide), o6 24 (by decide) (by decide), o5 24 (by decide), o4 24 (by decide), ← h3, va_hit, if_pos hk]
    · rw [o7 25 (by decide) (by decide), o6 25 (by decide) (by decide), o5 25 (by decide), ← h4, va_hit, if_pos hk]
  · intro k hk
    rw [o7 26 (by decide) (by decide), o6 26 (by decide) (by decide), ← h5, va_hit, if_pos hk]
  · intro k hk
    rw [o7 27 (by decide) (by decide), ← h6]
    match k, hk with
    | 0, _ => rw [q_up_at2 _ _ (by decide), q_up_at2 _ _ (by decide), q_up_at2 _ _ (by decide), q_up_at2 _ _ (by decide), q_up_at1]
    | 1, _ => rw [q_up_at2 _ _ (by decide), q_up_at2 _ _ (by decide), q_up_at2 _ _ (by decide), q_up_at1]
    | 2, _ => rw [q_up_at2 _ _ (by decide), q_up_at2 _ _ (by decide), q_up_at1]
    | 3, _ => rw [q_up_at2 _ _ (by decide), q_up_at1]
    | 4, _ => rw [q_up_at1]
  · rw [← h7, q_up_at3 _ _ (by decide), q_up_at3 _ _ (by decide), q_up_at2 _ _ (by decide), q_up_at1]
  · rw [← h7, q_up_at3 _ _ (by decide), q_up_at3 _ _ (by decide), q_up_at1]
