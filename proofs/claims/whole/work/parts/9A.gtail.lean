/-! ===== board(): the class, once the text is read ===== -/
theorem fJ7_fq_39 (I : Nat → Nat → Int32) (J : Nat → Nat → Int64) (e : QP) (v : Int32) : mJ7_fill_53178 [.ref 39, .int v] (qm I J e) = some (none, qm (va_up I 39 (fun k => if k < 4 then v else I 39 k)) J e) := by
  have hst : ∀ i, i < 4 → kJ7_fill_53178 5 [some (.ref 39), some (.int v), some (.int (nI i)), some (.int 4)] [] (qm (va_up I 39 (fun k => if k < i then v else I 39 k)) J e) = kJ7_fill_53178 5 [some (.ref 39), some (.int v), some (.int (nI (i + 1))), some (.int 4)] [] (qm (va_up I 39 (fun k => if k < i + 1 then v else I 39 k)) J e) := by
    intro i hi
    rw [eJ7_fill_53178_39_5, if_pos (show nI i < (4 : Int32) from nI_lt (b := 4) hi (by decide)), eJ7_fill_53178_39_10, q_in_nI hi (by omega), nI_n (by omega), Bool.true_and, q_ck_tt, show nI i + 1 = nI (i + 1) from nI_add i 1, q_up_up]
    congr 3
    congr 1
    funext x
    by_cases hx : x = i
    · subst hx; rw [va_hit, if_pos (by omega)]
    · rw [va_miss hx]
      by_cases h3 : x < i
      · rw [if_pos h3, if_pos (by omega)]
      · rw [if_neg h3, if_neg (by omega)]
  have hl := q_for (fun i (a : Nat → Int32) => kJ7_fill_53178 5 [some (.ref 39), some (.int v), some (.int (nI i)), some (.int 4)] [] (qm (va_up I 39 a) J e)) 4 (fun i k => if k < i then v else I 39 k) hst
  have h0 : (fun k => if k < 0 then v else I 39 k) = I 39 := by
    funext x
    rw [if_neg (by omega)]
  rw [h0, va_up_id] at hl
  rw [bJ7_fill_53178_39, eJ7_fill_53178_39_0]
  refine Eq.trans hl ?_
  rw [eJ7_fill_53178_39_5, if_neg (by decide), eJ7_fill_53178_39_20]
theorem fJ7_fq_40 (I : Nat → Nat → Int32) (J : Nat → Nat → Int64) (e : QP) (v : Int32) : mJ7_fill_53178 [.ref 40, .int v] (qm I J e) = some (none, qm (va_up I 40 (fun k => if k < 4 then v else I 40 k)) J e) := by
  have hst : ∀ i, i < 4 → kJ7_fill_53178 5 [some (.ref 40), some (.int v), some (.int (nI i)), some (.int 4)] [] (qm (va_up I 40 (fun k => if k < i then v else I 40 k)) J e) = kJ7_fill_53178 5 [some (.ref 40), some (.int v), some (.int (nI (i + 1))), some (.int 4)] [] (qm (va_up I 40 (fun k => if k < i + 1 then v else I 40 k)) J e) := by
    intro i hi
    rw [eJ7_fill_53178_40_5, if_pos (show nI i < (4 : Int32) from nI_lt (b := 4) hi (by decide)), eJ7_fill_53178_40_10, q_in_nI hi (by omega), nI_n (by omega), Bool.true_and, q_ck_tt, show nI i + 1 = nI (i + 1) from nI_add i 1, q_up_up]
    congr 3
    congr 1
    funext x
    by_cases hx : x = i
    · subst hx; rw [va_hit, if_pos (by omega)]
    · rw [va_miss hx]
      by_cases h3 : x < i
      · rw [if_pos h3, if_pos (by omega)]
      · rw [if_neg h3, if_neg (by omega)]
  have hl := q_for (fun i (a : Nat → Int32) => kJ7_fill_53178 5 [some (.ref 40), some (.int v), some (.int (nI i)), some (.int 4)] [] (qm (va_up I 40 a) J e)) 4 (fun i k => if k < i then v else I 40 k) hst
  have h0 : (fun k => if k < 0 then v else I 40 k) = I 40 := by
    funext x
    rw [if_neg (by omega)]
  rw [h0, va_up_id] at hl
  rw [bJ7_fill_53178_40, eJ7_fill_53178_40_0]
  refine Eq.trans hl ?_
  rw [eJ7_fill_53178_40_5, if_neg (by decide), eJ7_fill_53178_40_20]
theorem fJ7_fq_41 (I : Nat → Nat → Int32) (J : Nat → Nat → Int64) (e : QP) (v : Int32) : mJ7_fill_53178 [.ref 41, .int v] (qm I J e) = some (none, qm (va_up I 41 (fun k => if k < 4 then v else I 41 k)) J e) := by
  have hst : ∀ i, i < 4 → kJ7_fill_53178 5 [some (.ref 41), some (.int v), some (.int (nI i)), some (.int 4)] [] (qm (va_up I 41 (fun k => if k < i then v else I 41 k)) J e) = kJ7_fill_53178 5 [some (.ref 41), some (.int v), some (.int (nI (i + 1))), some (.int 4)] [] (qm (va_up I 41 (fun k => if k < i + 1 then v else I 41 k)) J e) := by
    intro i hi
    rw [eJ7_fill_53178_41_5, if_pos (show nI i < (4 : Int32) from nI_lt (b := 4) hi (by decide)), eJ7_fill_53178_41_10, q_in_nI hi (by omega), nI_n (by omega), Bool.true_and, q_ck_tt, show nI i + 1 = nI (i + 1) from nI_add i 1, q_up_up]
    congr 3
    congr 1
    funext x
    by_cases hx : x = i
    · subst hx; rw [va_hit, if_pos (by omega)]
    · rw [va_miss hx]
      by_cases h3 : x < i
      · rw [if_pos h3, if_pos (by omega)]
      · rw [if_neg h3, if_neg (by omega)]
  have hl := q_for (fun i (a : Nat → Int32) => kJ7_fill_53178 5 [some (.ref 41), some (.int v), some (.int (nI i)), some (.int 4)] [] (qm (va_up I 41 a) J e)) 4 (fun i k => if k < i then v else I 41 k) hst
  have h0 : (fun k => if k < 0 then v else I 41 k) = I 41 := by
    funext x
    rw [if_neg (by omega)]
  rw [h0, va_up_id] at hl
  rw [bJ7_fill_53178_41, eJ7_fill_53178_41_0]
  refine Eq.trans hl ?_
  rw [eJ7_fill_53178_41_5, if_neg (by decide), eJ7_fill_53178_41_20]
theorem fX1_restingOrder17 {I : Nat → Nat → Int32} {J : Nat → Nat → Int64} {e : QP} {d : Nat} (hd : d < 4) (hid : I 20 d = -1 ∨ ∃ k : Nat, k < 128 ∧ I 20 d = nI k) : mX1_restingOrder [.ref 17, .int (nI d)] (qm I J e) = some (some (.int (qRs (I 20 d) (I 19 d))), qm I J e) := by
  have h4 : q_in (nI d) 4 = true := q_in_nI (by omega) (by omega)
  have hn := q_idn hid
  unfold qRs
  rw [bX1_restingOrder_17, eX1_restingOrder_17_0, h4, nI_n (by omega)]
  simp only [Option.bind_some, Option.toList_some, Option.toList_none, List.nil_append, List.cons_append, q_ck_tt, Bool.and_true, Bool.true_and, if_true, if_false, reduceCtorEq]
  by_cases hi : I 20 d < 0
  · rw [if_pos (hn.mpr hi), if_pos hi, eX1_restingOrder_17_14, h4, nI_n (by omega)]
    simp only [Option.bind_some, Option.toList_some, Option.toList_none, List.nil_append, List.cons_append, q_ck_tt, Bool.and_true, Bool.true_and, if_true, if_false, reduceCtorEq]
    rw [eX1_restingOrder_17_24]
  · rw [if_neg (fun c => hi (hn.mp c)), if_neg hi, eX1_restingOrder_17_10, eX1_restingOrder_17_24]
theorem q_begin {I : Nat → Nat → Int32} {J : Nat → Nat → Int64} {e : QP} {D : Nat} (h0 : I 17 0 = nI D) (hD : D ≤ 4) (hid : ∀ d, d < D → I 20 d = -1 ∨ ∃ k : Nat, k < 128 ∧ I 20 d = nI k) :
    ∃ I', mX1_begin [.ref 37, .ref 17] (qm I J e) = some (none, qm I' J e) ∧ (∀ p, (p < 37 ∨ 42 < p) → I' p = I p) ∧ (I' 37 0 = 0 ∧ I' 37 1 = 0 ∧ I' 37 2 = I 17 15) ∧ (∀ d, d < 4 → I' 39 d = 0 ∧ I' 40 d = 0 ∧ I' 41 d = 0) ∧ (∀ d, d < D → I' 38 d = qRs (I 20 d) (I 19 d)) ∧ ∀ k, k < 5 → I' 42 k = I 27 k := by
  generalize h1 : q_up (q_up (q_up I 37 0 0) 37 1 0) 37 2 (I 17 15) = I1
  generalize h2 : va_up I1 39 (fun k => if k < 4 then 0 else I1 39 k) = I2
  generalize h3 : va_up I2 40 (fun k => if k < 4 then 0 else I2 40 k) = I3
  generalize h4 : va_up I3 41 (fun k => if k < 4 then 0 else I3 41 k) = I4
  have o1 : ∀ p, p ≠ 37 → I1 p = I p := fun p x => by rw [← h1, q_up_at3 _ _ x, q_up_at3 _ _ x, q_up_at3 _ _ x]
  have o2 : ∀ p, p ≠ 39 → I2 p = I1 p := fun p x => by rw [← h2, va_miss x]
  have o3 : ∀ p, p ≠ 40 → I3 p = I2 p := fun p x => by rw [← h3, va_miss x]
  have o4 : ∀ p, p ≠ 41 → I4 p = I3 p := fun p x => by rw [← h4, va_miss x]
  have o14 : ∀ p, p ≠ 37 → p ≠ 39 → p ≠ 40 → p ≠ 41 → I4 p = I p := fun p a b c d => by rw [o4 p d, o3 p c, o2 p b, o1 p a]
  have hlp := q_inv_for (fun i (K : Nat → Nat → Int32) => kX1_begin 44 [some (.ref 37), some (.ref 17), some (.int (nI i))] [] (qm K J e)) (fun i K => (∀ p, p ≠ 38 → K p = I4 p) ∧ ∀ d, d < i → K 38 d = qRs (I 20 d) (I 19 d)) D (fun i K hi hK => by
    have k17 : K 17 = I 17 := by rw [hK.1 17 (by decide), o14 17 (by decide) (by decide) (by decide) (by decide)]
    have k19 : K 19 = I 19 := by rw [hK.1 19 (by decide), o14 19 (by decide) (by decide) (by decide) (by decide)]
    have k20 : K 20 = I 20 := by rw [hK.1 20 (by decide), o14 20 (by decide) (by decide) (by decide) (by decide)]
    refine ⟨q_up K 38 i (qRs (I 20 i) (I 19 i)), ⟨fun p hp => by rw [q_up_at3 _ _ hp]; exact hK.1 p hp, fun d hd => ?_⟩, ?_⟩
    · by_cases g : d = i
      · subst g; rw [q_up_at1]
      · rw [q_up_at2 _ _ g]; exact hK.2 d (by omega)
    · show kX1_begin 44 _ _ _ = kX1_begin 44 _ _ _
      rw [eX1_begin_44, k17, h0, if_pos (nI_lt hi (by omega)), eX1_begin_52, fX1_restingOrder17 (by omega) (by rw [k20]; exact hid i hi), k20, k19]
      simp only [Option.bind_some, Option.toList_some, Option.toList_none, List.nil_append, List.cons_append, q_ck_tt, Bool.and_true, Bool.true_and, if_true, if_false, reduceCtorEq]
      rw [eX1_begin_62, q_in_nI (by omega) (by omega), nI_n (by omega), Bool.true_and, q_ck_tt, show nI i + 1 = nI (i + 1) from nI_add i 1]) D 0 I4 (by omega) ⟨fun _ _ => rfl, fun d hd => absurd hd (Nat.not_lt_zero d)⟩
  obtain ⟨I5, ⟨a1, a2⟩, a3⟩ := hlp
  have a3' : kX1_begin 44 [some (.ref 37), some (.ref 17), some (.int 0)] [] (qm I4 J e) = kX1_begin 44 [some (.ref 37), some (.ref 17), some (.int (nI D))] [] (qm I5 J e) := a3
  generalize h6 : q_up (q_up (q_up (q_up (q_up I5 42 0 (I5 27 0)) 42 1 (I5 27 1)) 42 2 (I5 27 2)) 42 3 (I5 27 3)) 42 4 (I5 27 4) = I6
  have o6 : ∀ p, p ≠ 42 → I6 p = I5 p := fun p x => by rw [← h6, q_up_at3 _ _ x, q_up_at3 _ _ x, q_up_at3 _ _ x, q_up_at3 _ _ x, q_up_at3 _ _ x]
  have k527 : I5 27 = I 27 := by rw [a1 27 (by decide), o14 27 (by decide) (by decide) (by decide) (by decide)]
  have k517 : I5 17 = I 17 := by rw [a1 17 (by decide), o14 17 (by decide) (by decide) (by decide) (by decide)]
  refine ⟨I6, ?_, fun p hp => ?_, ⟨?_, ?_, ?_⟩, fun d hd => ⟨?_, ?_, ?_⟩, fun d hd => ?_, fun k hk => ?_⟩
  · rw [bX1_begin, eX1_begin_0, h1, fJ7_fq_39, h2]
    simp only [Option.bind_some, Option.toList_some, Option.toList_none, List.nil_append, List.cons_append, q_ck_tt, Bool.and_true, Bool.true_and, if_true, if_false, reduceCtorEq]
    rw [eX1_begin_26, fJ7_fq_40, h3]
    simp only [Option.bind_some, Option.toList_some, Option.toList_none, List.nil_append, List.cons_append, q_ck_tt, Bool.and_true, Bool.true_and, if_true, if_false, reduceCtorEq]
    rw [eX1_begin_34, fJ7_fq_41, h4]
    simp only [Option.bind_some, Option.toList_some, Option.toList_none, List.nil_append, List.cons_append, q_ck_tt, Bool.and_true, Bool.true_and, if_true, if_false, reduceCtorEq]
    rw [eX1_begin_42, a3', eX1_begin_44, k517, h0, if_neg (nI_nlt (Nat.le_refl _) (by omega)), eX1_begin_69, bX3_takeOver_42_27, eX3_takeOver_42_27_0, eX3_takeOver_42_27_26, q_up_at3 _ _ (show (27 : Nat) ≠ 42 by decide), q_up_at3 _ _ (show (27 : Nat) ≠ 42 by decide), q_up_at3 _ _ (show (27 : Nat) ≠ 42 by decide), h6]
    simp only [Option.bind_some, Option.toList_some, Option.toList_none, List.nil_append, List.cons_append, q_ck_tt, Bool.and_true, Bool.true_and, if_true, if_false, reduceCtorEq]
    rw [eX1_begin_80]
  · rw [o6 p (by omega), a1 p (by omega), o14 p (by omega) (by omega) (by omega) (by omega)]
  · rw [o6 37 (by decide), a1 37 (by decide), o4 37 (by decide), o3 37 (by decide), o2 37 (by decide), ← h1, q_up_at2 _ _ (by decide), q_up_at2 _ _ (by decide), q_up_at1]
  · rw [o6 37 (by decide), a1 37 (by decide), o4 37 (by decide), o3 37 (by decide), o2 37 (by decide), ← h1, q_up_at2 _ _ (by decide), q_up_at1]
  · rw [o6 37 (by decide), a1 37 (by decide), o4 37 (by decide), o3 37 (by decide), o2 37 (by decide), ← h1, q_up_at1]
  · rw [o6 39 (by decide), a1 39 (by decide), o4 39 (by decide), o3 39 (by decide), ← h2, va_hit, if_pos hd]
  · rw [o6 40 (by decide), a1 40 (by decide), o4 40 (by decide), ← h3, va_hit, if_pos hd]
  · rw [o6 41 (by decide), a1 41 (by decide), ← h4, va_hit, if_pos hd]
  · rw [o6 38 (by decide)]; exact a2 d hd
  · rw [← h6, k527]
    match k, hk with
    | 0, _ => rw [q_up_at2 _ _ (by decide), q_up_at2 _ _ (by decide), q_up_at2 _ _ (by decide), q_up_at2 _ _ (by decide), q_up_at1]
    | 1, _ => rw [q_up_at2 _ _ (by decide), q_up_at2 _ _ (by decide), q_up_at2 _ _ (by decide), q_up_at1]
    | 2, _ => rw [q_up_at2 _ _ (by decide), q_up_at2 _ _ (by decide), q_up_at1]
    | 3, _ => rw [q_up_at2 _ _ (by decide), q_up_at1]
    | 4, _ => rw [q_up_at1]
theorem q_tailC {I : Nat → Nat → Int32} {J : Nat → Nat → Int64} {L D : Nat} (h0 : I 17 0 = nI D) (hD : D ≤ 4) (hid : ∀ d, d < D → I 20 d = -1 ∨ ∃ k : Nat, k < 128 ∧ I 20 d = nI k) :
    ∃ I', kX11_board 77 [some (.ref 1), some (.ref 3)] [] (qm I J (17, 3, 17, 2, L)) = some (some (.int (nI D)), qm I' J (17, 3, 17, 2, L)) ∧ (∀ p, p ≠ 1 → (p < 37 ∨ 42 < p) → p ≠ 44 → p ≠ 45 → p ≠ 47 → p ≠ 52 → p ≠ 56 → I' p = I p) ∧ (I' 1 12 = 0 ∧ ∀ k, k ≠ 12 → I' 1 k = I 1 k) ∧ (I' 37 0 = 0 ∧ I' 37 1 = 0 ∧ I' 37 2 = I 17 15) ∧ (∀ d, d < 4 → I' 39 d = 0 ∧ I' 40 d = 0 ∧ I' 41 d = 0) ∧ (∀ d, d < D → I' 38 d = qRs (I 20 d) (I 19 d)) ∧ (∀ k, k < 5 → I' 42 k = I 27 k) ∧ (I' 44 1 = 0 ∧ I' 44 2 = 0 ∧ I' 44 3 = 0) ∧ (∀ k, k < 24 → I' 45 k = qcr I' k) ∧ (∀ b, b < 3 → I' 47 b = 0) ∧ I' 56 6 = 0 ∧ I' 52 2 = 0 := by
  obtain ⟨I1, b1, b2, b3, b4, b5, b6⟩ := q_begin (J := J) (e := (17, 3, 17, 2, L)) h0 hD hid
  generalize h2 : q_up (q_up (q_up I1 44 1 0) 44 2 0) 44 3 0 = I2
  generalize h3 : va_up I2 45 (qblk 0 (I2 45) (qcr I2) 24) = I3
  have o2 : ∀ p, p ≠ 44 → I2 p = I1 p := fun p x => by rw [← h2, q_up_at3 _ _ x, q_up_at3 _ _ x, q_up_at3 _ _ x]
  have o3 : ∀ p, p ≠ 45 → I3 p = I2 p := fun p x => by rw [← h3, va_miss x]
  have h441 : I2 44 1 = nI 0 := by rw [← h2, q_up_at2 _ _ (by decide), q_up_at2 _ _ (by decide), q_up_at1]; rfl
  have hf : mX8_forget [.ref 44, .ref 37] (qm I1 J (17, 3, 17, 2, L)) = some (none, qm I3 J (17, 3, 17, 2, L)) := by
    have hra : mX8_rowAt [.ref 44, .int 0] (qm I2 J (17, 3, 17, 2, L)) = some (some (.int (nI 0)), qm I2 J (17, 3, 17, 2, L)) := fX8_rowAt (n := 0) h441 (by decide) (by decide)
    have hsv : mX1_save [.ref 37, .ref 45, .int (nI 0)] (qm I2 J (17, 3, 17, 2, L)) = some (none, qm I3 J (17, 3, 17, 2, L)) := by
      rw [← h3]
      exact fX1_save_45 (a := 0) (by decide)
    rw [bX8_forget, eX8_forget_0, h2, eX8_forget_22, hra]
    simp only [Option.bind_some, Option.toList_some, Option.toList_none, List.nil_append, List.cons_append, q_ck_tt, Bool.and_true, Bool.true_and, if_true, if_false, reduceCtorEq]
    rw [eX8_forget_25, hsv]
    simp only [Option.bind_some, Option.toList_some, Option.toList_none, List.nil_append, List.cons_append, q_ck_tt, Bool.and_true, Bool.true_and, if_true, if_false, reduceCtorEq]
    rw [eX8_forget_28]
  have hlp := q_inv_for (fun i (K : Nat → Nat → Int32) => kX8_emptyBoxes 2 [some (.ref 44), some (.int (nI i))] [] (qm K J (17, 3, 17, 2, L))) (fun i K => (∀ p, p ≠ 47 → K p = I3 p) ∧ ∀ d, d < i → K 47 d = 0) 3 (fun i K hi hK => by
    refine ⟨q_up K 47 i 0, ⟨fun p hp => by rw [q_up_at3 _ _ hp]; exact hK.1 p hp, fun d hd => ?_⟩, ?_⟩
    · by_cases g : d = i
      · subst g; rw [q_up_at1]
      · rw [q_up_at2 _ _ g]; exact hK.2 d (by omega)
    · show kX8_emptyBoxes 2 _ _ _ = kX8_emptyBoxes 2 _ _ _
      rw [eX8_emptyBoxes_2, if_pos (show nI i < (3 : Int32) from nI_lt (b := 3) hi (by omega)), eX8_emptyBoxes_7, q_in_nI (by omega) (by omega), nI_n (by omega), Bool.true_and, q_ck_tt, show nI i + 1 = nI (i + 1) from nI_add i 1]
      rfl) 3 0 I3 (by omega) ⟨fun _ _ => rfl, fun d hd => absurd hd (Nat.not_lt_zero d)⟩
  obtain ⟨I4, ⟨a1, a2⟩, a3⟩ := hlp
  have a3' : kX8_emptyBoxes 2 [some (.ref 44), some (.int 0)] [] (qm I3 J (17, 3, 17, 2, L)) = kX8_emptyBoxes 2 [some (.ref 44), some (.int (nI 3))] [] (qm I4 J (17, 3, 17, 2, L)) := a3
  have he : mX8_emptyBoxes [.ref 44] (qm I3 J (17, 3, 17, 2, L)) = some (none, qm I4 J (17, 3, 17, 2, L)) := by
    rw [bX8_emptyBoxes, eX8_emptyBoxes_0, a3', eX8_emptyBoxes_2, if_neg (by decide), eX8_emptyBoxes_20]
  generalize h5 : q_up (q_up (q_up I4 56 6 0) 52 2 0) 1 12 0 = I5
  have o5 : ∀ p, p ≠ 1 → p ≠ 52 → p ≠ 56 → I5 p = I4 p := fun p x y z => by rw [← h5, q_up_at3 _ _ x, q_up_at3 _ _ y, q_up_at3 _ _ z]
  have oo : ∀ p, p ≠ 1 → p ≠ 52 → p ≠ 56 → p ≠ 47 → p ≠ 45 → p ≠ 44 → I5 p = I1 p := fun p a b c d f g => by rw [o5 p a b c, a1 p d, o3 p f, o2 p g]
  have hq : qcr I5 = qcr I2 := by
    funext k
    unfold qcr
    rw [oo 37 (by decide) (by decide) (by decide) (by decide) (by decide) (by decide), oo 38 (by decide) (by decide) (by decide) (by decide) (by decide) (by decide), oo 39 (by decide) (by decide) (by decide) (by decide) (by decide) (by decide), oo 40 (by decide) (by decide) (by decide) (by decide) (by decide) (by decide), oo 41 (by decide) (by decide) (by decide) (by decide) (by decide) (by decide), oo 42 (by decide) (by decide) (by decide) (by decide) (by decide) (by decide), o2 37 (by decide), o2 38 (by decide), o2 39 (by decide), o2 40 (by decide), o2 41 (by decide), o2 42 (by decide)]
  have h17 : I4 17 0 = nI D := by rw [a1 17 (by decide), o3 17 (by decide), o2 17 (by decide), b2 17 (by omega)]; exact h0
  refine ⟨I5, ?_, fun p a b c d f g i => ?_, ⟨?_, fun k hk => ?_⟩, ?_, fun d hd => ?_, fun d hd => ?_, fun k hk => ?_, ⟨?_, ?_, ?_⟩, fun k hk => ?_, fun b hb => ?_, ?_, ?_⟩
  · rw [eX11_board_77, b1]
    simp only [Option.bind_some, Option.toList_some, Option.toList_none, List.nil_append, List.cons_append, q_ck_tt, Bool.and_true, Bool.true_and, if_true, if_false, reduceCtorEq]
    rw [eX11_board_88, hf]
    simp only [Option.bind_some, Option.toList_some, Option.toList_none, List.nil_append, List.cons_append, q_ck_tt, Bool.and_true, Bool.true_and, if_true, if_false, reduceCtorEq]
    rw [eX11_board_99, he]
    simp only [Option.bind_some, Option.toList_some, Option.toList_none, List.nil_append, List.cons_append, q_ck_tt, Bool.and_true, Bool.true_and, if_true, if_false, reduceCtorEq]
    rw [eX11_board_106, bX7_forget, eX7_forget_0]
    simp only [Option.bind_some, Option.toList_some, Option.toList_none, List.nil_append, List.cons_append, q_ck_tt, Bool.and_true, Bool.true_and, if_true, if_false, reduceCtorEq]
    rw [eX11_board_113, bX6_forget, eX6_forget_0]
    simp only [Option.bind_some, Option.toList_some, Option.toList_none, List.nil_append, List.cons_append, q_ck_tt, Bool.and_true, Bool.true_and, if_true, if_false, reduceCtorEq]
    rw [eX11_board_120, q_up_at3 _ _ (show (17 : Nat) ≠ 52 by decide), q_up_at3 _ _ (show (17 : Nat) ≠ 56 by decide), h17, h5]
  · rw [oo p a g i f d c, b2 p b]
  · rw [← h5, q_up_at1]
  · rw [← h5, q_up_at2 _ _ hk, q_up_at3 _ _ (by decide), q_up_at3 _ _ (by decide), a1 1 (by decide), o3 1 (by decide), o2 1 (by decide), b2 1 (by omega)]
  · rw [oo 37 (by decide) (by decide) (by decide) (by decide) (by decide) (by decide)]; exact b3
  · rw [oo 39 (by decide) (by decide) (by decide) (by decide) (by decide) (by decide), oo 40 (by decide) (by decide) (by decide) (by decide) (by decide) (by decide), oo 41 (by decide) (by decide) (by decide) (by decide) (by decide) (by decide)]; exact b4 d hd
  · rw [oo 38 (by decide) (by decide) (by decide) (by decide) (by decide) (by decide)]; exact b5 d hd
  · rw [oo 42 (by decide) (by decide) (by decide) (by decide) (by decide) (by decide)]; exact b6 k hk
  · rw [o5 44 (by decide) (by decide) (by decide), a1 44 (by decide), o3 44 (by decide)]; exact h441
  · rw [o5 44 (by decide) (by decide) (by decide), a1 44 (by decide), o3 44 (by decide), ← h2, q_up_at2 _ _ (by decide), q_up_at1]
  · rw [o5 44 (by decide) (by decide) (by decide), a1 44 (by decide), o3 44 (by decide), ← h2, q_up_at1]
  · rw [hq, o5 45 (by decide) (by decide) (by decide), a1 45 (by decide), ← h3, va_hit]
    unfold qblk
    rw [if_pos (by omega), Nat.sub_zero]
  · rw [o5 47 (by decide) (by decide) (by decide)]; exact a2 b hb
  · rw [← h5, q_up_at3 _ _ (by decide), q_up_at3 _ _ (by decide), q_up_at1]
  · rw [← h5, q_up_at3 _ _ (by decide), q_up_at1]
