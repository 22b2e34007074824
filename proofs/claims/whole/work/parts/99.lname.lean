/-! ===== steps of both: new names, old names ===== -/
theorem nI_ne_m1 {i : Nat} (h : i < 2 ^ 31) : ¬ nI i = -1 := fun g => by
  have h1 : ¬ nI i < 0 := nI_pos h
  rw [g] at h1
  exact h1 (by decide)
theorem qno_n : qno none = -1 := rfl
theorem qno_s (i : Nat) : qno (some i) = nI i := rfl
theorem q_newName_18 {v : Nat → Nat} {n s L : Nat} {C : Nat → Nat → Int32} {J : Nat → Nat → Int64} {R : Nat → Nat → Int32} {K : Nat → Nat → Int64} {e : QP} {N : Nat} (h : q_Pt v n C J R K s) (h0 : C 31 5 ≠ 0) (h1 : C 31 5 ≠ 1) (hN : q_Nm J K 18 0 N) (hc : N < 4) :
    (∃ (C1 : Nat → Nat → Int32) (J1 : Nat → Nat → Int64) (R1 : Nat → Nat → Int32) (K1 : Nat → Nat → Int64) (s1 : Nat), mX9_advance [.ref 31] (qm C J (3, 17, 17, 2, L)) = some (none, qm C1 J1 (3, 17, 17, 2, L)) ∧ mX9_atNewName [.ref 31, .ref 18, .int (nI N)] (qm C1 J1 (3, 17, 17, 2, L)) = some (some (.int 1), qm C1 J1 (3, 17, 17, 2, L)) ∧
      (∀ R2 K2, mX12_token [.ref 64] (qm R1 (q_up K1 66 (0 + N) (K1 64 9)) e) = some (none, qm R2 K2 e) → mX12_newName [.ref 64, .int (nI 0), .int (nI N)] (qm R K e) = some (none, qm R2 K2 e)) ∧ q_Ad C J R K C1 J1 R1 K1 ∧ s < s1 ∧ q_Pt v n C1 J1 R1 K1 s1 ∧ C1 31 5 = 3 ∧ q_Nm (q_up J1 18 N (J1 31 7)) (q_up K1 66 (0 + N) (K1 64 9)) 18 0 (N + 1)) ∨
    (∃ (C1 : Nat → Nat → Int32) (J1 : Nat → Nat → Int64) (C' R' : Nat → Nat → Int32) (K' : Nat → Nat → Int64), mX9_advance [.ref 31] (qm C J (3, 17, 17, 2, L)) = some (none, qm C1 J1 (3, 17, 17, 2, L)) ∧ mX9_atNewName [.ref 31, .ref 18, .int (nI N)] (qm C1 J1 (3, 17, 17, 2, L)) = some (some (.int 0), qm C' J1 (3, 17, 17, 2, L)) ∧ mX12_newName [.ref 64, .int (nI 0), .int (nI N)] (qm R K e) = some (none, qm R' K' e) ∧ q_Fl C' R' ∧ q_Gb C J R K C' J1 R' K') := by
  obtain ⟨C1, J1, R1, K1, s1, e1, e2, e3, e4, e5⟩ := q_adv (L := L) (e := e) h h0 h1
  have hN1 : q_Nm J1 K1 18 0 N := by
    unfold q_Nm
    rw [e3.2.1 18 (by decide), e3.2.2.2 66 (by decide)]
    exact hN
  have hr : mX12_newName [.ref 64, .int (nI 0), .int (nI N)] (qm R K e) = kX12_newName 8 [some (.ref 64), some (.int (nI 0)), some (.int (nI N))] [.int (qb (decide (C1 31 5 = 3)))] (qm R1 K1 e) := by
    rw [bX12_newName, eX12_newName_0, e2]
    simp only [Option.bind_some, Option.toList_some, Option.toList_none, List.nil_append, List.cons_append, q_ck_tt, Bool.and_true, Bool.true_and, if_true, if_false, reduceCtorEq]
    rw [eX12_newName_4, fX12_isName, e5.nam]
    simp only [Option.bind_some, Option.toList_some, Option.toList_none, List.nil_append, List.cons_append, q_ck_tt, Bool.and_true, Bool.true_and, if_true, if_false, reduceCtorEq]
  by_cases h3 : C1 31 5 = 3
  · have hw := e5.wd h3
    have hf : mX12_find [.ref 64, .int (nI 0), .int (nI N)] (qm R1 K1 e) = some (some (.int (qno (qix (J1 18) (J1 31 7) N 0))), qm R1 K1 e) := by
      rw [q_fd_loop (by omega), qlx_ix hN1 hw (by omega)]
    have hcl : mX9_atNewName [.ref 31, .ref 18, .int (nI N)] (qm C1 J1 (3, 17, 17, 2, L)) = kX9_atNewName 23 [some (.ref 31), some (.ref 18), some (.int (nI N))] [.int (qno (qix (J1 18) (J1 31 7) N 0))] (qm C1 J1 (3, 17, 17, 2, L)) := by
      rw [bX9_atNewName_31_18, eX9_atNewName_31_18_0, if_pos h3, eX9_atNewName_31_18_14, fX9_indexOf_18 (by omega)]
      simp only [Option.bind_some, Option.toList_some, Option.toList_none, List.nil_append, List.cons_append, q_ck_tt, Bool.and_true, Bool.true_and, if_true, if_false, reduceCtorEq]
    rw [decide_eq_true h3] at hr
    rw [eX12_newName_8, if_neg (by decide), eX12_newName_19, hf] at hr
    simp only [Option.bind_some, Option.toList_some, Option.toList_none, List.nil_append, List.cons_append, q_ck_tt, Bool.and_true, Bool.true_and, if_true, if_false, reduceCtorEq] at hr
    rw [eX12_newName_25] at hr
    cases hx : qix (J1 18) (J1 31 7) N 0 with
    | none =>
      rw [hx, qno_n] at hcl hr
      refine Or.inl ⟨C1, J1, R1, K1, s1, e1, ?_, ?_, e3, e4, e5, h3, ?_⟩
      · rw [hcl]
        refine Eq.trans (eX9_atNewName_31_18_23 _ _ _ _ _) ?_
        rw [if_pos rfl, eX9_atNewName_31_18_35, eX9_atNewName_31_18_40]
        rfl
      · intro R2 K2 ht
        rw [hr, if_pos (show (-1 : Int32) < 0 by decide), eX12_newName_33, e5.ok, if_neg (by decide), eX12_newName_41, nI_add, q_in_nI (by omega) (by omega), nI_n (by omega), Bool.true_and, q_ck_tt, ht]
        simp only [Option.bind_some, Option.toList_some, Option.toList_none, List.nil_append, List.cons_append, q_ck_tt, Bool.and_true, Bool.true_and, if_true, if_false, reduceCtorEq]
        rw [eX12_newName_57]
      · have hno := qix_none hx
        have hW : ∀ i, i < N + 1 → q_Wd (q_up J1 18 N (J1 31 7) 18 i) (q_up K1 66 (0 + N) (K1 64 9) 66 (0 + i)) := by
          intro i hi
          by_cases g : i = N
          · subst g; rw [q_up_at1, q_up_at1]; exact hw
          · rw [q_up_at2 _ _ g, q_up_at2 _ _ (by omega)]; exact hN1.1 i (by omega)
        refine ⟨hW, ?_⟩
        intro i j hi hj he
        by_cases gi : i = N
        · by_cases gj : j = N
          · omega
          · rw [gi, q_up_at1, q_up_at2 _ _ gj] at he
            exact absurd he.symm (hno j (by omega) (by omega))
        · by_cases gj : j = N
          · rw [gj, q_up_at1, q_up_at2 _ _ gi] at he
            exact absurd he (hno i (by omega) (by omega))
          · rw [q_up_at2 _ _ gi, q_up_at2 _ _ gj] at he
            exact hN1.2 i j (by omega) (by omega) he
    | some i =>
      have hi := qix_some hx
      rw [hx, qno_s] at hcl hr
      obtain ⟨C', R', a1, a2, a3, a4, _, _⟩ := q_refw L e e5 3 (by decide)
      refine Or.inr ⟨C1, J1, C', R', K1, e1, ?_, ?_, a3, q_Gb_ad e3 a4⟩
      · rw [hcl]
        refine Eq.trans (eX9_atNewName_31_18_23 _ _ _ _ _) ?_
        rw [if_neg (show ¬ nI i = -1 from nI_ne_m1 (by omega)), eX9_atNewName_31_18_27, a1]
        simp only [Option.bind_some, Option.toList_some, Option.toList_none, List.nil_append, List.cons_append, q_ck_tt, Bool.and_true, Bool.true_and, if_true, if_false, reduceCtorEq]
        rw [eX9_atNewName_31_18_32, if_pos rfl, eX9_atNewName_31_18_39, eX9_atNewName_31_18_40]
        rfl
      · rw [hr, if_neg (show ¬ nI i < 0 from nI_pos (by omega)), eX12_newName_28, a2]
        simp only [Option.bind_some, Option.toList_some, Option.toList_none, List.nil_append, List.cons_append, q_ck_tt, Bool.and_true, Bool.true_and, if_true, if_false, reduceCtorEq]
        rw [eX12_newName_33, if_pos a3.2.1, eX12_newName_40]
  · obtain ⟨C', R', a1, a2, a3, a4, _, _⟩ := q_refw L e e5 2 (by decide)
    rw [decide_eq_false h3] at hr
    refine Or.inr ⟨C1, J1, C', R', K1, e1, ?_, ?_, a3, q_Gb_ad e3 a4⟩
    · rw [bX9_atNewName_31_18, eX9_atNewName_31_18_0, if_neg h3, eX9_atNewName_31_18_8, a1]
      simp only [Option.bind_some, Option.toList_some, Option.toList_none, List.nil_append, List.cons_append, q_ck_tt, Bool.and_true, Bool.true_and, if_true, if_false, reduceCtorEq]
      rw [eX9_atNewName_31_18_13]
      rfl
    · rw [hr, eX12_newName_8, if_pos (by decide), eX12_newName_11, a2]
      simp only [Option.bind_some, Option.toList_some, Option.toList_none, List.nil_append, List.cons_append, q_ck_tt, Bool.and_true, Bool.true_and, if_true, if_false, reduceCtorEq]
      rw [eX12_newName_16, eX12_newName_33, if_pos a3.2.1, eX12_newName_40]
theorem q_oldName_18 {v : Nat → Nat} {n s L : Nat} {C : Nat → Nat → Int32} {J : Nat → Nat → Int64} {R : Nat → Nat → Int32} {K : Nat → Nat → Int64} {e : QP} {N : Nat} (h : q_Pt v n C J R K s) (hN : q_Nm J K 18 0 N) (hc : N ≤ 4) :
    (∃ i, i < N ∧ C 31 5 = 3 ∧ mX9_atOldName [.ref 31, .ref 18, .int (nI N)] (qm C J (3, 17, 17, 2, L)) = some (some (.int (nI i)), qm C J (3, 17, 17, 2, L)) ∧ mX12_oldName [.ref 64, .int (nI 0), .int (nI N)] (qm R K e) = some (some (.int (nI i)), qm R K e)) ∨
    (∃ (C' R' : Nat → Nat → Int32), mX9_atOldName [.ref 31, .ref 18, .int (nI N)] (qm C J (3, 17, 17, 2, L)) = some (some (.int (-1)), qm C' J (3, 17, 17, 2, L)) ∧ mX12_oldName [.ref 64, .int (nI 0), .int (nI N)] (qm R K e) = some (some (.int 0), qm R' K e) ∧ q_Fl C' R' ∧ q_Gb C J R K C' J R' K) := by
  have hr : mX12_oldName [.ref 64, .int (nI 0), .int (nI N)] (qm R K e) = kX12_oldName 13 [some (.ref 64), some (.int (nI 0)), some (.int (nI N))] [.int (qb (decide (C 31 5 = 3)))] (qm R K e) := by
    rw [bX12_oldName, eX12_oldName_0, h.ok, if_neg (by decide), eX12_oldName_9, fX12_isName, h.nam]
    simp only [Option.bind_some, Option.toList_some, Option.toList_none, List.nil_append, List.cons_append, q_ck_tt, Bool.and_true, Bool.true_and, if_true, if_false, reduceCtorEq]
  by_cases h3 : C 31 5 = 3
  · have hw := h.wd h3
    have hf : mX12_find [.ref 64, .int (nI 0), .int (nI N)] (qm R K e) = some (some (.int (qno (qix (J 18) (J 31 7) N 0))), qm R K e) := by
      rw [q_fd_loop (by omega), qlx_ix hN hw (by omega)]
    have hcl : mX9_atOldName [.ref 31, .ref 18, .int (nI N)] (qm C J (3, 17, 17, 2, L)) = kX9_atOldName 25 [some (.ref 31), some (.ref 18), some (.int (nI N)), none] [.int (qno (qix (J 18) (J 31 7) N 0))] (qm C J (3, 17, 17, 2, L)) := by
      rw [bX9_atOldName_31_18, eX9_atOldName_31_18_0, if_pos h3, eX9_atOldName_31_18_16, fX9_indexOf_18 (by omega)]
      simp only [Option.bind_some, Option.toList_some, Option.toList_none, List.nil_append, List.cons_append, q_ck_tt, Bool.and_true, Bool.true_and, if_true, if_false, reduceCtorEq]
    rw [decide_eq_true h3, eX12_oldName_13, if_neg (by decide), eX12_oldName_24, hf] at hr
    simp only [Option.bind_some, Option.toList_some, Option.toList_none, List.nil_append, List.cons_append, q_ck_tt, Bool.and_true, Bool.true_and, if_true, if_false, reduceCtorEq] at hr
    rw [eX12_oldName_30] at hr
    cases hx : qix (J 18) (J 31 7) N 0 with
    | some i =>
      have hi := qix_some hx
      rw [hx, qno_s] at hcl hr hf
      refine Or.inl ⟨i, by omega, h3, ?_, ?_⟩
      · rw [hcl]
        refine Eq.trans (eX9_atOldName_31_18_25 _ _ _ _ _) ?_
        rw [if_neg (show ¬ nI i = -1 from nI_ne_m1 (by omega)), eX9_atOldName_31_18_37]
      · rw [hr, if_neg (show ¬ nI i < 0 from nI_pos (by omega)), eX12_oldName_38, h.ok, if_neg (by decide), eX12_oldName_49, hf]
        simp only [Option.bind_some, Option.toList_some, Option.toList_none, List.nil_append, List.cons_append, q_ck_tt, Bool.and_true, Bool.true_and, if_true, if_false, reduceCtorEq]
        rw [eX12_oldName_55v1]
    | none =>
      rw [hx, qno_n] at hcl hr
      obtain ⟨C', R', a1, a2, a3, a4, _, _⟩ := q_refw L e h 5 (by decide)
      refine Or.inr ⟨C', R', ?_, ?_, a3, a4⟩
      · rw [hcl]
        refine Eq.trans (eX9_atOldName_31_18_25 _ _ _ _ _) ?_
        rw [if_pos rfl, eX9_atOldName_31_18_31, a1]
        simp only [Option.bind_some, Option.toList_some, Option.toList_none, List.nil_append, List.cons_append, q_ck_tt, Bool.and_true, Bool.true_and, if_true, if_false, reduceCtorEq]
        rw [eX9_atOldName_31_18_36, eX9_atOldName_31_18_37]
      · rw [hr, if_pos (show (-1 : Int32) < 0 by decide), eX12_oldName_33, a2]
        simp only [Option.bind_some, Option.toList_some, Option.toList_none, List.nil_append, List.cons_append, q_ck_tt, Bool.and_true, Bool.true_and, if_true, if_false, reduceCtorEq]
        rw [eX12_oldName_38, if_pos a3.2.1, eX12_oldName_45, eX12_oldName_55]
  · obtain ⟨C', R', a1, a2, a3, a4, _, _⟩ := q_refw L e h 2 (by decide)
    rw [decide_eq_false h3] at hr
    refine Or.inr ⟨C', R', ?_, ?_, a3, a4⟩
    · rw [bX9_atOldName_31_18, eX9_atOldName_31_18_0, if_neg h3, eX9_atOldName_31_18_8, a1]
      simp only [Option.bind_some, Option.toList_some, Option.toList_none, List.nil_append, List.cons_append, q_ck_tt, Bool.and_true, Bool.true_and, if_true, if_false, reduceCtorEq]
      rw [eX9_atOldName_31_18_13]
    · rw [hr, eX12_oldName_13, if_pos (by decide), eX12_oldName_16, a2]
      simp only [Option.bind_some, Option.toList_some, Option.toList_none, List.nil_append, List.cons_append, q_ck_tt, Bool.and_true, Bool.true_and, if_true, if_false, reduceCtorEq]
      rw [eX12_oldName_21, eX12_oldName_38, if_pos a3.2.1, eX12_oldName_45, eX12_oldName_55]
theorem q_newName_22 {v : Nat → Nat} {n s L : Nat} {C : Nat → Nat → Int32} {J : Nat → Nat → Int64} {R : Nat → Nat → Int32} {K : Nat → Nat → Int64} {e : QP} {N : Nat} (h : q_Pt v n C J R K s) (h0 : C 31 5 ≠ 0) (h1 : C 31 5 ≠ 1) (hN : q_Nm J K 22 4 N) (hc : N < 6) :
    (∃ (C1 : Nat → Nat → Int32) (J1 : Nat → Nat → Int64) (R1 : Nat → Nat → Int32) (K1 : Nat → Nat → Int64) (s1 : Nat), mX9_advance [.ref 31] (qm C J (3, 17, 17, 2, L)) = some (none, qm C1 J1 (3, 17, 17, 2, L)) ∧ mX9_atNewName [.ref 31, .ref 22, .int (nI N)] (qm C1 J1 (3, 17, 17, 2, L)) = some (some (.int 1), qm C1 J1 (3, 17, 17, 2, L)) ∧
      (∀ R2 K2, mX12_token [.ref 64] (qm R1 (q_up K1 66 (4 + N) (K1 64 9)) e) = some (none, qm R2 K2 e) → mX12_newName [.ref 64, .int (nI 4), .int (nI N)] (qm R K e) = some (none, qm R2 K2 e)) ∧ q_Ad C J R K C1 J1 R1 K1 ∧ s < s1 ∧ q_Pt v n C1 J1 R1 K1 s1 ∧ C1 31 5 = 3 ∧ q_Nm (q_up J1 22 N (J1 31 7)) (q_up K1 66 (4 + N) (K1 64 9)) 22 4 (N + 1)) ∨
    (∃ (C1 : Nat → Nat → Int32) (J1 : Nat → Nat → Int64) (C' R' : Nat → Nat → Int32) (K' : Nat → Nat → Int64), mX9_advance [.ref 31] (qm C J (3, 17, 17, 2, L)) = some (none, qm C1 J1 (3, 17, 17, 2, L)) ∧ mX9_atNewName [.ref 31, .ref 22, .int (nI N)] (qm C1 J1 (3, 17, 17, 2, L)) = some (some (.int 0), qm C' J1 (3, 17, 17, 2, L)) ∧ mX12_newName [.ref 64, .int (nI 4), .int (nI N)] (qm R K e) = some (none, qm R' K' e) ∧ q_Fl C' R' ∧ q_Gb C J R K C' J1 R' K') := by
  obtain ⟨C1, J1, R1, K1, s1, e1, e2, e3, e4, e5⟩ := q_adv (L := L) (e := e) h h0 h1
  have hN1 : q_Nm J1 K1 22 4 N := by
    unfold q_Nm
    rw [e3.2.1 22 (by decide), e3.2.2.2 66 (by decide)]
    exact hN
  have hr : mX12_newName [.ref 64, .int (nI 4), .int (nI N)] (qm R K e) = kX12_newName 8 [some (.ref 64), some (.int (nI 4)), some (.int (nI N))] [.int (qb (decide (C1 31 5 = 3)))] (qm R1 K1 e) := by
    rw [bX12_newName, eX12_newName_0, e2]
    simp only [Option.bind_some, Option.toList_some, Option.toList_none, List.nil_append, List.cons_append, q_ck_tt, Bool.and_true, Bool.true_and, if_true, if_false, reduceCtorEq]
    rw [eX12_newName_4, fX12_isName, e5.nam]
    simp only [Option.bind_some, Option.toList_some, Option.toList_none, List.nil_append, List.cons_append, q_ck_tt, Bool.and_true, Bool.true_and, if_true, if_false, reduceCtorEq]
  by_cases h3 : C1 31 5 = 3
  · have hw := e5.wd h3
    have hf : mX12_find [.ref 64, .int (nI 4), .int (nI N)] (qm R1 K1 e) = some (some (.int (qno (qix (J1 22) (J1 31 7) N 0))), qm R1 K1 e) := by
      rw [q_fd_loop (by omega), qlx_ix hN1 hw (by omega)]
    have hcl : mX9_atNewName [.ref 31, .ref 22, .int (nI N)] (qm C1 J1 (3, 17, 17, 2, L)) = kX9_atNewName 23 [some (.ref 31), some (.ref 22), some (.int (nI N))] [.int (qno (qix (J1 22) (J1 31 7) N 0))] (qm C1 J1 (3, 17, 17, 2, L)) := by
      rw [bX9_atNewName_31_22, eX9_atNewName_31_22_0, if_pos h3, eX9_atNewName_31_22_14, fX9_indexOf_22 (by omega)]
      simp only [Option.bind_some, Option.toList_some, Option.toList_none, List.nil_append, List.cons_append, q_ck_tt, Bool.and_true, Bool.true_and, if_true, if_false, reduceCtorEq]
    rw [decide_eq_true h3] at hr
    rw [eX12_newName_8, if_neg (by decide), eX12_newName_19, hf] at hr
    simp only [Option.bind_some, Option.toList_some, Option.toList_none, List.nil_append, List.cons_append, q_ck_tt, Bool.and_true, Bool.true_and, if_true, if_false, reduceCtorEq] at hr
    rw [eX12_newName_25] at hr
    cases hx : qix (J1 22) (J1 31 7) N 0 with
    | none =>
      rw [hx, qno_n] at hcl hr
      refine Or.inl ⟨C1, J1, R1, K1, s1, e1, ?_, ?_, e3, e4, e5, h3, ?_⟩
      · rw [hcl]
        refine Eq.trans (eX9_atNewName_31_22_23 _ _ _ _ _) ?_
        rw [if_pos rfl, eX9_atNewName_31_22_35, eX9_atNewName_31_22_40]
        rfl
      · intro R2 K2 ht
        rw [hr, if_pos (show (-1 : Int32) < 0 by decide), eX12_newName_33, e5.ok, if_neg (by decide), eX12_newName_41, nI_add, q_in_nI (by omega) (by omega), nI_n (by omega), Bool.true_and, q_ck_tt, ht]
        simp only [Option.bind_some, Option.toList_some, Option.toList_none, List.nil_append, List.cons_append, q_ck_tt, Bool.and_true, Bool.true_and, if_true, if_false, reduceCtorEq]
        rw [eX12_newName_57]
      · have hno := qix_none hx
        have hW : ∀ i, i < N + 1 → q_Wd (q_up J1 22 N (J1 31 7) 22 i) (q_up K1 66 (4 + N) (K1 64 9) 66 (4 + i)) := by
          intro i hi
          by_cases g : i = N
          · subst g; rw [q_up_at1, q_up_at1]; exact hw
          · rw [q_up_at2 _ _ g, q_up_at2 _ _ (by omega)]; exact hN1.1 i (by omega)
        refine ⟨hW, ?_⟩
        intro i j hi hj he
        by_cases gi : i = N
        · by_cases gj : j = N
          · omega
          · rw [gi, q_up_at1, q_up_at2 _ _ gj] at he
            exact absurd he.symm (hno j (by omega) (by omega))
        · by_cases gj : j = N
          · rw [gj, q_up_at1, q_up_at2 _ _ gi] at he
            exact absurd he (hno i (by omega) (by omega))
          · rw [q_up_at2 _ _ gi, q_up_at2 _ _ gj] at he
            exact hN1.2 i j (by omega) (by omega) he
    | some i =>
      have hi := qix_some hx
      rw [hx, qno_s] at hcl hr
      obtain ⟨C', R', a1, a2, a3, a4, _, _⟩ := q_refw L e e5 3 (by decide)
      refine Or.inr ⟨C1, J1, C', R', K1, e1, ?_, ?_, a3, q_Gb_ad e3 a4⟩
      · rw [hcl]
        refine Eq.trans (eX9_atNewName_31_22_23 _ _ _ _ _) ?_
        rw [if_neg (show ¬ nI i = -1 from nI_ne_m1 (by omega)), eX9_atNewName_31_22_27, a1]
        simp only [Option.bind_some, Option.toList_some, Option.toList_none, List.nil_append, List.cons_append, q_ck_tt, Bool.and_true, Bool.true_and, if_true, if_false, reduceCtorEq]
        rw [eX9_atNewName_31_22_32, if_pos rfl, eX9_atNewName_31_22_39, eX9_atNewName_31_22_40]
        rfl
      · rw [hr, if_neg (show ¬ nI i < 0 from nI_pos (by omega)), eX12_newName_28, a2]
        simp only [Option.bind_some, Option.toList_some, Option.toList_none, List.nil_append, List.cons_append, q_ck_tt, Bool.and_true, Bool.true_and, if_true, if_false, reduceCtorEq]
        rw [eX12_newName_33, if_pos a3.2.1, eX12_newName_40]
  · obtain ⟨C', R', a1, a2, a3, a4, _, _⟩ := q_refw L e e5 2 (by decide)
    rw [decide_eq_false h3] at hr
    refine Or.inr ⟨C1, J1, C', R', K1, e1, ?_, ?_, a3, q_Gb_ad e3 a4⟩
    · rw [bX9_atNewName_31_22, eX9_atNewName_31_22_0, if_neg h3, eX9_atNewName_31_22_8, a1]
      simp only [Option.bind_some, Option.toList_some, Option.toList_none, List.nil_append, List.cons_append, q_ck_tt, Bool.and_true, Bool.true_and, if_true, if_false, reduceCtorEq]
      rw [eX9_atNewName_31_22_13]
      rfl
    · rw [hr, eX12_newName_8, if_pos (by decide), eX12_newName_11, a2]
      simp only [Option.bind_some, Option.toList_some, Option.toList_none, List.nil_append, List.cons_append, q_ck_tt, Bool.and_true, Bool.true_and, if_true, if_false, reduceCtorEq]
      rw [eX12_newName_16, eX12_newName_33, if_pos a3.2.1, eX12_newName_40]
theorem q_oldName_22 {v : Nat → Nat} {n s L : Nat} {C : Nat → Nat → Int32} {J : Nat → Nat → Int64} {R : Nat → Nat → Int32} {K : Nat → Nat → Int64} {e : QP} {N : Nat} (h : q_Pt v n C J R K s) (hN : q_Nm J K 22 4 N) (hc : N ≤ 6) :
    (∃ i, i < N ∧ C 31 5 = 3 ∧ mX9_atOldName [.ref 31, .ref 22, .int (nI N)] (qm C J (3, 17, 17, 2, L)) = some (some (.int (nI i)), qm C J (3, 17, 17, 2, L)) ∧ mX12_oldName [.ref 64, .int (nI 4), .int (nI N)] (qm R K e) = some (some (.int (nI i)), qm R K e)) ∨
    (∃ (C' R' : Nat → Nat → Int32), mX9_atOldName [.ref 31, .ref 22, .int (nI N)] (qm C J (3, 17, 17, 2, L)) = some (some (.int (-1)), qm C' J (3, 17, 17, 2, L)) ∧ mX12_oldName [.ref 64, .int (nI 4), .int (nI N)] (qm R K e) = some (some (.int 0), qm R' K e) ∧ q_Fl C' R' ∧ q_Gb C J R K C' J R' K) := by
  have hr : mX12_oldName [.ref 64, .int (nI 4), .int (nI N)] (qm R K e) = kX12_oldName 13 [some (.ref 64), some (.int (nI 4)), some (.int (nI N))] [.int (qb (decide (C 31 5 = 3)))] (qm R K e) := by
    rw [bX12_oldName, eX12_oldName_0, h.ok, if_neg (by decide), eX12_oldName_9, fX12_isName, h.nam]
    simp only [Option.bind_some, Option.toList_some, Option.toList_none, List.nil_append, List.cons_append, q_ck_tt, Bool.and_true, Bool.true_and, if_true, if_false, reduceCtorEq]
  by_cases h3 : C 31 5 = 3
  · have hw := h.wd h3
    have hf : mX12_find [.ref 64, .int (nI 4), .int (nI N)] (qm R K e) = some (some (.int (qno (qix (J 22) (J 31 7) N 0))), qm R K e) := by
      rw [q_fd_loop (by omega), qlx_ix hN hw (by omega)]
    have hcl : mX9_atOldName [.ref 31, .ref 22, .int (nI N)] (qm C J (3, 17, 17, 2, L)) = kX9_atOldName 25 [some (.ref 31), some (.ref 22), some (.int (nI N)), none] [.int (qno (qix (J 22) (J 31 7) N 0))] (qm C J (3, 17, 17, 2, L)) := by
      rw [bX9_atOldName_31_22, eX9_atOldName_31_22_0, if_pos h3, eX9_atOldName_31_22_16, fX9_indexOf_22 (by omega)]
      simp only [Option.bind_some, Option.toList_some, Option.toList_none, List.nil_append, List.cons_append, q_ck_tt, Bool.and_true, Bool.true_and, if_true, if_false, reduceCtorEq]
    rw [decide_eq_true h3, eX12_oldName_13, if_neg (by decide), eX12_oldName_24, hf] at hr
    simp only [Option.bind_some, Option.toList_some, Option.toList_none, List.nil_append, List.cons_append, q_ck_tt, Bool.and_true, Bool.true_and, if_true, if_false, reduceCtorEq] at hr
    rw [eX12_oldName_30] at hr
    cases hx : qix (J 22) (J 31 7) N 0 with
    | some i =>
      have hi := qix_some hx
      rw [hx, qno_s] at hcl hr hf
      refine Or.inl ⟨i, by omega, h3, ?_, ?_⟩
      · rw [hcl]
        refine Eq.trans (eX9_atOldName_31_22_25 _ _ _ _ _) ?_
        rw [if_neg (show ¬ nI i = -1 from nI_ne_m1 (by omega)), eX9_atOldName_31_22_37]
      · rw [hr, if_neg (show ¬ nI i < 0 from nI_pos (by omega)), eX12_oldName_38, h.ok, if_neg (by decide), eX12_oldName_49, hf]
        simp only [Option.bind_some, Option.toList_some, Option.toList_none, List.nil_append, List.cons_append, q_ck_tt, Bool.and_true, Bool.true_and, if_true, if_false, reduceCtorEq]
        rw [eX12_oldName_55v1]
    | none =>
      rw [hx, qno_n] at hcl hr
      obtain ⟨C', R', a1, a2, a3, a4, _, _⟩ := q_refw L e h 5 (by decide)
      refine Or.inr ⟨C', R', ?_, ?_, a3, a4⟩
      · rw [hcl]
        refine Eq.trans (eX9_atOldName_31_22_25 _ _ _ _ _) ?_
        rw [if_pos rfl, eX9_atOldName_31_22_31, a1]
        simp only [Option.bind_some, Option.toList_some, Option.toList_none, List.nil_append, List.cons_append, q_ck_tt, Bool.and_true, Bool.true_and, if_true, if_false, reduceCtorEq]
        rw [eX9_atOldName_31_22_36, eX9_atOldName_31_22_37]
      · rw [hr, if_pos (show (-1 : Int32) < 0 by decide), eX12_oldName_33, a2]
        simp only [Option.bind_some, Option.toList_some, Option.toList_none, List.nil_append, List.cons_append, q_ck_tt, Bool.and_true, Bool.true_and, if_true, if_false, reduceCtorEq]
        rw [eX12_oldName_38, if_pos a3.2.1, eX12_oldName_45, eX12_oldName_55]
  · obtain ⟨C', R', a1, a2, a3, a4, _, _⟩ := q_refw L e h 2 (by decide)
    rw [decide_eq_false h3] at hr
    refine Or.inr ⟨C', R', ?_, ?_, a3, a4⟩
    · rw [bX9_atOldName_31_22, eX9_atOldName_31_22_0, if_neg h3, eX9_atOldName_31_22_8, a1]
      simp only [Option.bind_some, Option.toList_some, Option.toList_none, List.nil_append, List.cons_append, q_ck_tt, Bool.and_true, Bool.true_and, if_true, if_false, reduceCtorEq]
      rw [eX9_atOldName_31_22_13]
    · rw [hr, eX12_oldName_13, if_pos (by decide), eX12_oldName_16, a2]
      simp only [Option.bind_some, Option.toList_some, Option.toList_none, List.nil_append, List.cons_append, q_ck_tt, Bool.and_true, Bool.true_and, if_true, if_false, reduceCtorEq]
      rw [eX12_oldName_21, eX12_oldName_38, if_pos a3.2.1, eX12_oldName_45, eX12_oldName_55]
