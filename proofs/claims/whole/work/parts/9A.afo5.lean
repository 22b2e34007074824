/-! ===== the formula: levels one by one ===== -/
theorem q_lv_either {d : Nat} (hg : q_Sx 2 (mX9_both d) d) : q_Sx 1 (mX9_either (d + 1)) (d + 1) := by
  intro v n s L C J R K e S r u w dp c hc hF hlen hw hn hT hM
  have hT' : q_Top S 1 := hT
  have hop : ∀ (C : Nat → Nat → Int32) (J : Nat → Nat → Int64) (R : Nat → Nat → Int32) (K : Nat → Nat → Int64) (s : Nat), q_Pt v n C J R K s → qsg (C 31 5) (C 31 6) ≠ 0 → qti (qsg (C 31 5) (C 31 6)) = 1 → C 31 5 = 2 ∧ C 31 6 = 17 ∧ qcx (qsg (C 31 5) (C 31 6)) = -6 := by
    intro C J R K s hp h0 ht
    rcases q_sgc hp with g | ⟨g, g1, g2⟩ | ⟨g, g1, g2⟩ | ⟨g1, g, g3⟩
    · exact absurd g h0
    · rw [g] at ht; exact absurd ht (by decide)
    · exact ⟨g1, g2, by rw [g]; decide⟩
    · rw [g] at ht
      rcases g3 with g | g | g | g | g | g | g | g <;> rw [g] at ht <;> exact absurd ht (by decide)
  rcases hg v n s L C J R K e S r u w dp c hc hF (by omega) hw (by omega) (q_Top_mono hT' (by decide)) (fun g => absurd g (by decide)) with ⟨C1, J1, R1, K1, s1, P, r1, u1, c1, c2, c3, c4, c5, c6, c7, c8, c9⟩ | ⟨C1, J1, R1, K1, c1, c2, c3, c4⟩
  · have hcl : mX9_either (d + 1) [.ref 31, .int (nI w)] (qm C J (3, 17, 17, 2, L)) = kX9_either (d + 1) 12 [some (.ref 31), some (.int (nI w)), some (.int (nI 0))] [] (qm C1 J1 (3, 17, 17, 2, L)) := by
      rw [bX9_either, eX9_either_0, c1]
      simp only [Option.bind_some, Option.toList_some, Option.toList_none, List.nil_append, List.cons_append, q_ck_tt, Bool.and_true, Bool.true_and, if_true, if_false, reduceCtorEq]
      rw [eX9_either_5, if_neg (by decide), eX9_either_10]
      rfl
    have h19 : ∀ (a : Nat) (C : Nat → Nat → Int32) (J : Nat → Nat → Int64), kX9_either (d + 1) 19 [some (.ref 31), some (.int (nI w)), some (.int (nI a))] [] (qm C J (3, 17, 17, 2, L)) = kX9_either (d + 1) 25 [some (.ref 31), some (.int (nI w)), some (.int (nI a))] [.int (qb (decide (C 31 5 = 2) && decide (C 31 6 = 17)))] (qm C J (3, 17, 17, 2, L)) := by
      intro a C J
      rw [eX9_either_19, fX9_atKey]
      simp only [Option.bind_some, Option.toList_some, Option.toList_none, List.nil_append, List.cons_append, q_ck_tt, Bool.and_true, Bool.true_and, if_true, if_false, reduceCtorEq]
    have hgo : ∀ (a : Nat) (C : Nat → Nat → Int32) (J : Nat → Nat → Int64) (R : Nat → Nat → Int32) (K : Nat → Nat → Int64) (s : Nat) (C1 : Nat → Nat → Int32) (J1 : Nat → Nat → Int64), a < 1600 → q_Pt v n C J R K s → qsg (C 31 5) (C 31 6) ≠ 0 → qti (qsg (C 31 5) (C 31 6)) = 1 → mX9_advance [.ref 31] (qm C J (3, 17, 17, 2, L)) = some (none, qm C1 J1 (3, 17, 17, 2, L)) → kX9_either (d + 1) 12 [some (.ref 31), some (.int (nI w)), some (.int (nI a))] [] (qm C J (3, 17, 17, 2, L)) = kX9_either (d + 1) 32 [some (.ref 31), some (.int (nI w)), some (.int (nI a))] [] (qm C1 J1 (3, 17, 17, 2, L)) := by
      intro a C J R K s C1 J1 ha hp h0 ht hadv
      obtain ⟨g1, g2, -⟩ := hop C J R K s hp h0 ht
      rw [eX9_either_12, if_pos (show nI a < (1600 : Int32) from nI_lt (b := 1600) ha (by omega)), h19, decide_eq_true g1, decide_eq_true g2, eX9_either_25, if_neg (by decide), eX9_either_28, hadv]
      simp only [Option.bind_some, Option.toList_some, Option.toList_none, List.nil_append, List.cons_append, q_ck_tt, Bool.and_true, Bool.true_and, if_true, if_false, reduceCtorEq]
    have hlp := q_loop (l := 1) (w := w) hg (Or.inl rfl) (v := v) (n := n) (L := L) (e := e) (Lp := fun a C J => kX9_either (d + 1) 12 [some (.ref 31), some (.int (nI w)), some (.int (nI a))] [] (qm C J (3, 17, 17, 2, L))) ?_ ?_ ?_ hT' hlen hw (by omega) (dp := dp) (r0 := r) (u0 := u) (n - s1) 0 s1 C1 J1 R1 K1 P r1 u1 (Nat.le_refl _) (Nat.zero_le _) c5.pt.2.2.2.2.2.1 c5 (fun z hz => ⟨by have := c6 z hz; omega, (c6 z hz).2⟩) c7 (by omega) c9
    · rcases hlp with ⟨C', J', R', K', s', P', r', u', e1, e2, e3, e4, e5, e6, e7, e8, e9⟩ | hbad
      · exact Or.inl ⟨C', J', R', K', s', P', r', u', hcl.trans e1, c2.trans e2, q_Gx_trans c3 e3, by omega, e5, e6, e7, e8, e9⟩
      · rw [hcl, c2]
        exact Or.inr (hbad.mono c3.gf)
    · intro a C J R K s ha hp hno
      have hb : (decide (C 31 5 = 2) && decide (C 31 6 = 17)) = false := by
        cases hb : (decide (C 31 5 = 2) && decide (C 31 6 = 17)) with
        | false => rfl
        | true =>
          have hb' : C 31 5 = 2 ∧ C 31 6 = 17 := by simpa using hb
          refine absurd ?_ hno
          rw [hb'.1, hb'.2]
          decide
      show kX9_either (d + 1) 12 _ _ _ = _
      rw [eX9_either_12]
      by_cases h16 : a < 1600
      · rw [if_pos (show nI a < (1600 : Int32) from nI_lt (b := 1600) h16 (by omega)), h19, hb, eX9_either_25, if_pos (by rfl), eX9_either_60]
      · rw [if_neg (show ¬ nI a < (1600 : Int32) from nI_nlt (b := 1600) (by omega) (by omega)), eX9_either_60]
    · intro a C J R K s C1 J1 C2 J2 ha hp h0 ht hadv hin
      show kX9_either (d + 1) 12 _ _ _ = _
      rw [hgo a C J R K s C1 J1 ha hp h0 ht hadv, eX9_either_32, hin]
      simp only [Option.bind_some, Option.toList_some, Option.toList_none, List.nil_append, List.cons_append, q_ck_tt, Bool.and_true, Bool.true_and, if_true, if_false, reduceCtorEq]
      rw [eX9_either_37, if_pos rfl, eX9_either_40]
    · intro a C J R K s C1 J1 C2 J2 C3 J3 ha hp h0 ht hadv hin hput
      obtain ⟨-, -, g3⟩ := hop C J R K s hp h0 ht
      rw [g3] at hput
      show kX9_either (d + 1) 12 _ _ _ = kX9_either (d + 1) 12 _ _ _
      rw [hgo a C J R K s C1 J1 ha hp h0 ht hadv, eX9_either_32, hin]
      simp only [Option.bind_some, Option.toList_some, Option.toList_none, List.nil_append, List.cons_append, q_ck_tt, Bool.and_true, Bool.true_and, if_true, if_false, reduceCtorEq]
      rw [eX9_either_37, if_neg (by decide), eX9_either_42, hput]
      simp only [Option.bind_some, Option.toList_some, Option.toList_none, List.nil_append, List.cons_append, q_ck_tt, Bool.and_true, Bool.true_and, if_true, if_false, reduceCtorEq]
      rw [eX9_either_54, show nI a + 1 = nI (a + 1) from nI_add a 1]
  · refine Or.inr ⟨C1, J1, R1, K1, ?_, c2, c3, c4⟩
    rw [bX9_either, eX9_either_0, c1]
    simp only [Option.bind_some, Option.toList_some, Option.toList_none, List.nil_append, List.cons_append, q_ck_tt, Bool.and_true, Bool.true_and, if_true, if_false, reduceCtorEq]
    rw [eX9_either_5, if_pos rfl, eX9_either_8]
theorem q_lv_both {d : Nat} (hg : q_Sx 3 (mX9_one d) d) : q_Sx 2 (mX9_both (d + 1)) (d + 1) := by
  intro v n s L C J R K e S r u w dp c hc hF hlen hw hn hT hM
  have hT' : q_Top S 2 := hT
  have hop : ∀ (C : Nat → Nat → Int32) (J : Nat → Nat → Int64) (R : Nat → Nat → Int32) (K : Nat → Nat → Int64) (s : Nat), q_Pt v n C J R K s → qsg (C 31 5) (C 31 6) ≠ 0 → qti (qsg (C 31 5) (C 31 6)) = 2 → C 31 5 = 2 ∧ C 31 6 = 6 ∧ qcx (qsg (C 31 5) (C 31 6)) = -7 := by
    intro C J R K s hp h0 ht
    rcases q_sgc hp with g | ⟨g, g1, g2⟩ | ⟨g, g1, g2⟩ | ⟨g1, g, g3⟩
    · exact absurd g h0
    · exact ⟨g1, g2, by rw [g]; decide⟩
    · rw [g] at ht; exact absurd ht (by decide)
    · rw [g] at ht
      rcases g3 with g | g | g | g | g | g | g | g <;> rw [g] at ht <;> exact absurd ht (by decide)
  rcases hg v n s L C J R K e S r u w dp c hc hF (by omega) hw (by omega) (q_Top_mono hT' (by decide)) (fun g => absurd g (by decide)) with ⟨C1, J1, R1, K1, s1, P, r1, u1, c1, c2, c3, c4, c5, c6, c7, c8, c9⟩ | ⟨C1, J1, R1, K1, c1, c2, c3, c4⟩
  · have hcl : mX9_both (d + 1) [.ref 31, .int (nI w)] (qm C J (3, 17, 17, 2, L)) = kX9_both (d + 1) 12 [some (.ref 31), some (.int (nI w)), some (.int (nI 0))] [] (qm C1 J1 (3, 17, 17, 2, L)) := by
      rw [bX9_both, eX9_both_0, c1]
      simp only [Option.bind_some, Option.toList_some, Option.toList_none, List.nil_append, List.cons_append, q_ck_tt, Bool.and_true, Bool.true_and, if_true, if_false, reduceCtorEq]
      rw [eX9_both_5, if_neg (by decide), eX9_both_10]
      rfl
    have h19 : ∀ (a : Nat) (C : Nat → Nat → Int32) (J : Nat → Nat → Int64), kX9_both (d + 1) 19 [some (.ref 31), some (.int (nI w)), some (.int (nI a))] [] (qm C J (3, 17, 17, 2, L)) = kX9_both (d + 1) 25 [some (.ref 31), some (.int (nI w)), some (.int (nI a))] [.int (qb (decide (C 31 5 = 2) && decide (C 31 6 = 6)))] (qm C J (3, 17, 17, 2, L)) := by
      intro a C J
      rw [eX9_both_19, fX9_atKey]
      simp only [Option.bind_some, Option.toList_some, Option.toList_none, List.nil_append, List.cons_append, q_ck_tt, Bool.and_true, Bool.true_and, if_true, if_false, reduceCtorEq]
    have hgo : ∀ (a : Nat) (C : Nat → Nat → Int32) (J : Nat → Nat → Int64) (R : Nat → Nat → Int32) (K : Nat → Nat → Int64) (s : Nat) (C1 : Nat → Nat → Int32) (J1 : Nat → Nat → Int64), a < 1600 → q_Pt v n C J R K s → qsg (C 31 5) (C 31 6) ≠ 0 → qti (qsg (C 31 5) (C 31 6)) = 2 → mX9_advance [.ref 31] (qm C J (3, 17, 17, 2, L)) = some (none, qm C1 J1 (3, 17, 17, 2, L)) → kX9_both (d + 1) 12 [some (.ref 31), some (.int (nI w)), some (.int (nI a))] [] (qm C J (3, 17, 17, 2, L)) = kX9_both (d + 1) 32 [some (.ref 31), some (.int (nI w)), some (.int (nI a))] [] (qm C1 J1 (3, 17, 17, 2, L)) := by
      intro a C J R K s C1 J1 ha hp h0 ht hadv
      obtain ⟨g1, g2, -⟩ := hop C J R K s hp h0 ht
      rw [eX9_both_12, if_pos (show nI a < (1600 : Int32) from nI_lt (b := 1600) ha (by omega)), h19, decide_eq_true g1, decide_eq_true g2, eX9_both_25, if_neg (by decide), eX9_both_28, hadv]
      simp only [Option.bind_some, Option.toList_some, Option.toList_none, List.nil_append, List.cons_append, q_ck_tt, Bool.and_true, Bool.true_and, if_true, if_false, reduceCtorEq]
    have hlp := q_loop (l := 2) (w := w) hg (Or.inr (Or.inl rfl)) (v := v) (n := n) (L := L) (e := e) (Lp := fun a C J => kX9_both (d + 1) 12 [some (.ref 31), some (.int (nI w)), some (.int (nI a))] [] (qm C J (3, 17, 17, 2, L))) ?_ ?_ ?_ hT' hlen hw (by omega) (dp := dp) (r0 := r) (u0 := u) (n - s1) 0 s1 C1 J1 R1 K1 P r1 u1 (Nat.le_refl _) (Nat.zero_le _) c5.pt.2.2.2.2.2.1 c5 (fun z hz => ⟨by have := c6 z hz; omega, (c6 z hz).2⟩) c7 (by omega) c9
    · rcases hlp with ⟨C', J', R', K', s', P', r', u', e1, e2, e3, e4, e5, e6, e7, e8, e9⟩ | hbad
      · exact Or.inl ⟨C', J', R', K', s', P', r', u', hcl.trans e1, c2.trans e2, q_Gx_trans c3 e3, by omega, e5, e6, e7, e8, e9⟩
      · rw [hcl, c2]
        exact Or.inr (hbad.mono c3.gf)
    · intro a C J R K s ha hp hno
      have hb : (decide (C 31 5 = 2) && decide (C 31 6 = 6)) = false := by
        cases hb : (decide (C 31 5 = 2) && decide (C 31 6 = 6)) with
        | false => rfl
        | true =>
          have hb' : C 31 5 = 2 ∧ C 31 6 = 6 := by simpa using hb
          refine absurd ?_ hno
          rw [hb'.1, hb'.2]
          decide
      show kX9_both (d + 1) 12 _ _ _ = _
      rw [eX9_both_12]
      by_cases h16 : a < 1600
      · rw [if_pos (show nI a < (1600 : Int32) from nI_lt (b := 1600) h16 (by omega)), h19, hb, eX9_both_25, if_pos (by rfl), eX9_both_60]
      · rw [if_neg (show ¬ nI a < (1600 : Int32) from nI_nlt (b := 1600) (by omega) (by omega)), eX9_both_60]
    · intro a C J R K s C1 J1 C2 J2 ha hp h0 ht hadv hin
      show kX9_both (d + 1) 12 _ _ _ = _
      rw [hgo a C J R K s C1 J1 ha hp h0 ht hadv, eX9_both_32, hin]
      simp only [Option.bind_some, Option.toList_some, Option.toList_none, List.nil_append, List.cons_append, q_ck_tt, Bool.and_true, Bool.true_and, if_true, if_false, reduceCtorEq]
      rw [eX9_both_37, if_pos rfl, eX9_both_40]
    · intro a C J R K s C1 J1 C2 J2 C3 J3 ha hp h0 ht hadv hin hput
      obtain ⟨-, -, g3⟩ := hop C J R K s hp h0 ht
      rw [g3] at hput
      show kX9_both (d + 1) 12 _ _ _ = kX9_both (d + 1) 12 _ _ _
      rw [hgo a C J R K s C1 J1 ha hp h0 ht hadv, eX9_both_32, hin]
      simp only [Option.bind_some, Option.toList_some, Option.toList_none, List.nil_append, List.cons_append, q_ck_tt, Bool.and_true, Bool.true_and, if_true, if_false, reduceCtorEq]
      rw [eX9_both_37, if_neg (by decide), eX9_both_42, hput]
      simp only [Option.bind_some, Option.toList_some, Option.toList_none, List.nil_append, List.cons_append, q_ck_tt, Bool.and_true, Bool.true_and, if_true, if_false, reduceCtorEq]
      rw [eX9_both_54, show nI a + 1 = nI (a + 1) from nI_add a 1]
  · refine Or.inr ⟨C1, J1, R1, K1, ?_, c2, c3, c4⟩
    rw [bX9_both, eX9_both_0, c1]
    simp only [Option.bind_some, Option.toList_some, Option.toList_none, List.nil_append, List.cons_append, q_ck_tt, Bool.and_true, Bool.true_and, if_true, if_false, reduceCtorEq]
    rw [eX9_both_5, if_pos rfl, eX9_both_8]
theorem q_lv_sum {d : Nat} (hg : q_Sx 6 (mX9_term d) d) : q_Sx 5 (mX9_sum (d + 1)) (d + 1) := by
  intro v n s L C J R K e S r u w dp c hc hF hlen hw hn hT hM
  have hT' : q_Top S 5 := hT
  have hop : ∀ (C : Nat → Nat → Int32) (J : Nat → Nat → Int64) (R : Nat → Nat → Int32) (K : Nat → Nat → Int64) (s : Nat), q_Pt v n C J R K s → qsg (C 31 5) (C 31 6) ≠ 0 → qti (qsg (C 31 5) (C 31 6)) = 5 → C 31 5 = 5 ∧ (C 31 6 = 43 ∨ C 31 6 = 45) ∧ qcx (qsg (C 31 5) (C 31 6)) = -(C 31 6) := by
    intro C J R K s hp h0 ht
    rcases q_sgc hp with g | ⟨g, g1, g2⟩ | ⟨g, g1, g2⟩ | ⟨g1, g, g3⟩
    · exact absurd g h0
    · rw [g] at ht; exact absurd ht (by decide)
    · rw [g] at ht; exact absurd ht (by decide)
    · rw [g] at ht ⊢
      refine ⟨g1, ?_⟩
      rcases g3 with g | g | g | g | g | g | g | g <;> rw [g] at ht ⊢ <;> first | exact absurd ht (by decide) | decide
  rcases hg v n s L C J R K e S r u w dp c hc hF (by omega) hw (by omega) (q_Top_mono hT' (by decide)) (fun _ => hM (by decide)) with ⟨C1, J1, R1, K1, s1, P, r1, u1, c1, c2, c3, c4, c5, c6, c7, c8, c9⟩ | ⟨C1, J1, R1, K1, c1, c2, c3, c4⟩
  · have hcl : mX9_sum (d + 1) [.ref 31, .int (nI w)] (qm C J (3, 17, 17, 2, L)) = kX9_sum (d + 1) 12 [some (.ref 31), some (.int (nI w)), some (.int (nI 0)), none] [] (qm C1 J1 (3, 17, 17, 2, L)) := by
      rw [bX9_sum, eX9_sum_0, c1]
      simp only [Option.bind_some, Option.toList_some, Option.toList_none, List.nil_append, List.cons_append, q_ck_tt, Bool.and_true, Bool.true_and, if_true, if_false, reduceCtorEq]
      rw [eX9_sum_5, if_neg (by decide), eX9_sum_10]
      rfl
    have hgo : ∀ (a : Nat) (C : Nat → Nat → Int32) (J : Nat → Nat → Int64) (R : Nat → Nat → Int32) (K : Nat → Nat → Int64) (s : Nat) (C1 : Nat → Nat → Int32) (J1 : Nat → Nat → Int64), a < 1600 → q_Pt v n C J R K s → qsg (C 31 5) (C 31 6) ≠ 0 → qti (qsg (C 31 5) (C 31 6)) = 5 → mX9_advance [.ref 31] (qm C J (3, 17, 17, 2, L)) = some (none, qm C1 J1 (3, 17, 17, 2, L)) → kX9_sum (d + 1) 12 [some (.ref 31), some (.int (nI w)), some (.int (nI a)), none] [] (qm C J (3, 17, 17, 2, L)) = kX9_sum (d + 1) 46 [some (.ref 31), some (.int (nI w)), some (.int (nI a)), some (.int (C 31 6))] [] (qm C1 J1 (3, 17, 17, 2, L)) := by
      intro a C J R K s C1 J1 ha hp h0 ht hadv
      obtain ⟨g1, g2, -⟩ := hop C J R K s hp h0 ht
      have h37 : kX9_sum (d + 1) 37 [some (.ref 31), some (.int (nI w)), some (.int (nI a)), none] [] (qm C J (3, 17, 17, 2, L)) = kX9_sum (d + 1) 46 [some (.ref 31), some (.int (nI w)), some (.int (nI a)), some (.int (C 31 6))] [] (qm C1 J1 (3, 17, 17, 2, L)) := by
        rw [eX9_sum_37, hadv]
        simp only [Option.bind_some, Option.toList_some, Option.toList_none, List.nil_append, List.cons_append, q_ck_tt, Bool.and_true, Bool.true_and, if_true, if_false, reduceCtorEq]
      rw [eX9_sum_12, if_pos (show nI a < (1600 : Int32) from nI_lt (b := 1600) ha (by omega)), eX9_sum_19, fX9_atSign, decide_eq_true g1]
      simp only [Option.bind_some, Option.toList_some, Option.toList_none, List.nil_append, List.cons_append, q_ck_tt, Bool.and_true, Bool.true_and, if_true, if_false, reduceCtorEq]
      rcases g2 with g2 | g2
      · rw [decide_eq_true g2, eX9_sum_25, if_neg (by decide), h37]
      · rw [g2, eX9_sum_25, if_pos (by rfl), eX9_sum_28, fX9_atSign, decide_eq_true g1, decide_eq_true g2]
        simp only [Option.bind_some, Option.toList_some, Option.toList_none, List.nil_append, List.cons_append, q_ck_tt, Bool.and_true, Bool.true_and, if_true, if_false, reduceCtorEq]
        rw [eX9_sum_34, if_neg (by decide), h37, g2]
    have hlp := q_loop (l := 5) (w := w) hg (Or.inr (Or.inr (Or.inl rfl))) (v := v) (n := n) (L := L) (e := e) (Lp := fun a C J => kX9_sum (d + 1) 12 [some (.ref 31), some (.int (nI w)), some (.int (nI a)), none] [] (qm C J (3, 17, 17, 2, L))) ?_ ?_ ?_ hT' hlen hw (by omega) (dp := dp) (r0 := r) (u0 := u) (n - s1) 0 s1 C1 J1 R1 K1 P r1 u1 (Nat.le_refl _) (Nat.zero_le _) c5.pt.2.2.2.2.2.1 c5 (fun z hz => ⟨by have := c6 z hz; omega, (c6 z hz).2⟩) c7 (by omega) c9
    · rcases hlp with ⟨C', J', R', K', s', P', r', u', e1, e2, e3, e4, e5, e6, e7, e8, e9⟩ | hbad
      · exact Or.inl ⟨C', J', R', K', s', P', r', u', hcl.trans e1, c2.trans e2, q_Gx_trans c3 e3, by omega, e5, e6, e7, e8, e9⟩
      · rw [hcl, c2]
        exact Or.inr (hbad.mono c3.gf)
    · intro a C J R K s ha hp hno
      have hb : ∀ y : Int32, (y = 43 ∨ y = 45) → (decide (C 31 5 = 5) && decide (C 31 6 = y)) = false := by
        intro y hy
        cases hb : (decide (C 31 5 = 5) && decide (C 31 6 = y)) with
        | false => rfl
        | true =>
          have hb' : C 31 5 = 5 ∧ C 31 6 = y := by simpa using hb
          refine absurd ?_ hno
          rw [hb'.1, hb'.2]
          rcases hy with hy | hy <;> rw [hy] <;> decide
      show kX9_sum (d + 1) 12 _ _ _ = _
      rw [eX9_sum_12]
      by_cases h16 : a < 1600
      · rw [if_pos (show nI a < (1600 : Int32) from nI_lt (b := 1600) h16 (by omega)), eX9_sum_19, fX9_atSign, hb 43 (Or.inl rfl)]
        simp only [Option.bind_some, Option.toList_some, Option.toList_none, List.nil_append, List.cons_append, q_ck_tt, Bool.and_true, Bool.true_and, if_true, if_false, reduceCtorEq]
        rw [eX9_sum_25, if_pos (by rfl), eX9_sum_28, fX9_atSign, hb 45 (Or.inr rfl)]
        simp only [Option.bind_some, Option.toList_some, Option.toList_none, List.nil_append, List.cons_append, q_ck_tt, Bool.and_true, Bool.true_and, if_true, if_false, reduceCtorEq]
        rw [eX9_sum_34, if_pos (by rfl), eX9_sum_74]
      · rw [if_neg (show ¬ nI a < (1600 : Int32) from nI_nlt (b := 1600) (by omega) (by omega)), eX9_sum_74]
    · intro a C J R K s C1 J1 C2 J2 ha hp h0 ht hadv hin
      show kX9_sum (d + 1) 12 _ _ _ = _
      rw [hgo a C J R K s C1 J1 ha hp h0 ht hadv, eX9_sum_46, hin]
      simp only [Option.bind_some, Option.toList_some, Option.toList_none, List.nil_append, List.cons_append, q_ck_tt, Bool.and_true, Bool.true_and, if_true, if_false, reduceCtorEq]
      rw [eX9_sum_51, if_pos rfl, eX9_sum_54]
    · intro a C J R K s C1 J1 C2 J2 C3 J3 ha hp h0 ht hadv hin hput
      obtain ⟨-, -, g3⟩ := hop C J R K s hp h0 ht
      rw [g3] at hput
      show kX9_sum (d + 1) 12 _ _ _ = kX9_sum (d + 1) 12 _ _ _
      rw [hgo a C J R K s C1 J1 ha hp h0 ht hadv, eX9_sum_46, hin]
      simp only [Option.bind_some, Option.toList_some, Option.toList_none, List.nil_append, List.cons_append, q_ck_tt, Bool.and_true, Bool.true_and, if_true, if_false, reduceCtorEq]
      rw [eX9_sum_51, if_neg (by decide), eX9_sum_56, hput]
      simp only [Option.bind_some, Option.toList_some, Option.toList_none, List.nil_append, List.cons_append, q_ck_tt, Bool.and_true, Bool.true_and, if_true, if_false, reduceCtorEq]
      rw [eX9_sum_68, show nI a + 1 = nI (a + 1) from nI_add a 1]
  · refine Or.inr ⟨C1, J1, R1, K1, ?_, c2, c3, c4⟩
    rw [bX9_sum, eX9_sum_0, c1]
    simp only [Option.bind_some, Option.toList_some, Option.toList_none, List.nil_append, List.cons_append, q_ck_tt, Bool.and_true, Bool.true_and, if_true, if_false, reduceCtorEq]
    rw [eX9_sum_5, if_pos rfl, eX9_sum_8]
theorem q_lv_term {d : Nat} (hg : q_Sx 7 (mX9_unit d) d) : q_Sx 6 (mX9_term (d + 1)) (d + 1) := by
  intro v n s L C J R K e S r u w dp c hc hF hlen hw hn hT hM
  have hT' : q_Top S 6 := hT
  have hop : ∀ (C : Nat → Nat → Int32) (J : Nat → Nat → Int64) (R : Nat → Nat → Int32) (K : Nat → Nat → Int64) (s : Nat), q_Pt v n C J R K s → qsg (C 31 5) (C 31 6) ≠ 0 → qti (qsg (C 31 5) (C 31 6)) = 6 → C 31 5 = 5 ∧ (C 31 6 = 42 ∨ C 31 6 = 47 ∨ C 31 6 = 37) ∧ qcx (qsg (C 31 5) (C 31 6)) = -(C 31 6) := by
    intro C J R K s hp h0 ht
    rcases q_sgc hp with g | ⟨g, g1, g2⟩ | ⟨g, g1, g2⟩ | ⟨g1, g, g3⟩
    · exact absurd g h0
    · rw [g] at ht; exact absurd ht (by decide)
    · rw [g] at ht; exact absurd ht (by decide)
    · rw [g] at ht ⊢
      refine ⟨g1, ?_⟩
      rcases g3 with g | g | g | g | g | g | g | g <;> rw [g] at ht ⊢ <;> first | exact absurd ht (by decide) | decide
  rcases hg v n s L C J R K e S r u w dp c hc hF (by omega) hw (by omega) (q_Top_mono hT' (by decide)) (fun _ => hM (by decide)) with ⟨C1, J1, R1, K1, s1, P, r1, u1, c1, c2, c3, c4, c5, c6, c7, c8, c9⟩ | ⟨C1, J1, R1, K1, c1, c2, c3, c4⟩
  · have hcl : mX9_term (d + 1) [.ref 31, .int (nI w)] (qm C J (3, 17, 17, 2, L)) = kX9_term (d + 1) 12 [some (.ref 31), some (.int (nI w)), some (.int (nI 0)), none] [] (qm C1 J1 (3, 17, 17, 2, L)) := by
      rw [bX9_term, eX9_term_0, c1]
      simp only [Option.bind_some, Option.toList_some, Option.toList_none, List.nil_append, List.cons_append, q_ck_tt, Bool.and_true, Bool.true_and, if_true, if_false, reduceCtorEq]
      rw [eX9_term_5, if_neg (by decide), eX9_term_10]
      rfl
    have hgo : ∀ (a : Nat) (C : Nat → Nat → Int32) (J : Nat → Nat → Int64) (R : Nat → Nat → Int32) (K : Nat → Nat → Int64) (s : Nat) (C1 : Nat → Nat → Int32) (J1 : Nat → Nat → Int64), a < 1600 → q_Pt v n C J R K s → qsg (C 31 5) (C 31 6) ≠ 0 → qti (qsg (C 31 5) (C 31 6)) = 6 → mX9_advance [.ref 31] (qm C J (3, 17, 17, 2, L)) = some (none, qm C1 J1 (3, 17, 17, 2, L)) → kX9_term (d + 1) 12 [some (.ref 31), some (.int (nI w)), some (.int (nI a)), none] [] (qm C J (3, 17, 17, 2, L)) = kX9_term (d + 1) 55 [some (.ref 31), some (.int (nI w)), some (.int (nI a)), some (.int (C 31 6))] [] (qm C1 J1 (3, 17, 17, 2, L)) := by
      intro a C J R K s C1 J1 ha hp h0 ht hadv
      obtain ⟨g1, g2, -⟩ := hop C J R K s hp h0 ht
      have h37 : kX9_term (d + 1) 46 [some (.ref 31), some (.int (nI w)), some (.int (nI a)), none] [] (qm C J (3, 17, 17, 2, L)) = kX9_term (d + 1) 55 [some (.ref 31), some (.int (nI w)), some (.int (nI a)), some (.int (C 31 6))] [] (qm C1 J1 (3, 17, 17, 2, L)) := by
        rw [eX9_term_46, hadv]
        simp only [Option.bind_some, Option.toList_some, Option.toList_none, List.nil_append, List.cons_append, q_ck_tt, Bool.and_true, Bool.true_and, if_true, if_false, reduceCtorEq]
      rw [eX9_term_12, if_pos (show nI a < (1600 : Int32) from nI_lt (b := 1600) ha (by omega)), eX9_term_19, fX9_atSign, decide_eq_true g1]
      simp only [Option.bind_some, Option.toList_some, Option.toList_none, List.nil_append, List.cons_append, q_ck_tt, Bool.and_true, Bool.true_and, if_true, if_false, reduceCtorEq]
      rcases g2 with g2 | g2 | g2
      · rw [decide_eq_true g2, eX9_term_25, if_neg (by decide), h37]
      · rw [g2, eX9_term_25, if_pos (by rfl), eX9_term_28, fX9_atSign, decide_eq_true g1, decide_eq_true g2]
        simp only [Option.bind_some, Option.toList_some, Option.toList_none, List.nil_append, List.cons_append, q_ck_tt, Bool.and_true, Bool.true_and, if_true, if_false, reduceCtorEq]
        rw [eX9_term_34, if_neg (by decide), h37, g2]
      · rw [g2, eX9_term_25, if_pos (by rfl), eX9_term_28, fX9_atSign, decide_eq_true g1, g2]
        simp only [Option.bind_some, Option.toList_some, Option.toList_none, List.nil_append, List.cons_append, q_ck_tt, Bool.and_true, Bool.true_and, if_true, if_false, reduceCtorEq]
        rw [eX9_term_34, if_pos (by rfl), eX9_term_37, fX9_atSign, decide_eq_true g1, decide_eq_true g2]
        simp only [Option.bind_some, Option.toList_some, Option.toList_none, List.nil_append, List.cons_append, q_ck_tt, Bool.and_true, Bool.true_and, if_true, if_false, reduceCtorEq]
        rw [eX9_term_43, if_neg (by decide), h37, g2]
    have hlp := q_loop (l := 6) (w := w) hg (Or.inr (Or.inr (Or.inr rfl))) (v := v) (n := n) (L := L) (e := e) (Lp := fun a C J => kX9_term (d + 1) 12 [some (.ref 31), some (.int (nI w)), some (.int (nI a)), none] [] (qm C J (3, 17, 17, 2, L))) ?_ ?_ ?_ hT' hlen hw (by omega) (dp := dp) (r0 := r) (u0 := u) (n - s1) 0 s1 C1 J1 R1 K1 P r1 u1 (Nat.le_refl _) (Nat.zero_le _) c5.pt.2.2.2.2.2.1 c5 (fun z hz => ⟨by have := c6 z hz; omega, (c6 z hz).2⟩) c7 (by omega) c9
    · rcases hlp with ⟨C', J', R', K', s', P', r', u', e1, e2, e3, e4, e5, e6, e7, e8, e9⟩ | hbad
      · exact Or.inl ⟨C', J', R', K', s', P', r', u', hcl.trans e1, c2.trans e2, q_Gx_trans c3 e3, by omega, e5, e6, e7, e8, e9⟩
      · rw [hcl, c2]
        exact Or.inr (hbad.mono c3.gf)
    · intro a C J R K s ha hp hno
      have hb : ∀ y : Int32, (y = 42 ∨ y = 47 ∨ y = 37) → (decide (C 31 5 = 5) && decide (C 31 6 = y)) = false := by
        intro y hy
        cases hb : (decide (C 31 5 = 5) && decide (C 31 6 = y)) with
        | false => rfl
        | true =>
          have hb' : C 31 5 = 5 ∧ C 31 6 = y := by simpa using hb
          refine absurd ?_ hno
          rw [hb'.1, hb'.2]
          rcases hy with hy | hy | hy <;> rw [hy] <;> decide
      show kX9_term (d + 1) 12 _ _ _ = _
      rw [eX9_term_12]
      by_cases h16 : a < 1600
      · rw [if_pos (show nI a < (1600 : Int32) from nI_lt (b := 1600) h16 (by omega)), eX9_term_19, fX9_atSign, hb 42 (Or.inl rfl)]
        simp only [Option.bind_some, Option.toList_some, Option.toList_none, List.nil_append, List.cons_append, q_ck_tt, Bool.and_true, Bool.true_and, if_true, if_false, reduceCtorEq]
        rw [eX9_term_25, if_pos (by rfl), eX9_term_28, fX9_atSign, hb 47 (Or.inr (Or.inl rfl))]
        simp only [Option.bind_some, Option.toList_some, Option.toList_none, List.nil_append, List.cons_append, q_ck_tt, Bool.and_true, Bool.true_and, if_true, if_false, reduceCtorEq]
        rw [eX9_term_34, if_pos (by rfl), eX9_term_37, fX9_atSign, hb 37 (Or.inr (Or.inr rfl))]
        simp only [Option.bind_some, Option.toList_some, Option.toList_none, List.nil_append, List.cons_append, q_ck_tt, Bool.and_true, Bool.true_and, if_true, if_false, reduceCtorEq]
        rw [eX9_term_43, if_pos (by rfl), eX9_term_83]
      · rw [if_neg (show ¬ nI a < (1600 : Int32) from nI_nlt (b := 1600) (by omega) (by omega)), eX9_term_83]
    · intro a C J R K s C1 J1 C2 J2 ha hp h0 ht hadv hin
      show kX9_term (d + 1) 12 _ _ _ = _
      rw [hgo a C J R K s C1 J1 ha hp h0 ht hadv, eX9_term_55, hin]
      simp only [Option.bind_some, Option.toList_some, Option.toList_none, List.nil_append, List.cons_append, q_ck_tt, Bool.and_true, Bool.true_and, if_true, if_false, reduceCtorEq]
      rw [eX9_term_60, if_pos rfl, eX9_term_63]
    · intro a C J R K s C1 J1 C2 J2 C3 J3 ha hp h0 ht hadv hin hput
      obtain ⟨-, -, g3⟩ := hop C J R K s hp h0 ht
      rw [g3] at hput
      show kX9_term (d + 1) 12 _ _ _ = kX9_term (d + 1) 12 _ _ _
      rw [hgo a C J R K s C1 J1 ha hp h0 ht hadv, eX9_term_55, hin]
      simp only [Option.bind_some, Option.toList_some, Option.toList_none, List.nil_append, List.cons_append, q_ck_tt, Bool.and_true, Bool.true_and, if_true, if_false, reduceCtorEq]
      rw [eX9_term_60, if_neg (by decide), eX9_term_65, hput]
      simp only [Option.bind_some, Option.toList_some, Option.toList_none, List.nil_append, List.cons_append, q_ck_tt, Bool.and_true, Bool.true_and, if_true, if_false, reduceCtorEq]
      rw [eX9_term_77, show nI a + 1 = nI (a + 1) from nI_add a 1]
  · refine Or.inr ⟨C1, J1, R1, K1, ?_, c2, c3, c4⟩
    rw [bX9_term, eX9_term_0, c1]
    simp only [Option.bind_some, Option.toList_some, Option.toList_none, List.nil_append, List.cons_append, q_ck_tt, Bool.and_true, Bool.true_and, if_true, if_false, reduceCtorEq]
    rw [eX9_term_5, if_pos rfl, eX9_term_8]
