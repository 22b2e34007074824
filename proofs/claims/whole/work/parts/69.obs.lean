/-! ===== more calls that look ===== -/
section EC
variable {I : Nat → Nat → Int32} {J : Nat → Nat → Int64} {rb tx L : Nat} {D N : Nat} {cl : Nat → Nat} {RM : Nat} {rc : Nat → Nat}
def qSm (g : Nat → Int32) : Nat → Int32
  | 0 => 0
  | k + 1 => qSm g k + g k
theorem qSm_cong {g h : Nat → Int32} : ∀ {n : Nat}, (∀ k, k < n → g k = h k) → qSm g n = qSm h n
  | 0, _ => rfl
  | n + 1, hh => by show qSm g n + g n = qSm h n + h n; rw [qSm_cong (fun k hk => hh k (by omega)), hh n (by omega)]
theorem o_cost (hC : q_Core I D N cl RM rc) (a : Int32) : q_Obs mX11_cost mX12_cost [.int a] I J (3, 17, rb, tx, L) := by
  have hD := hC.d4
  cases hq : q_in a 3 with
  | false =>
    refine ⟨-1, I, I, ?_, ?_, q_Off_refl _, q_Off_refl _⟩
    · simp only [bX11_cost, eX11_cost_0, eX11_cost_4, eX11_cost_7, eX11_cost_9, eX11_cost_28, eX11_cost_60, eX11_cost_52, eX11_cost_74, fX11_isKind, hq, Option.bind_some, Option.toList_some, Option.toList_none, List.nil_append, List.cons_append, q_ck_tt, Bool.and_true, Bool.true_and, if_true, if_false, reduceCtorEq, q_10, eq_self, qb_t, qb_f]
    · simp only [bX12_cost, eX12_cost_0, eX12_cost_4, eX12_cost_7, eX12_cost_9, eX12_cost_25, eX12_cost_51, eX12_cost_45, eX12_cost_62, fX12_isKind, hq, Option.bind_some, Option.toList_some, Option.toList_none, List.nil_append, List.cons_append, q_ck_tt, Bool.and_true, Bool.true_and, if_true, if_false, reduceCtorEq, q_10, eq_self, qb_t, qb_f]
  | true =>
    obtain ⟨k, hk, rfl, -⟩ := q_in_of hq
    have h10 : ¬ ((1 : Int32) = 0) := by decide
    refine ⟨((1 : Int32) + qSm (I 5) D + 6) + nI (qSt k N) * (qSm (I 7) D + 5), I, I, ?_, ?_, q_Off_refl _, q_Off_refl _⟩
    · have hst : ∀ d, d < D → (fun d (y : Int32 × Int32) => kX11_cost 16 [some (.ref 1), some (.int (nI k)), some (.int y.1), some (.int y.2), some (.int (nI d))] [] (qm I J (3, 17, rb, tx, L))) d (qSm (I 5) d, qSm (I 7) d) = (fun d (y : Int32 × Int32) => kX11_cost 16 [some (.ref 1), some (.int (nI k)), some (.int y.1), some (.int y.2), some (.int (nI d))] [] (qm I J (3, 17, rb, tx, L))) (d + 1) (qSm (I 5) (d + 1), qSm (I 7) (d + 1)) := by
        intro d hd
        show kX11_cost 16 _ _ _ = kX11_cost 16 _ _ _
        rw [eX11_cost_16, hC.i30, if_pos (nI_lt hd (by omega)), eX11_cost_28, q_in_nI (show d < 4 by omega) (by omega), nI_clamp (by omega)]
        simp only [Option.bind_some, Option.toList_some, Option.toList_none, List.nil_append, List.cons_append, q_ck_tt, Bool.and_true, Bool.true_and, if_true, if_false, reduceCtorEq]
        rw [eX11_cost_52, nI_1]
        rfl
      have hf := q_for (fun d (y : Int32 × Int32) => kX11_cost 16 [some (.ref 1), some (.int (nI k)), some (.int y.1), some (.int y.2), some (.int (nI d))] [] (qm I J (3, 17, rb, tx, L))) D (fun d => (qSm (I 5) d, qSm (I 7) d)) hst
      rw [bX11_cost, eX11_cost_0, fX11_isKind, hq]
      simp only [Option.bind_some, Option.toList_some, Option.toList_none, List.nil_append, List.cons_append, q_ck_tt, Bool.and_true, Bool.true_and, if_true, if_false, reduceCtorEq]
      rw [eX11_cost_4, qb_t, if_neg h10, eX11_cost_9]
      refine Eq.trans hf ?_
      show kX11_cost 16 _ _ _ = _
      rw [eX11_cost_16, hC.i30, if_neg (nI_nlt (Nat.le_refl _) (by omega)), eX11_cost_60, fX2_stepCount I J _ hC.st hC.n6 hC.i35 hk]
      simp only [Option.bind_some, Option.toList_some, Option.toList_none, List.nil_append, List.cons_append, q_ck_tt, Bool.and_true, Bool.true_and, if_true, if_false, reduceCtorEq]
      rw [eX11_cost_74]
    · have hst : ∀ d, d < D → (fun d (y : Int32 × Int32) => kX12_cost 16 [some (.ref 64), some (.int (nI k)), some (.int y.1), some (.int y.2), some (.int (nI d))] [] (qm I J (3, 17, rb, tx, L))) d (qSm (I 5) d, qSm (I 7) d) = (fun d (y : Int32 × Int32) => kX12_cost 16 [some (.ref 64), some (.int (nI k)), some (.int y.1), some (.int y.2), some (.int (nI d))] [] (qm I J (3, 17, rb, tx, L))) (d + 1) (qSm (I 5) (d + 1), qSm (I 7) (d + 1)) := by
        intro d hd
        show kX12_cost 16 _ _ _ = kX12_cost 16 _ _ _
        obtain ⟨e1, -, e3, e4, -⟩ := hC.bn.2.2 d hd
        rw [eX12_cost_16, hC.m50, if_pos (nI_lt hd (by omega)), eX12_cost_25, q_in_nI (show d < 4 by omega) (by omega), nI_clamp (by omega), ← e1, e4, ← e3]
        simp only [Option.bind_some, Option.toList_some, Option.toList_none, List.nil_append, List.cons_append, q_ck_tt, Bool.and_true, Bool.true_and, if_true, if_false, reduceCtorEq]
        rw [eX12_cost_45, nI_1]
        rfl
      have hf := q_for (fun d (y : Int32 × Int32) => kX12_cost 16 [some (.ref 64), some (.int (nI k)), some (.int y.1), some (.int y.2), some (.int (nI d))] [] (qm I J (3, 17, rb, tx, L))) D (fun d => (qSm (I 5) d, qSm (I 7) d)) hst
      rw [bX12_cost, eX12_cost_0, fX12_isKind, hq]
      simp only [Option.bind_some, Option.toList_some, Option.toList_none, List.nil_append, List.cons_append, q_ck_tt, Bool.and_true, Bool.true_and, if_true, if_false, reduceCtorEq]
      rw [eX12_cost_4, qb_t, if_neg h10, eX12_cost_9]
      refine Eq.trans hf ?_
      show kX12_cost 16 _ _ _ = _
      rw [eX12_cost_16, hC.m50, if_neg (nI_nlt (Nat.le_refl _) (by omega)), eX12_cost_51, fX12_stepsOf I J _ hC.n6 hC.m51 hk]
      simp only [Option.bind_some, Option.toList_some, Option.toList_none, List.nil_append, List.cons_append, q_ck_tt, Bool.and_true, Bool.true_and, if_true, if_false, reduceCtorEq]
      rw [eX12_cost_62]
theorem o_length (hC : q_Core I D N cl RM rc) (a : Int32) : q_Obs mX11_length mX12_length [.int a] I J (3, 17, rb, tx, L) := by
  have hD := hC.d4
  cases hq : q_in a 2 with
  | false =>
    refine ⟨-1, I, I, ?_, ?_, q_Off_refl _, q_Off_refl _⟩
    · simp only [bX11_length, eX11_length_0, eX11_length_4, eX11_length_7, eX11_length_9, eX11_length_24, eX11_length_61, eX11_length_29, eX11_length_44, eX11_length_41, eX11_length_53, fX11_isBit, hq, Option.bind_some, Option.toList_some, Option.toList_none, List.nil_append, List.cons_append, q_ck_tt, Bool.and_true, Bool.true_and, if_true, if_false, reduceCtorEq, q_10, eq_self, qb_t, qb_f]
    · simp only [bX12_length, eX12_length_0, eX12_length_6, eX12_length_9, eX12_length_11, eX12_length_15, eX12_length_27, eX12_length_54, eX12_length_32, eX12_length_40, eX12_length_37, eX12_length_46, fX12_isBit, hq, Option.bind_some, Option.toList_some, Option.toList_none, List.nil_append, List.cons_append, q_ck_tt, Bool.and_true, Bool.true_and, if_true, if_false, reduceCtorEq, q_10, eq_self, qb_t, qb_f]
  | true =>
    have h10 : ¬ ((1 : Int32) = 0) := by decide
    obtain ⟨I1, f1, o1, a1, C1⟩ := hC.fill J (3, 17, rb, tx, L)
    refine ⟨qSm (fun d => if a = 0 then qDb (I 38 d) (I 6 d) (I 7 d) else I 5 d) D, I, I1, ?_, ?_, q_Off_refl _, o1⟩
    · have hst : ∀ d, d < D → (fun d (y : Int32) => kX11_length 13 [some (.ref 1), some (.int a), some (.int y), some (.int (nI d))] [] (qm I J (3, 17, rb, tx, L))) d (qSm (fun d => if a = 0 then qDb (I 38 d) (I 6 d) (I 7 d) else I 5 d) d) = (fun d (y : Int32) => kX11_length 13 [some (.ref 1), some (.int a), some (.int y), some (.int (nI d))] [] (qm I J (3, 17, rb, tx, L))) (d + 1) (qSm (fun d => if a = 0 then qDb (I 38 d) (I 6 d) (I 7 d) else I 5 d) (d + 1)) := by
        intro d hd
        show kX11_length 13 _ _ _ = kX11_length 13 [some (.ref 1), some (.int a), some (.int (qSm (fun d => if a = 0 then qDb (I 38 d) (I 6 d) (I 7 d) else I 5 d) d + (if a = 0 then qDb (I 38 d) (I 6 d) (I 7 d) else I 5 d))), some (.int (nI (d + 1)))] _ _
        obtain ⟨e1, e2, e3, e4, e5, e6, e7⟩ := hC.bn.2.2 d hd
        rw [eX11_length_13, hC.i30, if_pos (nI_lt hd (by omega)), eX11_length_24]
        by_cases h0 : a = 0
        · rw [if_pos h0, if_pos h0, eX11_length_29, fX1_dataBits I J _ (show d < 4 by omega) (by rw [e2]; exact e7)]
          simp only [Option.bind_some, Option.toList_some, Option.toList_none, List.nil_append, List.cons_append, q_ck_tt, Bool.and_true, Bool.true_and, if_true, if_false, reduceCtorEq]
          rw [eX11_length_41, eX11_length_53, nI_1]
        · rw [if_neg h0, if_neg h0, eX11_length_44, q_in_nI (show d < 4 by omega) (by omega), nI_clamp (by omega)]
          simp only [Option.bind_some, Option.toList_some, Option.toList_none, List.nil_append, List.cons_append, q_ck_tt, Bool.and_true, Bool.true_and, if_true, if_false, reduceCtorEq]
          rw [eX11_length_53, nI_1]
      have hf := q_for (fun d (y : Int32) => kX11_length 13 [some (.ref 1), some (.int a), some (.int y), some (.int (nI d))] [] (qm I J (3, 17, rb, tx, L))) D (fun d => qSm (fun d => if a = 0 then qDb (I 38 d) (I 6 d) (I 7 d) else I 5 d) d) hst
      rw [bX11_length, eX11_length_0, fX11_isBit, hq]
      simp only [Option.bind_some, Option.toList_some, Option.toList_none, List.nil_append, List.cons_append, q_ck_tt, Bool.and_true, Bool.true_and, if_true, if_false, reduceCtorEq]
      rw [eX11_length_4, qb_t, if_neg h10, eX11_length_9]
      refine Eq.trans hf ?_
      show kX11_length 13 _ _ _ = _
      rw [eX11_length_13, hC.i30, if_neg (nI_nlt (Nat.le_refl _) (by omega)), eX11_length_61]
    · have hst : ∀ d, d < D → (fun d (y : Int32) => kX12_length 19 [some (.ref 64), some (.int a), some (.int y), some (.int (nI d))] [] (qm I1 J (3, 17, rb, tx, L))) d (qSm (fun d => if a = 0 then qDb (I 38 d) (I 6 d) (I 7 d) else I 5 d) d) = (fun d (y : Int32) => kX12_length 19 [some (.ref 64), some (.int a), some (.int y), some (.int (nI d))] [] (qm I1 J (3, 17, rb, tx, L))) (d + 1) (qSm (fun d => if a = 0 then qDb (I 38 d) (I 6 d) (I 7 d) else I 5 d) (d + 1)) := by
        intro d hd
        show kX12_length 19 _ _ _ = kX12_length 19 [some (.ref 64), some (.int a), some (.int (qSm (fun d => if a = 0 then qDb (I 38 d) (I 6 d) (I 7 d) else I 5 d) d + (if a = 0 then qDb (I 38 d) (I 6 d) (I 7 d) else I 5 d))), some (.int (nI (d + 1)))] _ _
        obtain ⟨e1, e2, e3, e4, e5, e6, e7⟩ := hC.bn.2.2 d hd
        obtain ⟨⟨g3, -⟩, -⟩ := hC.dev hd
        have hA : I1 94 (3 + d) = I 38 d := by rw [a1 _ (by omega), o1.r 93 (fun _ => rfl), g3]
        rw [eX12_length_19, C1.m50, if_pos (nI_lt hd (by omega)), eX12_length_27]
        by_cases h0 : a = 0
        · rw [if_pos h0, if_pos h0, eX12_length_32, fX12_dataBits I1 J _ (show d < 4 by omega), hA, o1.r 84 (fun _ => rfl), o1.r 85 (fun _ => rfl), ← e2, e4, ← e3]
          simp only [Option.bind_some, Option.toList_some, Option.toList_none, List.nil_append, List.cons_append, q_ck_tt, Bool.and_true, Bool.true_and, if_true, if_false, reduceCtorEq]
          rw [eX12_length_37, eX12_length_46, nI_1]
        · rw [if_neg h0, if_neg h0, eX12_length_40, q_in_nI (show d < 4 by omega) (by omega), nI_clamp (by omega), o1.r 83 (fun _ => rfl), ← e1]
          simp only [Option.bind_some, Option.toList_some, Option.toList_none, List.nil_append, List.cons_append, q_ck_tt, Bool.and_true, Bool.true_and, if_true, if_false, reduceCtorEq]
          rw [eX12_length_46, nI_1]
      have hf := q_for (fun d (y : Int32) => kX12_length 19 [some (.ref 64), some (.int a), some (.int y), some (.int (nI d))] [] (qm I1 J (3, 17, rb, tx, L))) D (fun d => qSm (fun d => if a = 0 then qDb (I 38 d) (I 6 d) (I 7 d) else I 5 d) d) hst
      rw [bX12_length, eX12_length_0, fX12_isBit, hq]
      simp only [Option.bind_some, Option.toList_some, Option.toList_none, List.nil_append, List.cons_append, q_ck_tt, Bool.and_true, Bool.true_and, if_true, if_false, reduceCtorEq]
      rw [eX12_length_6, qb_t, if_neg h10, eX12_length_11, f1]
      simp only [Option.bind_some, Option.toList_some, Option.toList_none, List.nil_append, List.cons_append, q_ck_tt, Bool.and_true, Bool.true_and, if_true, if_false, reduceCtorEq]
      rw [eX12_length_15]
      refine Eq.trans hf ?_
      show kX12_length 19 _ _ _ = _
      rw [eX12_length_19, C1.m50, if_neg (nI_nlt (Nat.le_refl _) (by omega)), eX12_length_54]
theorem o_found (hC : q_Core I D N cl RM rc) (a : Int32) : q_Obs mX11_found mX12_found [.int a] I J (3, 17, rb, tx, L) := by
  have hD := hC.d4
  cases hq : q_in a D with
  | false =>
    refine ⟨-1, I, I, ?_, ?_, q_Off_refl _, q_Off_refl _⟩
    · have hq2 := hq
      rw [q_inP a (show D < 2 ^ 30 by omega)] at hq2
      simp only [bX11_found, eX11_found_0, eX11_found_15, eX11_found_4, eX11_found_17, eX11_found_39, eX11_found_42, eX11_found_47, eX11_found_48, hC.i30]
      by_cases h1 : a < 0
      · rw [if_pos h1]
      · rw [if_neg h1, if_neg (fun c => by rw [decide_eq_false h1, decide_eq_true c] at hq2; cases hq2)]
    · simp only [bX12_found, eX12_found_0, eX12_found_11, eX12_found_14, eX12_found_18, eX12_found_52, eX12_found_50, eX12_found_34, hC.m50, fX12_isIn0 I J _ a (show D < 2 ^ 30 by omega), hq, Option.bind_some, Option.toList_some, Option.toList_none, List.nil_append, List.cons_append, q_ck_tt, Bool.and_true, Bool.true_and, if_true, if_false, reduceCtorEq, q_10, eq_self, qb_t, qb_f]
  | true =>
    obtain ⟨i, hi, rfl, hi2⟩ := q_in_of hq
    obtain ⟨-, e2, -, -, -, -, e7⟩ := hC.bn.2.2 (D - 1 - i) (by omega)
    have hx : nI D - 1 - nI i = nI (D - 1 - i) := by rw [nI_1s (by omega), pk_sub (by omega)]
    refine ⟨if I 84 (D - 1 - i) < 0 then -2 else I 84 (D - 1 - i), I, I, ?_, ?_, q_Off_refl _, q_Off_refl _⟩
    · have hn := q_idn e7
      simp only [bX11_found, eX11_found_0, eX11_found_15, eX11_found_4, eX11_found_17, eX11_found_39, eX11_found_42, eX11_found_47, eX11_found_48, hC.i30, if_neg (nI_pos hi2), if_pos (nI_lt hi (by omega)), hx, q_in_nI (show D - 1 - i < 4 by omega) (by omega), nI_clamp (show D - 1 - i < 2 ^ 31 by omega), e2, hn, Option.bind_some, Option.toList_some, Option.toList_none, List.nil_append, List.cons_append, q_ck_tt, Bool.and_true, Bool.true_and, if_true, if_false, reduceCtorEq]
      (repeat' split) <;> rfl
    · simp only [bX12_found, eX12_found_0, eX12_found_11, eX12_found_14, eX12_found_18, eX12_found_52, eX12_found_50, eX12_found_34, hC.m50, fX12_isIn0 I J _ (nI i) (show D < 2 ^ 30 by omega), hq, Option.bind_some, Option.toList_some, Option.toList_none, List.nil_append, List.cons_append, q_ck_tt, Bool.and_true, Bool.true_and, if_true, if_false, reduceCtorEq, q_10, eq_self, qb_t, qb_f, hx, q_in_nI (show D - 1 - i < 4 by omega) (by omega), nI_clamp (show D - 1 - i < 2 ^ 31 by omega)]
      (repeat' split) <;> rfl
end EC
