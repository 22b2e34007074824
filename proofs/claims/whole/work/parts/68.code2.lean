/-! ===== codes: patterns, what a net is told ===== -/
theorem b_mask : ∀ N, N < 7 → ∀ v, v < 32 → bt (((1 : Int32) <<< (nI N &&& 31)) - 1) v = decide (v < N) := by decide +kernel
theorem q_pat {sf : Nat → Int32} {b : Int32} {k N i : Nat} (hN : N ≤ 6) (h1 : ∀ v, v < N → bt b v = qPb k N v i) (h2 : ∀ v, N ≤ v → v < 32 → bt b v = false) : qKs sf b N = qPa sf k N i := by
  apply b_ext
  intro v hv
  unfold qPa
  rw [b_qKs (by omega) hv, b_qB _ (by omega) hv]
  by_cases hvN : v < N
  · rw [if_pos hvN, decide_eq_true hvN, Bool.true_and]
    unfold qWb
    rw [h1 v hvN]
  · rw [if_neg hvN, decide_eq_false hvN, Bool.false_and, h2 v (by omega) hv]
section CD
variable (I : Nat → Nat → Int32) (J : Nat → Nat → Int64) (e : QP)
theorem fX2_pattern (hS : q_Sta I) {N k i : Nat} (hN : N ≤ 6) (hI : I 3 5 = nI N) (hk : k < 3) (hi : i < qSt k N) : mX2_pattern [.ref 3, .int (nI k), .int (nI i)] (qm I J e) = some (some (.int (qPa (I 11) k N i)), qm I J e) := by
  have h3 : k = 0 ∨ k = 1 ∨ k = 2 := by omega
  have h6 := qSt_6 (k := k) hN
  have hcs := (qCs_t N (by omega)).2.1
  rw [bX2_pattern, eX2_pattern_0, hI, fX2_countSteps I J e hS hN]
  simp only [Option.bind_some, Option.toList_some, Option.toList_none, List.nil_append, List.cons_append, q_ck_tt, Bool.and_true, Bool.true_and, if_true, if_false, reduceCtorEq]
  rw [eX2_pattern_7]
  have hcnt : ∀ k', k' = 0 ∨ k' = 1 → i < qCs N → kX2_pattern 27 [some (.ref 3), none, some (.int (nI i)), none, none] [] (qm I J e) = some (some (.int (qPa (I 11) k' N i)), qm I J e) := by
    intro k' hk' hi'
    rw [eX2_pattern_27, hI, fX2_counted I J e hN (show i < 32 by omega)]
    simp only [Option.bind_some, Option.toList_some, Option.toList_none, List.nil_append, List.cons_append, q_ck_tt, Bool.and_true, Bool.true_and, if_true, if_false, reduceCtorEq]
    rw [eX2_pattern_35, eX2_pattern_68, fX0_keptSafe I J e hN hI]
    simp only [Option.bind_some, Option.toList_some, Option.toList_none, List.nil_append, List.cons_append, q_ck_tt, Bool.and_true, Bool.true_and, if_true, if_false, reduceCtorEq]
    rw [eX2_pattern_74, q_pat (k := k') (i := i) hN]
    · intro v hv
      rw [b_qB _ (by omega) (by omega), decide_eq_true hv, Bool.true_and]
      unfold qPb
      rw [if_neg (by omega), if_pos hi']
    · intro v hv hv2
      rw [b_qB _ (by omega) (by omega), decide_eq_false (by omega), Bool.false_and]
  rcases h3 with rfl | rfl | rfl
  · rw [if_pos (show nI 0 = (0 : Int32) from rfl)]
    exact hcnt 0 (Or.inl rfl) hi
  · have hi2 : i < 2 * qCs N := hi
    rw [if_neg (show ¬ nI 1 = (0 : Int32) by decide), eX2_pattern_17, if_pos (show nI 1 = (1 : Int32) from rfl), eX2_pattern_22]
    by_cases hc : i < qCs N
    · rw [if_pos (nI_lt hc (by omega))]
      exact hcnt 1 (Or.inr rfl) hc
    · rw [if_neg (nI_nlt (by omega) (by omega)), eX2_pattern_40, if_pos (show nI 1 = (1 : Int32) from rfl), eX2_pattern_45, hI, pk_sub (by omega), fX2_counted I J e hN (show i - qCs N < 32 by omega)]
      simp only [Option.bind_some, Option.toList_some, Option.toList_none, List.nil_append, List.cons_append, q_ck_tt, Bool.and_true, Bool.true_and, if_true, if_false, reduceCtorEq]
      rw [eX2_pattern_55, hI, eX2_pattern_68, fX0_keptSafe I J e hN hI]
      simp only [Option.bind_some, Option.toList_some, Option.toList_none, List.nil_append, List.cons_append, q_ck_tt, Bool.and_true, Bool.true_and, if_true, if_false, reduceCtorEq]
      rw [eX2_pattern_74, q_pat (k := 1) (i := i) hN]
      · intro v hv
        rw [b_and, b_not _ (by omega), b_mask N (by omega) v (by omega), decide_eq_true hv, Bool.and_true, b_qB _ (by omega) (by omega), decide_eq_true hv, Bool.true_and]
        unfold qPb
        rw [if_neg (by omega), if_neg hc]
      · intro v hv hv2
        rw [b_and, b_mask N (by omega) v (by omega), decide_eq_false (by omega), Bool.and_false]
  · have hi2 : i < N := hi
    rw [if_neg (by decide), eX2_pattern_17, if_neg (by decide), eX2_pattern_40, if_neg (by decide), eX2_pattern_68, fX0_keptSafe I J e hN hI]
    simp only [Option.bind_some, Option.toList_some, Option.toList_none, List.nil_append, List.cons_append, q_ck_tt, Bool.and_true, Bool.true_and, if_true, if_false, reduceCtorEq]
    rw [eX2_pattern_74, q_pat (k := 2) (i := i) hN]
    · intro v hv
      rw [b_one (by omega) (by omega)]
      unfold qPb
      rw [if_pos rfl]
      exact decide_eq_decide.mpr eq_comm
    · intro v hv hv2
      rw [b_one (by omega) (by omega), decide_eq_false (by omega)]
theorem fX2_stepsOf (hS : q_Sta I) {N k n : Nat} (hN : N ≤ 6) (hI : I 3 5 = nI N) (hk : k < 3) (hn : n < N) : mX2_stepsOf [.ref 3, .int (nI k), .int (nI n)] (qm I J e) = some (some (.int (qWa (I 11 n) k N n)), qm I J e) := by
  have h6 := qSt_6 (k := k) hN
  have hst : ∀ i, i < qSt k N → kX2_stepsOf 12 [some (.ref 3), some (.int (nI k)), some (.int (nI n)), some (.int (nI (qSt k N))), some (.int (qB i (fun i => qWb (I 11 n) k N n i))), some (.int (nI i))] [] (qm I J e) = kX2_stepsOf 12 [some (.ref 3), some (.int (nI k)), some (.int (nI n)), some (.int (nI (qSt k N))), some (.int (qB (i + 1) (fun i => qWb (I 11 n) k N n i))), some (.int (nI (i + 1)))] [] (qm I J e) := by
    intro i hi
    rw [eX2_stepsOf_12, if_pos (nI_lt hi (by omega)), eX2_stepsOf_18, fX2_pattern I J e hS hN hI hk hi]
    simp only [Option.bind_some, Option.toList_some, Option.toList_none, List.nil_append, List.cons_append, q_ck_tt, Bool.and_true, Bool.true_and, if_true, if_false, reduceCtorEq]
    rw [eX2_stepsOf_27, b_tst _ (by omega), qb_shl _ (by omega), nI_1, qB_succ]
    have : bt (qPa (I 11) k N i) n = qWb (I 11 n) k N n i := by
      unfold qPa
      rw [b_qB _ (by omega) (by omega), decide_eq_true hn, Bool.true_and]
    rw [this]
  have hf := q_for (fun i (y : Int32) => kX2_stepsOf 12 [some (.ref 3), some (.int (nI k)), some (.int (nI n)), some (.int (nI (qSt k N))), some (.int y), some (.int (nI i))] [] (qm I J e)) (qSt k N) (fun i => qB i (fun i => qWb (I 11 n) k N n i)) hst
  rw [bX2_stepsOf, eX2_stepsOf_0, fX2_stepCount I J e hS hN hI hk]
  simp only [Option.bind_some, Option.toList_some, Option.toList_none, List.nil_append, List.cons_append, q_ck_tt, Bool.and_true, Bool.true_and, if_true, if_false, reduceCtorEq]
  rw [eX2_stepsOf_5]
  refine Eq.trans hf ?_
  show kX2_stepsOf 12 _ _ _ = _
  rw [eX2_stepsOf_12, if_neg (nI_nlt (Nat.le_refl _) (by omega)), eX2_stepsOf_43]
  rfl
theorem fX12_bitOf {N k n i : Nat} (hN : N ≤ 6) (hI : I 64 51 = nI N) (hk : k < 3) (hn : n < N) (hi : i < qSt k N) : mX12_bitOf [.ref 64, .int (nI k), .int (nI n), .int (nI i)] (qm I J e) = some (some (.int (qb (qPb k N n i))), qm I J e) := by
  have h6 := qSt_6 (k := k) hN
  have hcs := (qCs_t N (by omega)).2.1
  rw [bX12_bitOf, eX12_bitOf_0, fX12_countSteps I J e hN hI]
  simp only [Option.bind_some, Option.toList_some, Option.toList_none, List.nil_append, List.cons_append, q_ck_tt, Bool.and_true, Bool.true_and, if_true, if_false, reduceCtorEq]
  rw [eX12_bitOf_4]
  unfold qPb
  by_cases h2 : k = 2
  · subst h2
    rw [if_pos rfl, if_pos (show nI 2 = (2 : Int32) from rfl), eX12_bitOf_11]
    by_cases hin : i = n
    · subst hin
      rw [if_pos rfl, eX12_bitOf_16, eX12_bitOf_21, show (1 : Int32) = qb true from rfl, fX12_truth]
      simp only [Option.bind_some, Option.toList_some, Option.toList_none, List.nil_append, List.cons_append, q_ck_tt, Bool.and_true, Bool.true_and, if_true, if_false, reduceCtorEq]
      rw [eX12_bitOf_24]
      rfl
    · rw [if_neg (fun c => hin (nI_inj (by omega) (by omega) c)), eX12_bitOf_20, eX12_bitOf_21, show (0 : Int32) = qb false from rfl, fX12_truth]
      simp only [Option.bind_some, Option.toList_some, Option.toList_none, List.nil_append, List.cons_append, q_ck_tt, Bool.and_true, Bool.true_and, if_true, if_false, reduceCtorEq]
      rw [eX12_bitOf_24, decide_eq_false hin]
  · rw [if_neg (show ¬ nI k = 2 from fun c => h2 (nI_inj (by omega) (by omega) c)), if_neg h2, eX12_bitOf_25]
    by_cases hc : i < qCs N
    · rw [if_pos (nI_lt hc (by omega)), if_pos hc, eX12_bitOf_31, eX12_bitOf_53, nI_1, b_tst _ (by omega), q_tbI (by omega)]
    · rw [if_neg (nI_nlt (by omega) (by omega)), if_neg hc, eX12_bitOf_41, eX12_bitOf_53, nI_1, pk_sub (by omega), b_tst _ (by omega), q_tbI (by omega)]
      cases (n + 1).testBit (i - qCs N) <;> rfl
theorem fX12_wanted {N k n : Nat} (hN : N ≤ 6) (hI : I 64 51 = nI N) (hk : k < 3) (hn : n < N) (hs : I 88 n = -1 ∨ I 88 n = 0 ∨ I 88 n = 1) : mX12_wanted [.ref 64, .int (nI k), .int (nI n)] (qm I J e) = some (some (.int (qWa (I 88 n) k N n)), qm I J e) := by
  have h6 := qSt_6 (k := k) hN
  have hst : ∀ i, i < qSt k N → kX12_wanted 5 [some (.ref 64), some (.int (nI k)), some (.int (nI n)), some (.int (qB i (fun i => qWb (I 88 n) k N n i))), some (.int (nI i))] [] (qm I J e) = kX12_wanted 5 [some (.ref 64), some (.int (nI k)), some (.int (nI n)), some (.int (qB (i + 1) (fun i => qWb (I 88 n) k N n i))), some (.int (nI (i + 1)))] [] (qm I J e) := by
    intro i hi
    rw [eX12_wanted_5, fX12_stepsOf I J e hN hI hk]
    simp only [Option.bind_some, Option.toList_some, Option.toList_none, List.nil_append, List.cons_append, q_ck_tt, Bool.and_true, Bool.true_and, if_true, if_false, reduceCtorEq]
    rw [eX12_wanted_12, if_pos (nI_lt hi (by omega)), eX12_wanted_15, q_in_nI (show n < 6 by omega) (by omega), nI_clamp (by omega), qB_succ]
    simp only [Option.bind_some, Option.toList_some, Option.toList_none, List.nil_append, List.cons_append, q_ck_tt, Bool.and_true, Bool.true_and, if_true, if_false, reduceCtorEq]
    rcases hs with h | h | h
    · rw [if_pos (by rw [h]; decide), eX12_wanted_34, fX12_bitOf I J e hN hI hk hn hi]
      simp only [Option.bind_some, Option.toList_some, Option.toList_none, List.nil_append, List.cons_append, q_ck_tt, Bool.and_true, Bool.true_and, if_true, if_false, reduceCtorEq]
      rw [eX12_wanted_42, qb_shl _ (by omega), nI_1]
      have : qWb (I 88 n) k N n i = qPb k N n i := by unfold qWb; rw [h, if_neg (by decide), if_neg (by decide)]
      rw [this]
    · have hb : I 88 n = qb (qWb (I 88 n) k N n i) := by unfold qWb; rw [if_pos h, h]; rfl
      have hsh : I 88 n <<< (nI i &&& 31) = if qWb (I 88 n) k N n i then (1 : Int32) <<< (nI i &&& 31) else 0 := by
        conv => lhs; rw [hb]
        exact qb_shl _ (by omega)
      rw [if_neg (by rw [h]; decide), eX12_wanted_25, q_in_nI (show n < 6 by omega) (by omega), nI_clamp (by omega)]
      simp only [Option.bind_some, Option.toList_some, Option.toList_none, List.nil_append, List.cons_append, q_ck_tt, Bool.and_true, Bool.true_and, if_true, if_false, reduceCtorEq]
      rw [eX12_wanted_42, hsh, nI_1]
    · have hb : I 88 n = qb (qWb (I 88 n) k N n i) := by unfold qWb; rw [if_neg (by rw [h]; decide), if_pos h, h]; rfl
      have hsh : I 88 n <<< (nI i &&& 31) = if qWb (I 88 n) k N n i then (1 : Int32) <<< (nI i &&& 31) else 0 := by
        conv => lhs; rw [hb]
        exact qb_shl _ (by omega)
      rw [if_neg (by rw [h]; decide), eX12_wanted_25, q_in_nI (show n < 6 by omega) (by omega), nI_clamp (by omega)]
      simp only [Option.bind_some, Option.toList_some, Option.toList_none, List.nil_append, List.cons_append, q_ck_tt, Bool.and_true, Bool.true_and, if_true, if_false, reduceCtorEq]
      rw [eX12_wanted_42, hsh, nI_1]
  have hf := q_for (fun i (y : Int32) => kX12_wanted 5 [some (.ref 64), some (.int (nI k)), some (.int (nI n)), some (.int y), some (.int (nI i))] [] (qm I J e)) (qSt k N) (fun i => qB i (fun i => qWb (I 88 n) k N n i)) hst
  rw [bX12_wanted, eX12_wanted_0]
  refine Eq.trans hf ?_
  show kX12_wanted 5 _ _ _ = _
  rw [eX12_wanted_5, fX12_stepsOf I J e hN hI hk]
  simp only [Option.bind_some, Option.toList_some, Option.toList_none, List.nil_append, List.cons_append, q_ck_tt, Bool.and_true, Bool.true_and, if_true, if_false, reduceCtorEq]
  rw [eX12_wanted_12, if_neg (nI_nlt (Nat.le_refl _) (by omega)), eX12_wanted_53]
  rfl
end CD
section EB
variable {I : Nat → Nat → Int32} {J : Nat → Nat → Int64} {rb tx L : Nat} {D N : Nat} {cl : Nat → Nat} {RM : Nat} {rc : Nat → Nat}
theorem o_steps (hC : q_Core I D N cl RM rc) (a : Int32) : q_Obs mX11_steps mX12_steps [.int a] I J (3, 17, rb, tx, L) := by
  cases hq : q_in a 3 with
  | false =>
    refine ⟨-1, I, I, ?_, ?_, q_Off_refl _, q_Off_refl _⟩
    · simp only [bX11_steps, eX11_steps_0, eX11_steps_4, eX11_steps_18, eX11_steps_7, eX11_steps_19, eX11_steps_15, fX11_isKind, hq, Option.bind_some, Option.toList_some, Option.toList_none, List.nil_append, List.cons_append, q_ck_tt, Bool.and_true, Bool.true_and, if_true, if_false, reduceCtorEq, q_10, eq_self, qb_t, qb_f]
    · simp only [bX12_steps, eX12_steps_0, eX12_steps_4, eX12_steps_15, eX12_steps_7, eX12_steps_16, eX12_steps_12, fX12_isKind, hq, Option.bind_some, Option.toList_some, Option.toList_none, List.nil_append, List.cons_append, q_ck_tt, Bool.and_true, Bool.true_and, if_true, if_false, reduceCtorEq, q_10, eq_self, qb_t, qb_f]
  | true =>
    obtain ⟨k, hk, rfl, -⟩ := q_in_of hq
    refine ⟨nI (qSt k N), I, I, ?_, ?_, q_Off_refl _, q_Off_refl _⟩
    · simp only [bX11_steps, eX11_steps_0, eX11_steps_4, eX11_steps_18, eX11_steps_7, eX11_steps_19, eX11_steps_15, fX11_isKind, hq, Option.bind_some, Option.toList_some, Option.toList_none, List.nil_append, List.cons_append, q_ck_tt, Bool.and_true, Bool.true_and, if_true, if_false, reduceCtorEq, q_10, eq_self, qb_t, qb_f, fX2_stepCount I J _ hC.st hC.n6 hC.i35 hk]
    · simp only [bX12_steps, eX12_steps_0, eX12_steps_4, eX12_steps_15, eX12_steps_7, eX12_steps_16, eX12_steps_12, fX12_isKind, hq, Option.bind_some, Option.toList_some, Option.toList_none, List.nil_append, List.cons_append, q_ck_tt, Bool.and_true, Bool.true_and, if_true, if_false, reduceCtorEq, q_10, eq_self, qb_t, qb_f, fX12_stepsOf I J _ hC.n6 hC.m51 hk]
theorem o_tells (hC : q_Core I D N cl RM rc) (a b : Int32) : q_Obs mX11_tells mX12_tells [.int a, .int b] I J (3, 17, rb, tx, L) := by
  cases hq : q_in a 3 with
  | false =>
    refine ⟨-1, I, I, ?_, ?_, q_Off_refl _, q_Off_refl _⟩
    · simp only [bX11_tells, eX11_tells_0, eX11_tells_4, eX11_tells_30, eX11_tells_7, eX11_tells_31, eX11_tells_15, eX11_tells_18, eX11_tells_27, fX11_isKind, hq, Option.bind_some, Option.toList_some, Option.toList_none, List.nil_append, List.cons_append, q_ck_tt, Bool.and_true, Bool.true_and, if_true, if_false, reduceCtorEq, q_10, eq_self, qb_t, qb_f]
    · simp only [bX12_tells, eX12_tells_0, eX12_tells_4, eX12_tells_24, eX12_tells_7, eX12_tells_25, eX12_tells_12, eX12_tells_15, eX12_tells_21, fX12_isKind, hq, Option.bind_some, Option.toList_some, Option.toList_none, List.nil_append, List.cons_append, q_ck_tt, Bool.and_true, Bool.true_and, if_true, if_false, reduceCtorEq, q_10, eq_self, qb_t, qb_f]
  | true =>
    cases hn : q_in b N with
    | false =>
      refine ⟨-1, I, I, ?_, ?_, q_Off_refl _, q_Off_refl _⟩
      · simp only [bX11_tells, eX11_tells_0, eX11_tells_4, eX11_tells_30, eX11_tells_7, eX11_tells_31, eX11_tells_15, eX11_tells_18, eX11_tells_27, fX11_isKind, hq, fX0_hasNet I J _ hC.n6 hC.i35, hn, Option.bind_some, Option.toList_some, Option.toList_none, List.nil_append, List.cons_append, q_ck_tt, Bool.and_true, Bool.true_and, if_true, if_false, reduceCtorEq, q_10, eq_self, qb_t, qb_f]
      · simp only [bX12_tells, eX12_tells_0, eX12_tells_4, eX12_tells_24, eX12_tells_7, eX12_tells_25, eX12_tells_12, eX12_tells_15, eX12_tells_21, fX12_isKind, hq, fX12_isNet I J _ hC.n6 hC.m51, hn, Option.bind_some, Option.toList_some, Option.toList_none, List.nil_append, List.cons_append, q_ck_tt, Bool.and_true, Bool.true_and, if_true, if_false, reduceCtorEq, q_10, eq_self, qb_t, qb_f]
    | true =>
      obtain ⟨k, hk, rfl, -⟩ := q_in_of hq
      obtain ⟨n, hn2, rfl, -⟩ := q_in_of hn
      refine ⟨qWa (I 11 n) k N n, I, I, ?_, ?_, q_Off_refl _, q_Off_refl _⟩
      · simp only [bX11_tells, eX11_tells_0, eX11_tells_4, eX11_tells_30, eX11_tells_7, eX11_tells_31, eX11_tells_15, eX11_tells_18, eX11_tells_27, fX11_isKind, hq, fX0_hasNet I J _ hC.n6 hC.i35, hn, Option.bind_some, Option.toList_some, Option.toList_none, List.nil_append, List.cons_append, q_ck_tt, Bool.and_true, Bool.true_and, if_true, if_false, reduceCtorEq, q_10, eq_self, qb_t, qb_f, fX2_stepsOf I J _ hC.st hC.n6 hC.i35 hk hn2]
      · simp only [bX12_tells, eX12_tells_0, eX12_tells_4, eX12_tells_24, eX12_tells_7, eX12_tells_25, eX12_tells_12, eX12_tells_15, eX12_tells_21, fX12_isKind, hq, fX12_isNet I J _ hC.n6 hC.m51, hn, Option.bind_some, Option.toList_some, Option.toList_none, List.nil_append, List.cons_append, q_ck_tt, Bool.and_true, Bool.true_and, if_true, if_false, reduceCtorEq, q_10, eq_self, qb_t, qb_f, fX12_wanted I J _ hC.n6 hC.m51 hk hn2 (hC.sf n hn2), ← (hC.bs n hn2).1]
end EB
