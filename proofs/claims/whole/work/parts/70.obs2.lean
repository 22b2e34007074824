/-! ===== more calls that look: levels, cells, states ===== -/
/-- what follows a state -/
def qnx (s : Nat) (t : Bool) : Nat := (if t then [0, 2, 9, 5, 5, 8, 7, 8, 2, 0, 12, 12, 15, 14, 15, 2] else [1, 1, 3, 4, 4, 6, 6, 4, 1, 10, 11, 11, 13, 13, 11, 1] : List Nat).getD s 0
theorem qnx_t : ∀ s, s < 16 → ∀ t : Bool, qnx s t < 16 ∧ q_t0.getD (2 * s + (if t then 1 else 0)) 0 = nI (qnx s t) := by decide +kernel
section ED0
variable (I : Nat → Nat → Int32) (J : Nat → Nat → Int64) (e : QP)
theorem fX10_next (hS : q_Sta I) {s : Nat} (hs : s < 16) (t : Bool) : mX10_next [.int (nI s), .int (qb t)] (qm I J e) = some (some (.int (nI (qnx s t))), qm I J e) := by
  have h1 : ((nI s &&& 15) * 2) + (qb t &&& 1) = nI (2 * s + (if t then 1 else 0)) := by
    rw [show (15 : Int32) = nI (2 ^ 4 - 1) from rfl, fa_mask, Nat.mod_eq_of_lt (by omega), show (2 : Int32) = nI 2 from rfl, pk_mul, Nat.mul_comm]
    cases t with
    | true => show nI (2 * s) + nI 1 = _; rw [nI_add]; rfl
    | false => show nI (2 * s) + nI 0 = _; rw [nI_add]; rfl
  have h2 : 2 * s + (if t then 1 else 0) < 32 := by cases t <;> simp <;> omega
  rw [bX10_next, eX10_next_0, h1, q_in_nI h2 (by omega), nI_clamp (by omega), hS.1, (qnx_t s hs t).2]
  simp only [Option.bind_some, Option.toList_some, Option.toList_none, List.nil_append, List.cons_append, q_ck_tt, Bool.and_true, Bool.true_and, if_true, if_false, reduceCtorEq]
theorem fX12_nextState {s : Nat} (hs : s < 16) (t : Bool) : mX12_nextState [.int (nI s), .int (qb t)] (qm I J e) = some (some (.int (nI (qnx s t))), qm I J e) := by
  have hc : s = 0 ∨ s = 1 ∨ s = 2 ∨ s = 3 ∨ s = 4 ∨ s = 5 ∨ s = 6 ∨ s = 7 ∨ s = 8 ∨ s = 9 ∨ s = 10 ∨ s = 11 ∨ s = 12 ∨ s = 13 ∨ s = 14 ∨ s = 15 := by omega
  rcases hc with rfl | rfl | rfl | rfl | rfl | rfl | rfl | rfl | rfl | rfl | rfl | rfl | rfl | rfl | rfl | rfl <;> cases t <;> (simp +decide only [bX12_nextState, eX12_nextState_0, eX12_nextState_5, eX12_nextState_9, eX12_nextState_10, eX12_nextState_225, eX12_nextState_168, eX12_nextState_213, eX12_nextState_201, eX12_nextState_189, eX12_nextState_178, eX12_nextState_157, eX12_nextState_145, eX12_nextState_133, eX12_nextState_123, eX12_nextState_112, eX12_nextState_102, eX12_nextState_92, eX12_nextState_234, eX12_nextState_229, eX12_nextState_176, eX12_nextState_172, eX12_nextState_222, eX12_nextState_217, eX12_nextState_210, eX12_nextState_205, eX12_nextState_198, eX12_nextState_193, eX12_nextState_186, eX12_nextState_182, eX12_nextState_166, eX12_nextState_161, eX12_nextState_154, eX12_nextState_149, eX12_nextState_142, eX12_nextState_137, eX12_nextState_131, eX12_nextState_127, eX12_nextState_121, eX12_nextState_116, eX12_nextState_110, eX12_nextState_106, eX12_nextState_100, eX12_nextState_96, eX12_nextState_236, eX12_nextState_177, eX12_nextState_224, eX12_nextState_212, eX12_nextState_200, eX12_nextState_188, eX12_nextState_167, eX12_nextState_156, eX12_nextState_144, eX12_nextState_132, eX12_nextState_122, eX12_nextState_111, eX12_nextState_101, if_true, if_false]; rfl)
end ED0
section ED
variable {I : Nat → Nat → Int32} {J : Nat → Nat → Int64} {rb tx L : Nat} {D N : Nat} {cl : Nat → Nat} {RM : Nat} {rc : Nat → Nat}
theorem o_fights (hC : q_Core I D N cl RM rc) : q_Obs mX11_fights mX12_fights [] I J (3, 17, rb, tx, L) := by
  have hD := hC.d4
  have hN := hC.n6
  obtain ⟨I1, f1, o1, a1, C1⟩ := hC.fill J (3, 17, rb, tx, L)
  refine ⟨qB N (fun n => qAny (6 * D) (fun x => qdo (I 86) (I 87) n x && qdh (I 93) (I 88) x n) && qAny (6 * D) (fun x => qdo (I 86) (I 87) n x && !qdh (I 93) (I 88) x n)), I, I1, ?_, ?_, q_Off_refl _, o1⟩
  · simp only [bX11_fights, eX11_fights_0, eX11_fights_11, fX1_fighting I J _ hN hC.i35 hD hC.i30, Option.bind_some, Option.toList_some, Option.toList_none, List.nil_append, List.cons_append, q_ck_tt, Bool.and_true, Bool.true_and, if_true, if_false, reduceCtorEq]
    congr 4
    refine qB_cong (fun n hn => ?_)
    rw [q_driven_bit hC.bn hC.bc hC.bs hC.dr hn, q_driving_bit hC.bn hC.bc hC.bs hC.dr hn, Bool.not_not, Bool.not_not, Bool.and_comm]
  · have hst : ∀ n, n < N → (fun n (y : Int32) => kX12_fights 8 [some (.ref 64), some (.int y), some (.int (nI n))] [] (qm I1 J (3, 17, rb, tx, L))) n (qB n (fun n => qAny (6 * D) (fun x => qdo (I 86) (I 87) n x && qdh (I 93) (I 88) x n) && qAny (6 * D) (fun x => qdo (I 86) (I 87) n x && !qdh (I 93) (I 88) x n))) = (fun n (y : Int32) => kX12_fights 8 [some (.ref 64), some (.int y), some (.int (nI n))] [] (qm I1 J (3, 17, rb, tx, L))) (n + 1) (qB (n + 1) (fun n => qAny (6 * D) (fun x => qdo (I 86) (I 87) n x && qdh (I 93) (I 88) x n) && qAny (6 * D) (fun x => qdo (I 86) (I 87) n x && !qdh (I 93) (I 88) x n))) := by
      intro n hn
      show kX12_fights 8 _ _ _ = kX12_fights 8 _ _ _
      have hfi := fX12_isFighting I1 J (3, 17, rb, tx, L) hD C1.m50 hN hn (C1.sf n hn)
      have hdh : ∀ x, x < 6 * D → qdh (I1 94) (I 88) x n = qdh (I 93) (I 88) x n := by
        intro x hx
        unfold qdh
        rw [a1 _ (by omega), a1 _ (by omega), o1.r 93 (fun _ => rfl)]
      rw [o1.r 86 (fun _ => rfl), o1.r 87 (fun _ => rfl), o1.r 88 (fun _ => rfl), qAny_cong (p := fun x => qdo (I 86) (I 87) n x && qdh (I1 94) (I 88) x n) (q := fun x => qdo (I 86) (I 87) n x && qdh (I 93) (I 88) x n) (fun x hx => by rw [hdh x hx]), qAny_cong (p := fun x => qdo (I 86) (I 87) n x && !qdh (I1 94) (I 88) x n) (q := fun x => qdo (I 86) (I 87) n x && !qdh (I 93) (I 88) x n) (fun x hx => by rw [hdh x hx])] at hfi
      rw [eX12_fights_8, C1.m51, if_pos (nI_lt hn (by omega)), eX12_fights_16, hfi]
      simp only [Option.bind_some, Option.toList_some, Option.toList_none, List.nil_append, List.cons_append, q_ck_tt, Bool.and_true, Bool.true_and, if_true, if_false, reduceCtorEq]
      rw [eX12_fights_22, fX12_truth]
      simp only [Option.bind_some, Option.toList_some, Option.toList_none, List.nil_append, List.cons_append, q_ck_tt, Bool.and_true, Bool.true_and, if_true, if_false, reduceCtorEq]
      rw [eX12_fights_25, qb_shl _ (by omega), nI_1, qB_succ]
    have hf := q_for (fun n (y : Int32) => kX12_fights 8 [some (.ref 64), some (.int y), some (.int (nI n))] [] (qm I1 J (3, 17, rb, tx, L))) N (fun n => qB n (fun n => qAny (6 * D) (fun x => qdo (I 86) (I 87) n x && qdh (I 93) (I 88) x n) && qAny (6 * D) (fun x => qdo (I 86) (I 87) n x && !qdh (I 93) (I 88) x n))) hst
    rw [bX12_fights, eX12_fights_0, f1]
    simp only [Option.bind_some, Option.toList_some, Option.toList_none, List.nil_append, List.cons_append, q_ck_tt, Bool.and_true, Bool.true_and, if_true, if_false, reduceCtorEq]
    rw [eX12_fights_4]
    refine Eq.trans hf ?_
    show kX12_fights 8 _ _ _ = _
    rw [eX12_fights_8, C1.m51, if_neg (nI_nlt (Nat.le_refl _) (by omega)), eX12_fights_35]
theorem q_uns {s lv : Int32} {n : Nat} (hs : s = -1 ∨ s = 0 ∨ s = 1) : (((if s = 0 then false else if s = 1 then true else bt lv n) ^^ bt lv n) : Bool) = (!decide (s < 0) && !decide (qb (bt lv n) = s)) := by
  rcases hs with rfl | rfl | rfl <;> cases bt lv n <;> decide
theorem o_unsafe (hC : q_Core I D N cl RM rc) : q_Obs mX11_unsafe mX12_unsafe [] I J (3, 17, rb, tx, L) := by
  have hD := hC.d4
  have hN := hC.n6
  obtain ⟨I1, I2, f1, f2, o2, a2, C2, hl⟩ := hC.fill2 J (3, 17, rb, tx, L)
  have hdv : mX1_driven [.ref 37, .ref 3] (qm I J (3, 17, rb, tx, L)) = some (some (.int (qDn I D N)), qm I J (3, 17, rb, tx, L)) := fX1_driven I J _ hN hC.i35 hD hC.i30
  generalize hlv : qLev (I 42) (qDn I D N) = lv at hl
  refine ⟨qB N (fun n => !decide (I 88 n < 0) && !decide (qb (bt lv n) = I 88 n)), I, I2, ?_, ?_, q_Off_refl _, o2⟩
  · simp only [bX11_unsafe, eX11_unsafe_0, eX11_unsafe_22, eX11_unsafe_25, eX11_unsafe_28, hdv, fX3_levels_42 I J _ hC.st, hlv, fX0_unsafeAt I J _ hN hC.i35, Option.bind_some, Option.toList_some, Option.toList_none, List.nil_append, List.cons_append, q_ck_tt, Bool.and_true, Bool.true_and, if_true, if_false, reduceCtorEq]
    congr 4
    apply b_ext
    intro v hv
    rw [b_xor, b_qKs (by omega) hv, b_qB _ (by omega) hv]
    by_cases hvN : v < N
    · rw [if_pos hvN, decide_eq_true hvN, Bool.true_and, (hC.bs v hvN).1]
      exact q_uns (hC.sf v hvN)
    · rw [if_neg hvN, decide_eq_false hvN, Bool.false_and]
      cases bt lv v <;> rfl
  · have hst : ∀ n, n < N → (fun n (y : Int32) => kX12_unsafe 12 [some (.ref 64), some (.int y), some (.int (nI n))] [] (qm I2 J (3, 17, rb, tx, L))) n (qB n (fun n => !decide (I 88 n < 0) && !decide (qb (bt lv n) = I 88 n))) = (fun n (y : Int32) => kX12_unsafe 12 [some (.ref 64), some (.int y), some (.int (nI n))] [] (qm I2 J (3, 17, rb, tx, L))) (n + 1) (qB (n + 1) (fun n => !decide (I 88 n < 0) && !decide (qb (bt lv n) = I 88 n))) := by
      intro n hn
      show kX12_unsafe 12 _ _ _ = kX12_unsafe 12 _ _ _
      have hend : ∀ b : Bool, b = (!decide (I 88 n < 0) && !decide (qb (bt lv n) = I 88 n)) → kX12_unsafe 50 [some (.ref 64), none, some (.int (nI n))] [.int (qb b), .int (qB n (fun n => !decide (I 88 n < 0) && !decide (qb (bt lv n) = I 88 n)))] (qm I2 J (3, 17, rb, tx, L)) = kX12_unsafe 12 [some (.ref 64), some (.int (qB (n + 1) (fun n => !decide (I 88 n < 0) && !decide (qb (bt lv n) = I 88 n)))), some (.int (nI (n + 1)))] [] (qm I2 J (3, 17, rb, tx, L)) := by
        intro b hb
        rw [eX12_unsafe_50, fX12_truth]
        simp only [Option.bind_some, Option.toList_some, Option.toList_none, List.nil_append, List.cons_append, q_ck_tt, Bool.and_true, Bool.true_and, if_true, if_false, reduceCtorEq]
        rw [eX12_unsafe_53, qb_shl _ (by omega), nI_1, qB_succ, hb]
      have h6 : q_in (nI n) 6 = true := q_in_nI (by omega) (by omega)
      rw [eX12_unsafe_12, C2.m51, if_pos (nI_lt hn (by omega)), eX12_unsafe_20, h6, nI_clamp (by omega), o2.r 88 (fun _ => rfl)]
      simp only [Option.bind_some, Option.toList_some, Option.toList_none, List.nil_append, List.cons_append, q_ck_tt, Bool.and_true, Bool.true_and, if_true, if_false, reduceCtorEq]
      by_cases h0 : I 88 n < 0
      · rw [if_pos h0, eX12_unsafe_49]
        exact hend false (by rw [decide_eq_true h0]; rfl)
      · rw [if_neg h0, eX12_unsafe_30, h6, nI_clamp (by omega), o2.r 88 (fun _ => rfl), (hl n hn).2]
        simp only [Option.bind_some, Option.toList_some, Option.toList_none, List.nil_append, List.cons_append, q_ck_tt, Bool.and_true, Bool.true_and, if_true, if_false, reduceCtorEq]
        by_cases h1 : qb (bt lv n) = I 88 n
        · rw [if_pos h1, eX12_unsafe_49]
          exact hend false (by rw [decide_eq_true h1, Bool.not_true, Bool.and_false])
        · rw [if_neg h1, eX12_unsafe_45]
          exact hend true (by rw [decide_eq_false h1, decide_eq_false h0]; rfl)
    have hf := q_for (fun n (y : Int32) => kX12_unsafe 12 [some (.ref 64), some (.int y), some (.int (nI n))] [] (qm I2 J (3, 17, rb, tx, L))) N (fun n => qB n (fun n => !decide (I 88 n < 0) && !decide (qb (bt lv n) = I 88 n))) hst
    rw [bX12_unsafe, eX12_unsafe_0, f1]
    simp only [Option.bind_some, Option.toList_some, Option.toList_none, List.nil_append, List.cons_append, q_ck_tt, Bool.and_true, Bool.true_and, if_true, if_false, reduceCtorEq]
    rw [eX12_unsafe_4, f2]
    simp only [Option.bind_some, Option.toList_some, Option.toList_none, List.nil_append, List.cons_append, q_ck_tt, Bool.and_true, Bool.true_and, if_true, if_false, reduceCtorEq]
    rw [eX12_unsafe_8]
    refine Eq.trans hf ?_
    show kX12_unsafe 12 _ _ _ = _
    rw [eX12_unsafe_12, C2.m51, if_neg (nI_nlt (Nat.le_refl _) (by omega)), eX12_unsafe_63]
/-- the state behind some bits -/
def qGo (b : Int32) (s : Nat) : Nat → Nat
  | 0 => s
  | k + 1 => qnx (qGo b s k) (bt b k)
theorem qGo_lt (b : Int32) {s : Nat} (hs : s < 16) : ∀ k, qGo b s k < 16
  | 0 => hs
  | k + 1 => (qnx_t _ (qGo_lt b hs k) _).1
theorem o_goes (hC : q_Core I D N cl RM rc) (a b : Int32) : q_Obs mX11_goes mX12_goes [.int a, .int b] I J (3, 17, rb, tx, L) := by
  obtain ⟨⟨hs0, s, hs, hs1⟩, -⟩ := hC.ch
  have h37 : I 37 0 = nI s := by rw [← hs1, ← hs0]; rfl
  cases hq : q_in b 31 with
  | false =>
    refine ⟨-1, I, I, ?_, ?_, q_Off_refl _, q_Off_refl _⟩
    · rw [q_inP b (show (31 : Nat) < 2 ^ 30 by omega), show nI 31 = (31 : Int32) from rfl] at hq
      simp only [bX11_goes, eX11_goes_0, eX11_goes_10, eX11_goes_4, eX11_goes_12, eX11_goes_29, eX11_goes_46, eX11_goes_39]
      by_cases h1 : b < 0
      · rw [if_pos h1]
      · rw [if_neg h1, if_pos]
        refine (nI_m1 (N := 31) b (by omega) h1).mpr (fun c => ?_)
        rw [decide_eq_false h1, decide_eq_true (show b < 31 from c)] at hq
        cases hq
    · simp only [bX12_goes, eX12_goes_0, eX12_goes_7, eX12_goes_10, eX12_goes_12, eX12_goes_28, eX12_goes_45, eX12_goes_38, show (30 : Int32) = nI 31 - 1 from rfl, fX12_isIn0 I J _ b (show (31 : Nat) < 2 ^ 30 by omega), hq, Option.bind_some, Option.toList_some, Option.toList_none, List.nil_append, List.cons_append, q_ck_tt, Bool.and_true, Bool.true_and, if_true, if_false, reduceCtorEq, q_10, eq_self, qb_t, qb_f]
  | true =>
    obtain ⟨n, hn, rfl, hn2⟩ := q_in_of hq
    have h10 : ¬ ((1 : Int32) = 0) := by decide
    refine ⟨nI (qGo a s n), I, I, ?_, ?_, q_Off_refl _, q_Off_refl _⟩
    · have hst : ∀ k, k < n → (fun k (y : Nat) => kX11_goes 23 [none, some (.int a), some (.int (nI n)), some (.int (nI y)), some (.int (nI k))] [] (qm I J (3, 17, rb, tx, L))) k (qGo a s k) = (fun k (y : Nat) => kX11_goes 23 [none, some (.int a), some (.int (nI n)), some (.int (nI y)), some (.int (nI k))] [] (qm I J (3, 17, rb, tx, L))) (k + 1) (qGo a s (k + 1)) := by
        intro k hk
        show kX11_goes 23 _ _ _ = kX11_goes 23 _ _ _
        rw [eX11_goes_23, if_pos (nI_lt hk (by omega)), eX11_goes_29, b_tst _ (by omega), fX10_next I J _ hC.st (qGo_lt a hs k)]
        simp only [Option.bind_some, Option.toList_some, Option.toList_none, List.nil_append, List.cons_append, q_ck_tt, Bool.and_true, Bool.true_and, if_true, if_false, reduceCtorEq]
        rw [eX11_goes_39, nI_1]
        rfl
      have hf := q_for (fun k (y : Nat) => kX11_goes 23 [none, some (.int a), some (.int (nI n)), some (.int (nI y)), some (.int (nI k))] [] (qm I J (3, 17, rb, tx, L))) n (fun k => qGo a s k) hst
      have h30 : ¬ (30 : Int32) < nI n := nI_nlt (a := 30) (by omega) (by decide)
      rw [bX11_goes, eX11_goes_0, if_neg (nI_pos hn2), eX11_goes_4, if_neg h30, eX11_goes_12, h37]
      refine Eq.trans hf ?_
      show kX11_goes 23 _ _ _ = _
      rw [eX11_goes_23, if_neg (nI_nlt (Nat.le_refl _) (by omega)), eX11_goes_46]
    · have hst : ∀ k, k < n → (fun k (y : Nat) => kX12_goes 22 [none, some (.int a), some (.int (nI n)), some (.int (nI y)), some (.int (nI k))] [] (qm I J (3, 17, rb, tx, L))) k (qGo a s k) = (fun k (y : Nat) => kX12_goes 22 [none, some (.int a), some (.int (nI n)), some (.int (nI y)), some (.int (nI k))] [] (qm I J (3, 17, rb, tx, L))) (k + 1) (qGo a s (k + 1)) := by
        intro k hk
        show kX12_goes 22 _ _ _ = kX12_goes 22 _ _ _
        rw [eX12_goes_22, if_pos (nI_lt hk (by omega)), eX12_goes_28, b_tst _ (by omega), fX12_nextState I J _ (qGo_lt a hs k)]
        simp only [Option.bind_some, Option.toList_some, Option.toList_none, List.nil_append, List.cons_append, q_ck_tt, Bool.and_true, Bool.true_and, if_true, if_false, reduceCtorEq]
        rw [eX12_goes_38, nI_1]
        rfl
      have hf := q_for (fun k (y : Nat) => kX12_goes 22 [none, some (.int a), some (.int (nI n)), some (.int (nI y)), some (.int (nI k))] [] (qm I J (3, 17, rb, tx, L))) n (fun k => qGo a s k) hst
      rw [bX12_goes, eX12_goes_0, show (30 : Int32) = nI 31 - 1 from rfl, fX12_isIn0 I J _ (nI n) (show (31 : Nat) < 2 ^ 30 by omega), hq]
      simp only [Option.bind_some, Option.toList_some, Option.toList_none, List.nil_append, List.cons_append, q_ck_tt, Bool.and_true, Bool.true_and, if_true, if_false, reduceCtorEq]
      rw [eX12_goes_7, qb_t, if_neg h10, eX12_goes_12, hs1]
      refine Eq.trans hf ?_
      show kX12_goes 22 _ _ _ = _
      rw [eX12_goes_22, if_neg (nI_nlt (Nat.le_refl _) (by omega)), eX12_goes_45]
theorem o_lies (h : q_Ly I) (a : Int32) : q_Obs mX11_lies mX12_lies [.int a] I J (3, 17, rb, tx, L) := by
  obtain ⟨c, hc, h1, h2, h3⟩ := h
  cases hq : q_in a c with
  | false =>
    refine ⟨-2, I, I, ?_, ?_, q_Off_refl _, q_Off_refl _⟩
    · have hq2 := hq
      rw [q_inP a (show c < 2 ^ 30 by omega)] at hq2
      simp only [bX11_lies, eX11_lies_0, eX11_lies_21, eX11_lies_4, eX11_lies_23, eX11_lies_12, h1]
      by_cases h1 : a < 0
      · rw [if_pos h1]
      · rw [if_neg h1, if_neg (fun c => by rw [decide_eq_false h1, decide_eq_true c] at hq2; cases hq2)]
    · simp only [bX12_lies, eX12_lies_0, eX12_lies_11, eX12_lies_23, eX12_lies_14, eX12_lies_25, h2, fX12_isIn0 I J _ a (show c < 2 ^ 30 by omega), hq, Option.bind_some, Option.toList_some, Option.toList_none, List.nil_append, List.cons_append, q_ck_tt, Bool.and_true, Bool.true_and, if_true, if_false, reduceCtorEq, q_10, eq_self, qb_t, qb_f]
  | true =>
    obtain ⟨i, hi, rfl, hi2⟩ := q_in_of hq
    refine ⟨I 63 i, I, I, ?_, ?_, q_Off_refl _, q_Off_refl _⟩
    · simp only [bX11_lies, eX11_lies_0, eX11_lies_21, eX11_lies_4, eX11_lies_23, eX11_lies_12, h1, if_neg (nI_pos hi2), if_pos (nI_lt hi (by omega)), q_in_nI (show i < 16 by omega) (by omega), nI_clamp hi2, Option.bind_some, Option.toList_some, Option.toList_none, List.nil_append, List.cons_append, q_ck_tt, Bool.and_true, Bool.true_and, if_true, if_false, reduceCtorEq]
    · simp only [bX12_lies, eX12_lies_0, eX12_lies_11, eX12_lies_23, eX12_lies_14, eX12_lies_25, h2, fX12_isIn0 I J _ (nI i) (show c < 2 ^ 30 by omega), hq, Option.bind_some, Option.toList_some, Option.toList_none, List.nil_append, List.cons_append, q_ck_tt, Bool.and_true, Bool.true_and, if_true, if_false, reduceCtorEq, q_10, eq_self, qb_t, qb_f, q_in_nI (show i < 16 by omega) (by omega), nI_clamp hi2, h3 i hi]
end ED
