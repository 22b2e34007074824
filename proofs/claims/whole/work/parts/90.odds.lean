/-! ===== odds ===== -/
section OD
variable {I : Nat → Nat → Int32} {J : Nat → Nat → Int64} {e : QP} {rb tx L : Nat}
theorem q_cdv : ∀ (k i a b : Nat), a < 2 ^ 31 → b < 2 ^ 31 → b < 2 ^ k → i + 2 * k + 1 ≤ 64 → kX11_commonDivisor 2 [some (.int (nI a)), some (.int (nI b)), some (.int (nI i)), none] [] (qm I J e) = kX11_commonDivisor 26 [some (.int (nI (Nat.gcd b a))), none, none, none] [] (qm I J e) := by
  intro k
  induction k with
  | zero =>
    intro i a b ha hb hk hi
    have h0 : b = 0 := by omega
    subst h0
    rw [eX11_commonDivisor_2, if_pos (show nI i < (64 : Int32) from nI_lt (b := 64) (by omega) (by decide)), eX11_commonDivisor_8, if_pos (show nI 0 = (0 : Int32) from rfl), Nat.gcd_zero_left]
  | succ k ih =>
    intro i a b ha hb hk hi
    rw [eX11_commonDivisor_2, if_pos (show nI i < (64 : Int32) from nI_lt (b := 64) (by omega) (by decide)), eX11_commonDivisor_8]
    by_cases h0 : b = 0
    · subst h0
      rw [if_pos (show nI 0 = (0 : Int32) from rfl), Nat.gcd_zero_left]
    · have hb0 : ¬ nI b = 0 := nI_ne0 (by omega) hb
      have hr : a % b < b := Nat.mod_lt _ (by omega)
      rw [if_neg hb0, eX11_commonDivisor_12, decide_eq_false hb0, nI_mod ha hb (by omega), nI_1]
      simp only [Bool.not_false, Option.bind_some, Option.toList_some, Option.toList_none, List.nil_append, List.cons_append, q_ck_tt, Bool.and_true, Bool.true_and, if_true, if_false, reduceCtorEq]
      rw [eX11_commonDivisor_2, if_pos (show nI (i + 1) < (64 : Int32) from nI_lt (b := 64) (by omega) (by decide)), eX11_commonDivisor_8]
      rw [Nat.gcd_rec b a]
      by_cases h1 : a % b = 0
      · rw [h1, if_pos (show nI 0 = (0 : Int32) from rfl), Nat.gcd_zero_left]
      · have hr0 : ¬ nI (a % b) = 0 := nI_ne0 (by omega) (by omega)
        have hr2 : b % (a % b) < a % b := Nat.mod_lt _ (by omega)
        have hr3 : a % b + b % (a % b) ≤ b := by
          have h5 := Nat.div_add_mod b (a % b)
          have h6 : 1 ≤ b / (a % b) := (Nat.one_le_div_iff (by omega)).mpr (Nat.le_of_lt hr)
          have h7 : a % b * 1 ≤ a % b * (b / (a % b)) := Nat.mul_le_mul_left _ h6
          omega
        rw [if_neg hr0, eX11_commonDivisor_12, decide_eq_false hr0, nI_mod hb (by omega) (by omega), nI_1]
        simp only [Bool.not_false, Option.bind_some, Option.toList_some, Option.toList_none, List.nil_append, List.cons_append, q_ck_tt, Bool.and_true, Bool.true_and, if_true, if_false, reduceCtorEq]
        rw [ih (i + 1 + 1) (a % b) (b % (a % b)) (by omega) (by omega) (by rw [Nat.pow_succ] at hk; omega) (by omega), ← Nat.gcd_rec]
theorem q_dv : ∀ (m a b : Nat), b ≤ m → a < 2 ^ 31 → b < 2 ^ 31 → kX12_divisor 4 [none, none, some (.int (nI a)), some (.int (nI b)), none] [] (qm I J e) = some (some (.int (nI (Nat.gcd b a))), qm I J e) := by
  intro m
  induction m with
  | zero =>
    intro a b hm ha hb
    have h0 : b = 0 := by omega
    subst h0
    rw [eX12_divisor_4, if_neg (show ¬ (0 : Int32) < nI 0 by decide), eX12_divisor_21, Nat.gcd_zero_left]
  | succ m ih =>
    intro a b hm ha hb
    rw [eX12_divisor_4]
    by_cases h0 : b = 0
    · subst h0
      rw [if_neg (show ¬ (0 : Int32) < nI 0 by decide), eX12_divisor_21, Nat.gcd_zero_left]
    · have hb0 : ¬ nI b = 0 := nI_ne0 (by omega) hb
      have hr : a % b < b := Nat.mod_lt _ (by omega)
      rw [if_pos (show (0 : Int32) < nI b from nI_lt (a := 0) (by omega) hb), eX12_divisor_8, decide_eq_false hb0, nI_mod ha hb (by omega)]
      simp only [Bool.not_false, Option.bind_some, Option.toList_some, Option.toList_none, List.nil_append, List.cons_append, q_ck_tt, Bool.and_true, Bool.true_and, if_true, if_false, reduceCtorEq]
      rw [ih b (a % b) (by omega) hb (by omega), ← Nat.gcd_rec]
theorem q_pw {x : Nat} (hx : x ≤ 100) : ∀ n, n ≤ 4 → x ^ n ≤ 100000000 := by
  intro n hn
  have h1 : x ^ n ≤ 100 ^ n := Nat.pow_le_pow_left hx n
  have h2 : 100 ^ n ≤ 100 ^ 4 := Nat.pow_le_pow_right (by omega) hn
  omega
theorem fX12_power {x n : Nat} (hx : x ≤ 100) (hn : n ≤ 4) : mX12_power [.int (nI x), .int (nI n)] (qm I J e) = some (some (.int (nI (x ^ n))), qm I J e) := by
  have hst : ∀ k, k < n → kX12_power 4 [some (.int (nI x)), some (.int (nI n)), some (.int (nI (x ^ k))), some (.int (nI k))] [] (qm I J e) = kX12_power 4 [some (.int (nI x)), some (.int (nI n)), some (.int (nI (x ^ (k + 1)))), some (.int (nI (k + 1)))] [] (qm I J e) := by
    intro k hk
    rw [eX12_power_4, if_pos (nI_lt hk (by omega)), eX12_power_9, pk_mul, nI_1, Nat.pow_succ]
  have hf := q_for (fun k (y : Nat) => kX12_power 4 [some (.int (nI x)), some (.int (nI n)), some (.int (nI y)), some (.int (nI k))] [] (qm I J e)) n (fun k => x ^ k) hst
  rw [bX12_power, eX12_power_0]
  refine Eq.trans hf ?_
  show kX12_power 4 _ _ _ = _
  rw [eX12_power_4, if_neg (nI_nlt (Nat.le_refl _) (by omega)), eX12_power_19]
def q_Nd (I : Nat → Nat → Int32) : Prop := ∃ z : Nat, z ≤ 100 ∧ I 3 14 = nI z ∧ I 64 52 = nI z
theorem o_odds (h : q_Nd I) (a b : Int32) : q_Obs mX11_odds mX12_odds [.int a, .int b] I J (3, 17, rb, tx, L) := by
  have h10 : ¬ ((1 : Int32) = 0) := by decide
  obtain ⟨z, hz, z1, z2⟩ := h
  cases hqa : q_in a 5 with
  | false =>
    refine ⟨-1, I, I, ?_, ?_, q_Off_refl _, q_Off_refl _⟩
    · rw [q_inP a (show (5 : Nat) < 2 ^ 30 by omega), show nI 5 = (5 : Int32) from rfl] at hqa
      rw [bX11_odds, eX11_odds_0]
      by_cases h1 : a < 0
      · rw [if_pos h1, eX11_odds_16]
      · rw [if_neg h1, eX11_odds_4, if_pos, eX11_odds_16]
        refine (nI_m1 (N := 5) a (by omega) h1).mpr (fun c => ?_)
        rw [decide_eq_false h1, decide_eq_true (show a < 5 from c)] at hqa
        cases hqa
    · rw [bX12_odds, eX12_odds_0, show (4 : Int32) = nI 5 - 1 from rfl, fX12_isIn0 I J _ a (show (5 : Nat) < 2 ^ 30 by omega), hqa]
      simp only [Option.bind_some, Option.toList_some, Option.toList_none, List.nil_append, List.cons_append, q_ck_tt, Bool.and_true, Bool.true_and, if_true, if_false, reduceCtorEq]
      rw [eX12_odds_6, if_pos qb_f, eX12_odds_18]
  | true =>
    obtain ⟨n, hn, rfl, hn31⟩ := q_in_of hqa
    have h4 : ¬ (4 : Int32) < nI n := nI_nlt (a := 4) (by omega) (by decide)
    cases hqb : q_in b 2 with
    | false =>
      refine ⟨-1, I, I, ?_, ?_, q_Off_refl _, q_Off_refl _⟩
      · rw [bX11_odds, eX11_odds_0, if_neg (nI_pos hn31), eX11_odds_4, if_neg h4, eX11_odds_9, fX11_isBit, hqb]
        simp only [Option.bind_some, Option.toList_some, Option.toList_none, List.nil_append, List.cons_append, q_ck_tt, Bool.and_true, Bool.true_and, if_true, if_false, reduceCtorEq]
        rw [eX11_odds_13, if_pos qb_f, eX11_odds_16]
      · rw [bX12_odds, eX12_odds_0, show (4 : Int32) = nI 5 - 1 from rfl, fX12_isIn0 I J _ (nI n) (show (5 : Nat) < 2 ^ 30 by omega), hqa]
        simp only [Option.bind_some, Option.toList_some, Option.toList_none, List.nil_append, List.cons_append, q_ck_tt, Bool.and_true, Bool.true_and, if_true, if_false, reduceCtorEq]
        rw [eX12_odds_6, qb_t, if_neg h10, eX12_odds_9, fX12_isBit, hqb]
        simp only [Option.bind_some, Option.toList_some, Option.toList_none, List.nil_append, List.cons_append, q_ck_tt, Bool.and_true, Bool.true_and, if_true, if_false, reduceCtorEq]
        rw [eX12_odds_15, if_pos qb_f, eX12_odds_18]
    | true =>
      have hU := q_pw (x := 100 - z) (by omega) n (by omega)
      have hW := q_pw (x := 100) (by omega) n (by omega)
      have hW1 : 1 ≤ 100 ^ n := Nat.le_trans Nat.one_le_two_pow (Nat.pow_le_pow_left (show 2 ≤ 100 by omega) n)
      have hg1 : 1 ≤ Nat.gcd (100 ^ n) ((100 - z) ^ n) := Nat.gcd_pos_of_pos_left _ (by omega)
      have hgl : Nat.gcd (100 ^ n) ((100 - z) ^ n) ≤ 100 ^ n := Nat.gcd_le_left _ (by omega)
      have hsb : (100 : Int32) - nI z = nI (100 - z) := pk_sub (a := 100) hz
      have hg0 : ¬ nI (Nat.gcd (100 ^ n) ((100 - z) ^ n)) = 0 := nI_ne0 (by omega) (by omega)
      refine ⟨(if b = 0 then nI ((100 - z) ^ n) else nI (100 ^ n)) / nI (Nat.gcd (100 ^ n) ((100 - z) ^ n)), I, I, ?_, ?_, q_Off_refl _, q_Off_refl _⟩
      · have hst : ∀ k, k < n → (fun k (y : Nat × Nat) => kX11_odds 26 [some (.ref 1), some (.int (nI n)), some (.int b), some (.int (nI y.1)), some (.int (nI y.2)), some (.int (nI k))] [] (qm I J (3, 17, rb, tx, L))) k ((100 - z) ^ k, 100 ^ k) = (fun k (y : Nat × Nat) => kX11_odds 26 [some (.ref 1), some (.int (nI n)), some (.int b), some (.int (nI y.1)), some (.int (nI y.2)), some (.int (nI k))] [] (qm I J (3, 17, rb, tx, L))) (k + 1) ((100 - z) ^ (k + 1), 100 ^ (k + 1)) := by
          intro k hk
          show kX11_odds 26 _ _ _ = kX11_odds 26 _ _ _
          dsimp only
          rw [eX11_odds_26, if_pos (nI_lt hk (by omega)), eX11_odds_32, z1, hsb, pk_mul, show (100 : Int32) = nI 100 from rfl, pk_mul, nI_1, Nat.pow_succ, Nat.pow_succ]
        have hf := q_for (fun k (y : Nat × Nat) => kX11_odds 26 [some (.ref 1), some (.int (nI n)), some (.int b), some (.int (nI y.1)), some (.int (nI y.2)), some (.int (nI k))] [] (qm I J (3, 17, rb, tx, L))) n (fun k => ((100 - z) ^ k, 100 ^ k)) hst
        have hcd : mX11_commonDivisor [.int (nI ((100 - z) ^ n)), .int (nI (100 ^ n))] (qm I J (3, 17, rb, tx, L)) = some (some (.int (nI (Nat.gcd (100 ^ n) ((100 - z) ^ n)))), qm I J (3, 17, rb, tx, L)) := by
          rw [bX11_commonDivisor, eX11_commonDivisor_0]
          refine Eq.trans (q_cdv 27 0 ((100 - z) ^ n) (100 ^ n) (by omega) (by omega) (by omega) (by omega)) ?_
          rw [eX11_commonDivisor_26, if_neg (show ¬ nI (Nat.gcd (100 ^ n) ((100 - z) ^ n)) < 1 from nI_nlt (b := 1) hg1 (by omega))]
        rw [bX11_odds, eX11_odds_0, if_neg (nI_pos hn31), eX11_odds_4, if_neg h4, eX11_odds_9, fX11_isBit, hqb]
        simp only [Option.bind_some, Option.toList_some, Option.toList_none, List.nil_append, List.cons_append, q_ck_tt, Bool.and_true, Bool.true_and, if_true, if_false, reduceCtorEq]
        rw [eX11_odds_13, qb_t, if_neg h10, eX11_odds_18]
        refine Eq.trans hf ?_
        show kX11_odds 26 _ _ _ = _
        dsimp only
        rw [eX11_odds_26, if_neg (nI_nlt (Nat.le_refl _) (by omega)), eX11_odds_58, hcd]
        simp only [Option.bind_some, Option.toList_some, Option.toList_none, List.nil_append, List.cons_append, q_ck_tt, Bool.and_true, Bool.true_and, if_true, if_false, reduceCtorEq]
        rw [eX11_odds_64]
        by_cases hb : b = 0
        · rw [if_pos hb, if_pos hb, eX11_odds_70, eX11_odds_76, decide_eq_false hg0]; rfl
        · rw [if_neg hb, if_neg hb, eX11_odds_74, eX11_odds_76, decide_eq_false hg0]; rfl
      · have hdv : mX12_divisor [.int (nI (100 ^ n)), .int (nI ((100 - z) ^ n))] (qm I J (3, 17, rb, tx, L)) = some (some (.int (nI (Nat.gcd (100 ^ n) ((100 - z) ^ n)))), qm I J (3, 17, rb, tx, L)) := by
          rw [bX12_divisor, eX12_divisor_0, q_dv ((100 - z) ^ n) (100 ^ n) ((100 - z) ^ n) (Nat.le_refl _) (by omega) (by omega), Nat.gcd_comm]
        have hp1 : mX12_power [.int (nI (100 - z)), .int (nI n)] (qm I J (3, 17, rb, tx, L)) = some (some (.int (nI ((100 - z) ^ n))), qm I J (3, 17, rb, tx, L)) := fX12_power (by omega) (by omega)
        have hp2 : mX12_power [.int 100, .int (nI n)] (qm I J (3, 17, rb, tx, L)) = some (some (.int (nI (100 ^ n))), qm I J (3, 17, rb, tx, L)) := fX12_power (x := 100) (by omega) (by omega)
        rw [bX12_odds, eX12_odds_0, show (4 : Int32) = nI 5 - 1 from rfl, fX12_isIn0 I J _ (nI n) (show (5 : Nat) < 2 ^ 30 by omega), hqa]
        simp only [Option.bind_some, Option.toList_some, Option.toList_none, List.nil_append, List.cons_append, q_ck_tt, Bool.and_true, Bool.true_and, if_true, if_false, reduceCtorEq]
        rw [eX12_odds_6, qb_t, if_neg h10, eX12_odds_9, fX12_isBit, hqb]
        simp only [Option.bind_some, Option.toList_some, Option.toList_none, List.nil_append, List.cons_append, q_ck_tt, Bool.and_true, Bool.true_and, if_true, if_false, reduceCtorEq]
        rw [eX12_odds_15, qb_t, if_neg h10, eX12_odds_20, z2, hsb, hp1]
        simp only [Option.bind_some, Option.toList_some, Option.toList_none, List.nil_append, List.cons_append, q_ck_tt, Bool.and_true, Bool.true_and, if_true, if_false, reduceCtorEq]
        rw [eX12_odds_31, hp2]
        simp only [Option.bind_some, Option.toList_some, Option.toList_none, List.nil_append, List.cons_append, q_ck_tt, Bool.and_true, Bool.true_and, if_true, if_false, reduceCtorEq]
        rw [eX12_odds_38, hdv]
        simp only [Option.bind_some, Option.toList_some, Option.toList_none, List.nil_append, List.cons_append, q_ck_tt, Bool.and_true, Bool.true_and, if_true, if_false, reduceCtorEq]
        rw [eX12_odds_46]
        by_cases hb : b = 0
        · rw [if_pos hb, if_pos hb, eX12_odds_52, decide_eq_false hg0]
          simp only [Bool.not_false, Option.bind_some, Option.toList_some, Option.toList_none, List.nil_append, List.cons_append, q_ck_tt, Bool.and_true, Bool.true_and, if_true, if_false, reduceCtorEq]
          rw [eX12_odds_64]
        · rw [if_neg hb, if_neg hb, eX12_odds_59, decide_eq_false hg0]
          simp only [Bool.not_false, Option.bind_some, Option.toList_some, Option.toList_none, List.nil_append, List.cons_append, q_ck_tt, Bool.and_true, Bool.true_and, if_true, if_false, reduceCtorEq]
          rw [eX12_odds_64]
end OD
