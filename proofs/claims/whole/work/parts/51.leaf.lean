/-! ===== small methods ===== -/
theorem q_ck_b (b : Bool) {α : Type} (x : Option α) : q_ck ((decide (qb b = 0) || decide (qb b = 1)) && true) x = x := by rw [qb_ck]; rfl
theorem q_inP (a : Int32) {N : Nat} (hN : N < 2 ^ 30) : q_in a N = (!decide (a < 0) && decide (a < nI N)) := by
  unfold q_in
  by_cases h : a < 0
  · rw [decide_eq_true h]; rfl
  · rw [decide_eq_false h]
    obtain ⟨j, hj, rfl⟩ := nI_of h
    rw [nI_clamp hj]
    congr 1
    by_cases g : j < N
    · rw [decide_eq_true g, decide_eq_true (nI_lt g (by omega))]
    · rw [decide_eq_false g, decide_eq_false (nI_nlt (by omega) hj)]
theorem q_in_of {a : Int32} {N : Nat} (h : q_in a N = true) : ∃ k, k < N ∧ a = nI k ∧ k < 2 ^ 31 := by
  unfold q_in at h
  rw [Bool.and_eq_true] at h
  have h1 : ¬ a < 0 := by simpa using h.1
  obtain ⟨j, hj, rfl⟩ := nI_of h1
  rw [nI_clamp hj] at h
  exact ⟨j, of_decide_eq_true h.2, rfl, hj⟩
theorem nI_m1 {N : Nat} (a : Int32) (hN : N < 2 ^ 30) (ha : ¬ a < 0) : (nI N - 1 < a) ↔ ¬ (a < nI N) := by
  obtain ⟨j, hj, rfl⟩ := nI_of ha
  rw [nI_ltI hj (by omega)]
  cases N with
  | zero =>
    constructor
    · intro _; omega
    · intro _
      rw [fa_lt, nI_toInt hj]
      have : (nI 0 - 1).toInt = -1 := by decide
      rw [this]; omega
  | succ N => rw [nI_pred, nI_ltI (by omega) hj]; omega
section LF
variable (I : Nat → Nat → Int32) (J : Nat → Nat → Int64) (e : QP)
theorem fX12_isIn (a b c : Int32) : mX12_isIn [.int a, .int b, .int c] (qm I J e) = some (some (.int (qb (!decide (a < b) && !decide (c < a)))), qm I J e) := by
  rw [bX12_isIn, eX12_isIn_0]
  by_cases h1 : a < b
  · rw [if_pos h1, decide_eq_true h1, eX12_isIn_14, eX12_isIn_15]; rfl
  · rw [if_neg h1, decide_eq_false h1, eX12_isIn_5]
    by_cases h2 : c < a
    · rw [if_pos h2, decide_eq_true h2, eX12_isIn_14, eX12_isIn_15]; rfl
    · rw [if_neg h2, decide_eq_false h2, eX12_isIn_10, eX12_isIn_15]; rfl
theorem fX12_isIn0 (a : Int32) {N : Nat} (hN : N < 2 ^ 30) : mX12_isIn [.int a, .int 0, .int (nI N - 1)] (qm I J e) = some (some (.int (qb (q_in a N))), qm I J e) := by
  rw [fX12_isIn, q_inP a hN]
  congr 4
  by_cases h : a < 0
  · rw [decide_eq_true h]; rfl
  · rw [decide_eq_false h]
    have := nI_m1 (N := N) a hN h
    by_cases g : a < nI N
    · rw [decide_eq_true g, decide_eq_false (fun x => this.mp x g)]; rfl
    · rw [decide_eq_false g, decide_eq_true (this.mpr g)]; rfl
theorem fX12_truth (b : Bool) : mX12_truth [.int (qb b)] (qm I J e) = some (some (.int (qb b)), qm I J e) := by
  simp only [bX12_truth, eX12_truth_0, eX12_truth_8, eX12_truth_4, eX12_truth_9]
  cases b <;> rfl
theorem fX12_greater (a b : Int32) : mX12_greater [.int a, .int b] (qm I J e) = some (some (.int (if b < a then a else b)), qm I J e) := by
  simp only [bX12_greater, eX12_greater_0, eX12_greater_5, eX12_greater_9, eX12_greater_10]
  split <;> rfl
theorem fX12_has (s : Int32) {k : Nat} (hk : k < 32) : mX12_has [.int s, .int (nI k)] (qm I J e) = some (some (.int (qb (bt s k))), qm I J e) := by
  rw [bX12_has, eX12_has_0]
  cases h : bt s k with
  | true => rw [if_pos ((b_tst1 s hk).mpr h), eX12_has_9, eX12_has_14]; rfl
  | false => rw [if_neg (fun g => by rw [(b_tst1 s hk).mp g] at h; cases h), eX12_has_13, eX12_has_14]; rfl
theorem fX12_two {a b : Nat} (ha : a < 6) (hb : b < 6) : mX12_two [.int (nI a), .int (nI b)] (qm I J e) = some (some (.int (nI (if a < b then 6 * a + b else 6 * b + a))), qm I J e) := by
  rw [bX12_two, eX12_two_0]
  by_cases h : a < b
  · rw [if_pos (nI_lt h (by omega)), if_pos h, eX12_two_5, eX12_two_20, show (6 : Int32) = nI 6 from rfl, pk_mul, nI_add]
  · rw [if_neg (nI_nlt (by omega) (by omega)), if_neg h, eX12_two_14, eX12_two_20, show (6 : Int32) = nI 6 from rfl, pk_mul, nI_add]
/-- the place of two nets among the shorts -/
def qtw (a b : Nat) : Nat := if a < b then 6 * a + b else 6 * b + a
theorem qtw_lt {a b : Nat} (ha : a < 6) (hb : b < 6) : qtw a b < 36 := by unfold qtw; split <;> omega
theorem qtw_sym (a b : Nat) : qtw a b = qtw b a := by
  unfold qtw
  by_cases h : a < b
  · rw [if_pos h, if_neg (by omega)]
  · by_cases g : b < a
    · rw [if_neg h, if_pos g]
    · have : a = b := by omega
      subst this; rfl
/-- what is short between two nets: 0 nothing -/
def qsh (f : Nat → Int32) (a b : Nat) : Int32 := if a = b then 0 else f (29 + qtw a b)
theorem fX12_shortOf {a b : Nat} (ha : a < 6) (hb : b < 6) : mX12_shortOf [.ref 64, .int (nI a), .int (nI b)] (qm I J e) = some (some (.int (qsh (I 94) a b)), qm I J e) := by
  rw [bX12_shortOf, eX12_shortOf_0]
  unfold qsh
  by_cases h : a = b
  · rw [if_pos (by rw [h]), if_pos h, eX12_shortOf_5, eX12_shortOf_22]
  · rw [if_neg (fun g => h (nI_inj (by omega) (by omega) g)), if_neg h, eX12_shortOf_9, fX12_two I J e ha hb]
    have hq := qtw_lt ha hb
    show kX12_shortOf 20 _ [.int (nI (qtw a b)), .int 29, .ref 94] (qm I J e) = _
    rw [eX12_shortOf_20, show (29 : Int32) = nI 29 from rfl, nI_add, q_in_nI (by omega) (by omega), nI_clamp (by omega)]
    rw [show (true && true) = true from rfl, q_ck_tt, eX12_shortOf_22]
end LF
