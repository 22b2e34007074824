/-! ===== codes ===== -/
def qCs (N : Nat) : Nat := ([0, 2, 2, 3, 3, 3, 3] : List Nat).getD N 0
def qSt (k N : Nat) : Nat := if k = 0 then qCs N else if k = 1 then 2 * qCs N else N
theorem qCs_t : ∀ N, N < 7 → q_t3.getD N 0 = nI (qCs N) ∧ qCs N ≤ 3 ∧ (N = 0 ∨ 1 < qCs N) ∧ (N = 0 → qCs N = 0) := by decide +kernel
theorem qSt_6 {k N : Nat} (hN : N ≤ 6) : qSt k N ≤ 6 := by
  have := (qCs_t N (by omega)).2.1
  unfold qSt
  split
  · omega
  · split <;> omega
/-- a bit of a code: of a net, in a step -/
def qPb (k N v i : Nat) : Bool := if k = 2 then decide (i = v) else if i < qCs N then (v + 1).testBit i else !(v + 1).testBit (i - qCs N)
def qWb (s : Int32) (k N v i : Nat) : Bool := if s = 0 then false else if s = 1 then true else qPb k N v i
def qPa (sf : Nat → Int32) (k N i : Nat) : Int32 := qB N (fun v => qWb (sf v) k N v i)
def qWa (s : Int32) (k N v : Nat) : Int32 := qB (qSt k N) (fun i => qWb s k N v i)
theorem qao_t : ∀ N, N < 7 → ∀ s, s < 4 → s = 0 ∨ qAny N (fun n => decide (((nI n + 1) &&& (((1 : Int32) <<< (nI s &&& 31)) - 1)) = (((1 : Int32) <<< (nI s &&& 31)) - 1))) = decide (s < qCs N) := by decide +kernel
section CD
variable (I : Nat → Nat → Int32) (J : Nat → Nat → Int64) (e : QP)
theorem fX11_isKind (a : Int32) : mX11_isKind [.int a] (qm I J e) = some (some (.int (qb (q_in a 3))), qm I J e) := by
  rw [q_inP a (show (3 : Nat) < 2 ^ 30 by omega), show nI 3 = (3 : Int32) from rfl]
  simp only [bX11_isKind, eX11_isKind_0, eX11_isKind_13, eX11_isKind_4, eX11_isKind_14, eX11_isKind_9]
  by_cases h1 : a < 0 <;> by_cases h2 : a < 3 <;> simp [h1, h2, q_ck, qb]
theorem fX12_isKind (a : Int32) : mX12_isKind [.int a] (qm I J e) = some (some (.int (qb (q_in a 3))), qm I J e) := by
  simp only [bX12_isKind, eX12_isKind_0, eX12_isKind_6, show (2 : Int32) = nI 3 - 1 from rfl, fX12_isIn0 I J e a (show (3 : Nat) < 2 ^ 30 by omega), Option.bind_some, Option.toList_some, Option.toList_none, List.nil_append, List.cons_append, q_ck_tt, Bool.and_true, Bool.true_and, if_true, if_false, reduceCtorEq, qb_ck]
theorem fX11_isBit (a : Int32) : mX11_isBit [.int a] (qm I J e) = some (some (.int (qb (q_in a 2))), qm I J e) := by
  have h2 : q_in a 2 = (decide (a = 0) || decide (a = 1)) := by
    cases hq : q_in a 2 with
    | true =>
      obtain ⟨k, hk, rfl, -⟩ := q_in_of hq
      have : k = 0 ∨ k = 1 := by omega
      rcases this with rfl | rfl <;> decide
    | false =>
      by_cases h0 : a = 0
      · rw [h0] at hq; exact absurd hq (by decide)
      · by_cases h1 : a = 1
        · rw [h1] at hq; exact absurd hq (by decide)
        · rw [decide_eq_false h0, decide_eq_false h1]; rfl
  rw [h2]
  simp only [bX11_isBit, eX11_isBit_0, eX11_isBit_9, eX11_isBit_4, eX11_isBit_14, eX11_isBit_13]
  by_cases h1 : a = 0 <;> by_cases h2 : a = 1 <;> simp [h1, h2, q_ck, qb]
theorem fX12_isBit (a : Int32) : mX12_isIn [.int a, .int 0, .int 1] (qm I J e) = some (some (.int (qb (q_in a 2))), qm I J e) := fX12_isIn0 I J e a (show (2 : Nat) < 2 ^ 30 by omega)
theorem fX2_countSteps (hS : q_Sta I) {N : Nat} (hN : N ≤ 6) : mX2_countSteps [.int (nI N)] (qm I J e) = some (some (.int (nI (qCs N))), qm I J e) := by
  have h7 : nI N < (7 : Int32) := nI_lt (a := N) (b := 7) (by omega) (by decide)
  simp only [bX2_countSteps, eX2_countSteps_0, eX2_countSteps_20, eX2_countSteps_4, eX2_countSteps_21, eX2_countSteps_12, if_neg (nI_pos (show N < 2 ^ 31 by omega)), if_pos h7, q_in_nI (show N < 7 by omega) (by omega), nI_clamp (show N < 2 ^ 31 by omega), hS.2.2.2 N, (qCs_t N (by omega)).1, Option.bind_some, Option.toList_some, Option.toList_none, List.nil_append, List.cons_append, q_ck_tt, Bool.and_true, Bool.true_and, if_true, if_false, reduceCtorEq]
theorem fX2_stepCount (hS : q_Sta I) {N k : Nat} (hN : N ≤ 6) (hI : I 3 5 = nI N) (hk : k < 3) : mX2_stepCount [.ref 3, .int (nI k)] (qm I J e) = some (some (.int (nI (qSt k N))), qm I J e) := by
  have h3 : k = 0 ∨ k = 1 ∨ k = 2 := by omega
  rw [bX2_stepCount, eX2_stepCount_0, hI, fX2_countSteps I J e hS hN]
  simp only [Option.bind_some, Option.toList_some, Option.toList_none, List.nil_append, List.cons_append, q_ck_tt, Bool.and_true, Bool.true_and, if_true, if_false, reduceCtorEq]
  rcases h3 with rfl | rfl | rfl
  · rw [eX2_stepCount_7, if_pos (show nI 0 = (0 : Int32) from rfl), eX2_stepCount_12, eX2_stepCount_31]
    rfl
  · rw [eX2_stepCount_7, if_neg (show ¬ nI 1 = (0 : Int32) by decide), eX2_stepCount_16, if_pos (show nI 1 = (1 : Int32) from rfl), eX2_stepCount_21, eX2_stepCount_31, show (2 : Int32) = nI 2 from rfl, pk_mul]
    rfl
  · rw [eX2_stepCount_7, if_neg (show ¬ nI 2 = (0 : Int32) by decide), eX2_stepCount_16, if_neg (show ¬ nI 2 = (1 : Int32) by decide), eX2_stepCount_27, eX2_stepCount_31, hI]
    rfl
theorem fX12_hasAllOnes {N : Nat} (hN : N ≤ 6) (hI : I 64 51 = nI N) (s : Int32) : mX12_hasAllOnes [.ref 64, .int s] (qm I J e) = some (some (.int (qb (qAny N (fun n => decide (((nI n + 1) &&& (((1 : Int32) <<< (s &&& 31)) - 1)) = (((1 : Int32) <<< (s &&& 31)) - 1)))))), qm I J e) := by
  have hst : ∀ n, n < N → kX12_hasAllOnes 11 [some (.ref 64), none, some (.int (((1 : Int32) <<< (s &&& 31)) - 1)), some (.int (qb (qAny n (fun n => decide (((nI n + 1) &&& (((1 : Int32) <<< (s &&& 31)) - 1)) = (((1 : Int32) <<< (s &&& 31)) - 1)))))), some (.int (nI n))] [] (qm I J e) = kX12_hasAllOnes 11 [some (.ref 64), none, some (.int (((1 : Int32) <<< (s &&& 31)) - 1)), some (.int (qb (qAny (n + 1) (fun n => decide (((nI n + 1) &&& (((1 : Int32) <<< (s &&& 31)) - 1)) = (((1 : Int32) <<< (s &&& 31)) - 1)))))), some (.int (nI (n + 1)))] [] (qm I J e) := by
    intro n hn
    rw [eX12_hasAllOnes_11, hI, if_pos (nI_lt hn (by omega)), eX12_hasAllOnes_20]
    show _ = kX12_hasAllOnes 11 [some (.ref 64), none, some (.int (((1 : Int32) <<< (s &&& 31)) - 1)), some (.int (qb (qAny n (fun n => decide (((nI n + 1) &&& (((1 : Int32) <<< (s &&& 31)) - 1)) = (((1 : Int32) <<< (s &&& 31)) - 1))) || decide (((nI n + 1) &&& (((1 : Int32) <<< (s &&& 31)) - 1)) = (((1 : Int32) <<< (s &&& 31)) - 1))))), some (.int (nI (n + 1)))] [] (qm I J e)
    cases qAny n (fun n => decide (((nI n + 1) &&& (((1 : Int32) <<< (s &&& 31)) - 1)) = (((1 : Int32) <<< (s &&& 31)) - 1))) with
    | true => rw [if_neg (by decide), eX12_hasAllOnes_34, eX12_hasAllOnes_39, nI_1]; rfl
    | false =>
      rw [if_pos qb_f, eX12_hasAllOnes_24]
      by_cases h : ((nI n + 1) &&& (((1 : Int32) <<< (s &&& 31)) - 1)) = (((1 : Int32) <<< (s &&& 31)) - 1)
      · rw [if_pos h, eX12_hasAllOnes_34, eX12_hasAllOnes_39, decide_eq_true h, nI_1]; rfl
      · rw [if_neg h, eX12_hasAllOnes_38, eX12_hasAllOnes_39, decide_eq_false h, nI_1]; rfl
  have hf := q_for (fun n (y : Bool) => kX12_hasAllOnes 11 [some (.ref 64), none, some (.int (((1 : Int32) <<< (s &&& 31)) - 1)), some (.int (qb y)), some (.int (nI n))] [] (qm I J e)) N (fun k => qAny k (fun n => decide (((nI n + 1) &&& (((1 : Int32) <<< (s &&& 31)) - 1)) = (((1 : Int32) <<< (s &&& 31)) - 1)))) hst
  rw [bX12_hasAllOnes, eX12_hasAllOnes_0]
  refine Eq.trans hf ?_
  show kX12_hasAllOnes 11 _ _ _ = _
  rw [eX12_hasAllOnes_11, hI, if_neg (nI_nlt (Nat.le_refl _) (by omega)), eX12_hasAllOnes_46]
  simp only [Option.bind_some, Option.toList_some, Option.toList_none, List.nil_append, List.cons_append, q_ck_tt, Bool.and_true, Bool.true_and, if_true, if_false, reduceCtorEq, qb_ck]
theorem fX12_countSteps {N : Nat} (hN : N ≤ 6) (hI : I 64 51 = nI N) : mX12_countSteps [.ref 64] (qm I J e) = some (some (.int (nI (qCs N))), qm I J e) := by
  obtain ⟨-, h3, h1, h0⟩ := qCs_t N (by omega)
  have hao : ∀ s, 0 < s → s < 4 → mX12_hasAllOnes [.ref 64, .int (nI s)] (qm I J e) = some (some (.int (qb (decide (s < qCs N)))), qm I J e) := by
    intro s hs hs4
    rw [fX12_hasAllOnes I J e hN hI]
    rcases qao_t N (by omega) s hs4 with h | h
    · omega
    · rw [h]
  rw [bX12_countSteps, eX12_countSteps_0]
  rcases h1 with h1 | h1
  · subst h1
    rw [show (1 : Int32) = nI 1 from rfl, eX12_countSteps_2, hao 1 (by omega) (by omega)]
    simp only [Option.bind_some, Option.toList_some, Option.toList_none, List.nil_append, List.cons_append, q_ck_tt, Bool.and_true, Bool.true_and, if_true, if_false, reduceCtorEq]
    rw [eX12_countSteps_7, if_pos (by decide), eX12_countSteps_16, hI, if_pos (show nI 0 = (0 : Int32) from rfl), eX12_countSteps_23, eX12_countSteps_28]
    rfl
  · have hst : ∀ s, 1 ≤ s → s < qCs N → (fun s (_ : Unit) => kX12_countSteps 2 [some (.ref 64), some (.int (nI s))] [] (qm I J e)) s () = (fun s (_ : Unit) => kX12_countSteps 2 [some (.ref 64), some (.int (nI s))] [] (qm I J e)) (s + 1) () := by
      intro s h1 h2
      show kX12_countSteps 2 _ _ _ = kX12_countSteps 2 _ _ _
      rw [eX12_countSteps_2, hao s (by omega) (by omega), decide_eq_true h2]
      simp only [Option.bind_some, Option.toList_some, Option.toList_none, List.nil_append, List.cons_append, q_ck_tt, Bool.and_true, Bool.true_and, if_true, if_false, reduceCtorEq]
      rw [eX12_countSteps_7, if_neg (by decide), eX12_countSteps_10, nI_1]
    have hf := q_forM (fun s (_ : Unit) => kX12_countSteps 2 [some (.ref 64), some (.int (nI s))] [] (qm I J e)) 1 (qCs N) (by omega) (fun _ => ()) hst
    refine Eq.trans hf ?_
    show kX12_countSteps 2 _ _ _ = _
    have hne : N ≠ 0 := fun c => by have := h0 c; omega
    rw [eX12_countSteps_2, hao (qCs N) (by omega) (by omega), decide_eq_false (Nat.lt_irrefl _)]
    simp only [Option.bind_some, Option.toList_some, Option.toList_none, List.nil_append, List.cons_append, q_ck_tt, Bool.and_true, Bool.true_and, if_true, if_false, reduceCtorEq]
    rw [eX12_countSteps_7, if_pos qb_f, eX12_countSteps_16, hI, if_neg (nI_ne0 (by omega) (by omega)), eX12_countSteps_27, eX12_countSteps_28]
theorem fX12_stepsOf {N k : Nat} (hN : N ≤ 6) (hI : I 64 51 = nI N) (hk : k < 3) : mX12_stepsOf [.ref 64, .int (nI k)] (qm I J e) = some (some (.int (nI (qSt k N))), qm I J e) := by
  have h3 : k = 0 ∨ k = 1 ∨ k = 2 := by omega
  rw [bX12_stepsOf, eX12_stepsOf_0]
  rcases h3 with rfl | rfl | rfl
  · rw [if_pos (show nI 0 = (0 : Int32) from rfl), eX12_stepsOf_4, fX12_countSteps I J e hN hI]
    simp only [Option.bind_some, Option.toList_some, Option.toList_none, List.nil_append, List.cons_append, q_ck_tt, Bool.and_true, Bool.true_and, if_true, if_false, reduceCtorEq]
    rw [eX12_stepsOf_8, eX12_stepsOf_29]
    rfl
  · rw [if_neg (show ¬ nI 1 = (0 : Int32) by decide), eX12_stepsOf_11, if_pos (show nI 1 = (1 : Int32) from rfl), eX12_stepsOf_16, fX12_countSteps I J e hN hI]
    simp only [Option.bind_some, Option.toList_some, Option.toList_none, List.nil_append, List.cons_append, q_ck_tt, Bool.and_true, Bool.true_and, if_true, if_false, reduceCtorEq]
    rw [eX12_stepsOf_21, eX12_stepsOf_29, show (2 : Int32) = nI 2 from rfl, pk_mul]
    rfl
  · rw [if_neg (show ¬ nI 2 = (0 : Int32) by decide), eX12_stepsOf_11, if_neg (show ¬ nI 2 = (1 : Int32) by decide), eX12_stepsOf_25, eX12_stepsOf_29, hI]
    rfl
theorem fX2_counted {N i : Nat} (hN : N ≤ 6) (hi : i < 32) : mX2_counted [.int (nI N), .int (nI i)] (qm I J e) = some (some (.int (qB N (fun v => (v + 1).testBit i))), qm I J e) := by
  have hst : ∀ v, v < N → kX2_counted 4 [some (.int (nI N)), some (.int (nI i)), some (.int (qB v (fun v => (v + 1).testBit i))), some (.int (nI v))] [] (qm I J e) = kX2_counted 4 [some (.int (nI N)), some (.int (nI i)), some (.int (qB (v + 1) (fun v => (v + 1).testBit i))), some (.int (nI (v + 1)))] [] (qm I J e) := by
    intro v hv
    rw [eX2_counted_4, if_pos (nI_lt hv (by omega)), eX2_counted_9, nI_1, b_tst _ hi, q_tbI hi, qb_shl _ (by omega), qB_succ]
  have hf := q_for (fun v (y : Int32) => kX2_counted 4 [some (.int (nI N)), some (.int (nI i)), some (.int y), some (.int (nI v))] [] (qm I J e)) N (fun k => qB k (fun v => (v + 1).testBit i)) hst
  rw [bX2_counted, eX2_counted_0]
  refine Eq.trans hf ?_
  show kX2_counted 4 _ _ _ = _
  rw [eX2_counted_4, if_neg (nI_nlt (Nat.le_refl _) (by omega)), eX2_counted_27]
end CD
