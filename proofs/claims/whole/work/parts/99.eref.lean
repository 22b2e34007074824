/-! ===== the reference's tokens ===== -/
/-- the text as the reference has it -/
def q_Tf (R : Nat → Nat → Int32) (v : Nat → Nat) (n : Nat) : Prop := n ≤ 1600 ∧ R 64 5 = nI n ∧ ∀ k, k < n → v k < 256 ∧ R 65 k = nI (v k)
theorem q_Tf_up {R : Nat → Nat → Int32} {v : Nat → Nat} {n k : Nat} {x : Int32} (h : q_Tf R v n) (hk : k ≠ 5) : q_Tf (q_up R 64 k x) v n := by
  obtain ⟨h1, h2, h3⟩ := h
  refine ⟨h1, ?_, ?_⟩
  · rw [q_up_at2 _ _ (fun e => hk e.symm)]; exact h2
  · rw [q_up_at3 _ _ (by decide)]; exact h3
def qhv (v : Nat → Nat) (n q : Nat) : Int32 := if q < n then nI (v q) else -1
theorem fX12_here {R : Nat → Nat → Int32} {K : Nat → Nat → Int64} {e : QP} {v : Nat → Nat} {n p k : Nat} (hT : q_Tf R v n) (hp : R 64 4 = nI p) (hk : p + k ≤ 2000000) : mX12_here [.ref 64, .int (nI k)] (qm R K e) = some (some (.int (qhv v n (p + k))), qm R K e) := by
  have hn := hT.1
  unfold qhv
  rw [bX12_here, eX12_here_0, hp, hT.2.1, nI_add]
  by_cases h : p + k < n
  · obtain ⟨hv, h2⟩ := hT.2.2 _ h
    rw [if_pos (nI_lt h (by omega)), eX12_here_13, hp, nI_add, q_in_nI (by omega) (by omega), nI_n (by omega), h2, Bool.true_and, q_ck_tt, eX12_here_28, if_pos h]
  · rw [if_neg (nI_nlt (by omega) (by omega)), eX12_here_27, eX12_here_28, if_neg h]
theorem fX12_isLetterg (R : Nat → Nat → Int32) (K : Nat → Nat → Int64) (e : QP) (a : Int32) : mX12_isLetter [.int a] (qm R K e) = some (some (.int (qb (!decide (a < 97) && !decide ((122 : Int32) < a)))), qm R K e) := by
  rw [bX12_isLetter, eX12_isLetter_0]
  by_cases h : a < 97
  · rw [if_pos h, eX12_isLetter_16, eX12_isLetter_17, decide_eq_true h]; rfl
  · rw [if_neg h, eX12_isLetter_6, decide_eq_false h]
    by_cases g : (122 : Int32) < a
    · rw [if_pos g, eX12_isLetter_16, eX12_isLetter_17, decide_eq_true g]; rfl
    · rw [if_neg g, eX12_isLetter_12, eX12_isLetter_17, decide_eq_false g]; rfl
theorem fX12_isDigitg (R : Nat → Nat → Int32) (K : Nat → Nat → Int64) (e : QP) (a : Int32) : mX12_isDigit [.int a] (qm R K e) = some (some (.int (qb (!decide (a < 48) && !decide ((57 : Int32) < a)))), qm R K e) := by
  rw [bX12_isDigit, eX12_isDigit_0]
  by_cases h : a < 48
  · rw [if_pos h, eX12_isDigit_16, eX12_isDigit_17, decide_eq_true h]; rfl
  · rw [if_neg h, eX12_isDigit_6, decide_eq_false h]
    by_cases g : (57 : Int32) < a
    · rw [if_pos g, eX12_isDigit_16, eX12_isDigit_17, decide_eq_true g]; rfl
    · rw [if_neg g, eX12_isDigit_12, eX12_isDigit_17, decide_eq_false g]; rfl
theorem fX12_isLetterh {R : Nat → Nat → Int32} {K : Nat → Nat → Int64} {e : QP} {v : Nat → Nat} {n q : Nat} (hv : q < n → v q < 256) : mX12_isLetter [.int (qhv v n q)] (qm R K e) = some (some (.int (qb (decide (q < n) && qLe (v q)))), qm R K e) := by
  rw [fX12_isLetterg]
  unfold qhv
  by_cases h : q < n
  · rw [if_pos h, (q_by_t _ (hv h)).2.2.2.2.2.2.1, decide_eq_true h, Bool.true_and]
  · rw [if_neg h, decide_eq_false h, Bool.false_and]; rfl
theorem fX12_isDigith {R : Nat → Nat → Int32} {K : Nat → Nat → Int64} {e : QP} {v : Nat → Nat} {n q : Nat} (hv : q < n → v q < 256) : mX12_isDigit [.int (qhv v n q)] (qm R K e) = some (some (.int (qb (decide (q < n) && qDi (v q)))), qm R K e) := by
  rw [fX12_isDigitg]
  unfold qhv
  by_cases h : q < n
  · rw [if_pos h, (q_by_t _ (hv h)).2.2.2.2.2.2.2.1, decide_eq_true h, Bool.true_and]
  · rw [if_neg h, decide_eq_false h, Bool.false_and]; rfl
def qss (a : Int32) : Bool := decide (a = 59) || (decide (a = 40) || (decide (a = 41) || (decide (a = 60) || (decide (a = 62) || (decide (a = 61) || (decide (a = 43) || (decide (a = 45) || (decide (a = 42) || (decide (a = 47) || decide (a = 37))))))))))
theorem q_ss : ∀ v, v < 256 → qss (nI v) = qSn v := by decide +kernel
theorem fX12_isSign (R : Nat → Nat → Int32) (K : Nat → Nat → Int64) (e : QP) (a : Int32) : mX12_isSign [.int a] (qm R K e) = some (some (.int (qb (qss a))), qm R K e) := by
  have h1 : kX12_isSign 66 [none] [] (qm R K e) = some (some (.int (qb true)), qm R K e) := by rw [eX12_isSign_66, eX12_isSign_71]; rfl
  have h0 : kX12_isSign 70 [none] [] (qm R K e) = some (some (.int (qb false)), qm R K e) := by rw [eX12_isSign_70, eX12_isSign_71]; rfl
  have hor : ∀ (c : Prop) [Decidable c] (b : Bool) (x : Option QR), x = some (some (.int (qb b)), qm R K e) → (if c then kX12_isSign 66 [none] [] (qm R K e) else x) = some (some (.int (qb (decide c || b))), qm R K e) := by
    intro c _ b x hx
    by_cases g : c
    · rw [if_pos g, h1, decide_eq_true g, Bool.true_or]
    · rw [if_neg g, hx, decide_eq_false g, Bool.false_or]
  unfold qss
  rw [bX12_isSign, eX12_isSign_0]
  refine hor _ _ _ ?_
  rw [eX12_isSign_6]
  refine hor _ _ _ ?_
  rw [eX12_isSign_12]
  refine hor _ _ _ ?_
  rw [eX12_isSign_18]
  refine hor _ _ _ ?_
  rw [eX12_isSign_24]
  refine hor _ _ _ ?_
  rw [eX12_isSign_30]
  refine hor _ _ _ ?_
  rw [eX12_isSign_36]
  refine hor _ _ _ ?_
  rw [eX12_isSign_42]
  refine hor _ _ _ ?_
  rw [eX12_isSign_48]
  refine hor _ _ _ ?_
  rw [eX12_isSign_54]
  refine hor _ _ _ ?_
  rw [eX12_isSign_60]
  by_cases g : a = 37
  · rw [if_pos g, h1, decide_eq_true g]
  · rw [if_neg g, h0, decide_eq_false g]
theorem q_tok_skip {K : Nat → Nat → Int64} {e : QP} {v : Nat → Nat} {n : Nat} : ∀ (f p : Nat) (R : Nat → Nat → Int32), q_Tf R v n → R 64 4 = nI p → p + f = n → kX12_token 0 [some (.ref 64), none, none] [] (qm R K e) = kX12_token 33 [some (.ref 64), none, none] [] (qm (q_up R 64 4 (nI (qre (fun k => qBk (v k)) f p))) K e) := by
  intro f
  induction f with
  | zero =>
    intro p R hT hp hf
    have hn := hT.1
    have hh := fX12_here (K := K) (e := e) (k := 0) hT hp (by omega)
    replace hh : mX12_here [.ref 64, .int 0] (qm R K e) = some (some (.int (-1)), qm R K e) := by
      refine Eq.trans hh ?_
      unfold qhv
      rw [if_neg (by omega)]
    rw [eX12_token_0, hh]
    simp only [Option.bind_some, Option.toList_some, Option.toList_none, List.nil_append, List.cons_append, q_ck_tt, Bool.and_true, Bool.true_and, if_true, if_false, reduceCtorEq]
    rw [eX12_token_5]
    rw [if_neg (by decide), eX12_token_10, hh]
    simp only [Option.bind_some, Option.toList_some, Option.toList_none, List.nil_append, List.cons_append, q_ck_tt, Bool.and_true, Bool.true_and, if_true, if_false, reduceCtorEq]
    rw [eX12_token_15]
    rw [if_neg (by decide), show qre (fun k => qBk (v k)) 0 p = p from rfl, q_up_eq hp]
  | succ f ih =>
    intro p R hT hp hf
    have hn := hT.1
    obtain ⟨hv, h2⟩ := hT.2.2 p (by omega)
    have hh := fX12_here (K := K) (e := e) (k := 0) hT hp (by omega)
    replace hh : mX12_here [.ref 64, .int 0] (qm R K e) = some (some (.int (nI (v p))), qm R K e) := by
      refine Eq.trans hh ?_
      unfold qhv
      rw [if_pos (by omega)]
      rfl
    have hnext : kX12_token 20 [some (.ref 64), none, none] [] (qm R K e) = kX12_token 33 [some (.ref 64), none, none] [] (qm (q_up R 64 4 (nI (qre (fun k => qBk (v k)) f (p + 1)))) K e) := by
      rw [eX12_token_20, hp, show nI p + 1 = nI (p + 1) from nI_add p 1, ih (p + 1) (q_up R 64 4 (nI (p + 1))) (q_Tf_up hT (by decide)) (q_up_at1 _ _ _ _) (by omega), q_up_2]
    have h32 : nI (v p) = 32 ↔ v p = 32 := decide_eq_decide.mp (q_by_t _ hv).2.2.2.2.1
    have h10 : nI (v p) = 10 ↔ v p = 10 := decide_eq_decide.mp (q_by_t _ hv).2.2.2.2.2.1
    rw [eX12_token_0, hh]
    simp only [Option.bind_some, Option.toList_some, Option.toList_none, List.nil_append, List.cons_append, q_ck_tt, Bool.and_true, Bool.true_and, if_true, if_false, reduceCtorEq]
    rw [eX12_token_5]
    by_cases g32 : v p = 32
    · rw [if_pos (h32.mpr g32), hnext]
      rw [qre_s, if_pos (by unfold qBk; rw [g32]; rfl)]
    · rw [if_neg (fun g => g32 (h32.mp g)), eX12_token_10, hh]
      simp only [Option.bind_some, Option.toList_some, Option.toList_none, List.nil_append, List.cons_append, q_ck_tt, Bool.and_true, Bool.true_and, if_true, if_false, reduceCtorEq]
      rw [eX12_token_15]
      by_cases g10 : v p = 10
      · rw [if_pos (h10.mpr g10), hnext]
        rw [qre_s, if_pos (by unfold qBk; rw [g10]; rfl)]
      · rw [if_neg (fun g => g10 (h10.mp g))]
        rw [qre_s, if_neg (by unfold qBk; simp [g32, g10]), q_up_eq hp]
