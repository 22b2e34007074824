/-! ===== the formula: the reference's helpers ===== -/
def qti (x : Int32) : Nat := if x = 21 then 3 else if x = 38 then 2 else if x = 43 then 5 else if x = 45 then 5 else if x = 60 then 4 else if x = 61 then 4 else if x = 62 then 4 else if x = 124 then 1 else 6
theorem qti_le (x : Int32) : 1 ≤ qti x ∧ qti x ≤ 6 := by
  unfold qti
  repeat (first | omega | split)
theorem fX12_tight (R : Nat → Nat → Int32) (K : Nat → Nat → Int64) (e : QP) (x : Int32) : mX12_tight [.int x] (qm R K e) = some (some (.int (nI (qti x))), qm R K e) := by
  rw [bX12_tight, eX12_tight_0]
  unfold qti
  by_cases h1 : x = 21
  · rw [if_pos h1, if_pos h1, eX12_tight_80]; rfl
  rw [if_neg h1, if_neg h1]
  by_cases h2 : x = 38
  · rw [if_pos h2, if_pos h2, eX12_tight_78]; rfl
  rw [if_neg h2, if_neg h2]
  by_cases h3 : x = 43
  · rw [if_pos h3, if_pos h3, eX12_tight_84]; rfl
  rw [if_neg h3, if_neg h3]
  by_cases h4 : x = 45
  · rw [if_pos h4, if_pos h4, eX12_tight_84]; rfl
  rw [if_neg h4, if_neg h4]
  by_cases h5 : x = 60
  · rw [if_pos h5, if_pos h5, eX12_tight_82]; rfl
  rw [if_neg h5, if_neg h5]
  by_cases h6 : x = 61
  · rw [if_pos h6, if_pos h6, eX12_tight_82]; rfl
  rw [if_neg h6, if_neg h6]
  by_cases h7 : x = 62
  · rw [if_pos h7, if_pos h7, eX12_tight_82]; rfl
  rw [if_neg h7, if_neg h7]
  by_cases h8 : x = 124
  · rw [if_pos h8, if_pos h8, eX12_tight_76]; rfl
  rw [if_neg h8, if_neg h8, eX12_tight_86]; rfl
/-- the sign that stands at the token -/
def qs8 (y : Int32) : Int32 := if y = 60 then y else if y = 62 then y else if y = 61 then y else if y = 43 then y else if y = 45 then y else if y = 42 then y else if y = 47 then y else if y = 37 then y else 0
def qsg (c x : Int32) : Int32 := if c = 2 then (if x = 6 then 38 else if x = 17 then 124 else 0) else if c = 5 then qs8 x else 0
theorem fX12_sign26 (R : Nat → Nat → Int32) (K : Nat → Nat → Int64) (e : QP) : kX12_sign 26 [some (.ref 64)] [] (qm R K e) = some (some (.int (qs8 (R 64 6))), qm R K e) := by
  have h98 : kX12_sign 98 [some (.ref 64)] [] (qm R K e) = some (some (.int (R 64 6)), qm R K e) := by rw [eX12_sign_98, eX12_sign_106]
  unfold qs8
  rw [eX12_sign_26]
  by_cases h1 : R 64 6 = 60
  · rw [if_pos h1, if_pos h1, h98]
  rw [if_neg h1, if_neg h1, eX12_sign_35]
  by_cases h2 : R 64 6 = 62
  · rw [if_pos h2, if_pos h2, h98]
  rw [if_neg h2, if_neg h2, eX12_sign_44]
  by_cases h3 : R 64 6 = 61
  · rw [if_pos h3, if_pos h3, h98]
  rw [if_neg h3, if_neg h3, eX12_sign_53]
  by_cases h4 : R 64 6 = 43
  · rw [if_pos h4, if_pos h4, h98]
  rw [if_neg h4, if_neg h4, eX12_sign_62]
  by_cases h5 : R 64 6 = 45
  · rw [if_pos h5, if_pos h5, h98]
  rw [if_neg h5, if_neg h5, eX12_sign_71]
  by_cases h6 : R 64 6 = 42
  · rw [if_pos h6, if_pos h6, h98]
  rw [if_neg h6, if_neg h6, eX12_sign_80]
  by_cases h7 : R 64 6 = 47
  · rw [if_pos h7, if_pos h7, h98]
  rw [if_neg h7, if_neg h7, eX12_sign_89]
  by_cases h8 : R 64 6 = 37
  · rw [if_pos h8, if_pos h8, h98]
  rw [if_neg h8, if_neg h8, eX12_sign_105, eX12_sign_106]
theorem fX12_sign {v : Nat → Nat} {n s : Nat} {C : Nat → Nat → Int32} {J : Nat → Nat → Int64} {R : Nat → Nat → Int32} {K : Nat → Nat → Int64} (e : QP) (h : q_Pt v n C J R K s) : mX12_sign [.ref 64] (qm R K e) = some (some (.int (qsg (C 31 5) (C 31 6))), qm R K e) := by
  have h6 := h.key (k := 6) (by decide)
  rw [show qKW 6 = 6385252 by decide +kernel, show nI 6 = (6 : Int32) from rfl] at h6
  have h17 := h.key (k := 17) (by decide)
  rw [show qKW 17 = 28530 by decide +kernel, show nI 17 = (17 : Int32) from rfl] at h17
  rw [bX12_sign, eX12_sign_0, fX12_isWord, h6]
  simp only [Option.bind_some, Option.toList_some, Option.toList_none, List.nil_append, List.cons_append, q_ck_tt, Bool.and_true, Bool.true_and, if_true, if_false, reduceCtorEq]
  cases hb : (decide (C 31 5 = 2) && decide (C 31 6 = 6)) with
  | true =>
    have hb' : C 31 5 = 2 ∧ C 31 6 = 6 := by simpa using hb
    rw [eX12_sign_7, if_neg (by decide), eX12_sign_10]
    unfold qsg
    rw [if_pos hb'.1, if_pos hb'.2]
  | false =>
    rw [eX12_sign_7, if_pos (by rfl), eX12_sign_13, fX12_isWord, h17]
    simp only [Option.bind_some, Option.toList_some, Option.toList_none, List.nil_append, List.cons_append, q_ck_tt, Bool.and_true, Bool.true_and, if_true, if_false, reduceCtorEq]
    cases hb2 : (decide (C 31 5 = 2) && decide (C 31 6 = 17)) with
    | true =>
      have hb' : C 31 5 = 2 ∧ C 31 6 = 17 := by simpa using hb2
      rw [eX12_sign_20, if_neg (by decide), eX12_sign_23]
      unfold qsg
      rw [if_pos hb'.1, hb'.2, if_neg (by decide), if_pos rfl]
    | false =>
      rw [eX12_sign_20, if_pos (by rfl), fX12_sign26]
      have hq : qs8 (R 64 6) = qsg (C 31 5) (C 31 6) := by
        unfold qsg
        rcases h.tk with ⟨a, b⟩ | ⟨a, b⟩ | ⟨a, b, _⟩ | ⟨a, b, _⟩ | ⟨a, b, _⟩ | ⟨a, m, m1, m2, c, b⟩
        · rw [a, b]; rfl
        · rw [a, b]; rfl
        · rw [a] at hb hb2 ⊢
          have g1 : ¬ C 31 6 = 6 := by simpa using hb
          have g2 : ¬ C 31 6 = 17 := by simpa using hb2
          rw [b, if_pos rfl, if_neg g1, if_neg g2]; rfl
        · rw [a, b]; rfl
        · rw [a, b]; rfl
        · rw [a, b, c]; rfl
      rw [hq]
theorem q_s8 : ∀ m, m < 256 → qSn m = true → qs8 (nI m) = 0 ∨ (qs8 (nI m) = nI m ∧ (nI m = 60 ∨ nI m = 62 ∨ nI m = 61 ∨ nI m = 43 ∨ nI m = 45 ∨ nI m = 42 ∨ nI m = 47 ∨ nI m = 37)) := by decide +kernel
/-- which signs there are -/
theorem q_sgc {v : Nat → Nat} {n s : Nat} {C : Nat → Nat → Int32} {J : Nat → Nat → Int64} {R : Nat → Nat → Int32} {K : Nat → Nat → Int64} (h : q_Pt v n C J R K s) : qsg (C 31 5) (C 31 6) = 0 ∨ (qsg (C 31 5) (C 31 6) = 38 ∧ C 31 5 = 2 ∧ C 31 6 = 6) ∨ (qsg (C 31 5) (C 31 6) = 124 ∧ C 31 5 = 2 ∧ C 31 6 = 17) ∨ (C 31 5 = 5 ∧ qsg (C 31 5) (C 31 6) = C 31 6 ∧ (C 31 6 = 60 ∨ C 31 6 = 62 ∨ C 31 6 = 61 ∨ C 31 6 = 43 ∨ C 31 6 = 45 ∨ C 31 6 = 42 ∨ C 31 6 = 47 ∨ C 31 6 = 37)) := by
  unfold qsg
  rcases h.tk with ⟨a, b⟩ | ⟨a, b⟩ | ⟨a, b, _⟩ | ⟨a, b, _⟩ | ⟨a, b, _⟩ | ⟨a, m, m1, m2, c, b⟩
  · rw [a]; exact Or.inl rfl
  · rw [a]; exact Or.inl rfl
  · rw [a, if_pos rfl]
    by_cases g1 : C 31 6 = 6
    · rw [if_pos g1]; exact Or.inr (Or.inl ⟨rfl, rfl, g1⟩)
    · rw [if_neg g1]
      by_cases g2 : C 31 6 = 17
      · rw [if_pos g2]; exact Or.inr (Or.inr (Or.inl ⟨rfl, rfl, g2⟩))
      · rw [if_neg g2]; exact Or.inl rfl
  · rw [a]; exact Or.inl rfl
  · rw [a]; exact Or.inl rfl
  · rw [a, c, if_neg (by decide), if_pos rfl]
    rcases q_s8 m m1 m2 with g | ⟨g, g2⟩
    · exact Or.inl g
    · exact Or.inr (Or.inr (Or.inr ⟨rfl, g, g2⟩))
theorem fX12_add {R : Nat → Nat → Int32} (K : Nat → Nat → Int64) (e : QP) {r : Nat} (h : R 64 17 = nI r) (hr : r < 320) (a b : Int32) : mX12_add [.ref 64, .int a, .int b] (qm R K e) = some (none, qm (q_up (q_up (q_up R 67 r a) 68 r b) 64 17 (nI (r + 1))) K e) := by
  rw [bX12_add, eX12_add_0, h, q_in_nI (by omega) (by omega), nI_n (by omega)]
  simp only [Option.bind_some, Option.toList_some, Option.toList_none, List.nil_append, List.cons_append, q_ck_tt, Bool.and_true, Bool.true_and, if_true, if_false, reduceCtorEq]
  rw [eX12_add_22, q_up_at3 _ _ (show (64 : Nat) ≠ 68 by decide), q_up_at3 _ _ (show (64 : Nat) ≠ 67 by decide), h, show nI r + 1 = nI (r + 1) from nI_add r 1]
/-- nots in a stack; where closing stops -/
def qnts : List Int32 → Nat
  | [] => 0
  | x :: l => (if x = 21 then 1 else 0) + qnts l
theorem qnts_app (l m : List Int32) : qnts (l ++ m) = qnts l + qnts m := by
  induction l with
  | nil => show qnts m = 0 + qnts m; omega
  | cons x l ih => show (if x = 21 then 1 else 0) + qnts (l ++ m) = (if x = 21 then 1 else 0) + qnts l + qnts m; omega
def q_Top (S : List Int32) (t : Nat) : Prop := S = [] ∨ ∃ x S1, S = x :: S1 ∧ (x = 20 ∨ qti x < t)
/-- what a closed sign becomes -/
def qe1 (x : Int32) : Int32 := if x = 21 then 2 else 3
def qe2 (x : Int32) : Int32 := if x = 21 then 0 else x
theorem q_close (K : Nat → Nat → Int64) (e : QP) (t : Nat) {S : List Int32} (hS : q_Top S t) (ht : t ≤ 6) : ∀ (P : List Int32) (R : Nat → Nat → Int32) (r w : Nat), q_Sk (R 71) (P ++ S) → R 64 19 = nI (P ++ S).length → (P ++ S).length ≤ 160 → R 64 17 = nI r → r + P.length ≤ 300 → R 64 23 = nI (w + qnts P) → w ≤ 1000 → (∀ x ∈ P, t ≤ qti x ∧ x ≠ 20) →
    ∃ R', kX12_close 0 [some (.ref 64), some (.int (nI t))] [] (qm R K e) = some (none, qm R' K e) ∧ (∀ p, p ≠ 64 → p ≠ 67 → p ≠ 68 → R' p = R p) ∧ (∀ k, k ≠ 17 → k ≠ 19 → k ≠ 23 → R' 64 k = R 64 k) ∧ R' 64 19 = nI S.length ∧ R' 64 17 = nI (r + P.length) ∧ R' 64 23 = nI w ∧ (∀ k, k < r → R' 67 k = R 67 k ∧ R' 68 k = R 68 k) ∧ ∀ j, j < P.length → R' 67 (r + j) = qe1 (P.getD j 0) ∧ R' 68 (r + j) = qe2 (P.getD j 0) := by
  intro P
  induction P with
  | nil =>
    intro R r w hk hl hb h17 hr h23 hw hP
    rw [List.nil_append] at hk hl hb
    refine ⟨R, ?_, fun _ _ _ _ => rfl, fun _ _ _ _ => rfl, hl, h17, h23, fun _ _ => ⟨rfl, rfl⟩, fun j hj => absurd hj (Nat.not_lt_zero j)⟩
    rw [eX12_close_0, hl]
    rcases hS with hS | ⟨x, S1, hS, hx⟩
    · subst hS
      rw [if_neg (by decide), eX12_close_101]
    · subst hS
      have hlen : (x :: S1).length = S1.length + 1 := List.length_cons
      rw [hlen] at hl hb ⊢
      obtain ⟨-, hv⟩ := q_Sk_tail hk
      rw [if_pos (show (0 : Int32) < nI (S1.length + 1) from nI_lt (a := 0) (by omega) (by omega)), eX12_close_7, hl, nI_1s (by omega), Nat.add_sub_cancel, q_in_nI (by omega) (by omega), nI_n (by omega), Bool.true_and, q_ck_tt, hv]
      by_cases h20 : x = 20
      · rw [if_pos h20, eX12_close_101]
      · have hx2 : qti x < t := by
          rcases hx with g | g
          · exact absurd g h20
          · exact g
        rw [if_neg h20, eX12_close_23, hl, nI_1s (by omega), Nat.add_sub_cancel, q_in_nI (by omega) (by omega), nI_n (by omega), Bool.true_and, q_ck_tt, hv, fX12_tight]
        simp only [Option.bind_some, Option.toList_some, Option.toList_none, List.nil_append, List.cons_append, q_ck_tt, Bool.and_true, Bool.true_and, if_true, if_false, reduceCtorEq]
        rw [eX12_close_37, if_pos (nI_lt hx2 (by omega)), eX12_close_101]
  | cons x P ih =>
    intro R r w hk hl hb h17 hr h23 hw hP
    obtain ⟨hx1, hx2⟩ := hP x (List.mem_cons_self)
    rw [List.cons_append] at hk hl hb
    have hlen : (x :: (P ++ S)).length = (P ++ S).length + 1 := List.length_cons
    have hlenP : (x :: P).length = P.length + 1 := List.length_cons
    rw [hlen] at hl hb
    rw [hlenP] at hr
    obtain ⟨hk1, hv⟩ := q_Sk_tail hk
    have hpl : P.length ≤ (P ++ S).length := by rw [List.length_append]; omega
    -- one step
    have hstep : ∃ R1, kX12_close 0 [some (.ref 64), some (.int (nI t))] [] (qm R K e) = kX12_close 0 [some (.ref 64), some (.int (nI t))] [] (qm R1 K e) ∧ (∀ p, p ≠ 64 → p ≠ 67 → p ≠ 68 → R1 p = R p) ∧ (∀ k, k ≠ 17 → k ≠ 19 → k ≠ 23 → R1 64 k = R 64 k) ∧ R1 64 19 = nI (P ++ S).length ∧ R1 64 17 = nI (r + 1) ∧ R1 64 23 = nI (w + qnts P) ∧ (∀ k, k ≠ r → R1 67 k = R 67 k ∧ R1 68 k = R 68 k) ∧ R1 67 r = qe1 x ∧ R1 68 r = qe2 x := by
      have h41 : kX12_close 0 [some (.ref 64), some (.int (nI t))] [] (qm R K e) = if x = 21 then kX12_close 65 [some (.ref 64), some (.int (nI t))] [] (qm (q_up R 64 19 (nI (P ++ S).length)) K e) else kX12_close 84 [some (.ref 64), some (.int (nI t))] [] (qm (q_up R 64 19 (nI (P ++ S).length)) K e) := by
        rw [eX12_close_0, hl, if_pos (show (0 : Int32) < nI ((P ++ S).length + 1) from nI_lt (a := 0) (by omega) (by omega)), eX12_close_7, hl, nI_1s (by omega), Nat.add_sub_cancel, q_in_nI (by omega) (by omega), nI_n (by omega), Bool.true_and, q_ck_tt, hv, if_neg hx2, eX12_close_23, hl, nI_1s (by omega), Nat.add_sub_cancel, q_in_nI (by omega) (by omega), nI_n (by omega), Bool.true_and, q_ck_tt, hv, fX12_tight]
        simp only [Option.bind_some, Option.toList_some, Option.toList_none, List.nil_append, List.cons_append, q_ck_tt, Bool.and_true, Bool.true_and, if_true, if_false, reduceCtorEq]
        rw [eX12_close_37, if_neg (nI_nlt hx1 (by have := qti_le x; omega)), eX12_close_41, hl, nI_1s (by omega), Nat.add_sub_cancel, q_in_nI (by omega) (by omega), nI_n (by omega), Bool.true_and, q_ck_tt, hv]
      have h17' : q_up R 64 19 (nI (P ++ S).length) 64 17 = nI r := by rw [q_up_at2 _ _ (by decide)]; exact h17
      have hqn : qnts (x :: P) = (if x = 21 then 1 else 0) + qnts P := rfl
      by_cases h21 : x = 21
      · rw [if_pos h21] at h41 hqn
        refine ⟨q_up (q_up (q_up (q_up (q_up R 64 19 (nI (P ++ S).length)) 67 r 2) 68 r 0) 64 17 (nI (r + 1))) 64 23 (nI (w + qnts P)), ?_, ?_, ?_, ?_, ?_, ?_, ?_, ?_, ?_⟩
        · rw [h41, eX12_close_65, fX12_add K e h17' (by omega)]
          simp only [Option.bind_some, Option.toList_some, Option.toList_none, List.nil_append, List.cons_append, q_ck_tt, Bool.and_true, Bool.true_and, if_true, if_false, reduceCtorEq]
          rw [eX12_close_71, q_up_at2 _ _ (show (23 : Nat) ≠ 17 by decide), q_up_at3 _ _ (show (64 : Nat) ≠ 68 by decide), q_up_at3 _ _ (show (64 : Nat) ≠ 67 by decide), q_up_at2 _ _ (show (23 : Nat) ≠ 19 by decide), h23, hqn, nI_1s (by omega), show w + (1 + qnts P) - 1 = w + qnts P by omega]
        · intro p a b c; rw [q_up_at3 _ _ a, q_up_at3 _ _ a, q_up_at3 _ _ c, q_up_at3 _ _ b, q_up_at3 _ _ a]
        · intro k a b c; rw [q_up_at2 _ _ c, q_up_at2 _ _ a, q_up_at3 _ _ (by decide), q_up_at3 _ _ (by decide), q_up_at2 _ _ b]
        · rw [q_up_at2 _ _ (by decide), q_up_at2 _ _ (by decide), q_up_at3 _ _ (by decide), q_up_at3 _ _ (by decide), q_up_at1]
        · rw [q_up_at2 _ _ (by decide), q_up_at1]
        · rw [q_up_at1]
        · intro k hk
          exact ⟨by rw [q_up_at3 _ _ (by decide), q_up_at3 _ _ (by decide), q_up_at3 _ _ (by decide), q_up_at2 _ _ hk, q_up_at3 _ _ (by decide)], by rw [q_up_at3 _ _ (by decide), q_up_at3 _ _ (by decide), q_up_at2 _ _ hk, q_up_at3 _ _ (by decide), q_up_at3 _ _ (by decide)]⟩
        · unfold qe1; rw [if_pos h21, q_up_at3 _ _ (by decide), q_up_at3 _ _ (by decide), q_up_at3 _ _ (by decide), q_up_at1]
        · unfold qe2; rw [if_pos h21, q_up_at3 _ _ (by decide), q_up_at3 _ _ (by decide), q_up_at1]
      · rw [if_neg h21] at h41 hqn
        refine ⟨q_up (q_up (q_up (q_up R 64 19 (nI (P ++ S).length)) 67 r 3) 68 r x) 64 17 (nI (r + 1)), ?_, ?_, ?_, ?_, ?_, ?_, ?_, ?_, ?_⟩
        · rw [h41, eX12_close_84, q_up_at1, q_in_nI (by omega) (by omega), nI_n (by omega), Bool.true_and, q_ck_tt, q_up_at3 _ _ (show (71 : Nat) ≠ 64 by decide), hv, fX12_add K e h17' (by omega)]
          simp only [Option.bind_some, Option.toList_some, Option.toList_none, List.nil_append, List.cons_append, q_ck_tt, Bool.and_true, Bool.true_and, if_true, if_false, reduceCtorEq]
          rw [eX12_close_98]
        · intro p a b c; rw [q_up_at3 _ _ a, q_up_at3 _ _ c, q_up_at3 _ _ b, q_up_at3 _ _ a]
        · intro k a b c; rw [q_up_at2 _ _ a, q_up_at3 _ _ (by decide), q_up_at3 _ _ (by decide), q_up_at2 _ _ b]
        · rw [q_up_at2 _ _ (by decide), q_up_at3 _ _ (by decide), q_up_at3 _ _ (by decide), q_up_at1]
        · rw [q_up_at1]
        · rw [q_up_at2 _ _ (by decide), q_up_at3 _ _ (by decide), q_up_at3 _ _ (by decide), q_up_at2 _ _ (by decide), h23, hqn, Nat.zero_add]
        · intro k hk
          exact ⟨by rw [q_up_at3 _ _ (by decide), q_up_at3 _ _ (by decide), q_up_at2 _ _ hk, q_up_at3 _ _ (by decide)], by rw [q_up_at3 _ _ (by decide), q_up_at2 _ _ hk, q_up_at3 _ _ (by decide), q_up_at3 _ _ (by decide)]⟩
        · unfold qe1; rw [if_neg h21, q_up_at3 _ _ (by decide), q_up_at3 _ _ (by decide), q_up_at1]
        · unfold qe2; rw [if_neg h21, q_up_at3 _ _ (by decide), q_up_at1]
    obtain ⟨R1, s1, s2, s3, s4, s5, s6, s7, s8, s9⟩ := hstep
    obtain ⟨R', t1, t2, t3, t4, t5, t6, t7, t8⟩ := ih R1 (r + 1) w (by rw [s2 71 (by decide) (by decide) (by decide)]; exact hk1) s4 (by omega) s5 (by omega) s6 hw (fun y hy => hP y (List.mem_cons_of_mem _ hy))
    refine ⟨R', s1.trans t1, fun p a b c => (t2 p a b c).trans (s2 p a b c), fun k a b c => (t3 k a b c).trans (s3 k a b c), t4, by rw [t5, hlenP, show r + 1 + P.length = r + (P.length + 1) by omega], t6, fun k hk => ?_, fun j hj => ?_⟩
    · have a := t7 k (by omega)
      have b := s7 k (by omega)
      exact ⟨a.1.trans b.1, a.2.trans b.2⟩
    · rw [hlenP] at hj
      cases j with
      | zero =>
        have a := t7 r (by omega)
        rw [Nat.add_zero, a.1, a.2, s8, s9]
        exact ⟨rfl, rfl⟩
      | succ j =>
        have a := t8 j (by omega)
        rw [show r + (j + 1) = r + 1 + j by omega, a.1, a.2]
        exact ⟨rfl, rfl⟩
