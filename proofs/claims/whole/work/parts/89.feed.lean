/-! ===== feed, end, later ===== -/
section FE
variable {I : Nat → Nat → Int32} {J : Nat → Nat → Int64} {rb tx L : Nat}
theorem q_Tp_iff {I : Nat → Nat → Int32} : q_Tp I ↔ ∃ t : Nat, t ≤ 1600 ∧ I 1 1 = nI t ∧ I 64 1 = nI t ∧ q_Tr (I 2) (I 65) t := Iff.rfl
theorem o_end (h : q_Tp I) (a : Int32) : ∃ (r : Int32) (I1 I2 : Nat → Nat → Int32), mX11_end [.ref 1, .int a] (qm I J (3, 17, rb, tx, L)) = some (some (.int r), qm I1 J (3, 17, rb, tx, L)) ∧ mX12_end [.ref 64, .int a] (qm I1 J (3, 17, rb, tx, L)) = some (some (.int r), qm I2 J (3, 17, rb, tx, L)) ∧ q_Tp I2 ∧ (∀ p k, ¬ (p = 1 ∧ k = 1) → I1 p k = I p k) ∧ ∀ p k, ¬ (p = 1 ∧ k = 1) → ¬ (p = 64 ∧ k = 1) → I2 p k = I p k := by
  have h' := h
  obtain ⟨t, h1, h2, h3, h4⟩ := h
  by_cases c1 : a < 0
  · refine ⟨-1, I, I, ?_, ?_, h', fun _ _ _ => rfl, fun _ _ _ _ => rfl⟩
    · simp only [bX11_end, eX11_end_0, eX11_end_12, eX11_end_4, eX11_end_14, if_pos c1]
    · simp only [bX12_end, eX12_end_0, eX12_end_12, eX12_end_4, eX12_end_14, if_pos c1]
  · by_cases c2 : nI t < a
    · refine ⟨-1, I, I, ?_, ?_, h', fun _ _ _ => rfl, fun _ _ _ _ => rfl⟩
      · simp only [bX11_end, eX11_end_0, eX11_end_12, eX11_end_4, eX11_end_14, if_neg c1, h2, if_pos c2]
      · simp only [bX12_end, eX12_end_0, eX12_end_12, eX12_end_4, eX12_end_14, if_neg c1, h3, if_pos c2]
    · obtain ⟨n, hn, rfl⟩ := nI_of c1
      have hnt : n ≤ t := Nat.le_of_not_lt (fun c => c2 (nI_lt c hn))
      refine ⟨nI n, q_up I 1 1 (nI n), q_up (q_up I 1 1 (nI n)) 64 1 (nI n), ?_, ?_, ⟨n, by omega, ?_, ?_, ?_⟩, ?_, ?_⟩
      · simp only [bX11_end, eX11_end_0, eX11_end_12, eX11_end_4, eX11_end_14, if_neg c1, h2, if_neg c2]
      · have e1 : q_up I 1 1 (nI n) 64 1 = nI t := h3
        simp only [bX12_end, eX12_end_0, eX12_end_12, eX12_end_4, eX12_end_14, if_neg c1, e1, if_neg c2]
      · rfl
      · rfl
      · intro k hk
        exact h4 k (by omega)
      · intro p k hpk
        rw [q_up_at]
        by_cases hp : p = 1
        · rw [if_pos hp, if_neg (fun c => hpk ⟨hp, c⟩), hp]
        · rw [if_neg hp]
      · intro p k hpk hpk2
        rw [q_up_at]
        by_cases hp : p = 64
        · rw [if_pos hp, if_neg (fun c => hpk2 ⟨hp, c⟩), hp]
          rfl
        · rw [if_neg hp, q_up_at]
          by_cases hp1 : p = 1
          · rw [if_pos hp1, if_neg (fun c => hpk ⟨hp1, c⟩), hp1]
          · rw [if_neg hp1]
theorem o_later (h : q_Tm I) (a : Int32) : ∃ (r : Int32) (I1 I2 : Nat → Nat → Int32), mX11_later [.ref 1, .int a] (qm I J (3, 17, rb, tx, L)) = some (some (.int r), qm I1 J (3, 17, rb, tx, L)) ∧ mX12_later [.ref 64, .int a] (qm I1 J (3, 17, rb, tx, L)) = some (some (.int r), qm I2 J (3, 17, rb, tx, L)) ∧ q_Tm I2 ∧ (∀ p k, ¬ (p = 1 ∧ k = 15) → I1 p k = I p k) ∧ ∀ p k, ¬ (p = 1 ∧ k = 15) → ¬ (p = 64 ∧ k = 80) → I2 p k = I p k := by
  have h' := h
  obtain ⟨t, h1, h2, h3⟩ := h
  by_cases c1 : a < 0
  · refine ⟨-1, I, I, ?_, ?_, h', fun _ _ _ => rfl, fun _ _ _ _ => rfl⟩
    · simp only [bX11_later, eX11_later_0, eX11_later_23, eX11_later_4, eX11_later_11, eX11_later_25, if_pos c1]
    · simp only [bX12_later, eX12_later_0, eX12_later_23, eX12_later_4, eX12_later_11, eX12_later_25, if_pos c1]
  · by_cases c2 : (1000 : Int32) < a
    · refine ⟨-1, I, I, ?_, ?_, h', fun _ _ _ => rfl, fun _ _ _ _ => rfl⟩
      · simp only [bX11_later, eX11_later_0, eX11_later_23, eX11_later_4, eX11_later_11, eX11_later_25, if_neg c1, if_pos c2]
      · simp only [bX12_later, eX12_later_0, eX12_later_23, eX12_later_4, eX12_later_11, eX12_later_25, if_neg c1, if_pos c2]
    · by_cases c3 : (100000 : Int32) < nI t + a
      · refine ⟨-1, I, I, ?_, ?_, h', fun _ _ _ => rfl, fun _ _ _ _ => rfl⟩
        · simp only [bX11_later, eX11_later_0, eX11_later_23, eX11_later_4, eX11_later_11, eX11_later_25, if_neg c1, if_neg c2, h2, if_pos c3]
        · simp only [bX12_later, eX12_later_0, eX12_later_23, eX12_later_4, eX12_later_11, eX12_later_25, if_neg c1, if_neg c2, h3, if_pos c3]
      · obtain ⟨n, hn, rfl⟩ := nI_of c1
        have hn2 : n ≤ 1000 := Nat.le_of_not_lt (fun c => c2 (nI_lt (a := 1000) c hn))
        have hsum : nI t + nI n = nI (t + n) := nI_add t n
        have hle : t + n ≤ 100000 := Nat.le_of_not_lt (fun c => c3 (by rw [hsum]; exact nI_lt (a := 100000) c (by omega)))
        rw [hsum] at c3
        refine ⟨nI (t + n), q_up I 1 15 (nI (t + n)), q_up (q_up I 1 15 (nI (t + n))) 64 80 (nI (t + n)), ?_, ?_, ⟨t + n, hle, rfl, rfl⟩, ?_, ?_⟩
        · simp only [bX11_later, eX11_later_0, eX11_later_23, eX11_later_4, eX11_later_11, eX11_later_25, if_neg c1, if_neg c2, h2, if_neg c3, hsum]
        · have e1 : q_up I 1 15 (nI (t + n)) 64 80 = nI t := h3
          simp only [bX12_later, eX12_later_0, eX12_later_23, eX12_later_4, eX12_later_11, eX12_later_25, if_neg c1, if_neg c2, e1, if_neg c3, hsum]
        · intro p k hpk
          rw [q_up_at]
          by_cases hp : p = 1
          · rw [if_pos hp, if_neg (fun c => hpk ⟨hp, c⟩), hp]
          · rw [if_neg hp]
        · intro p k hpk hpk2
          rw [q_up_at]
          by_cases hp : p = 64
          · rw [if_pos hp, if_neg (fun c => hpk2 ⟨hp, c⟩), hp]
            rfl
          · rw [if_neg hp, q_up_at]
            by_cases hp1 : p = 1
            · rw [if_pos hp1, if_neg (fun c => hpk ⟨hp1, c⟩), hp1]
            · rw [if_neg hp1]
theorem q_p4 {t : Nat} (ht : t + 4 ≤ 1600) (hI : I 1 1 = nI t) (v : Int32) : ∃ I', mX11_putFour [.ref 1, .int v] (qm I J (3, 17, rb, tx, L)) = some (none, qm I' J (3, 17, rb, tx, L)) ∧ I' 2 = qblk t (I 2) (qfc v) 4 ∧ I' 1 1 = nI (t + 4) ∧ ∀ p k, p ≠ 2 → ¬ (p = 1 ∧ k = 1) → I' p k = I p k := by
  refine ⟨_, fX11_putFour ht hI v, ?_, ?_, fun p k p1 p2 => ?_⟩
  · rw [va_miss (by decide), va_hit]
  · rw [va_hit, va_hit]
  · by_cases hp : p = 1
    · rw [hp, va_hit, va_miss (fun c => p2 ⟨hp, c⟩)]
    · rw [va_miss hp, va_miss p1]
theorem q_r4 {e : QP} {t : Nat} (ht : t + 4 ≤ 1600) (hI : I 64 1 = nI t) (v : Int32) : ∃ I', mX12_four [.ref 64, .int v] (qm I J e) = some (none, qm I' J e) ∧ I' 65 = qblk t (I 65) (qfr v) 4 ∧ I' 64 1 = nI (t + 4) ∧ ∀ p k, p ≠ 65 → ¬ (p = 64 ∧ k = 1) → I' p k = I p k := by
  refine ⟨_, fX12_four ht hI v, ?_, ?_, fun p k p1 p2 => ?_⟩
  · rw [va_miss (by decide), va_hit]
  · rw [va_hit, va_hit]
  · by_cases hp : p = 64
    · rw [hp, va_hit, va_miss (fun c => p2 ⟨hp, c⟩)]
    · rw [va_miss hp, va_miss p1]
theorem o_feed (h : q_Tp I) (a1 a2 a3 a4 a5 : Int32) : ∃ (r : Int32) (I1 I2 : Nat → Nat → Int32), mX11_feed [.ref 1, .int a1, .int a2, .int a3, .int a4, .int a5] (qm I J (3, 17, rb, tx, L)) = some (some (.int r), qm I1 J (3, 17, rb, tx, L)) ∧ mX12_feed [.ref 64, .int a1, .int a2, .int a3, .int a4, .int a5] (qm I1 J (3, 17, rb, tx, L)) = some (some (.int r), qm I2 J (3, 17, rb, tx, L)) ∧ q_Tp I2 ∧ (∀ p k, p ≠ 2 → ¬ (p = 1 ∧ k = 1) → I1 p k = I p k) ∧ ∀ p k, p ≠ 2 → ¬ (p = 1 ∧ k = 1) → p ≠ 65 → ¬ (p = 64 ∧ k = 1) → I2 p k = I p k := by
  have h' := h
  obtain ⟨t, h1, h2, h3, h4⟩ := h
  replace h4 : q_Tr (I 2) (I 65) t := h4
  have hsum : nI t + 20 = nI (t + 20) := nI_add t 20
  by_cases c : t + 20 ≤ 1600
  · have hc : ¬ (1600 : Int32) < nI (t + 20) := nI_nlt (a := 1600) c (by decide)
    obtain ⟨A1, x1, y1, z1, w1⟩ := q_p4 (I := I) (J := J) (rb := rb) (tx := tx) (L := L) (t := t) (by omega) h2 a1
    obtain ⟨A2, x2, y2, z2, w2⟩ := q_p4 (I := A1) (J := J) (rb := rb) (tx := tx) (L := L) (t := t + 4) (by omega) z1 a2
    obtain ⟨A3, x3, y3, z3, w3⟩ := q_p4 (I := A2) (J := J) (rb := rb) (tx := tx) (L := L) (t := t + 4 + 4) (by omega) z2 a3
    obtain ⟨A4, x4, y4, z4, w4⟩ := q_p4 (I := A3) (J := J) (rb := rb) (tx := tx) (L := L) (t := t + 4 + 4 + 4) (by omega) z3 a4
    obtain ⟨A5, x5, y5, z5, w5⟩ := q_p4 (I := A4) (J := J) (rb := rb) (tx := tx) (L := L) (t := t + 4 + 4 + 4 + 4) (by omega) z4 a5
    have wA : ∀ p k, p ≠ 2 → ¬ (p = 1 ∧ k = 1) → A5 p k = I p k := fun p k p1 p2 => by rw [w5 p k p1 p2, w4 p k p1 p2, w3 p k p1 p2, w2 p k p1 p2, w1 p k p1 p2]
    have a64 : A5 64 1 = nI t := by rw [wA 64 1 (by decide) (by omega)]; exact h3
    have a65 : A5 65 = I 65 := funext (fun k => wA 65 k (by decide) (by omega))
    obtain ⟨B1, X1, Y1, Z1, W1⟩ := q_r4 (I := A5) (J := J) (e := (3, 17, rb, tx, L)) (t := t) (by omega) a64 a1
    obtain ⟨B2, X2, Y2, Z2, W2⟩ := q_r4 (I := B1) (J := J) (e := (3, 17, rb, tx, L)) (t := t + 4) (by omega) Z1 a2
    obtain ⟨B3, X3, Y3, Z3, W3⟩ := q_r4 (I := B2) (J := J) (e := (3, 17, rb, tx, L)) (t := t + 4 + 4) (by omega) Z2 a3
    obtain ⟨B4, X4, Y4, Z4, W4⟩ := q_r4 (I := B3) (J := J) (e := (3, 17, rb, tx, L)) (t := t + 4 + 4 + 4) (by omega) Z3 a4
    obtain ⟨B5, X5, Y5, Z5, W5⟩ := q_r4 (I := B4) (J := J) (e := (3, 17, rb, tx, L)) (t := t + 4 + 4 + 4 + 4) (by omega) Z4 a5
    have wB : ∀ p k, p ≠ 65 → ¬ (p = 64 ∧ k = 1) → B5 p k = A5 p k := fun p k p1 p2 => by rw [W5 p k p1 p2, W4 p k p1 p2, W3 p k p1 p2, W2 p k p1 p2, W1 p k p1 p2]
    have hT := q_Tr_4 (q_Tr_4 (q_Tr_4 (q_Tr_4 (q_Tr_4 h4 a1) a2) a3) a4) a5
    refine ⟨nI (t + 4 + 4 + 4 + 4 + 4), A5, B5, ?_, ?_, ⟨t + 4 + 4 + 4 + 4 + 4, by omega, ?_, Z5, ?_⟩, wA, fun p k p1 p2 p3 p4 => by rw [wB p k p3 p4]; exact wA p k p1 p2⟩
    · simp only [bX11_feed, eX11_feed_0, eX11_feed_13, eX11_feed_15, eX11_feed_20, eX11_feed_25, eX11_feed_30, eX11_feed_36, eX11_feed_42, h2, hsum, if_neg hc, x1, x2, x3, x4, x5, z5, Option.bind_some, Option.toList_some, Option.toList_none, List.nil_append, List.cons_append, q_ck_tt, Bool.and_true, Bool.true_and, if_true, if_false, reduceCtorEq]
    · simp only [bX12_feed, eX12_feed_0, eX12_feed_13, eX12_feed_15, eX12_feed_20, eX12_feed_25, eX12_feed_30, eX12_feed_36, eX12_feed_42, a64, hsum, if_neg hc, X1, X2, X3, X4, X5, Z5, Option.bind_some, Option.toList_some, Option.toList_none, List.nil_append, List.cons_append, q_ck_tt, Bool.and_true, Bool.true_and, if_true, if_false, reduceCtorEq]
    · rw [wB 1 1 (by decide) (by omega)]; exact z5
    · have b2 : B5 2 = A5 2 := funext (fun k => wB 2 k (by decide) (by omega))
      show q_Tr (B5 2) (B5 65) _
      rw [b2, Y5, Y4, Y3, Y2, Y1, y5, y4, y3, y2, y1, a65]
      exact hT
  · have hc : (1600 : Int32) < nI (t + 20) := nI_lt (a := 1600) (by omega) (by omega)
    refine ⟨-1, I, I, ?_, ?_, h', fun _ _ _ _ => rfl, fun _ _ _ _ _ _ => rfl⟩
    · simp only [bX11_feed, eX11_feed_0, eX11_feed_13, eX11_feed_15, eX11_feed_20, eX11_feed_25, eX11_feed_30, eX11_feed_36, eX11_feed_42, h2, hsum, if_pos hc]
    · simp only [bX12_feed, eX12_feed_0, eX12_feed_13, eX12_feed_15, eX12_feed_20, eX12_feed_25, eX12_feed_30, eX12_feed_36, eX12_feed_42, h3, hsum, if_pos hc]
end FE
