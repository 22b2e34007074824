/-! ===== board(): both read the text ===== -/
theorem q_ra82 {R : Nat → Nat → Int32} (K : Nat → Nat → Int64) (e : QP) : kX12_readAll 70 [some (.ref 64), some (.int 0)] [] (qm R K e) = kX12_readAll 89 [some (.ref 64), none] [] (qm (va_up R 82 (fun k => if k < 36 then 0 else R 82 k)) K e) := by
  have hst : ∀ i, i < 36 → kX12_readAll 70 [some (.ref 64), some (.int (nI i))] [] (qm (va_up R 82 (fun k => if k < i then 0 else R 82 k)) K e) = kX12_readAll 70 [some (.ref 64), some (.int (nI (i + 1)))] [] (qm (va_up R 82 (fun k => if k < i + 1 then 0 else R 82 k)) K e) := by
    intro i hi
    rw [eX12_readAll_70, if_pos (show nI i < (36 : Int32) from nI_lt (b := 36) hi (by decide)), eX12_readAll_76, q_in_nI hi (by omega), nI_n (by omega), Bool.true_and, q_ck_tt, show nI i + 1 = nI (i + 1) from nI_add i 1, q_up_up]
    congr 3
    congr 1
    funext x
    by_cases hx : x = i
    · subst hx; rw [va_hit, if_pos (by omega)]
    · rw [va_miss hx]
      by_cases h3 : x < i
      · rw [if_pos h3, if_pos (by omega)]
      · rw [if_neg h3, if_neg (by omega)]
  have hl := q_for (fun i (a : Nat → Int32) => kX12_readAll 70 [some (.ref 64), some (.int (nI i))] [] (qm (va_up R 82 a) K e)) 36 (fun i k => if k < i then 0 else R 82 k) hst
  have h0 : (fun k => if k < 0 then 0 else R 82 k) = R 82 := by
    funext x
    rw [if_neg (by omega)]
  rw [h0, va_up_id] at hl
  refine Eq.trans hl ?_
  rw [eX12_readAll_70, if_neg (by decide)]
theorem q_BR0 {C R : Nat → Nat → Int32} {J K : Nat → Nat → Int64} (c17 : C 17 0 = 0 ∧ C 17 5 = 0 ∧ C 17 11 = 0 ∧ C 17 14 = 0 ∧ C 17 15 = 0) (c23 : ∀ k, k < 6 → C 23 k = 0 ∧ C 24 k = 0 ∧ C 25 k = -1) (c26 : ∀ k, k < 24 → C 26 k = -1) (c27 : ∀ k, k < 5 → C 27 k = 0) (c28 : C 28 2 = 0 ∧ C 28 3 = 0) (c31 : C 31 9 = 0 ∧ C 31 10 = 0 ∧ C 31 11 = 0 ∧ C 31 12 = 0)
    (r64 : ∀ k, (k = 20 ∨ k = 24 ∨ k = 46 ∨ k = 47 ∨ k = 48 ∨ k = 49 ∨ k = 54 ∨ k = 55) → R 64 k = 0) (r3 : R 64 3 = -1) (r82 : ∀ k, k < 36 → R 82 k = 0) : q_BR C J R K 0 0 (fun _ => 0) := by
  have hm1 : ∀ k, k < 6 → ¬ (-1 : Int32) = nI k := fun k hk g => nI_ne_m1 (by omega) g.symm
  refine ⟨⟨⟨⟨c17.1, r64 46 (by omega), by omega⟩, ⟨c17.2.1, r64 47 (by omega), by omega⟩, fun d hd => absurd hd (Nat.not_lt_zero d)⟩, ⟨fun x hx => ⟨Or.inl (c26 x hx), fun g => absurd (c26 x hx) g⟩, fun x hx => absurd hx (by omega), fun k hk x hx => ?_, fun x hx => ?_, fun k hk => absurd hk (Nat.not_lt_zero k), ?_⟩, ⟨fun k hk => absurd hk (Nat.not_lt_zero k), fun k _ hk => (c23 k hk).2.2⟩, ⟨⟨fun k hk => absurd hk (Nat.not_lt_zero k), fun k _ => ?_, fun p hp => ?_, fun k _ => ?_⟩, fun x hx => ⟨?_, fun g => ?_⟩, fun d hd => absurd hd (Nat.not_lt_zero d)⟩, ⟨?_, ?_, Or.inl ⟨r64 24 (by omega), c28.1, r64 20 (by omega)⟩⟩, ⟨?_, Or.inl (r64 54 (by omega)), 0, by omega, c17.2.2.2.1, r64 48 (by omega)⟩, ⟨?_, Or.inl (r64 55 (by omega)), 0, by omega, c17.2.2.2.2, r64 49 (by omega)⟩, c31.2.2.2, r3⟩, ⟨fun i hi => absurd hi (Nat.not_lt_zero i), fun i j hi => absurd hi (Nat.not_lt_zero i)⟩, ⟨fun i hi => absurd hi (Nat.not_lt_zero i), fun i j hi => absurd hi (Nat.not_lt_zero i)⟩⟩
  · rw [(c23 k hk).1, (c23 k hk).2.1, b_0]
    by_cases hx2 : x < 24
    · rw [c26 x hx2, decide_eq_false (hm1 k hk)]; simp
    · rw [decide_eq_false hx2]; simp
  · rw [c17.2.2.1, b_0]
    by_cases hx2 : x < 24
    · rw [c26 x hx2]; simp
    · rw [decide_eq_false hx2]; simp
  · rw [c17.2.2.1]; decide +kernel
  · rw [c27 0 (by omega), c27 1 (by omega), b_0]; exact ⟨rfl, rfl⟩
  · obtain ⟨-, -, h3, h4⟩ := qla_t p hp
    rw [qrd_29, r82 _ (by omega), c27 3 (by omega), c27 4 (by omega), b_0]
    exact ⟨Or.inl rfl, by decide, by decide, fun _ => rfl⟩
  · rw [c27 3 (by omega), c27 4 (by omega), b_0]; exact ⟨rfl, rfl⟩
  · rw [c27 2 (by omega), b_0, decide_eq_false (by omega), Bool.false_and]
  · rw [c27 2 (by omega), b_0] at g; cases g
  · rw [c31.1, r64 24 (by omega)]
  · rw [c28.2, r64 20 (by omega)]
  · rw [c31.2.1, r64 54 (by omega)]
  · rw [c31.2.2.1, r64 55 (by omega)]
theorem q_readT {I : Nat → Nat → Int32} {J : Nat → Nat → Int64} {R : Nat → Nat → Int32} {K : Nat → Nat → Int64} {e : QP} {rb tx L t : Nat} {v : Nat → Nat} (ht : t ≤ 1600) (hI : ∀ k, k < t → v k < 256 ∧ I 2 k = qby (v k)) (hK : q_Ky J) (hS : q_Sta I) (hR1 : R 64 1 = nI t) (hR : ∀ k, k < t → R 65 k = nI (v k)) :
    ∃ (x : Int32) (C' : Nat → Nat → Int32) (J' : Nat → Nat → Int64) (R' : Nat → Nat → Int32) (K' : Nat → Nat → Int64), mX9_readBoard [.ref 31, .ref 2, .int (nI t), .ref 17] (qm I J (3, 17, rb, tx, L)) = some (some (.int x), qm C' J' (3, 17, 17, 2, L)) ∧ mX12_readAll [.ref 64] (qm R K e) = some (none, qm R' K' e) ∧ (∀ p, (p < 17 ∨ 31 < p) → C' p = I p ∧ J' p = J p) ∧ (∀ p k, q_scR p k = false → ¬ (p = 64 ∧ k = 1) → ¬ (p = 64 ∧ k = 5) → R' p k = R p k) ∧ (∀ p, p ≠ 64 → p ≠ 66 → K' p = K p) ∧ R' 64 1 = 0 ∧ ((x = 0 ∧ R' 64 2 = 0 ∧ ∃ D N cl, q_BR C' J' R' K' D N cl) ∨ (x = C' 31 12 ∧ q_Fl C' R')) := by
  obtain ⟨C1, k1, k2, k3, k4, k5, k6, k7, k8⟩ := q_clearC (q_up I 31 2 (nI t)) J (3, 17, 17, 2, L)
  generalize hC3 : q_up (q_up (q_up (q_up (q_up (q_up C1 31 3 0) 31 9 0) 31 10 0) 31 11 0) 31 12 0) 31 13 0 = C3
  have c3o : ∀ p, p ≠ 31 → C3 p = C1 p := fun p x => by rw [← hC3, q_up_at3 _ _ x, q_up_at3 _ _ x, q_up_at3 _ _ x, q_up_at3 _ _ x, q_up_at3 _ _ x, q_up_at3 _ _ x]
  have c3z : ∀ k, (k = 3 ∨ (9 ≤ k ∧ k ≤ 13)) → C3 31 k = 0 := by
    intro k hk
    rw [← hC3]
    simp only [q_up_at, if_true]
    rcases (by omega : k = 3 ∨ k = 9 ∨ k = 10 ∨ k = 11 ∨ k = 12 ∨ k = 13) with g | g | g | g | g | g <;> subst g <;> rfl
  have c32 : C3 31 2 = nI t := by
    rw [← hC3, q_up_at2 _ _ (by decide), q_up_at2 _ _ (by decide), q_up_at2 _ _ (by decide), q_up_at2 _ _ (by decide), q_up_at2 _ _ (by decide), q_up_at2 _ _ (by decide), k2 31 (by omega), q_up_at1]
  generalize hR0 : q_up (q_up (q_up (q_up (q_up (q_up (q_up (q_up (q_up (q_up (q_up (q_up (q_up R 64 5 (nI t)) 64 1 0) 64 4 0) 64 2 0) 64 3 (-1)) 64 46 0) 64 47 0) 64 48 0) 64 49 0) 64 54 0) 64 55 0) 64 24 0) 64 20 0 = R0
  generalize hR3 : va_up R0 82 (fun k => if k < 36 then 0 else R0 82 k) = R3
  have r0o : ∀ p, p ≠ 64 → R0 p = R p := fun p x => by rw [← hR0, q_up_at3 _ _ x, q_up_at3 _ _ x, q_up_at3 _ _ x, q_up_at3 _ _ x, q_up_at3 _ _ x, q_up_at3 _ _ x, q_up_at3 _ _ x, q_up_at3 _ _ x, q_up_at3 _ _ x, q_up_at3 _ _ x, q_up_at3 _ _ x, q_up_at3 _ _ x, q_up_at3 _ _ x]
  have r3o : ∀ p, p ≠ 64 → p ≠ 82 → R3 p = R p := fun p x y => by rw [← hR3, va_miss y, r0o p x]
  have r364 : R3 64 = R0 64 := by rw [← hR3, va_miss (by decide)]
  have r0z : ∀ k, (k = 1 ∨ k = 2 ∨ k = 4 ∨ k = 20 ∨ k = 24 ∨ k = 46 ∨ k = 47 ∨ k = 48 ∨ k = 49 ∨ k = 54 ∨ k = 55) → R3 64 k = 0 := by
    intro k hk
    rw [r364, ← hR0]
    simp only [q_up_at, if_true]
    rcases hk with g | g | g | g | g | g | g | g | g | g | g <;> subst g <;> rfl
  have r03 : R3 64 3 = -1 := by
    rw [r364, ← hR0]
    simp only [q_up_at, if_true]
    rfl
  have r05 : R3 64 5 = nI t := by
    rw [r364, ← hR0]
    simp only [q_up_at, if_true]
    rfl
  have r0k : ∀ k, q_scR 64 k = false → k ≠ 1 → k ≠ 5 → R3 64 k = R 64 k := by
    intro k hk h1 h5
    have hne : ∀ j, q_scR 64 j = true → k ≠ j := fun j hj g => by rw [g, hj] at hk; cases hk
    rw [r364, ← hR0, q_up_at2 _ _ (hne 20 rfl), q_up_at2 _ _ (hne 24 rfl), q_up_at2 _ _ (hne 55 rfl), q_up_at2 _ _ (hne 54 rfl), q_up_at2 _ _ (hne 49 rfl), q_up_at2 _ _ (hne 48 rfl), q_up_at2 _ _ (hne 47 rfl), q_up_at2 _ _ (hne 46 rfl), q_up_at2 _ _ (hne 3 rfl), q_up_at2 _ _ (hne 2 rfl), q_up_at2 _ _ (hne 4 rfl), q_up_at2 _ _ h1, q_up_at2 _ _ h5]
  have hTc : q_Tc C3 v t := ⟨ht, c32, fun k hk => ⟨(hI k hk).1, by rw [c3o 2 (by decide), k2 2 (by omega), q_up_at3 _ _ (by decide)]; exact (hI k hk).2⟩⟩
  have hTf : q_Tf R3 v t := ⟨ht, r05, fun k hk => ⟨(hI k hk).1, by rw [r3o 65 (by decide) (by decide)]; exact hR k hk⟩⟩
  obtain ⟨f, w, g, w', s, e1, e2, f1, g1, hs, hp⟩ := q_adv0 (L := L) (K := K) (e := e) (p := 0) hTc hK hTf (c3z 3 (by omega)) (r0z 4 (by omega)) (Nat.zero_le _) (r0z 2 (by omega))
  have had : q_Ad C3 J R3 K (va_up C3 31 f) (q_up J 31 7 w) (va_up R3 64 g) (q_up K 64 9 w') := ⟨⟨fun p hp => va_miss hp, fun k a b c d => by rw [va_hit]; exact f1 k a b c d⟩, fun p hp => q_up_at3 _ _ hp, ⟨fun p hp => va_miss hp, fun k a b c d => by rw [va_hit]; exact g1 k a b c d⟩, fun p hp => q_up_at3 _ _ hp⟩
  have hB0 : q_BR C3 J R3 K 0 0 (fun _ => 0) := by
    refine q_BR0 ?_ ?_ ?_ ?_ ?_ ⟨c3z 9 (by omega), c3z 10 (by omega), c3z 11 (by omega), c3z 12 (by omega)⟩ (fun k hk => r0z k (by omega)) r03 ?_
    · rw [c3o 17 (by decide)]; exact k3
    · rw [c3o 23 (by decide), c3o 24 (by decide), c3o 25 (by decide)]; exact k4
    · rw [c3o 26 (by decide)]; exact k5
    · rw [c3o 27 (by decide)]; exact k6
    · rw [c3o 28 (by decide)]; exact ⟨k7, k8⟩
    · intro k hk; rw [← hR3, va_hit, if_pos hk]
  have hS' : q_Sta (va_up C3 31 f) := by
    have hq : ∀ p, 999 < p → va_up C3 31 f p = I p := fun p hp => by rw [va_miss (by omega), c3o p (by omega), k2 p (by omega), q_up_at3 _ _ (by omega)]
    unfold q_Sta
    rw [hq 1000 (by omega), hq 1001 (by omega), hq 1002 (by omega), hq 1003 (by omega)]
    exact hS
  obtain ⟨x, C', J', R', K', l1, l2, l3, l4⟩ := q_lines (L := L) (e := e) (t - s) 0 s _ _ _ _ 0 0 (fun _ => 0) (Nat.le_refl _) (Nat.zero_le _) hp (q_BR_ad hB0 had) hS'
  refine ⟨x, C', J', R', K', ?_, ?_, fun p hp => ?_, fun p k hk h1 h5 => ?_, fun p a b => ?_, ?_, l4⟩
  · have h16 : (if (1600 : Int32) < nI t then 1600 else nI t) = nI t := if_neg (show ¬ (1600 : Int32) < nI t from nI_nlt (a := 1600) ht (by omega))
    rw [bX9_readBoard, eX9_readBoard_0, eX9_readBoard_5, h16, eX9_readBoard_20, k1]
    simp only [Option.bind_some, Option.toList_some, Option.toList_none, List.nil_append, List.cons_append, q_ck_tt, Bool.and_true, Bool.true_and, if_true, if_false, reduceCtorEq]
    rw [eX9_readBoard_27, eX9_readBoard_49, hC3, e1]
    simp only [Option.bind_some, Option.toList_some, Option.toList_none, List.nil_append, List.cons_append, q_ck_tt, Bool.and_true, Bool.true_and, if_true, if_false, reduceCtorEq]
    rw [eX9_readBoard_61]
    exact l1
  · rw [bX12_readAll, eX12_readAll_0, hR1, eX12_readAll_24, eX12_readAll_48, hR0, q_ra82, hR3, eX12_readAll_89, e2]
    simp only [Option.bind_some, Option.toList_some, Option.toList_none, List.nil_append, List.cons_append, q_ck_tt, Bool.and_true, Bool.true_and, if_true, if_false, reduceCtorEq]
    exact l2
  · refine ⟨?_, ?_⟩
    · rw [(l3.1 p hp).1, va_miss (by omega), c3o p (by omega), k2 p (by omega), q_up_at3 _ _ (by omega)]
    · rw [(l3.1 p hp).2, q_up_at3 _ _ (by omega)]
  · rw [l3.2.1 p k hk]
    by_cases h64 : p = 64
    · subst h64
      rw [had.2.2.1.2 k (fun g => by subst g; cases hk) (fun g => by subst g; cases hk) (fun g => by subst g; cases hk) (fun g => by subst g; cases hk)]
      exact r0k k hk (fun g => h1 ⟨rfl, g⟩) (fun g => h5 ⟨rfl, g⟩)
    · rw [va_miss h64, r3o p h64 (fun g => by subst g; cases hk)]
  · rw [l3.2.2 p a b, q_up_at3 _ _ a]
  · rw [l3.2.1 64 1 rfl, had.2.2.1.2 1 (by decide) (by decide) (by decide) (by decide)]
    exact r0z 1 (by omega)
