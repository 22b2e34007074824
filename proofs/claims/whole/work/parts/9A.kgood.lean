/-! ===== board(): a board that was read stands ===== -/
theorem q_rs16 {id ir : Int32} (hi : ∃ k : Nat, 2 ≤ k ∧ k ≤ 4 ∧ ir = nI k) : ∃ k : Nat, k < 16 ∧ qRs id ir = nI k := by
  obtain ⟨k, k1, k2, k3⟩ := hi
  unfold qRs
  by_cases g : id < 0
  · rw [if_pos g, k3]
    rcases (by omega : k = 2 ∨ k = 3 ∨ k = 4) with h | h | h <;> subst h
    · exact ⟨3, by omega, by decide⟩
    · exact ⟨7, by omega, by decide⟩
    · exact ⟨15, by omega, by decide⟩
  · rw [if_neg g]; exact ⟨1, by omega, rfl⟩
theorem q_goodQ {C R H : Nat → Nat → Int32} {J K Jn : Nat → Nat → Int64} {D N : Nat} {cl : Nat → Nat} {z : Nat} {rc : Nat → Nat} (hB : q_BR C J R K D N cl) (b : ∀ p, 3 ≤ p → p ≤ 15 → H p = C (p + 14)) (ky : q_Ky Jn) (st : q_Sta H) (h27 : H 64 27 = -1)
    (t64 : H 64 50 = nI D ∧ H 64 51 = nI N ∧ H 64 52 = R 64 48 ∧ H 64 21 = R 64 20 ∧ H 64 25 = R 64 24 ∧ H 64 62 = 0 ∧ H 64 68 = 0 ∧ H 64 69 = 0 ∧ H 64 79 = 0)
    (tz : z ≤ 300 ∧ H 64 18 = nI z ∧ ((R 64 24 = 0 ∧ z = 0) ∨ (R 64 24 = 1 ∧ R 64 17 = nI z)) ∧ ∀ k, k < z → H 69 k = R 67 k ∧ H 70 k = R 68 k)
    (t83 : ∀ d, d < D → H 83 d = R 74 d ∧ H 84 d = R 75 d ∧ H 85 d = R 76 d) (t86 : ∀ x, x < 6 * D → H 86 x = R 77 x ∧ H 87 x = R 78 x) (t88 : ∀ k, k < N → H 88 k = R 79 k)
    (t57 : H 64 57 = nI (fb_ct (bt (C 17 11)) 24) ∧ ∀ r, r < fb_ct (bt (C 17 11)) 24 → H 92 r = nI (rc r) ∧ rc r < 24 ∧ bt (C 17 11) (rc r) = true ∧ fb_ct (bt (C 17 11)) (rc r) = r)
    (t93a : H 93 0 = 0 ∧ H 93 1 = 0 ∧ H 93 2 = R 64 49) (t93b : ∀ k, 7 ≤ k → k < 19 → H 93 k = 0) (t93c : ∀ d, d < D → H 93 (3 + d) = qRs (R 75 d) (R 74 d) ∧ H 93 (25 + d) = R 81 d) (t93d : ∀ a, a < 6 → H 93 (19 + a) = if a < N then R 80 a else -1) (t93e : ∀ a, a < 36 → H 93 (29 + a) = R 82 a) (t112 : ∀ b, b < 3 → H 112 b = 0)
    (h1 : H 1 1 = 0 ∧ H 1 12 = 0 ∧ H 1 13 = H 64 2 ∧ H 1 14 = H 64 3 ∧ H 64 1 = 0) (tm : q_Tm H) (h37 : H 37 0 = 0 ∧ H 37 1 = 0 ∧ H 37 2 = C 17 15) (h39 : ∀ d, d < 4 → H 39 d = 0 ∧ H 40 d = 0 ∧ H 41 d = 0) (h38 : ∀ d, d < D → H 38 d = qRs (C 20 d) (C 19 d)) (h42 : ∀ k, k < 5 → H 42 k = C 27 k) (h44 : H 44 1 = 0 ∧ H 44 2 = 0 ∧ H 44 3 = 0) (h45 : ∀ k, k < 24 → H 45 k = qcr H k) (h47 : ∀ b, b < 3 → H 47 b = 0) (h56 : H 56 6 = 0) (h52 : H 52 2 = 0) (fr : q_Fr H) : q_Q q_Ky H Jn := by
  obtain ⟨⟨hn, hk, hs, hf, ho, hz⟩, -, -⟩ := hB
  obtain ⟨⟨d1, d2, d3⟩, ⟨n1, n2, n3⟩, hdv⟩ := hn
  obtain ⟨k1, k2, k3, k4, k5, k6⟩ := hk
  obtain ⟨zf, zo, zk⟩ := hf
  have b3 : H 3 = C 17 := b 3 (by omega) (by omega)
  have b5 : H 5 = C 19 := b 5 (by omega) (by omega)
  have b6 : H 6 = C 20 := b 6 (by omega) (by omega)
  have b7 : H 7 = C 21 := b 7 (by omega) (by omega)
  have b9 : H 9 = C 23 := b 9 (by omega) (by omega)
  have b10 : H 10 = C 24 := b 10 (by omega) (by omega)
  have b11 : H 11 = C 25 := b 11 (by omega) (by omega)
  have b12 : H 12 = C 26 := b 12 (by omega) (by omega)
  have b14 : H 14 = C 28 := b 14 (by omega) (by omega)
  have b15 : H 15 = C 29 := b 15 (by omega) (by omega)
  have hc : ∀ k, qcr H k = if k < 3 then H 37 k else if k < 7 then H 38 (k - 3) else if k < 11 then H 39 (k - 7) else if k < 15 then H 40 (k - 11) else if k < 19 then H 41 (k - 15) else H 42 (k - 19) := fun k => rfl
  have c37 : ∀ k, k < 3 → qcr H k = H 37 k := fun k hk => by rw [hc, if_pos hk]
  have c38 : ∀ d, d < 4 → qcr H (3 + d) = H 38 d := fun d hd => by rw [hc, if_neg (by omega), if_pos (by omega), show 3 + d - 3 = d by omega]
  have c39 : ∀ d, d < 4 → qcr H (7 + d) = H 39 d := fun d hd => by rw [hc, if_neg (by omega), if_neg (by omega), if_pos (by omega), show 7 + d - 7 = d by omega]
  have c40 : ∀ d, d < 4 → qcr H (11 + d) = H 40 d := fun d hd => by rw [hc, if_neg (by omega), if_neg (by omega), if_neg (by omega), if_pos (by omega), show 11 + d - 11 = d by omega]
  have c41 : ∀ d, d < 4 → qcr H (15 + d) = H 41 d := fun d hd => by rw [hc, if_neg (by omega), if_neg (by omega), if_neg (by omega), if_neg (by omega), if_pos (by omega), show 15 + d - 15 = d by omega]
  have c42 : ∀ k, qcr H (19 + k) = H 42 k := fun k => by rw [hc, if_neg (by omega), if_neg (by omega), if_neg (by omega), if_neg (by omega), if_neg (by omega), show 19 + k - 19 = k by omega]
  have hch : q_Ch D N (bt (C 17 11)) (qcr H) (H 93) := by
    obtain ⟨f1, f2, f3, f4⟩ := zf
    refine ⟨⟨?_, 0, by omega, t93a.1⟩, ⟨?_, 0, by omega, t93a.2.1⟩, ⟨?_, ?_⟩, fun d hd => ?_, ⟨fun k hk => ?_, fun k hk => ?_, fun p hp => ?_, fun k hk => ?_⟩, fun k a c => ?_, fun x hx => ?_, fun d hd => ?_⟩
    · rw [c37 0 (by omega), h37.1, t93a.1]
    · rw [c37 1 (by omega), h37.2.1, t93a.2.1]
    · obtain ⟨-, ⟨-, -, y, y1, y2, y3⟩, -⟩ := hz
      rw [c37 2 (by omega), h37.2.2, t93a.2.2, y2, y3]
    · obtain ⟨-, ⟨-, -, y, y1, y2, y3⟩, -⟩ := hz
      exact ⟨y, by omega, t93a.2.2.trans y3⟩
    · obtain ⟨e1, e2, e3, e4, e5, e6, e7⟩ := hdv d hd
      have hb := t93b
      refine ⟨⟨?_, ?_⟩, ⟨?_, 0, by omega, hb _ (by omega) (by omega)⟩, ⟨?_, 0, by omega, hb _ (by omega) (by omega)⟩, ⟨?_, 0, by omega, hb _ (by omega) (by omega)⟩, fun _ => ⟨0, by omega, hb _ (by omega) (by omega)⟩⟩
      · rw [c38 d (by omega), h38 d hd, (t93c d hd).1, e1, e2]
      · rw [(t93c d hd).1]; exact q_rs16 e6
      · rw [c39 d (by omega), (h39 d (by omega)).1, hb _ (by omega) (by omega)]
      · rw [c40 d (by omega), (h39 d (by omega)).2.1, hb _ (by omega) (by omega)]
      · rw [c41 d (by omega), (h39 d (by omega)).2.2, hb _ (by omega) (by omega)]
    · have h := f1 k hk
      rw [qrd_19 _ _ _ (by omega), if_pos hk] at h
      dsimp only
      rw [c42, c42, h42 0 (by omega), h42 1 (by omega), t93d k (by omega), if_pos hk]
      exact h
    · dsimp only
      rw [c42, c42, h42 0 (by omega), h42 1 (by omega)]; exact f2 k hk
    · obtain ⟨-, -, g3, g4⟩ := qla_t p hp
      have h := f3 p hp
      rw [qrd_29] at h
      dsimp only
      rw [c42, c42, h42 3 (by omega), h42 4 (by omega), t93e _ (by omega)]
      exact h
    · dsimp only
      rw [c42, c42, h42 3 (by omega), h42 4 (by omega)]; exact f4 k hk
    · rw [t93d k c, if_neg (by omega)]
    · rw [show (21 : Nat) = 19 + 2 from rfl, c42, h42 2 (by omega)]
      refine ⟨?_, (zo x hx).2⟩
      rw [(zo x hx).1]
      by_cases g : x < 6 * D
      · rw [(t93c (x / 6) (by omega)).2]
      · rw [decide_eq_false g, Bool.false_and, Bool.false_and]
    · rw [(t93c d hd).2]; exact zk d hd
  refine ⟨ky, D, N, cl, fb_ct (bt (C 17 11)) 24, rc, ⟨st, ⟨⟨by rw [b3]; exact d1, t64.1, d3⟩, ⟨by rw [b3]; exact n1, t64.2.1, n3⟩, fun d hd => ?_⟩, ⟨fun x hx => Or.inl ⟨?_, fun hne => ?_⟩, fun x hx => ?_, fun k hk x hx => ?_, fun x hx => ?_, fun k hk => ?_⟩, fun k hk => ?_, ⟨t57.1, by omega, fun r hr => ?_, ?_⟩, ⟨z, tz.1, ?_, tz.2.1, ?_, ?_⟩, by rw [b3]; exact hch, h27⟩, ⟨0, 0, 0, h44.1, by omega, h44.2.1, h44.2.2, Nat.le_refl _, by omega, t64.2.2.2.2.2.2.1, t64.2.2.2.2.2.2.2.1, fun j hj => ?_⟩, fun b hb => Or.inl ⟨h47 b hb, t112 b hb⟩, ⟨0, by omega, h1.1, h1.2.2.2.2, fun k hk => absurd hk (Nat.not_lt_zero k)⟩, ⟨h1.2.2.1, h1.2.2.2.1⟩, ⟨0, by omega, h1.2.1, t64.2.2.2.2.2.1, fun k hk => absurd hk (Nat.not_lt_zero k)⟩, tm, ?_, ?_, ⟨0, by omega, h56, t64.2.2.2.2.2.2.2.2, fun j hj => absurd hj (Nat.not_lt_zero j)⟩, Or.inl h52, fr⟩
  · obtain ⟨e1, e2, e3, e4, e5, e6, e7⟩ := hdv d hd
    obtain ⟨g1, g2, g3⟩ := t83 d hd
    rw [b5, b6, b7, g1, g2, g3]
    exact ⟨e1, e2, e3, e4, e5, e6, e7⟩
  · rw [b12]; exact (k1 x hx).1
  · rw [b12] at hne
    obtain ⟨a1, a2, a3⟩ := (k1 x hx).2 hne
    rw [(t86 x a1).2]
    exact ⟨a1, a2, a3⟩
  · rw [b12, (t86 x hx).1]; exact k2 x hx
  · rw [b9, b10, b12, (k3 k (by omega) x hx).1, (k3 k (by omega) x hx).2]
    by_cases g : x < 6 * D
    · rw [(t86 x g).2]; exact ⟨rfl, rfl⟩
    · by_cases g24 : x < 24
      · have hm : C 26 x = -1 := by
          by_cases y : C 26 x = -1
          · exact y
          · exact absurd ((k1 x g24).2 y).1 g
        rw [hm, decide_eq_false (show ¬ (-1 : Int32) = nI k from fun y => nI_ne_m1 (i := k) (by omega) y.symm)]
        simp
      · rw [decide_eq_false g24]; simp
  · rw [b3, b12, k4 x hx]
    by_cases g : x < 6 * D
    · rw [(t86 x g).2]
    · by_cases g24 : x < 24
      · have hm : C 26 x = -1 := by
          by_cases y : C 26 x = -1
          · exact y
          · exact absurd ((k1 x g24).2 y).1 g
        rw [hm]; simp
      · rw [decide_eq_false g24]; simp
  · obtain ⟨x, x1, x2, x3⟩ := k5 k hk
    have hne : C 26 x ≠ -1 := by rw [x2]; exact nI_ne_m1 (by omega)
    have hx6 := ((k1 x x1).2 hne).1
    exact ⟨x, x1, by rw [b12]; exact x2, by rw [(t86 x hx6).2]; exact x3⟩
  · rw [b11, t88 k hk]; exact hs.1 k hk
  · rw [b3]; exact t57.2 r hr
  · rw [b3]
  · rw [b14]
    rcases ho.2.2 with ⟨a, c, -⟩ | ⟨a, y, y1, y2, y3, -⟩
    · rcases tz.2.2.1 with ⟨-, g⟩ | ⟨g, -⟩
      · rw [c, g]; rfl
      · rw [a] at g; exact absurd g (by decide)
    · rcases tz.2.2.1 with ⟨g, -⟩ | ⟨-, g⟩
      · rw [a] at g; exact absurd g (by decide)
      · rw [y2, ← y3, g]
  · rw [t64.2.2.2.2.1]
    rcases ho.2.2 with ⟨a, -⟩ | ⟨a, y, y1, y2, y3, y4, y5⟩
    · rcases tz.2.2.1 with ⟨-, g⟩ | ⟨g, -⟩
      · exact Or.inl ⟨a, g⟩
      · rw [a] at g; exact absurd g (by decide)
    · rcases tz.2.2.1 with ⟨g, -⟩ | ⟨-, g⟩
      · rw [a] at g; exact absurd g (by decide)
      · have hyz : y = z := nI_inj (by omega) (by have := tz.1; omega) (y3.symm.trans g)
        subst hyz
        exact Or.inr ⟨a, (qdep_c (fun i hi => (tz.2.2.2 i hi).1)).trans y4⟩
  · rcases ho.2.2 with ⟨a, -⟩ | ⟨a, y, y1, y2, y3, y4, y5⟩
    · rcases tz.2.2.1 with ⟨-, g⟩ | ⟨g, -⟩
      · rw [g]; exact fun k hk => absurd hk (Nat.not_lt_zero k)
      · rw [a] at g; exact absurd g (by decide)
    · rcases tz.2.2.1 with ⟨g, -⟩ | ⟨-, g⟩
      · rw [a] at g; exact absurd g (by decide)
      · have hyz : y = z := nI_inj (by omega) (by have := tz.1; omega) (y3.symm.trans g)
        subst hyz
        intro k hk
        have hcc : ∀ j, j ≤ y → qdep (H 69) j = qdep (R 67) j := fun j hj => qdep_c (fun i hi => (tz.2.2.2 i (by omega)).1)
        rw [b15, (tz.2.2.2 k hk).1, (tz.2.2.2 k hk).2, hcc k (by omega), hcc (k + 1) (by omega)]
        exact y5 k hk
  · have hj0 : j = 0 := by omega
    subst hj0
    rw [b3]
    refine q_Ch_cc d3 (q_Ch_rc d3 n3 hch (fun k hk => ?_)) (fun k hk => ?_)
    · unfold qst
      rw [if_neg (by omega), if_pos rfl]
    · rw [show (0 + 0) % 41 * 24 + k = k by omega]
      exact h45 k hk
  · obtain ⟨⟨-, -, y, y1, y2, y3⟩, -⟩ := hz
    exact ⟨y, y1, by rw [b3]; exact y2, by rw [t64.2.2.1]; exact y3⟩
  · rw [b14, t64.2.2.2.1]; exact ho.2.1
