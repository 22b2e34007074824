/-! ===== drivers, levels, cells: the class's bits are the reference's numbers ===== -/
section RE
variable {I : Nat → Nat → Int32} {D N : Nat} {cl : Nat → Nat} {f : Nat → Int32}
/-- the registers that drive -/
def q_Dr (I : Nat → Nat → Int32) (D : Nat) (f : Nat → Int32) : Prop := ∀ d, d < D → I 38 d = f (3 + d) ∧ I 41 d = f (15 + d) ∧ ∀ i, 6 ≤ i → bt (I 41 d) i = false
theorem nI_bits {k n : Nat} (h : k < 2 ^ n) (hn : n ≤ 31) : ∀ i, n ≤ i → bt (nI k) i = false := by
  intro i hi
  by_cases h32 : i < 32
  · show (BitVec.ofNat 32 k).getLsbD i = false
    rw [BitVec.getLsbD_ofNat]
    have : k.testBit i = false := Nat.testBit_lt_two_pow (Nat.lt_of_lt_of_le h (Nat.pow_le_pow_right (by omega) hi))
    rw [this, Bool.and_false]
  · exact b_big (by omega)
theorem q_Bc_1n (hc : q_Bc I D N cl) {x n : Nat} (hx : x < 24) (hn : n < N) : (I 12 x = -1 ∨ ∃ n, n < N ∧ I 12 x = nI n) ∧ (I 12 x ≠ -1 → x < 6 * D ∧ x % 6 < cl (x / 6) ∧ (I 87 x = 0 ∨ I 87 x = 1)) := by
  rcases hc.1 x hx with h | ⟨_, h, _⟩
  · exact h
  · omega
theorem q_Bc_1d (hc : q_Bc I D N cl) {x : Nat} (hx : x < 24) (hd : 0 < D) : (I 12 x = -1 ∨ ∃ n, n < N ∧ I 12 x = nI n) ∧ (I 12 x ≠ -1 → x < 6 * D ∧ x % 6 < cl (x / 6) ∧ (I 87 x = 0 ∨ I 87 x = 1)) := by
  rcases hc.1 x hx with h | ⟨h, _, _⟩
  · exact h
  · omega
theorem q_net (hc : q_Bc I D N cl) {x n : Nat} (hx : x < 24) (hn : n < N) (hN : N ≤ 6) (h : I 12 x = nI n) {m : Nat} (hm : m < N) : decide (I 12 x = nI m) = decide (m = n) := by
  rw [h]
  by_cases e : m = n
  · rw [e, decide_eq_true rfl, decide_eq_true rfl]
  · rw [decide_eq_false e, decide_eq_false (fun g => e (nI_inj (by omega) (by omega) g).symm)]
theorem q_up_bit (hb : q_Bn I D N cl) (hc : q_Bc I D N cl) (hs : q_Bs I N) (hd : q_Dr I D f) {x n : Nat} (hx : x < 24) (hn : n < N) (h : I 12 x = nI n) (h0 : I 87 x = 0) : bt (qDu D N (I 11) (I 9) (I 38) (I 41)) x = qdh f (I 88) x n := by
  obtain ⟨⟨-, -, hD⟩, ⟨-, -, hN⟩, -⟩ := hb
  have hne : I 12 x ≠ -1 := by rw [h]; exact fun g => by have := congrArg Int32.toInt g; rw [nI_toInt (by omega)] at this; have h1 : ((-1) : Int32).toInt = -1 := by decide
                                                         rw [h1] at this; omega
  have hx6 := (q_Bc_1n hc hx hn).2 hne
  unfold qDu
  rw [b_qUd hD (fun d hd2 => (hd d hd2).2.2) (by omega)]
  unfold qdh
  obtain ⟨d1, d2, -⟩ := hd (x / 6) (by omega)
  rw [← d1, ← d2]
  by_cases ho : I 38 (x / 6) = 0
  · rw [if_pos ⟨hx6.1, ho⟩, if_pos ho]
  · rw [if_neg (fun c => ho c.2), if_neg ho, b_qUs]
    cases hs1 : decide (I 88 n = 1) with
    | true =>
      refine qAny_iff.mpr ⟨n, hn, ?_⟩
      rw [(hs n hn).1, hs1, (hc.2.2.1 n hn x (by omega)).1, decide_eq_true hx, decide_eq_true h, decide_eq_true h0]; rfl
    | false =>
      cases hq : qAny N (fun n => decide (I 11 n = 1) && bt (I 9 n) x) with
      | false => rfl
      | true =>
        obtain ⟨m, hm, h1⟩ := qAny_iff.mp hq
        rw [Bool.and_eq_true, (hc.2.2.1 m hm x (by omega)).1, q_net hc hx hn hN h hm, Bool.and_eq_true, Bool.and_eq_true] at h1
        have e : m = n := of_decide_eq_true h1.2.2.1
        rw [e, (hs n hn).1, hs1] at h1
        cases h1.1
theorem q_dr_iff (hb : q_Bn I D N cl) (hc : q_Bc I D N cl) {x n : Nat} (hn : n < N) (hx : x < 6 * D) : qdo (I 86) (I 87) n x = bt (I 9 n) x := by
  obtain ⟨⟨-, -, hD⟩, -⟩ := hb
  rw [(hc.2.2.1 n hn x (by omega)).1, decide_eq_true (show x < 24 by omega), Bool.true_and]
  unfold qdo
  rw [hc.2.1 x hx]
theorem q_dr_in (hb : q_Bn I D N cl) (hc : q_Bc I D N cl) {x n : Nat} (hn : n < N) (h : bt (I 9 n) x = true) : x < 6 * D ∧ x < 24 ∧ I 12 x = nI n ∧ I 87 x = 0 := by
  have hN := hb.2.1.2.2
  have hx32 : x < 32 := Nat.lt_of_not_le (fun c => by rw [b_big c] at h; cases h)
  rw [(hc.2.2.1 n hn x hx32).1, Bool.and_eq_true, Bool.and_eq_true] at h
  have h1 := of_decide_eq_true h.1
  have h2 := of_decide_eq_true h.2.1
  have hne : I 12 x ≠ -1 := by
    rw [h2]
    intro g
    have := congrArg Int32.toInt g
    rw [nI_toInt (by omega)] at this
    have h3 : ((-1) : Int32).toInt = -1 := by decide
    rw [h3] at this; omega
  exact ⟨((q_Bc_1n hc h1 hn).2 hne).1, h1, h2, of_decide_eq_true h.2.2⟩
theorem q_driven_bit (hb : q_Bn I D N cl) (hc : q_Bc I D N cl) (hs : q_Bs I N) (hd : q_Dr I D f) {n : Nat} (hn : n < N) : decide ((I 9 n &&& (qDu D N (I 11) (I 9) (I 38) (I 41) ^^^ (-1))) = 0) = !qAny (6 * D) (fun x => qdo (I 86) (I 87) n x && !qdh f (I 88) x n) := by
  have hN := hb.2.1.2.2
  have hD := hb.1.2.2
  cases hq : qAny (6 * D) (fun x => qdo (I 86) (I 87) n x && !qdh f (I 88) x n) with
  | true =>
    obtain ⟨x, hx, h1⟩ := qAny_iff.mp hq
    rw [Bool.and_eq_true, q_dr_iff hb hc hn hx] at h1
    obtain ⟨-, g2, g3, g4⟩ := q_dr_in hb hc hn h1.1
    refine decide_eq_false (fun c => ?_)
    have := b_zero.mp c x (by omega)
    rw [b_and, b_not _ (by omega), q_up_bit hb hc hs hd g2 hn g3 g4, h1.1, h1.2] at this
    cases this
  | false =>
    refine decide_eq_true (b_zero.mpr (fun x hx => ?_))
    rw [b_and, b_not _ hx]
    cases hb9 : bt (I 9 n) x with
    | false => rfl
    | true =>
      obtain ⟨g1, g2, g3, g4⟩ := q_dr_in hb hc hn hb9
      rw [q_up_bit hb hc hs hd g2 hn g3 g4]
      cases hh : qdh f (I 88) x n with
      | true => rfl
      | false =>
        rw [qAny_iff.mpr ⟨x, g1, by rw [q_dr_iff hb hc hn g1, hb9, hh]; rfl⟩] at hq
        cases hq
theorem q_driving_bit (hb : q_Bn I D N cl) (hc : q_Bc I D N cl) (hs : q_Bs I N) (hd : q_Dr I D f) {n : Nat} (hn : n < N) : decide ((I 9 n &&& qDu D N (I 11) (I 9) (I 38) (I 41)) = 0) = !qAny (6 * D) (fun x => qdo (I 86) (I 87) n x && qdh f (I 88) x n) := by
  have hN := hb.2.1.2.2
  have hD := hb.1.2.2
  cases hq : qAny (6 * D) (fun x => qdo (I 86) (I 87) n x && qdh f (I 88) x n) with
  | true =>
    obtain ⟨x, hx, h1⟩ := qAny_iff.mp hq
    rw [Bool.and_eq_true, q_dr_iff hb hc hn hx] at h1
    obtain ⟨-, g2, g3, g4⟩ := q_dr_in hb hc hn h1.1
    refine decide_eq_false (fun c => ?_)
    have := b_zero.mp c x (by omega)
    rw [b_and, q_up_bit hb hc hs hd g2 hn g3 g4, h1.1, h1.2] at this
    cases this
  | false =>
    refine decide_eq_true (b_zero.mpr (fun x hx => ?_))
    rw [b_and]
    cases hb9 : bt (I 9 n) x with
    | false => rfl
    | true =>
      obtain ⟨g1, g2, g3, g4⟩ := q_dr_in hb hc hn hb9
      rw [q_up_bit hb hc hs hd g2 hn g3 g4]
      cases hh : qdh f (I 88) x n with
      | false => rfl
      | true =>
        rw [qAny_iff.mpr ⟨x, g1, by rw [q_dr_iff hb hc hn g1, hb9, hh]; rfl⟩] at hq
        cases hq
/-- what the drivers make of the nets -/
def qDn (I : Nat → Nat → Int32) (D N : Nat) : Int32 := qB N (fun n => decide ((I 9 n &&& (qDu D N (I 11) (I 9) (I 38) (I 41) ^^^ (-1))) = 0))
theorem q_Dn_bit (hb : q_Bn I D N cl) (hc : q_Bc I D N cl) (hs : q_Bs I N) (hd : q_Dr I D f) {n : Nat} (hn : n < N) : qb (!qAny (6 * D) (fun x => qdo (I 86) (I 87) n x && !qdh f (I 88) x n)) = qb (bt (qDn I D N) n) := by
  have hN := hb.2.1.2.2
  unfold qDn
  rw [b_qB _ (by omega) (by omega), decide_eq_true hn, Bool.true_and, q_driven_bit hb hc hs hd hn]
theorem q_Dn_big (hN : N ≤ 6) {v : Nat} (hv : 6 ≤ v) : bt (qDn I D N) v = false := by
  by_cases h : v < 32
  · unfold qDn; rw [b_qB _ (by omega) h, decide_eq_false (by omega), Bool.false_and]
  · exact b_big (by omega)
/-- a cell of a net reads its level, were it not open -/
theorem q_rd_bit (hb : q_Bn I D N cl) (hc : q_Bc I D N cl) {lv op fl : Int32} {x n : Nat} (hx : x < 24) (hn : n < N) (h : I 12 x = nI n) : bt (qRa N (I 9) (I 10) lv op fl) x = if bt op x then bt fl x else bt lv n := by
  have hN := hb.2.1.2.2
  rw [b_qRa (by omega)]
  have hne : I 12 x ≠ -1 := by
    rw [h]
    intro g
    have := congrArg Int32.toInt g
    rw [nI_toInt (by omega)] at this
    have h3 : ((-1) : Int32).toInt = -1 := by decide
    rw [h3] at this; omega
  have h01 := ((q_Bc_1n hc hx hn).2 hne).2.2
  have hq : qAny N (fun m => bt lv m && (bt (I 9 m) x || bt (I 10 m) x)) = bt lv n := by
    have hm : ∀ m, m < N → (bt (I 9 m) x || bt (I 10 m) x) = decide (m = n) := by
      intro m hm
      rw [(hc.2.2.1 m hm x (by omega)).1, (hc.2.2.1 m hm x (by omega)).2, decide_eq_true hx, q_net hc hx hn hN h hm]
      rcases h01 with h0 | h0 <;> rw [h0] <;> cases decide (m = n) <;> rfl
    cases hb1 : bt lv n with
    | true => exact qAny_iff.mpr ⟨n, hn, by rw [hb1, hm n hn, decide_eq_true rfl]; rfl⟩
    | false =>
      cases hy : qAny N (fun m => bt lv m && (bt (I 9 m) x || bt (I 10 m) x)) with
      | false => rfl
      | true =>
        obtain ⟨m, hmn, h1⟩ := qAny_iff.mp hy
        rw [hm m hmn, Bool.and_eq_true] at h1
        rw [of_decide_eq_true h1.2, hb1] at h1
        cases h1.1
  rw [hq]
theorem q_rd_none (hc : q_Bc I D N cl) (hN : N ≤ 6) {lv fl op : Int32} {x : Nat} (hx : x < 24) (h : I 12 x = -1) (ho : bt op x = false) : bt (qRa N (I 9) (I 10) lv op fl) x = false := by
  rw [b_qRa (by omega), ho, if_neg Bool.false_ne_true]
  cases hy : qAny N (fun m => bt lv m && (bt (I 9 m) x || bt (I 10 m) x)) with
  | false => rfl
  | true =>
    obtain ⟨m, hmn, h1⟩ := qAny_iff.mp hy
    have hd : decide (I 12 x = nI m) = false := decide_eq_false (fun g => by
      rw [h] at g
      have := congrArg Int32.toInt g
      rw [nI_toInt (by omega)] at this
      have h3 : ((-1) : Int32).toInt = -1 := by decide
      rw [h3] at this; omega)
    rw [(hc.2.2.1 m hmn x (by omega)).1, (hc.2.2.1 m hmn x (by omega)).2, hd] at h1
    simp at h1
end RE
