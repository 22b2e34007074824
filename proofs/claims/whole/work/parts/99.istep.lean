/-! ===== steps of both ===== -/
/-- what reading a board may change -/
def q_scR (p k : Nat) : Bool := Nat.beq p 67 || (Nat.beq p 68 || (Nat.beq p 71 || ((Nat.ble 74 p && Nat.ble p 82) || (Nat.beq p 64 && ([2, 3, 4, 6, 7, 8, 17, 19, 20, 22, 23, 24, 46, 47, 48, 49, 54, 55] : List Nat).contains k))))
def q_Gf (C : Nat → Nat → Int32) (J : Nat → Nat → Int64) (R : Nat → Nat → Int32) (K : Nat → Nat → Int64) (C' : Nat → Nat → Int32) (J' : Nat → Nat → Int64) (R' : Nat → Nat → Int32) (K' : Nat → Nat → Int64) : Prop := (∀ p, (p < 17 ∨ 31 < p) → C' p = C p ∧ J' p = J p) ∧ (∀ p k, q_scR p k = false → R' p k = R p k) ∧ ∀ p, p ≠ 64 → p ≠ 66 → K' p = K p
theorem q_Gf_refl (C : Nat → Nat → Int32) (J : Nat → Nat → Int64) (R : Nat → Nat → Int32) (K : Nat → Nat → Int64) : q_Gf C J R K C J R K := ⟨fun _ _ => ⟨rfl, rfl⟩, fun _ _ _ => rfl, fun _ _ _ => rfl⟩
theorem q_Gf_trans {C C1 C2 : Nat → Nat → Int32} {J J1 J2 : Nat → Nat → Int64} {R R1 R2 : Nat → Nat → Int32} {K K1 K2 : Nat → Nat → Int64} (h : q_Gf C J R K C1 J1 R1 K1) (g : q_Gf C1 J1 R1 K1 C2 J2 R2 K2) : q_Gf C J R K C2 J2 R2 K2 :=
  ⟨fun p hp => ⟨((g.1 p hp).1).trans (h.1 p hp).1, ((g.1 p hp).2).trans (h.1 p hp).2⟩, fun p k hp => (g.2.1 p k hp).trans (h.2.1 p k hp), fun p a b => (g.2.2 p a b).trans (h.2.2 p a b)⟩
/-- class cells, reference cells laid -/
theorem q_Gf_C {C : Nat → Nat → Int32} {J : Nat → Nat → Int64} {R : Nat → Nat → Int32} {K : Nat → Nat → Int64} {C' : Nat → Nat → Int32} {J' : Nat → Nat → Int64} {R' : Nat → Nat → Int32} {K' : Nat → Nat → Int64} {p k : Nat} {x : Int32} (hp : 17 ≤ p ∧ p ≤ 31) (h : q_Gf C J R K C' J' R' K') : q_Gf C J R K (q_up C' p k x) J' R' K' :=
  ⟨fun q hq => ⟨by rw [q_up_at3 _ _ (by omega)]; exact (h.1 q hq).1, (h.1 q hq).2⟩, h.2.1, h.2.2⟩
theorem q_Gf_J {C : Nat → Nat → Int32} {J : Nat → Nat → Int64} {R : Nat → Nat → Int32} {K : Nat → Nat → Int64} {C' : Nat → Nat → Int32} {J' : Nat → Nat → Int64} {R' : Nat → Nat → Int32} {K' : Nat → Nat → Int64} {p k : Nat} {x : Int64} (hp : 17 ≤ p ∧ p ≤ 31) (h : q_Gf C J R K C' J' R' K') : q_Gf C J R K C' (q_up J' p k x) R' K' :=
  ⟨fun q hq => ⟨(h.1 q hq).1, by rw [q_up_at3 _ _ (by omega)]; exact (h.1 q hq).2⟩, h.2.1, h.2.2⟩
theorem q_Gf_R {C : Nat → Nat → Int32} {J : Nat → Nat → Int64} {R : Nat → Nat → Int32} {K : Nat → Nat → Int64} {C' : Nat → Nat → Int32} {J' : Nat → Nat → Int64} {R' : Nat → Nat → Int32} {K' : Nat → Nat → Int64} {p k : Nat} {x : Int32} (hp : q_scR p k = true) (h : q_Gf C J R K C' J' R' K') : q_Gf C J R K C' J' (q_up R' p k x) K' :=
  ⟨h.1, fun q j hq => by
    by_cases h1 : q = p
    · subst h1
      by_cases h2 : j = k
      · subst h2; rw [hp] at hq; cases hq
      · rw [q_up_at2 _ _ h2]; exact h.2.1 q j hq
    · rw [q_up_at3 _ _ h1]; exact h.2.1 q j hq, h.2.2⟩
theorem q_Gf_K {C : Nat → Nat → Int32} {J : Nat → Nat → Int64} {R : Nat → Nat → Int32} {K : Nat → Nat → Int64} {C' : Nat → Nat → Int32} {J' : Nat → Nat → Int64} {R' : Nat → Nat → Int32} {K' : Nat → Nat → Int64} {p k : Nat} {x : Int64} (hp : p = 64 ∨ p = 66) (h : q_Gf C J R K C' J' R' K') : q_Gf C J R K C' J' R' (q_up K' p k x) :=
  ⟨h.1, h.2.1, fun q a b => by rw [q_up_at3 _ _ (by omega)]; exact h.2.2 q a b⟩
/-- a token on -/
def q_Ad (C : Nat → Nat → Int32) (J : Nat → Nat → Int64) (R : Nat → Nat → Int32) (K : Nat → Nat → Int64) (C' : Nat → Nat → Int32) (J' : Nat → Nat → Int64) (R' : Nat → Nat → Int32) (K' : Nat → Nat → Int64) : Prop :=
  ((∀ p, p ≠ 31 → C' p = C p) ∧ (∀ k, k ≠ 3 → k ≠ 4 → k ≠ 5 → k ≠ 6 → C' 31 k = C 31 k)) ∧ (∀ p, p ≠ 31 → J' p = J p) ∧ ((∀ p, p ≠ 64 → R' p = R p) ∧ (∀ k, k ≠ 4 → k ≠ 6 → k ≠ 7 → k ≠ 8 → R' 64 k = R 64 k)) ∧ (∀ p, p ≠ 64 → K' p = K p)
theorem q_Ad.gf {C : Nat → Nat → Int32} {J : Nat → Nat → Int64} {R : Nat → Nat → Int32} {K : Nat → Nat → Int64} {C' : Nat → Nat → Int32} {J' : Nat → Nat → Int64} {R' : Nat → Nat → Int32} {K' : Nat → Nat → Int64} (h : q_Ad C J R K C' J' R' K') : q_Gf C J R K C' J' R' K' := by
  obtain ⟨⟨h1, _⟩, h2, ⟨h3, h4⟩, h5⟩ := h
  refine ⟨fun p hp => ⟨h1 p (by omega), h2 p (by omega)⟩, fun p k hp => ?_, fun p a _ => h5 p a⟩
  by_cases h64 : p = 64
  · subst h64
    refine h4 k ?_ ?_ ?_ ?_ <;> (intro e; subst e; cases hp)
  · rw [h3 p h64]
theorem q_adv {v : Nat → Nat} {n s L : Nat} {C : Nat → Nat → Int32} {J : Nat → Nat → Int64} {R : Nat → Nat → Int32} {K : Nat → Nat → Int64} {e : QP} (h : q_Pt v n C J R K s) (h0 : C 31 5 ≠ 0) (h1 : C 31 5 ≠ 1) :
    ∃ (C' : Nat → Nat → Int32) (J' : Nat → Nat → Int64) (R' : Nat → Nat → Int32) (K' : Nat → Nat → Int64) (s' : Nat), mX9_advance [.ref 31] (qm C J (3, 17, 17, 2, L)) = some (none, qm C' J' (3, 17, 17, 2, L)) ∧ mX12_token [.ref 64] (qm R K e) = some (none, qm R' K' e) ∧ q_Ad C J R K C' J' R' K' ∧ s < s' ∧ q_Pt v n C' J' R' K' s' := by
  obtain ⟨a1, a2, a3, a4, a5, a6, a7, a8, a9⟩ := h
  obtain ⟨p, p1, p2, p3, p4, p5⟩ := a8 h1
  obtain ⟨f, w, g, w', s', e1, e2, f1, g1, hs, hp⟩ := q_adv0 (L := L) (K := K) (e := e) a1 a2 a3 p2 p3 p1 a9
  refine ⟨_, _, _, _, s', e1, e2, ⟨⟨fun p hp => va_miss hp, fun k a b c d => by rw [va_hit]; exact f1 k a b c d⟩, fun p hp => q_up_at3 _ _ hp, ⟨fun p hp => va_miss hp, fun k a b c d => by rw [va_hit]; exact g1 k a b c d⟩, fun p hp => q_up_at3 _ _ hp⟩, ?_, hp⟩
  have := p5 h0
  omega
theorem q_Pt_eq {v : Nat → Nat} {n s : Nat} {C : Nat → Nat → Int32} {J : Nat → Nat → Int64} {R : Nat → Nat → Int32} {K : Nat → Nat → Int64} {C' : Nat → Nat → Int32} {J' : Nat → Nat → Int64} {R' : Nat → Nat → Int32} {K' : Nat → Nat → Int64} (h : q_Pt v n C J R K s) (c2 : C' 2 = C 2) (c31 : ∀ k, 2 ≤ k → k < 7 → C' 31 k = C 31 k) (j32 : J' 32 = J 32) (j7 : J' 31 7 = J 31 7) (r65 : R' 65 = R 65) (r64 : ∀ k, 2 ≤ k → k < 9 → k ≠ 3 → R' 64 k = R 64 k) (k9 : K' 64 9 = K 64 9) : q_Pt v n C' J' R' K' s := by
  obtain ⟨a1, a2, a3, a4, a5, a6, a7, a8, a9⟩ := h
  have x2 := c31 2 (by omega) (by omega)
  have x3 := c31 3 (by omega) (by omega)
  have x4 := c31 4 (by omega) (by omega)
  have x5 := c31 5 (by omega) (by omega)
  have x6 := c31 6 (by omega) (by omega)
  have y2 := r64 2 (by omega) (by omega) (by omega)
  have y4 := r64 4 (by omega) (by omega) (by omega)
  have y5 := r64 5 (by omega) (by omega) (by omega)
  have y6 := r64 6 (by omega) (by omega) (by omega)
  have y7 := r64 7 (by omega) (by omega) (by omega)
  have y8 := r64 8 (by omega) (by omega) (by omega)
  refine ⟨⟨a1.1, by rw [x2]; exact a1.2.1, by rw [c2]; exact a1.2.2⟩, fun k hk => by rw [j32]; exact a2 k hk, ⟨a3.1, by rw [y5]; exact a3.2.1, by rw [r65]; exact a3.2.2⟩, by rw [x4]; exact a4, by rw [y7]; exact a5, a6, ?_, ?_, by rw [y2]; exact a9⟩
  · rw [x5, x6, j7, y6, y8, k9]; exact a7
  · rw [x5, x3, y4]; exact a8
/-- what a refusal leaves -/
def q_Fq (R R' : Nat → Nat → Int32) : Prop := (∀ p, p ≠ 64 → R' p = R p) ∧ ∀ k, k ≠ 2 → k ≠ 3 → k ≠ 4 → k ≠ 6 → k ≠ 7 → k ≠ 8 → R' 64 k = R 64 k
def q_Gb (C : Nat → Nat → Int32) (J : Nat → Nat → Int64) (R : Nat → Nat → Int32) (K : Nat → Nat → Int64) (C' : Nat → Nat → Int32) (J' : Nat → Nat → Int64) (R' : Nat → Nat → Int32) (K' : Nat → Nat → Int64) : Prop := q_Gf C J R K C' J' R' K' ∧ q_Fq R R'
theorem q_Gb_ad {C C1 C2 : Nat → Nat → Int32} {J J1 J2 : Nat → Nat → Int64} {R R1 R2 : Nat → Nat → Int32} {K K1 K2 : Nat → Nat → Int64} (h : q_Ad C J R K C1 J1 R1 K1) (g : q_Gb C1 J1 R1 K1 C2 J2 R2 K2) : q_Gb C J R K C2 J2 R2 K2 :=
  ⟨q_Gf_trans h.gf g.1, fun p hp => (g.2.1 p hp).trans (h.2.2.1.1 p hp), fun k a b c d f i => (g.2.2 k a b c d f i).trans (h.2.2.1.2 k c d f i)⟩
/-- both refuse, alike -/
def q_Fl (C R : Nat → Nat → Int32) : Prop := C 31 12 = R 64 2 ∧ (0 : Int32) < R 64 2 ∧ C 31 13 = R 64 3
theorem q_refw {v : Nat → Nat} {n s : Nat} {C : Nat → Nat → Int32} {J : Nat → Nat → Int64} {R : Nat → Nat → Int32} {K : Nat → Nat → Int64} (L : Nat) (e : QP) (h : q_Pt v n C J R K s) (a : Int32) (ha : (0 : Int32) < a) :
    ∃ (C' R' : Nat → Nat → Int32), mX9_refuse [.ref 31, .int a] (qm C J (3, 17, 17, 2, L)) = some (some (.int 0), qm C' J (3, 17, 17, 2, L)) ∧ mX12_wrong [.ref 64, .int a] (qm R K e) = some (none, qm R' K e) ∧ q_Fl C' R' ∧ q_Gb C J R K C' J R' K ∧ (∀ p, p ≠ 64 → R' p = R p) ∧ (∀ k, k ≠ 2 → k ≠ 3 → R' 64 k = R 64 k) := by
  refine ⟨_, _, fX9_refuse C J L a, fX12_wrong K e a h.2.2.2.2.2.2.2.2, ⟨?_, ?_, ?_⟩, ?_, ?_, ?_⟩
  · rw [q_up_at2 _ _ (by decide), q_up_at1, q_up_at2 _ _ (by decide), q_up_at1]
    by_cases g : C 31 5 = 1
    · rw [if_pos g, if_pos (h.bad.mp g)]
    · rw [if_neg g, if_neg (fun x => g (h.bad.mpr x))]
  · rw [q_up_at2 _ _ (by decide), q_up_at1]
    split
    · decide
    · exact ha
  · rw [q_up_at1, q_up_at1, h.2.2.2.1, h.2.2.2.2.1]
  · exact ⟨q_Gf_R (by decide) (q_Gf_R (by decide) (q_Gf_C (by omega) (q_Gf_C (by omega) (q_Gf_refl C J R K)))), fun p hp => by rw [q_up_at3 _ _ hp, q_up_at3 _ _ hp], fun k a b _ _ _ _ => by rw [q_up_at2 _ _ b, q_up_at2 _ _ a]⟩
  · intro p hp; rw [q_up_at3 _ _ hp, q_up_at3 _ _ hp]
  · intro k a b; rw [q_up_at2 _ _ b, q_up_at2 _ _ a]
