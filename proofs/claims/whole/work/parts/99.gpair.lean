/-! ===== tokens of both, alike ===== -/
def q_Tk (c x : Int32) (w : Int64) (c' x' : Int32) (w' : Int64) : Prop :=
  (c = 0 ∧ c' = 0) ∨ (c = 1 ∧ c' = 3) ∨ (c = 2 ∧ c' = 1 ∧ ∃ k, k < 21 ∧ x = nI k ∧ w' = qKW k) ∨ (c = 3 ∧ c' = 1 ∧ (∀ k, k < 21 → w' ≠ qKW k) ∧ q_Wd w w') ∨ (c = 4 ∧ c' = 2 ∧ ∃ m, m ≤ 9999 ∧ x = nI m ∧ x' = nI m) ∨ (c = 5 ∧ ∃ m, m < 256 ∧ qSn m = true ∧ x = nI m ∧ c' = nI m)
/-- both look at the same token, which begins at s -/
def q_Pt (v : Nat → Nat) (n : Nat) (C : Nat → Nat → Int32) (J : Nat → Nat → Int64) (R : Nat → Nat → Int32) (K : Nat → Nat → Int64) (s : Nat) : Prop :=
  q_Tc C v n ∧ q_Ky J ∧ q_Tf R v n ∧ C 31 4 = nI s ∧ R 64 7 = nI s ∧ s ≤ n ∧ q_Tk (C 31 5) (C 31 6) (J 31 7) (R 64 6) (R 64 8) (K 64 9) ∧
  (C 31 5 ≠ 1 → ∃ p, p ≤ n ∧ C 31 3 = nI p ∧ R 64 4 = nI p ∧ s ≤ p ∧ (C 31 5 ≠ 0 → s < p)) ∧ R 64 2 = 0
theorem q_wk {v : Nat → Nat} {n s : Nat} (h8 : qwe v n s - s ≤ 8) : q_Wd (qwc v n s) (lN (qwr v s (qwe v n s - s))) := by
  refine ⟨qwe v n s - s, fun i => v (s + i) - 96, h8, fun i hi => ?_, rfl, rfl⟩
  have h := qre_in (c := fun k => qLe (v k)) (f := n - s) (p := s) (k := s + i) (by omega) (by show s + i < qwe v n s; omega)
  have h' : qLe (v (s + i)) = true := h
  unfold qLe at h'
  simp at h'
  show 1 ≤ v (s + i) - 96 ∧ v (s + i) - 96 ≤ 26
  omega
theorem q_nk {v : Nat → Nat} {n s : Nat} (h4 : qne v n s - s ≤ 4) : qnv v n s ≤ 9999 := by
  have h1 := qpv_lt (B := 10) (o := 0) (g := fun i => v (s + i) - 48) (k := qne v n s - s) (fun i hi => by
    have h := qre_in (c := fun k => qDi (v k)) (f := n - s) (p := s) (k := s + i) (by omega) (by show s + i < qne v n s; omega)
    have h' : qDi (v (s + i)) = true := h
    unfold qDi at h'
    simp at h'
    show v (s + i) - 48 + 0 < 10
    omega)
  have h2 : (10 : Nat) ^ (qne v n s - s) ≤ 10 ^ 4 := Nat.pow_le_pow_right (by decide) h4
  have h3 : (10 : Nat) ^ 4 = 10000 := by decide
  have h5 : qpv 10 0 (fun i => v (s + i) - 48) (qne v n s - s) = qnv v n s := rfl
  omega
theorem q_adv0 {v : Nat → Nat} {n p L : Nat} {C : Nat → Nat → Int32} {J : Nat → Nat → Int64} {R : Nat → Nat → Int32} {K : Nat → Nat → Int64} {e : QP} (hC : q_Tc C v n) (hK : q_Ky J) (hR : q_Tf R v n) (h3 : C 31 3 = nI p) (h4 : R 64 4 = nI p) (hp : p ≤ n) (hf : R 64 2 = 0) :
    ∃ (f : Nat → Int32) (w : Int64) (g : Nat → Int32) (w' : Int64) (s : Nat), mX9_advance [.ref 31] (qm C J (3, 17, 17, 2, L)) = some (none, qm (va_up C 31 f) (q_up J 31 7 w) (3, 17, 17, 2, L)) ∧ mX12_token [.ref 64] (qm R K e) = some (none, qm (va_up R 64 g) (q_up K 64 9 w') e) ∧
      (∀ k, k ≠ 3 → k ≠ 4 → k ≠ 5 → k ≠ 6 → f k = C 31 k) ∧ (∀ k, k ≠ 4 → k ≠ 6 → k ≠ 7 → k ≠ 8 → g k = R 64 k) ∧ p ≤ s ∧ q_Pt v n (va_up C 31 f) (q_up J 31 7 w) (va_up R 64 g) (q_up K 64 9 w') s := by
  obtain ⟨f, w, e1, f1, t1⟩ := q_advC (L := L) hC hK h3 hp
  obtain ⟨g, w', e2, g1, t2⟩ := q_tokR (K := K) (e := e) hR h4 hp
  have hq := qre_le (fun k => qBk (v k)) (n - p) p
  have hqe : qre (fun k => qBk (v k)) (n - p) p = qse v n p := rfl
  rw [hqe] at hq
  refine ⟨f, w, g, w', qse v n p, e1, e2, f1, g1, hq.1, ?_⟩
  obtain ⟨s1, t1⟩ := t1
  obtain ⟨s2, t2⟩ := t2
  generalize hs : qse v n p = s at s1 t1 s2 t2 hq
  refine ⟨⟨hC.1, by rw [va_hit, f1 2 (by decide) (by decide) (by decide) (by decide)]; exact hC.2.1, fun k hk => by rw [va_miss (by decide)]; exact hC.2.2 k hk⟩,
    fun k hk => by rw [q_up_at3 _ _ (by decide)]; exact hK k hk,
    ⟨hR.1, by rw [va_hit, g1 5 (by decide) (by decide) (by decide) (by decide)]; exact hR.2.1, fun k hk => by rw [va_miss (by decide)]; exact hR.2.2 k hk⟩, by rw [va_hit]; exact s1, by rw [va_hit]; exact s2, by omega, ?_, ?_, by rw [va_hit, g1 2 (by decide) (by decide) (by decide) (by decide)]; exact hf⟩
  · rw [q_up_at1, q_up_at1]
    simp only [va_hit]
    rcases t1 with ⟨a1, a2, a3⟩ | ⟨a1, a2, a3, a4, a5⟩ | ⟨a1, a2, a3, a4, a5, a6⟩ | ⟨a1, a2, a3, a4, a5, a6⟩
    · rcases t2 with ⟨b1, b2, b3⟩ | ⟨b1, _⟩ | ⟨b1, _⟩ | ⟨b1, _⟩
      · exact Or.inl ⟨a2, b2⟩
      · omega
      · omega
      · omega
    · rcases t2 with ⟨b1, _⟩ | ⟨b1, b2, b3⟩ | ⟨b1, b2, _⟩ | ⟨b1, b2, _⟩
      · omega
      · rcases a5 with ⟨c1, c2⟩ | ⟨c1, c2⟩
        · rcases b3 with ⟨d1, d2⟩ | ⟨d1, _⟩
          · exact Or.inr (Or.inl ⟨c2, d2⟩)
          · omega
        · rcases b3 with ⟨d1, _⟩ | ⟨d1, d2, d3, d4⟩
          · omega
          · have hwd : q_Wd w w' := by rw [a4, d4]; exact q_wk c1
            rcases c2 with ⟨k, k1, k2, k3, k4⟩ | ⟨k1, k2⟩
            · exact Or.inr (Or.inr (Or.inl ⟨k3, d2, k, k1, k4, (q_Wd_iff hwd (q_KWd k k1)).mp k2⟩))
            · exact Or.inr (Or.inr (Or.inr (Or.inl ⟨k2, d2, fun k hk he => k1 k hk ((q_Wd_iff hwd (q_KWd k hk)).mpr he).symm, hwd⟩)))
      · rw [a2] at b2; cases b2
      · rw [a2] at b2; cases b2
    · rcases t2 with ⟨b1, _⟩ | ⟨b1, b2, _⟩ | ⟨b1, b2, b3, b4⟩ | ⟨b1, b2, b3, _⟩
      · omega
      · rw [a2] at b2; cases b2
      · rcases b4 with ⟨c1, c2⟩ | ⟨c1, c2, c3, c4⟩
        · rw [if_pos c1] at a6
          exact Or.inr (Or.inl ⟨a6, c2⟩)
        · rw [if_neg c1] at a6
          exact Or.inr (Or.inr (Or.inr (Or.inr (Or.inl ⟨a6, c2, qnv v n s, q_nk (by omega), a5, c4⟩))))
      · rw [a3] at b3; cases b3
    · rcases t2 with ⟨b1, _⟩ | ⟨b1, b2, _⟩ | ⟨b1, b2, b3, _⟩ | ⟨b1, b2, b3, b4⟩
      · omega
      · rw [a2] at b2; cases b2
      · rw [a3] at b3; cases b3
      · have hv := (hC.2.2 s a1).1
        rcases b4 with ⟨c1, c2, c3⟩ | ⟨c1, c2⟩
        · rw [if_pos c1] at a6
          exact Or.inr (Or.inr (Or.inr (Or.inr (Or.inr ⟨a6, v s, hv, c1, by rw [a4]; exact q_by_s _ hv c1, c2⟩))))
        · rw [if_neg (by rw [c1]; decide)] at a6
          exact Or.inr (Or.inl ⟨a6, c2⟩)
  · intro hne
    simp only [va_hit] at hne ⊢
    rcases t1 with ⟨a1, a2, a3⟩ | ⟨a1, a2, a3, a4, a5⟩ | ⟨a1, a2, a3, a4, a5, a6⟩ | ⟨a1, a2, a3, a4, a5, a6⟩
    · rcases t2 with ⟨b1, b2, b3⟩ | ⟨b1, _⟩ | ⟨b1, _⟩ | ⟨b1, _⟩
      · exact ⟨n, Nat.le_refl _, a3, b3, by omega, fun h => absurd a2 h⟩
      · omega
      · omega
      · omega
    · have hb := qre_le (fun k => qLe (v k)) (n - s) s
      have hwe' : qre (fun k => qLe (v k)) (n - s) s = qwe v n s := rfl
      rw [hwe'] at hb
      have hlt : s < qwe v n s := by
        have h1 : qre (fun k => qLe (v k)) (n - s - 1 + 1) s = if qLe (v s) then qre (fun k => qLe (v k)) (n - s - 1) (s + 1) else s := rfl
        rw [show n - s - 1 + 1 = n - s by omega, if_pos a2] at h1
        have h2 := qre_le (fun k => qLe (v k)) (n - s - 1) (s + 1)
        omega
      rcases t2 with ⟨b1, _⟩ | ⟨b1, b2, b3⟩ | ⟨b1, b2, _⟩ | ⟨b1, b2, _⟩
      · omega
      · rcases b3 with ⟨d1, d2⟩ | ⟨d1, d2, d3, d4⟩
        · rcases a5 with ⟨c1, c2⟩ | ⟨c1, c2⟩
          · exact absurd c2 hne
          · omega
        · exact ⟨qwe v n s, by omega, a3, d3, by omega, fun _ => hlt⟩
      · rw [a2] at b2; cases b2
      · rw [a2] at b2; cases b2
    · have hb := qre_le (fun k => qDi (v k)) (n - s) s
      have hwe' : qre (fun k => qDi (v k)) (n - s) s = qne v n s := rfl
      rw [hwe'] at hb
      have hlt : s < qne v n s := by
        have h1 : qre (fun k => qDi (v k)) (n - s - 1 + 1) s = if qDi (v s) then qre (fun k => qDi (v k)) (n - s - 1) (s + 1) else s := rfl
        rw [show n - s - 1 + 1 = n - s by omega, if_pos a3] at h1
        have h2 := qre_le (fun k => qDi (v k)) (n - s - 1) (s + 1)
        omega
      rcases t2 with ⟨b1, _⟩ | ⟨b1, b2, _⟩ | ⟨b1, b2, b3, b4⟩ | ⟨b1, b2, b3, _⟩
      · omega
      · rw [a2] at b2; cases b2
      · rcases b4 with ⟨c1, c2⟩ | ⟨c1, c2, c3, c4⟩
        · rw [if_pos c1] at a6
          exact absurd a6 hne
        · exact ⟨qne v n s, by omega, a4, c3, by omega, fun _ => hlt⟩
      · rw [a3] at b3; cases b3
    · rcases t2 with ⟨b1, _⟩ | ⟨b1, b2, _⟩ | ⟨b1, b2, b3, _⟩ | ⟨b1, b2, b3, b4⟩
      · omega
      · rw [a2] at b2; cases b2
      · rw [a3] at b3; cases b3
      · rcases b4 with ⟨c1, c2, c3⟩ | ⟨c1, c2⟩
        · exact ⟨s + 1, by omega, a5, c3, by omega, fun _ => by omega⟩
        · rw [if_neg (by rw [c1]; decide)] at a6
          exact absurd a6 hne
