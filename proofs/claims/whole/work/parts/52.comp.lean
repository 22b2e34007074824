/-! ===== what hangs together: the least closed set ===== -/
def q_Cl (n : Nat) (adj : Nat → Nat → Bool) (T : Nat → Bool) : Prop := ∀ a b, a < n → b < n → T a = true → adj a b = true → T b = true
/-- R is what hangs together with s, of n nets -/
def q_Co (n : Nat) (adj : Nat → Nat → Bool) (s : Nat) (R : Nat → Bool) : Prop := R s = true ∧ (∀ v, R v = true → v < n) ∧ q_Cl n adj R ∧ ∀ T, q_Cl n adj T → T s = true → ∀ v, R v = true → T v = true
theorem q_Co_one {n : Nat} {adj : Nat → Nat → Bool} {s : Nat} {R R' : Nat → Bool} (h : q_Co n adj s R) (h' : q_Co n adj s R') (v : Nat) : R v = R' v := by
  have h1 := h.2.2.2 R' h'.2.2.1 h'.1 v
  have h2 := h'.2.2.2 R h.2.2.1 h.1 v
  cases e1 : R v <;> cases e2 : R' v <;> simp_all
/-- with symmetric neighbours: what hangs together with a member is the same -/
theorem q_Co_mem {n : Nat} {adj : Nat → Nat → Bool} (hsym : ∀ a b, adj a b = adj b a) {s t : Nat} {R : Nat → Bool} (h : q_Co n adj s R) (ht : R t = true) : q_Co n adj t R := by
  refine ⟨ht, h.2.1, h.2.2.1, fun T hT hTt v hv => ?_⟩
  cases hs : T s with
  | true => exact h.2.2.2 T hT hs v hv
  | false =>
    exfalso
    have hc : q_Cl n adj (fun v => !T v) := by
      intro a b ha hb h1 h2
      replace h1 : (!T a) = true := h1
      show (!T b) = true
      cases hb2 : T b with
      | false => rfl
      | true =>
        have := hT b a hb ha hb2 (by rw [hsym]; exact h2)
        rw [this] at h1; cases h1
    have := h.2.2.2 (fun v => !T v) hc (by simp [hs]) t ht
    simp [hTt] at this
/-- more nets, none of them near -/
theorem q_Co_more {n m : Nat} {adj : Nat → Nat → Bool} (hnm : n ≤ m) (hadj : ∀ a b, adj a b = true → a < n ∧ b < n) {s : Nat} (hs : s < n) {R : Nat → Bool} (h : q_Co m adj s R) : q_Co n adj s R := by
  have hT : q_Cl m adj (fun v => decide (v < n)) := by
    intro a b _ _ _ h2
    exact decide_eq_true (hadj a b h2).2
  have hlt : ∀ v, R v = true → v < n := fun v hv => of_decide_eq_true (h.2.2.2 _ hT (decide_eq_true hs) v hv)
  refine ⟨h.1, hlt, fun a b ha hb h1 h2 => h.2.2.1 a b (by omega) (by omega) h1 h2, fun T hcT hTs v hv => ?_⟩
  refine h.2.2.2 T (fun a b _ _ h1 h2 => ?_) hTs v hv
  obtain ⟨g1, g2⟩ := hadj a b h2
  exact hcT a b g1 g2 h1 h2
/-- rounds that grow: after as many as there are nets nothing more is to come -/
theorem q_grow {n : Nat} {adj : Nat → Nat → Bool} (S : Nat → Nat → Bool) {s : Nat} (h0 : ∀ v, S 0 v = decide (v = s)) (hs : s < n)
    (hm : ∀ k v, k < n → S k v = true → S (k + 1) v = true) (hst : ∀ k a b, k < n → a < n → b < n → S k a = true → adj a b = true → S (k + 1) b = true)
    (hsd : ∀ k T, k < n → q_Cl n adj T → (∀ v, S k v = true → T v = true) → ∀ v, S (k + 1) v = true → T v = true) (hlt : ∀ k v, k ≤ n → S k v = true → v < n) : q_Co n adj s (S n) := by
  have hmono : ∀ j k, k + j ≤ n → ∀ v, S k v = true → S (k + j) v = true := by
    intro j
    induction j with
    | zero => intro k _ v h; exact h
    | succ j ih => intro k hk v h; exact hm (k + j) v (by omega) (ih k (by omega) v h)
  have hcount : ∀ k, k ≤ n → (k + 1 ≤ fb_ct (S k) n ∨ ∃ j, j < k ∧ ∀ v, S (j + 1) v = true → S j v = true) := by
    intro k
    induction k with
    | zero =>
      intro _
      refine Or.inl ?_
      exact fb_ct_pos.mpr ⟨s, hs, by rw [h0]; exact decide_eq_true rfl⟩
    | succ k ih =>
      intro hk
      rcases ih (by omega) with h | ⟨j, h1, h2⟩
      · by_cases hx : ∀ v, S (k + 1) v = true → S k v = true
        · exact Or.inr ⟨k, by omega, hx⟩
        · refine Or.inl ?_
          have hx2 : ∃ v, S (k + 1) v = true ∧ S k v = false := by
            apply Classical.byContradiction
            intro hc
            apply hx
            intro v hv
            cases hv2 : S k v with
            | true => rfl
            | false => exact absurd ⟨v, hv, hv2⟩ hc
          obtain ⟨v, hv1, hv2⟩ := hx2
          have hvn := hlt (k + 1) v (by omega) hv1
          have h3 := fb_ct_upd (S k) true (i := v) (n := n) hvn
          rw [hv2] at h3
          have h4 : fb_ct (fun j => if j = v then true else S k j) n ≤ fb_ct (S (k + 1)) n := fb_ct_sub (fun j _ hj => by
            by_cases e : j = v
            · rw [e]; exact hv1
            · rw [if_neg e] at hj; exact hm k j (by omega) hj)
          simp only [if_neg Bool.false_ne_true, if_true] at h3
          omega
      · exact Or.inr ⟨j, by omega, h2⟩
  have hfix : ∃ j, j < n ∧ ∀ v, S (j + 1) v = true → S j v = true := by
    rcases hcount n (Nat.le_refl n) with h | h
    · have := fb_ct_le (S n) n; omega
    · exact h
  obtain ⟨j, hj, hfx⟩ := hfix
  have hcl : q_Cl n adj (S j) := fun a b ha hb h1 h2 => hfx b (hst j a b hj ha hb h1 h2)
  have hstay : ∀ i, j + i ≤ n → ∀ v, S (j + i) v = true → S j v = true := by
    intro i
    induction i with
    | zero => intro _ v h; exact h
    | succ i ih => intro hi v h; exact hsd (j + i) (S j) (by omega) hcl (ih (by omega)) v h
  have heq : ∀ v, S n v = true → S j v = true := fun v h => hstay (n - j) (by omega) v (by rw [show j + (n - j) = n by omega]; exact h)
  have hnj : ∀ v, S j v = true → S n v = true := fun v h => by
    have := hmono (n - j) j (by omega) v h
    rw [show j + (n - j) = n by omega] at this; exact this
  have hss : ∀ k, k ≤ n → ∀ T, q_Cl n adj T → T s = true → ∀ v, S k v = true → T v = true := by
    intro k
    induction k with
    | zero =>
      intro _ T _ hT v hv
      rw [h0] at hv
      rw [of_decide_eq_true hv]; exact hT
    | succ k ih => intro hk T hc hT v hv; exact hsd k T (by omega) hc (ih (by omega) T hc hT) v hv
  refine ⟨hnj s ?_, fun v h => hlt n v (Nat.le_refl n) h, fun a b ha hb h1 h2 => hnj b (hcl a b ha hb (heq a h1) h2), fun T hc hT v hv => hss n (Nat.le_refl n) T hc hT v hv⟩
  have := hmono j 0 (by omega) s (by rw [h0]; exact decide_eq_true rfl)
  rw [Nat.zero_add] at this
  exact this
