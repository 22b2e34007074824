/-! ===== bytes, runs of bytes, words ===== -/
theorem q_lcm (x y : Int64) : lg_cmp x y = 0 ↔ x = y := by
  unfold lg_cmp
  by_cases h : x = y
  · subst h; simp
  · simp [h]
    split <;> decide
theorem b_i8h (x : Int32) {i : Nat} (h8 : 8 ≤ i) (hi : i < 32) : bt (x.toInt8.toInt32) i = bt (x.toInt8.toInt32) 7 := by
  unfold bt
  rw [Int8.toBitVec_toInt32, BitVec.getLsbD_signExtend, BitVec.getLsbD_signExtend, decide_eq_true hi, if_neg (show ¬ i < 8 by omega), decide_eq_true (show 7 < 32 by omega), if_pos (show 7 < 8 by omega), BitVec.msb_eq_getLsbD_last]
def qby (v : Nat) : Int32 := (nI v).toInt8.toInt32
theorem q_by_of {t : Int32} (h : t = t.toInt8.toInt32) : ∃ v, v < 256 ∧ t = qby v ∧ t &&& 255 = nI v := by
  obtain ⟨v, hv, e⟩ := q_of_bits (x := t &&& 255) (m := 8) (by omega) (fun i h8 hi => by rw [b_and, b_255, decide_eq_false (by omega), Bool.and_false])
  refine ⟨v, hv, ?_, e⟩
  unfold qby
  rw [← e]
  have hb : ∀ i, i < 8 → bt ((t &&& 255).toInt8.toInt32) i = bt t i := fun i hi => by rw [b_i8 _ hi, b_and, b_255, decide_eq_true hi, Bool.and_true]
  apply b_ext
  intro i hi
  by_cases h8 : i < 8
  · rw [hb i h8]
  · rw [b_i8h _ (by omega) hi, hb 7 (by omega)]
    have h1 := b_i8h t (i := i) (by omega) hi
    rw [← h] at h1
    exact h1
/-- letters, digits, blanks, signs among the bytes -/
def qLe (v : Nat) : Bool := decide (97 ≤ v) && decide (v ≤ 122)
def qDi (v : Nat) : Bool := decide (48 ≤ v) && decide (v ≤ 57)
def qBk (v : Nat) : Bool := decide (v = 32) || decide (v = 10)
def qSn (v : Nat) : Bool := decide (v = 59) || (decide (v = 40) || (decide (v = 41) || (decide (v = 60) || (decide (v = 62) || (decide (v = 61) || (decide (v = 43) || (decide (v = 45) || (decide (v = 42) || (decide (v = 47) || decide (v = 37))))))))))
theorem q_by_t : ∀ v, v < 256 → (decide (qby v = 32) = decide (v = 32)) ∧ (decide (qby v = 10) = decide (v = 10)) ∧ ((!decide (qby v < 97) && !decide ((122 : Int32) < qby v)) = qLe v) ∧ ((!decide (qby v < 48) && !decide ((57 : Int32) < qby v)) = qDi v) ∧
    (decide (nI v = 32) = decide (v = 32)) ∧ (decide (nI v = 10) = decide (v = 10)) ∧ ((!decide (nI v < 97) && !decide ((122 : Int32) < nI v)) = qLe v) ∧ ((!decide (nI v < 48) && !decide ((57 : Int32) < nI v)) = qDi v) ∧ ¬ nI v < 0 := by decide +kernel
theorem q_by_l : ∀ v, v < 256 → qLe v = true → (((qby v - 97) + 1).toInt64 = lN (v - 96)) ∧ (nI v).toInt64 = lN v := by decide +kernel
theorem q_by_d : ∀ v, v < 256 → qDi v = true → (qby v - 48 = nI (v - 48)) := by decide +kernel
theorem q_by_s : ∀ v, v < 256 → qSn v = true → qby v = nI v := by decide +kernel
/-- where a run ends -/
def qre (c : Nat → Bool) : Nat → Nat → Nat
  | 0, p => p
  | f + 1, p => if c p then qre c f (p + 1) else p
theorem qre_le (c : Nat → Bool) : ∀ (f p : Nat), p ≤ qre c f p ∧ qre c f p ≤ p + f := by
  intro f
  induction f with
  | zero => intro p; exact ⟨Nat.le_refl _, Nat.le_refl _⟩
  | succ f ih =>
    intro p
    unfold qre
    split
    · have := ih (p + 1); omega
    · omega
theorem qre_in {c : Nat → Bool} : ∀ {f p k : Nat}, p ≤ k → k < qre c f p → c k = true := by
  intro f
  induction f with
  | zero => intro p k h1 h2; exact absurd h2 (by unfold qre; omega)
  | succ f ih =>
    intro p k h1 h2
    unfold qre at h2
    split at h2
    · rename_i h
      by_cases he : k = p
      · rw [he]; exact h
      · exact ih (by omega) h2
    · omega
theorem qre_out {c : Nat → Bool} : ∀ {f p : Nat}, qre c f p < p + f → c (qre c f p) = false := by
  intro f
  induction f with
  | zero => intro p h; exact absurd h (by unfold qre; omega)
  | succ f ih =>
    intro p h
    unfold qre at h ⊢
    split
    · rename_i hc
      rw [if_pos hc] at h
      exact ih (by omega)
    · rename_i hc
      cases hx : c p with
      | true => exact absurd hx hc
      | false => rfl
/-- a word as a number: digits one behind the other -/
def qpv (B o : Nat) (g : Nat → Nat) : Nat → Nat
  | 0 => 0
  | k + 1 => qpv B o g k * B + (g k + o)
theorem qpv_lt {B o : Nat} {g : Nat → Nat} : ∀ {k : Nat}, (∀ i, i < k → g i + o < B) → qpv B o g k < B ^ k := by
  intro k
  induction k with
  | zero => intro _; exact Nat.one_pos
  | succ k ih =>
    intro h
    have h1 := ih (fun i hi => h i (by omega))
    have h2 := h k (by omega)
    show qpv B o g k * B + (g k + o) < B ^ k * B
    have h3 : (qpv B o g k + 1) * B ≤ B ^ k * B := Nat.mul_le_mul_right B h1
    rw [Nat.add_mul, Nat.one_mul] at h3
    omega
theorem qpv_one {a b x y B : Nat} (h : a * B + x = b * B + y) (hx : x < B) (hy : y < B) : a = b ∧ x = y := by
  have h1 : (x + a * B) / B = (y + b * B) / B := by rw [Nat.add_comm x, Nat.add_comm y, h]
  rw [Nat.add_mul_div_right _ _ (by omega), Nat.add_mul_div_right _ _ (by omega), Nat.div_eq_of_lt hx, Nat.div_eq_of_lt hy] at h1
  have h2 : a = b := by omega
  subst h2
  exact ⟨rfl, by omega⟩
theorem qpv_inj {B o : Nat} {g h : Nat → Nat} : ∀ {k m : Nat}, (∀ i, i < k → 1 ≤ g i + o ∧ g i + o < B) → (∀ i, i < m → 1 ≤ h i + o ∧ h i + o < B) → qpv B o g k = qpv B o h m → k = m ∧ ∀ i, i < k → g i = h i := by
  intro k
  induction k with
  | zero =>
    intro m _ hh e
    cases m with
    | zero => exact ⟨rfl, fun i hi => absurd hi (by omega)⟩
    | succ m =>
      have h1 : 0 = qpv B o h m * B + (h m + o) := e
      have := hh m (by omega)
      omega
  | succ k ih =>
    intro m hg hh e
    cases m with
    | zero =>
      have h1 : qpv B o g k * B + (g k + o) = 0 := e
      have := hg k (by omega)
      omega
    | succ m =>
      have h1 : qpv B o g k * B + (g k + o) = qpv B o h m * B + (h m + o) := e
      obtain ⟨h2, h3⟩ := qpv_one h1 (hg k (by omega)).2 (hh m (by omega)).2
      obtain ⟨h4, h5⟩ := ih (fun i hi => hg i (by omega)) (fun i hi => hh i (by omega)) h2
      subst h4
      refine ⟨rfl, fun i hi => ?_⟩
      by_cases hk : i = k
      · subst hk; omega
      · exact h5 i (by omega)
theorem qpv_cong {B o : Nat} {g h : Nat → Nat} : ∀ {k : Nat}, (∀ i, i < k → g i = h i) → qpv B o g k = qpv B o h k := by
  intro k
  induction k with
  | zero => intro _; rfl
  | succ k ih =>
    intro e
    show qpv B o g k * B + (g k + o) = qpv B o h k * B + (h k + o)
    rw [ih (fun i hi => e i (by omega)), e k (by omega)]
theorem lN_inj {a b : Nat} (ha : a < 2 ^ 64) (hb : b < 2 ^ 64) (h : lN a = lN b) : a = b := by
  have : (lN a).toBitVec.toNat = (lN b).toBitVec.toNat := by rw [h]
  rw [wb_tn ha, wb_tn hb] at this
  exact this
/-- a word: what the class makes of it, what the reference -/
def q_Wd (c r : Int64) : Prop := ∃ (k : Nat) (g : Nat → Nat), k ≤ 8 ∧ (∀ i, i < k → 1 ≤ g i ∧ g i ≤ 26) ∧ c = lN (qpv 32 0 g k) ∧ r = lN (qpv 256 96 g k)
theorem q_Wd_b {B o k : Nat} {g : Nat → Nat} (hk : k ≤ 8) (h1 : B ≤ 256) (hB : 27 + o ≤ B) (hg : ∀ i, i < k → 1 ≤ g i ∧ g i ≤ 26) : qpv B o g k < 2 ^ 64 := by
  have h2 := qpv_lt (B := B) (o := o) (g := g) (k := k) (fun i hi => by have := hg i hi; omega)
  have h3 : B ^ k ≤ 256 ^ k := Nat.pow_le_pow_left h1 k
  have h4 : 256 ^ k ≤ 256 ^ 8 := Nat.pow_le_pow_right (by decide) hk
  have h5 : (256 : Nat) ^ 8 = 2 ^ 64 := by decide
  rw [← h5]
  exact Nat.lt_of_lt_of_le h2 (Nat.le_trans h3 h4)
theorem q_Wd_iff {c r c' r' : Int64} (h : q_Wd c r) (h' : q_Wd c' r') : c = c' ↔ r = r' := by
  obtain ⟨k, g, hk, hg, e1, e2⟩ := h
  obtain ⟨k', g', hk', hg', e1', e2'⟩ := h'
  subst e1; subst e2; subst e1'; subst e2'
  have hf : ∀ {B o : Nat}, B ≤ 256 → 27 + o ≤ B → lN (qpv B o g k) = lN (qpv B o g' k') → k = k' ∧ ∀ i, i < k → g i = g' i := fun h1 h2 e => qpv_inj (fun i hi => by have := hg i hi; omega) (fun i hi => by have := hg' i hi; omega) (lN_inj (q_Wd_b hk h1 h2 hg) (q_Wd_b hk' h1 h2 hg') e)
  constructor
  · intro e
    obtain ⟨a, b⟩ := hf (by omega) (by omega) e
    subst a
    rw [qpv_cong b]
  · intro e
    obtain ⟨a, b⟩ := hf (by omega) (by omega) e
    subst a
    rw [qpv_cong b]
theorem q_w32 (a l : Nat) : lN a * 32 + lN l = lN (a * 32 + l) := by
  rw [show (32 : Int64) = lN 32 from rfl, ← lN_ad, show lN a * lN 32 = lN (a * 32) from (Int64.ofNat_mul a 32).symm]
theorem q_w256 {a l : Nat} (ha : a < 2 ^ 56) (hl : l < 256) : (lN a <<< ((8 : Int32).toInt64 &&& 63)) ||| lN l = lN (a * 256 + l) := by
  have h1 : lN a <<< ((nI 8).toInt64 &&& 63) = lN (a * 2 ^ 8) := wb_shl a (by decide)
  have h2 : lN a <<< ((8 : Int32).toInt64 &&& 63) = lN (a * 2 ^ 8) := h1
  rw [h2, wb_or (by omega) (by omega)]
  have h3 := Nat.two_pow_add_eq_or_of_lt (i := 8) (b := l) (by omega) a
  rw [Nat.mul_comm a (2 ^ 8), ← h3]
/-- the key words -/
def qKL (k : Nat) : List Nat := ([[4, 5, 22, 9, 3, 5], [9, 18], [9, 4], [3, 5, 12, 12, 19], [14, 5, 20], [6, 18, 15, 13], [1, 14, 4], [20, 15], [19, 1, 6, 5], [19, 8, 15, 18, 20], [12, 15, 23], [8, 9, 7, 8], [15, 16, 5, 14], [19, 20, 21, 3, 11], [6, 12, 15, 1, 20, 19], [14, 15, 9, 19, 5], [4, 18, 1, 23], [15, 18], [14, 15, 20], [3, 5, 12, 12], [3, 12, 15, 3, 11]] : List (List Nat)).getD k []
def qKC (k : Nat) : Int64 := lN (qpv 32 0 (fun i => (qKL k).getD i 0) (qKL k).length)
def qKW (k : Nat) : Int64 := lN (qpv 256 96 (fun i => (qKL k).getD i 0) (qKL k).length)
theorem q_KWd : ∀ k, k < 21 → q_Wd (qKC k) (qKW k) := by
  intro k hk
  refine ⟨(qKL k).length, fun i => (qKL k).getD i 0, ?_, ?_, rfl, rfl⟩
  · exact (by decide +kernel : ∀ k, k < 21 → (qKL k).length ≤ 8) k hk
  · exact (by decide +kernel : ∀ k, k < 21 → ∀ i, i < (qKL k).length → 1 ≤ (qKL k).getD i 0 ∧ (qKL k).getD i 0 ≤ 26) k hk
theorem q_KWi : ∀ j, j < 21 → ∀ k, k < 21 → qKW j = qKW k → j = k := by decide +kernel
theorem q_KWv : (qKW 0 = 110386941092709 ∧ qKW 1 = 26994 ∧ qKW 2 = 26980 ∧ qKW 3 = 426903366771 ∧ qKW 4 = 7234932 ∧ qKW 5 = 1718775661 ∧ qKW 6 = 6385252 ∧ qKW 7 = 29807 ∧ qKW 8 = 1935763045 ∧ qKW 9 = 495673373300 ∧ qKW 10 = 7106423) ∧ (qKW 11 = 1751738216 ∧ qKW 12 = 1869636974 ∧ qKW 13 = 495875089259 ∧ qKW 14 = 112615911158899 ∧ qKW 15 = 474315584357 ∧ qKW 16 = 1685217655 ∧ qKW 17 = 28530 ∧ qKW 18 = 7237492 ∧ qKW 19 = 1667591276 ∧ qKW 20 = 427021001579) := by decide +kernel
def q_Ky (J : Nat → Nat → Int64) : Prop := ∀ k, k < 21 → J 32 k = qKC k
