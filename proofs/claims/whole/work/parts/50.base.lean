/-! ===== basics for what the code computes ===== -/
theorem va_up_at {α : Type} (f : Nat → α) (k : Nat) (v : α) (j : Nat) : va_up f k v j = if j = k then v else f j := rfl
theorem q_up_row {α : Type} (f : Nat → Nat → α) (p k : Nat) (v : α) (q : Nat) : q_up f p k v q = if q = p then va_up (f p) k v else f q := rfl
theorem q_up_at {α : Type} (f : Nat → Nat → α) (p k : Nat) (v : α) (q j : Nat) : q_up f p k v q j = if q = p then (if j = k then v else f p j) else f q j := by
  rw [q_up_row]
  by_cases h : q = p
  · rw [if_pos h, if_pos h]; rfl
  · rw [if_neg h, if_neg h]
theorem q_up_va {α : Type} (f : Nat → Nat → α) (p k : Nat) (v : α) : q_up f p k v = va_up f p (va_up (f p) k v) := rfl
theorem va_up_up {α : Type} (f : Nat → α) (p : Nat) (a b : α) : va_up (va_up f p a) p b = va_up f p b := by
  funext q
  simp only [va_up_at]
  split <;> rfl
theorem va_up_id {α : Type} (f : Nat → α) (p : Nat) : va_up f p (f p) = f := by
  funext q
  simp only [va_up_at]
  split
  · rename_i h; rw [h]
  · rfl
theorem va_up_eq {α : Type} {f : Nat → α} {p : Nat} {a : α} (h : f p = a) : va_up f p a = f := by rw [← h, va_up_id]
theorem va_up_comm {α : Type} (f : Nat → α) {p q : Nat} (h : p ≠ q) (a b : α) : va_up (va_up f p a) q b = va_up (va_up f q b) p a := by
  funext r
  simp only [va_up_at]
  split
  · rename_i h1
    subst h1
    rw [if_neg (fun g => h g.symm)]
  · rfl
theorem q_up_up {α : Type} (f : Nat → Nat → α) (p : Nat) (g : Nat → α) (k : Nat) (v : α) : q_up (va_up f p g) p k v = va_up f p (va_up g k v) := by
  rw [q_up_va, va_up_up, va_up_at, if_pos rfl]
/-- a truth value as the machine has it -/
def qb (b : Bool) : Int32 := if b then 1 else 0
theorem qb_t : qb true = 1 := rfl
theorem qb_f : qb false = 0 := rfl
theorem qb_0 (b : Bool) : (qb b = 0) ↔ b = false := by cases b <;> decide
theorem qb_1 (b : Bool) : (qb b = 1) ↔ b = true := by cases b <;> decide
theorem qb_ck (b : Bool) : (decide (qb b = 0) || decide (qb b = 1)) = true := by cases b <;> rfl
theorem qb_if (c : Prop) [Decidable c] : (if c then (1 : Int32) else 0) = qb (decide c) := by
  by_cases h : c
  · rw [if_pos h, decide_eq_true h]; rfl
  · rw [if_neg h, decide_eq_false h]; rfl
theorem q_ck_tt {α : Type} (x : Option α) : q_ck true x = x := rfl
theorem q_in_nI {k n : Nat} (h : k < n) (hn : n < 2 ^ 31) : q_in (nI k) n = true := by
  unfold q_in
  rw [nI_clamp (by omega), decide_eq_true h, decide_eq_false (nI_pos (by omega))]
  rfl
theorem nI_n {k : Nat} (h : k < 2 ^ 31) : (nI k).toNatClampNeg = k := nI_clamp h
theorem nI_inj {a b : Nat} (ha : a < 2 ^ 31) (hb : b < 2 ^ 31) (h : nI a = nI b) : a = b := (nI_eq ha hb).mp h
/-- a loop that counts: its state ahead of each round is told -/
theorem q_for {α : Type} (F : Nat → α → Option QR) (n : Nat) (s : Nat → α) (hs : ∀ i, i < n → F i (s i) = F (i + 1) (s (i + 1))) : F 0 (s 0) = F n (s n) := by
  have h : ∀ k, k ≤ n → F 0 (s 0) = F k (s k) := by
    intro k
    induction k with
    | zero => intro _; rfl
    | succ k ih => intro hk; rw [ih (by omega), hs k (by omega)]
  exact h n (Nat.le_refl n)
theorem q_forM {α : Type} (F : Nat → α → Option QR) (m n : Nat) (hmn : m ≤ n) (s : Nat → α) (hs : ∀ i, m ≤ i → i < n → F i (s i) = F (i + 1) (s (i + 1))) : F m (s m) = F n (s n) := by
  have h : ∀ k, m + k ≤ n → F m (s m) = F (m + k) (s (m + k)) := by
    intro k
    induction k with
    | zero => intro _; rfl
    | succ k ih => intro hk; rw [ih (by omega), hs (m + k) (by omega) (by omega)]; rfl
  have := h (n - m) (by omega)
  rw [show m + (n - m) = n by omega] at this
  exact this
/-- a loop with an invariant -/
theorem q_inv_for {α : Type} (F : Nat → α → Option QR) (P : Nat → α → Prop) (n : Nat) (hs : ∀ i a, i < n → P i a → ∃ a', P (i + 1) a' ∧ F i a = F (i + 1) a') : ∀ (k i : Nat) (a : α), i + k = n → P i a → ∃ a', P n a' ∧ F i a = F n a' := by
  intro k
  induction k with
  | zero => intro i a h hp; rw [Nat.add_zero] at h; subst h; exact ⟨a, hp, rfl⟩
  | succ k ih =>
    intro i a h hp
    obtain ⟨a1, h1, h2⟩ := hs i a (by omega) hp
    obtain ⟨a2, h3, h4⟩ := ih (i + 1) a1 (by omega) h1
    exact ⟨a2, h3, h2.trans h4⟩
/-! bits -/
theorem b_one {k : Nat} (hk : k < 32) {i : Nat} (hi : i < 32) : bt ((1 : Int32) <<< (nI k &&& 31)) i = decide (i = k) := by
  rw [b_shl k hk 1 hi]
  have h1 : ∀ j, j < 32 → bt 1 j = decide (j = 0) := by decide +kernel
  by_cases h : k ≤ i
  · rw [h1 _ (by omega), decide_eq_true h, Bool.true_and]
    by_cases g : i = k
    · rw [decide_eq_true g, decide_eq_true (by omega)]
    · rw [decide_eq_false g, decide_eq_false (by omega)]
  · rw [decide_eq_false h, Bool.false_and, decide_eq_false (by omega)]
theorem b_qb (b : Bool) (i : Nat) : bt (qb b) i = (b && decide (i = 0)) := by
  rcases Nat.lt_or_ge i 32 with h | h
  · exact (by decide +kernel : ∀ b : Bool, ∀ i, i < 32 → bt (qb b) i = (b && decide (i = 0))) b i h
  · rw [b_big h, decide_eq_false (by omega), Bool.and_false]
theorem b_and1 (x : Int32) : x &&& 1 = qb (bt x 0) := by
  apply b_ext
  intro i hi
  rw [b_and, b_qb]
  have h1 : ∀ j, j < 32 → bt 1 j = decide (j = 0) := by decide +kernel
  rw [h1 i hi]
  by_cases h : i = 0
  · subst h; rfl
  · rw [decide_eq_false h, Bool.and_false, Bool.and_false]
theorem b_tst (x : Int32) {k : Nat} (hk : k < 32) : (x >>> (nI k &&& 31)) &&& 1 = qb (bt x k) := by
  rw [b_and1, b_sshr k hk x (by omega), if_pos (by omega), Nat.add_zero]
theorem b_tst0 (x : Int32) {k : Nat} (hk : k < 32) : ((x >>> (nI k &&& 31)) &&& 1 = 0) ↔ bt x k = false := by rw [b_tst x hk, qb_0]
theorem b_tst1 (x : Int32) {k : Nat} (hk : k < 32) : ((x >>> (nI k &&& 31)) &&& 1 = 1) ↔ bt x k = true := by rw [b_tst x hk, qb_1]
theorem b_not (x : Int32) {i : Nat} (hi : i < 32) : bt (x ^^^ (-1)) i = !bt x i := by rw [b_xor, b_m1 i hi]; cases bt x i <;> rfl
theorem b_zero {x : Int32} : x = 0 ↔ ∀ i, i < 32 → bt x i = false := ⟨fun h i _ => by rw [h, b_0], fun h => b_ext (fun i hi => by rw [h i hi, b_0])⟩
/-- a set of numbers below n, as bits -/
def qB : Nat → (Nat → Bool) → Int32
  | 0, _ => 0
  | n + 1, p => qB n p ||| (if p n then (1 : Int32) <<< (nI n &&& 31) else 0)
theorem b_qB (p : Nat → Bool) : ∀ {n : Nat}, n ≤ 32 → ∀ {i : Nat}, i < 32 → bt (qB n p) i = (decide (i < n) && p i) := by
  intro n
  induction n with
  | zero => intro _ i _; rw [show qB 0 p = 0 from rfl, b_0, decide_eq_false (by omega)]; rfl
  | succ n ih =>
    intro hn i hi
    show bt (qB n p ||| (if p n then (1 : Int32) <<< (nI n &&& 31) else 0)) i = _
    rw [b_or, ih (by omega) hi]
    by_cases hp : p n = true
    · rw [if_pos hp, b_one (by omega) hi]
      by_cases h : i = n
      · subst h; rw [hp]; simp
      · rw [decide_eq_false h, Bool.or_false]
        by_cases g : i < n
        · rw [decide_eq_true g, decide_eq_true (by omega)]
        · rw [decide_eq_false g, decide_eq_false (by omega)]
    · rw [if_neg hp, b_0, Bool.or_false]
      by_cases h : i = n
      · subst h
        rw [show p i = false from Bool.eq_false_iff.mpr hp, Bool.and_false, Bool.and_false]
      · by_cases g : i < n
        · rw [decide_eq_true g, decide_eq_true (by omega)]
        · rw [decide_eq_false g, decide_eq_false (by omega)]
theorem qB_cong {p q : Nat → Bool} : ∀ {n : Nat}, (∀ k, k < n → p k = q k) → qB n p = qB n q := by
  intro n
  induction n with
  | zero => intro _; rfl
  | succ n ih =>
    intro h
    show qB n p ||| _ = qB n q ||| _
    rw [ih (fun k hk => h k (by omega)), h n (by omega)]
theorem qB_succ (n : Nat) (p : Nat → Bool) : qB (n + 1) p = qB n p ||| (if p n then (1 : Int32) <<< (nI n &&& 31) else 0) := rfl
theorem qB_of {x : Int32} {n : Nat} (hn : n ≤ 32) (h : ∀ i, n ≤ i → i < 32 → bt x i = false) : x = qB n (bt x) := by
  apply b_ext
  intro i hi
  rw [b_qB _ hn hi]
  by_cases g : i < n
  · rw [decide_eq_true g, Bool.true_and]
  · rw [decide_eq_false g, Bool.false_and]; exact h i (by omega) hi
theorem q_or0 (x : Int32) : x ||| 0 = x := by apply b_ext; intro i _; rw [b_or, b_0, Bool.or_false]
theorem qb_shl (b : Bool) {k : Nat} (hk : k < 32) : qb b <<< (nI k &&& 31) = if b then (1 : Int32) <<< (nI k &&& 31) else 0 := by
  cases b with
  | true => rfl
  | false =>
    apply b_ext
    intro i hi
    rw [b_shl k hk _ hi]
    simp only [qb_f, b_0, Bool.and_false, if_neg Bool.false_ne_true]
