/-! ===== a clock: both alike ===== -/
theorem q_of_bits {x : Int32} {m : Nat} (hm : m ≤ 30) (h : ∀ i, m ≤ i → i < 32 → bt x i = false) : ∃ k : Nat, k < 2 ^ m ∧ x = nI k := by
  obtain ⟨X, hX, rfl⟩ := wb_of32 x
  refine ⟨X, Nat.lt_pow_two_of_testBit X (fun i hi => ?_), rfl⟩
  by_cases h32 : i < 32
  · rw [← q_tbI h32]; exact h i hi h32
  · exact Nat.testBit_lt_two_pow (Nat.lt_of_lt_of_le hX (Nat.pow_le_pow_right (by omega) (by omega)))
theorem q_shb {x : Int32} {m w : Nat} (hm : m ≤ 30) (hw : 1 ≤ w) (hwm : w ≤ m) (hx : ∃ k : Nat, k < 2 ^ m ∧ x = nI k) (b : Bool) : ∃ k : Nat, k < 2 ^ m ∧ (x >>> ((1 : Int32) &&& 31)) ||| (qb b <<< ((nI w - 1) &&& 31)) = nI k := by
  obtain ⟨k, hk, rfl⟩ := hx
  refine q_of_bits hm (fun i h1 h2 => ?_)
  have hz := nI_bits hk (by omega)
  rw [b_or, nI_1s hw, show (1 : Int32) = nI 1 from rfl, b_sshr 1 (by omega) _ h2, b_shl (w - 1) (by omega) _ h2, b_qb, decide_eq_false (show ¬ i - (w - 1) = 0 by omega), Bool.and_false, Bool.and_false, Bool.or_false]
  by_cases h3 : 1 + i < 32
  · rw [if_pos h3]; exact hz _ (by omega)
  · rw [if_neg h3]; exact hz _ (by omega)
theorem qSh_b {bits row : Nat → Int32} {t : Int32} (ht : ∃ b, t = qb b) : ∀ n, ∃ b, qSh bits row t n = qb b
  | 0 => ht
  | n + 1 => by
    show ∃ b, (if bits n = 0 then qSh bits row t n else row n &&& 1) = qb b
    by_cases h : bits n = 0
    · rw [if_pos h]; exact qSh_b ht n
    · rw [if_neg h]; exact ⟨_, b_and1 _⟩
theorem qSh_cong {bits row bits' row' : Nat → Int32} {t : Int32} : ∀ n, (∀ d, d < n → bits d = bits' d ∧ row d = row' d) → qSh bits row t n = qSh bits' row' t n
  | 0, _ => rfl
  | n + 1, h => by
    show (if bits n = 0 then qSh bits row t n else row n &&& 1) = (if bits' n = 0 then qSh bits' row' t n else row' n &&& 1)
    rw [(h n (by omega)).1, (h n (by omega)).2, qSh_cong n (fun d hd => h d (by omega))]
theorem qShr_cong {bits row bits' row' : Nat → Int32} {t : Int32} {d : Nat} (h : ∀ k, k ≤ d → bits k = bits' k ∧ row k = row' k) : qShr bits row t d = qShr bits' row' t d := by
  unfold qShr
  rw [(h d (Nat.le_refl _)).1, (h d (Nat.le_refl _)).2, qSh_cong d (fun k hk => h k (by omega))]
theorem qRs_b {id ir : Int32} (hr : ∃ k : Nat, 2 ≤ k ∧ k ≤ 4 ∧ ir = nI k) : ∃ k : Nat, k < 16 ∧ qRs id ir = nI k ∧ k ≠ 0 := by
  obtain ⟨k, h1, h2, rfl⟩ := hr
  unfold qRs
  by_cases h : id < 0
  · rw [if_pos h]
    have : k = 2 ∨ k = 3 ∨ k = 4 := by omega
    rcases this with rfl | rfl | rfl
    · exact ⟨3, by decide, by decide, by decide⟩
    · exact ⟨7, by decide, by decide, by decide⟩
    · exact ⟨15, by decide, by decide, by decide⟩
  · rw [if_neg h]; exact ⟨1, by decide, rfl, by decide⟩
theorem qCap_eq {rd : Int32} {od id cl : Nat → Int32} {k d : Nat} (hk : k ≤ 6) (hd : d < 4) (hc : cl d = nI k) : qCap rd od id cl d = qCpr rd (od d) (id d) k d := by
  unfold qCap qCpr
  have hb : (rd >>> (nI (6 * d) &&& 31)) &&& (((1 : Int32) <<< (cl d &&& 31)) - 1) = qB k (fun c => bt rd (6 * d + c)) := by
    apply b_ext
    intro i hi
    rw [b_and, b_sshr (6 * d) (by omega) _ hi, hc, b_mask k (by omega) i hi, b_qB _ (by omega) hi]
    by_cases h : i < k
    · rw [if_pos (by omega), decide_eq_true h, Bool.and_true, Bool.true_and]
    · rw [decide_eq_false h, Bool.and_false, Bool.false_and]
  rw [hb]
  by_cases c1 : od d = 0 ∨ od d = 2
  · rw [if_pos c1, if_neg (fun c => by rcases c1 with h | h <;> rw [h] at c <;> exact absurd c.1 (by decide)), if_pos c1]
  · rw [if_neg c1, if_neg c1]
theorem qCpr_b {RA od id : Int32} {k d : Nat} (hk : k ≤ 6) (hid : id = -1 ∨ ∃ j : Nat, j < 128 ∧ id = nI j) : (∃ j : Nat, j < 256 ∧ qCpr RA od id k d = nI j) ∧ (od = 0 → ∃ j : Nat, j < 64 ∧ qCpr RA od id k d = nI j) := by
  have hB : ∃ j : Nat, j < 64 ∧ qB k (fun c => bt RA (6 * d + c)) = nI j := q_of_bits (m := 6) (by omega) (fun i h1 h2 => by rw [b_qB _ (by omega) h2, decide_eq_false (by omega), Bool.false_and])
  unfold qCpr
  by_cases c1 : od = 1 ∧ ¬ id < 0
  · rw [if_pos c1]
    refine ⟨?_, fun c => absurd (c1.1.symm.trans c) (by decide)⟩
    rcases hid with h | ⟨j, hj, h⟩
    · exact absurd (by rw [h]; decide) c1.2
    · exact ⟨2 * j + 1, by omega, by rw [h, show (2 : Int32) = nI 2 from rfl, pk_mul, nI_1]⟩
  · rw [if_neg c1]
    by_cases c2 : od = 0 ∨ od = 2
    · rw [if_pos c2]
      obtain ⟨j, h1, h2⟩ := hB
      exact ⟨⟨j, by omega, h2⟩, fun _ => ⟨j, h1, h2⟩⟩
    · rw [if_neg c2]
      exact ⟨⟨0, by omega, rfl⟩, fun _ => ⟨0, by omega, rfl⟩⟩
theorem q_xor1 {x : Int32} {m : Nat} (h1 : 1 ≤ m) (hm : m ≤ 30) (hx : ∃ k : Nat, k < 2 ^ m ∧ x = nI k) : ∃ k : Nat, k < 2 ^ m ∧ x ^^^ 1 = nI k := by
  obtain ⟨k, hk, rfl⟩ := hx
  refine q_of_bits hm (fun i h2 h3 => ?_)
  rw [b_xor, nI_bits hk (by omega) i h2, show (1 : Int32) = nI 1 from rfl, nI_bits (k := 1) (n := 1) (by omega) (by omega) i (by omega)]
  rfl
theorem nI_mod {a b : Nat} (ha : a < 2 ^ 31) (hb : b < 2 ^ 31) (h0 : 0 < b) : nI a % nI b = nI (a % b) := by
  apply Int32.toInt_inj.mp
  rw [Int32.toInt_mod, nI_toInt ha, nI_toInt hb, nI_toInt (Nat.lt_of_le_of_lt (Nat.mod_le a b) ha)]
  rfl
theorem qSd_b {x : Int32} (h : ∃ k : Nat, k < 1000 ∧ x = nI k) : ∃ k : Nat, k < 1000 ∧ qSd x = nI k := by
  obtain ⟨k, hk, rfl⟩ := h
  refine ⟨(k * 137 + 71) % 1000, Nat.mod_lt _ (by omega), ?_⟩
  unfold qSd
  rw [show (137 : Int32) = nI 137 from rfl, show (71 : Int32) = nI 71 from rfl, show (1000 : Int32) = nI 1000 from rfl, pk_mul, nI_add, nI_mod (by omega) (by decide) (by decide)]
/-- a device's numbers, alike -/
def q_Dc (c r : Nat → Int32) (d : Nat) : Prop := (c (3 + d) = r (3 + d) ∧ ∃ k : Nat, k < 16 ∧ r (3 + d) = nI k) ∧ (c (7 + d) = r (7 + d) ∧ ∃ k : Nat, k < 16 ∧ r (7 + d) = nI k) ∧ (c (11 + d) = r (11 + d) ∧ ∃ k : Nat, k < 256 ∧ r (11 + d) = nI k) ∧ (c (15 + d) = r (15 + d) ∧ ∃ k : Nat, k < 64 ∧ r (15 + d) = nI k) ∧ (r (3 + d) = 0 → ∃ k : Nat, k < 64 ∧ r (11 + d) = nI k)
theorem q_Ch_mk {D N : Nat} {A : Nat → Bool} {c r c' r' : Nat → Int32} (hD : D ≤ 4) (hN : N ≤ 6) (h : q_Ch D N A c r) (hc : ∀ k, 19 ≤ k → c' k = c k) (hr : ∀ k, 19 ≤ k → r' k = r k) (h0 : c' 0 = r' 0 ∧ ∃ k : Nat, k < 16 ∧ r' 0 = nI k) (h1 : c' 1 = r' 1 ∧ ∃ k : Nat, k ≤ 10000 ∧ r' 1 = nI k) (h2 : c' 2 = r' 2 ∧ ∃ k : Nat, k < 1000 ∧ r' 2 = nI k) (hd : ∀ d, d < D → q_Dc c' r' d) : q_Ch D N A c' r' := by
  obtain ⟨-, -, -, -, ⟨f1, f2, f3, f4⟩, g6, g7, g8⟩ := h
  have hF : (fun k => c' (19 + k)) = (fun k => c (19 + k)) := funext (fun k => hc _ (by omega))
  refine ⟨h0, h1, h2, hd, ?_, ?_, ?_, ?_⟩
  · rw [hF]
    refine ⟨fun n hn => ?_, f2, fun p hp => ?_, f4⟩
    · rw [hr _ (by omega)]; exact f1 n hn
    · rw [hr _ (by omega)]; exact f3 p hp
  · intro n n1 n2
    rw [hr _ (by omega)]; exact g6 n n1 n2
  · intro x hx
    rw [hc _ (by omega), hr _ (by omega)]; exact g7 x hx
  · intro d hd
    rw [hr _ (by omega)]; exact g8 d hd
