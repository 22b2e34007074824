/-! ===== faults of the class and of the reference: the same levels ===== -/
/-- stuck, shorts: a row of the class (5 numbers), one of the reference (65) -/
def q_FR (N : Nat) (F f : Nat → Int32) : Prop :=
  (∀ n, n < N → (f (19 + n) = -1 ∨ f (19 + n) = 0 ∨ f (19 + n) = 1) ∧ bt (F 0) n = !decide (f (19 + n) = -1) ∧ bt (F 1) n = decide (f (19 + n) = 1)) ∧
  (∀ v, N ≤ v → bt (F 0) v = false ∧ bt (F 1) v = false) ∧
  (∀ p, p < 15 → (f (29 + (6 * qla p + qob p)) = 0 ∨ f (29 + (6 * qla p + qob p)) = 1 ∨ f (29 + (6 * qla p + qob p)) = 2) ∧ bt (F 3) p = decide (f (29 + (6 * qla p + qob p)) = 1) ∧ bt (F 4) p = decide (f (29 + (6 * qla p + qob p)) = 2) ∧ (N ≤ qob p → f (29 + (6 * qla p + qob p)) = 0)) ∧
  (∀ v, 15 ≤ v → bt (F 3) v = false ∧ bt (F 4) v = false)
theorem q_pair : ∀ a, a < 6 → ∀ b, b < 6 → a = b ∨ ∃ p, p < 15 ∧ ((a = qla p ∧ b = qob p) ∨ (b = qla p ∧ a = qob p)) := by decide +kernel
theorem qtw_p {p a b : Nat} (hp : p < 15) (h : (a = qla p ∧ b = qob p) ∨ (b = qla p ∧ a = qob p)) : qtw a b = 6 * qla p + qob p ∧ a ≠ b := by
  obtain ⟨-, -, h3, -⟩ := qla_t p hp
  unfold qtw
  rcases h with ⟨h1, h2⟩ | ⟨h1, h2⟩
  · rw [h1, h2, if_pos h3]; exact ⟨rfl, by omega⟩
  · rw [h1, h2, if_neg (by omega)]; exact ⟨rfl, by omega⟩
section FR
variable {N : Nat} {F f : Nat → Int32}
theorem q_FR_adj (h : q_FR N F f) {a b : Nat} (ha : a < 6) (hb : b < 6) : qaC (F 3 ||| F 4) a b = qaj f a b := by
  rcases q_pair a ha b hb with e | ⟨p, hp, hm⟩
  · subst e
    rw [qaj_self]
    cases hx : qaC (F 3 ||| F 4) a a with
    | false => rfl
    | true =>
      obtain ⟨p, hp, h1⟩ := qAny_iff.mp hx
      obtain ⟨-, -, h3, -⟩ := qla_t p hp
      rw [Bool.and_eq_true, Bool.or_eq_true, Bool.and_eq_true] at h1
      rcases h1.2 with ⟨g1, g2⟩ | ⟨g1, g2⟩ <;> (have := of_decide_eq_true g1; have := of_decide_eq_true g2; omega)
  · obtain ⟨e1, e2⟩ := qtw_p hp hm
    obtain ⟨k1, k2, k3, -⟩ := h.2.2.1 p hp
    have hj : qaj f a b = decide ((0 : Int32) < f (29 + (6 * qla p + qob p))) := by unfold qaj qsh; rw [if_neg e2, e1]
    rw [hj]
    have hx : qaC (F 3 ||| F 4) a b = bt (F 3 ||| F 4) p := by
      cases hx : bt (F 3 ||| F 4) p with
      | true =>
        refine qAny_iff.mpr ⟨p, hp, ?_⟩
        rw [hx]
        rcases hm with ⟨m1, m2⟩ | ⟨m1, m2⟩
        · rw [decide_eq_true m1, decide_eq_true m2]; rfl
        · rw [decide_eq_true m1, decide_eq_true m2]; simp
      | false =>
        cases hy : qaC (F 3 ||| F 4) a b with
        | false => rfl
        | true =>
          obtain ⟨q, hq, h1⟩ := qAny_iff.mp hy
          rw [Bool.and_eq_true, Bool.or_eq_true, Bool.and_eq_true, Bool.and_eq_true] at h1
          have hm2 : (a = qla q ∧ b = qob q) ∨ (b = qla q ∧ a = qob q) := by
            rcases h1.2 with ⟨g1, g2⟩ | ⟨g1, g2⟩
            · exact Or.inl ⟨of_decide_eq_true g1, of_decide_eq_true g2⟩
            · exact Or.inr ⟨of_decide_eq_true g1, of_decide_eq_true g2⟩
          have e3 := (qtw_p hq hm2).1
          rw [e1] at e3
          have hpq : p = q := (by decide +kernel : ∀ p, p < 15 → ∀ q, q < 15 → 6 * qla p + qob p = 6 * qla q + qob q → p = q) p hp q hq e3
          rw [← hpq, hx] at h1
          cases h1.1
    rw [hx, b_or, k2, k3]
    rcases k1 with k | k | k <;> rw [k] <;> decide
theorem q_FR_in (h : q_FR N F f) {a b : Nat} (hab : qaC (F 3 ||| F 4) a b = true) : a < N ∧ b < N := by
  obtain ⟨p, hp, h1⟩ := qAny_iff.mp hab
  rw [Bool.and_eq_true, Bool.or_eq_true, Bool.and_eq_true, Bool.and_eq_true, b_or, Bool.or_eq_true] at h1
  obtain ⟨k1, k2, k3, k4⟩ := h.2.2.1 p hp
  obtain ⟨-, -, h3, -⟩ := qla_t p hp
  have hN : qob p < N := by
    apply Nat.lt_of_not_le
    intro hc
    have h0 := k4 hc
    rw [k2, k3, h0] at h1
    rcases h1.1 with g | g <;> cases g
  rcases h1.2 with ⟨g1, g2⟩ | ⟨g1, g2⟩ <;> (have := of_decide_eq_true g1; have := of_decide_eq_true g2; omega)
theorem q_Co_cong {n : Nat} {adj adj' : Nat → Nat → Bool} (h : ∀ a b, a < n → b < n → adj a b = adj' a b) {s : Nat} {R : Nat → Bool} (hc : q_Co n adj s R) : q_Co n adj' s R :=
  ⟨hc.1, hc.2.1, fun a b ha hb h1 h2 => hc.2.2.1 a b ha hb h1 (by rw [h a b ha hb]; exact h2), fun T hT hs => hc.2.2.2 T (fun a b ha hb h1 h2 => hT a b ha hb h1 (by rw [← h a b ha hb]; exact h2)) hs⟩
/-- groups are the same -/
theorem q_FR_set (hN : N ≤ 6) (h : q_FR N F f) {s : Nat} (hs : s < N) : qHn (F 3 ||| F 4) s 6 = qSet N f s := by
  have h1 := q_Co_more hN (fun a b hab => q_FR_in h hab) hs (qHn_Co (F 3 ||| F 4) (s := s) (by omega))
  have h2 := q_Co_cong (adj' := qaj f) (fun a b ha hb => q_FR_adj h (by omega) (by omega)) h1
  have h3 := qRn_Co hN (qaj f) hs
  apply b_ext
  intro i _
  exact q_Co_one h2 h3 i
theorem qHn_mem {x : Int32} {s t : Nat} (hs : s < 6) (ht : bt (qHn x s 6) t = true) : qHn x t 6 = qHn x s 6 := by
  have h1 := qHn_Co x hs
  have ht6 := h1.2.1 t ht
  have h2 := q_Co_mem (qaC_sym x) h1 ht
  apply b_ext
  intro i _
  exact q_Co_one (qHn_Co x ht6) h2 i
theorem qHn_self {x : Int32} {s : Nat} (hs : s < 6) : bt (qHn x s 6) s = true := (qHn_Co x hs).1
theorem qHn_lt {x : Int32} {s v : Nat} (hs : s < 6) (h : bt (qHn x s 6) v = true) : v < 6 := (qHn_Co x hs).2.1 v h
/-- levels, net by net -/
theorem qLs_bits (F : Nat → Int32) (d : Int32) : ∀ k, k ≤ 6 → (∀ v, bt (qLs F d k).2 v = qAny k (fun m => bt (qHn (F 3 ||| F 4) m 6) v)) ∧ ∀ v, bt (qLs F d k).1 v = (bt (qLs F d k).2 v && qUp F d (qHn (F 3 ||| F 4) v 6)) := by
  intro k
  induction k with
  | zero => intro _; exact ⟨fun v => b_0 v, fun v => by rw [show (qLs F d 0) = (0, 0) from rfl, b_0]; rfl⟩
  | succ k ih =>
    intro hk
    obtain ⟨h1, h2⟩ := ih (by omega)
    cases hd : bt (qLs F d k).2 k with
    | true =>
      have hq : qLs F d (k + 1) = qLs F d k := if_pos hd
      rw [hq]
      refine ⟨fun v => ?_, h2⟩
      rw [h1 v]
      show qAny k (fun m => bt (qHn (F 3 ||| F 4) m 6) v) = (qAny k (fun m => bt (qHn (F 3 ||| F 4) m 6) v) || bt (qHn (F 3 ||| F 4) k 6) v)
      cases hv : bt (qHn (F 3 ||| F 4) k 6) v with
      | false => rw [Bool.or_false]
      | true =>
        rw [h1 k] at hd
        obtain ⟨m, hm, hmk⟩ := qAny_iff.mp hd
        have e := qHn_mem (by omega) hmk
        rw [e] at hv
        rw [Bool.or_true]
        exact qAny_iff.mpr ⟨m, hm, hv⟩
    | false =>
      have hq : qLs F d (k + 1) = (if qUp F d (qHn (F 3 ||| F 4) k 6) then (qLs F d k).1 ||| qHn (F 3 ||| F 4) k 6 else (qLs F d k).1, (qLs F d k).2 ||| qHn (F 3 ||| F 4) k 6) := if_neg (by rw [hd]; decide)
      rw [hq]
      refine ⟨fun v => ?_, fun v => ?_⟩
      · show bt ((qLs F d k).2 ||| qHn (F 3 ||| F 4) k 6) v = _
        rw [b_or, h1 v]; rfl
      · show bt (if qUp F d (qHn (F 3 ||| F 4) k 6) then (qLs F d k).1 ||| qHn (F 3 ||| F 4) k 6 else (qLs F d k).1) v = (bt ((qLs F d k).2 ||| qHn (F 3 ||| F 4) k 6) v && _)
        rw [b_or]
        cases hv : bt (qHn (F 3 ||| F 4) k 6) v with
        | false =>
          rw [Bool.or_false, ← h2 v]
          split
          · rw [b_or, hv, Bool.or_false]
          · rfl
        | true =>
          have e := qHn_mem (by omega) hv
          rw [e, Bool.or_true, Bool.true_and]
          have hnd : bt (qLs F d k).2 v = false := by
            cases hc : bt (qLs F d k).2 v with
            | false => rfl
            | true =>
              rw [h1 v] at hc
              obtain ⟨m, hm, hmv⟩ := qAny_iff.mp hc
              have e2 := qHn_mem (by omega) hmv
              have : bt (qHn (F 3 ||| F 4) m 6) k = true := by rw [← e2, e]; exact qHn_self (by omega)
              rw [h1 k, qAny_iff.mpr ⟨m, hm, this⟩] at hd
              cases hd
          have h2v := h2 v
          rw [hnd, Bool.false_and] at h2v
          cases hu : qUp F d (qHn (F 3 ||| F 4) k 6) with
          | true => rw [if_pos rfl, b_or, hv, Bool.or_true]
          | false => rw [if_neg Bool.false_ne_true]; exact h2v
theorem q_and1b (x : Int32) {v : Nat} (hv : v < 32) : ((x &&& ((1 : Int32) <<< (nI v &&& 31))) = 0) ↔ bt x v = false := by
  rw [b_zero]
  constructor
  · intro h
    have := h v hv
    rw [b_and, b_one hv hv] at this
    simpa using this
  · intro h i hi
    rw [b_and, b_one hv hi]
    by_cases e : i = v
    · rw [e, h]; rfl
    · rw [decide_eq_false e, Bool.and_false]
theorem qLev_bit (h : q_FR N F f) {d : Int32} {v : Nat} (hv : v < 6) : bt (qLev F d) v = qUp F d (qHn (F 3 ||| F 4) v 6) := by
  unfold qLev
  by_cases h0 : (F 3 ||| F 4) = 0
  · rw [if_pos h0]
    have hz : ∀ p, bt (F 3 ||| F 4) p = false := fun p => by rw [h0, b_0]
    have hG : ∀ k, qHn (F 3 ||| F 4) v k = (1 : Int32) <<< (nI v &&& 31) := by
      intro k
      induction k with
      | zero => rfl
      | succ k ih =>
        show qHi (F 3 ||| F 4) (qHn (F 3 ||| F 4) v k) 15 = _
        have := qHi_stop (x := F 3 ||| F 4) (g := qHn (F 3 ||| F 4) v k) (p := 0) (fun j _ => hz j) 15
        rw [Nat.zero_add] at this
        rw [this, ← ih]; rfl
    rw [hG 6]
    unfold qUp
    have hp : qPl F ((1 : Int32) <<< (nI v &&& 31)) = false := by
      cases hx : qPl F ((1 : Int32) <<< (nI v &&& 31)) with
      | false => rfl
      | true =>
        obtain ⟨p, hp, h1⟩ := qAny_iff.mp hx
        rw [Bool.and_eq_true] at h1
        have := hz p
        rw [b_or, h1.1] at this
        cases this
    rw [hp, if_neg Bool.false_ne_true]
    cases hb : bt (qdv F d) v with
    | true => rw [decide_eq_false (fun c => by rw [(q_and1b _ (by omega)).mp c] at hb; cases hb)]; rfl
    | false => rw [decide_eq_true ((q_and1b _ (by omega)).mpr hb)]; rfl
  · rw [if_neg h0]
    obtain ⟨h1, h2⟩ := qLs_bits F d 6 (by omega)
    have hq : qAny 6 (fun m => bt (qHn (F 3 ||| F 4) m 6) v) = true := qAny_iff.mpr ⟨v, hv, qHn_self hv⟩
    rw [h2 v, h1 v, hq, Bool.true_and]
theorem qLev_big (hN : N ≤ 6) (h : q_FR N F f) {d : Int32} (hd : ∀ v, 6 ≤ v → bt d v = false) {v : Nat} (hv : 6 ≤ v) : bt (qLev F d) v = false := by
  unfold qLev
  by_cases h0 : (F 3 ||| F 4) = 0
  · rw [if_pos h0]
    unfold qdv
    rw [b_or, b_and, hd v hv, (h.2.1 v (by omega)).2]; rfl
  · rw [if_neg h0]
    obtain ⟨h1, h2⟩ := qLs_bits F d 6 (by omega)
    rw [h2 v, h1 v]
    cases hx : qAny 6 (fun m => bt (qHn (F 3 ||| F 4) m 6) v) with
    | false => rfl
    | true =>
      obtain ⟨m, hm, hmv⟩ := qAny_iff.mp hx
      have := qHn_lt hm hmv
      omega
/-! the reference's levels -/
theorem qFo_t {x : Int32} {dr : Nat → Int32} {D : Nat → Bool} : ∀ k, (∀ o, o < k → dr o = qb (D o)) → qFo true x dr k = qb (!qAny k (fun o => bt x o && !D o)) := by
  intro k
  induction k with
  | zero => intro _; rfl
  | succ k ih =>
    intro h
    show (if bt x k then (if true then qFo true x dr k &&& dr k else _) else qFo true x dr k) = qb (!(qAny k _ || (bt x k && !D k)))
    rw [ih (fun o ho => h o (by omega)), h k (by omega), if_pos rfl]
    cases bt x k <;> cases D k <;> cases qAny k (fun o => bt x o && !D o) <;> decide
theorem qFo_f {x : Int32} {dr : Nat → Int32} {D : Nat → Bool} : ∀ k, (∀ o, o < k → dr o = qb (D o)) → qFo false x dr k = qb (qAny k (fun o => bt x o && D o)) := by
  intro k
  induction k with
  | zero => intro _; rfl
  | succ k ih =>
    intro h
    show (if bt x k then (if false then _ else qFo false x dr k ||| dr k) else qFo false x dr k) = qb (qAny k _ || (bt x k && D k))
    rw [ih (fun o ho => h o (by omega)), h k (by omega), if_neg Bool.false_ne_true]
    cases bt x k <;> cases D k <;> cases qAny k (fun o => bt x o && D o) <;> decide
theorem q_FR_drive (h : q_FR N F f) {d : Int32} {dd : Nat → Int32} {n : Nat} (hn : n < N) (hdd : dd n = qb (bt d n)) : qdr f dd n = qb (bt (qdv F d) n) := by
  obtain ⟨k1, k2, k3⟩ := h.1 n hn
  unfold qdr qdv
  have h32 : n < 32 ∨ 32 ≤ n := Nat.lt_or_ge n 32
  rcases h32 with h32 | h32
  · rw [b_or, b_and, b_not _ h32, k2, k3, hdd]
    rcases k1 with k | k | k <;> rw [k] <;> cases bt d n <;> decide
  · rw [b_or, b_and, b_big h32, k3, hdd, b_big h32, Bool.false_and]
    rcases k1 with k | k | k
    · rw [k]; decide
    · rw [k]; decide
    · rw [b_big h32, k] at k3; cases k3
theorem q_FR_low (hN : N ≤ 6) (h : q_FR N F f) {s : Nat} (hs : s < N) : qPl F (qSet N f s) = qLow N f (qSet N f s) := by
  have hG : qHn (F 3 ||| F 4) s 6 = qSet N f s := q_FR_set hN h hs
  rw [← hG]
  have hCo := qHn_Co (F 3 ||| F 4) (s := s) (by omega)
  cases hx : qPl F (qHn (F 3 ||| F 4) s 6) with
  | true =>
    obtain ⟨p, hp, h1⟩ := qAny_iff.mp hx
    rw [Bool.and_eq_true] at h1
    obtain ⟨k1, k2, k3, k4⟩ := h.2.2.1 p hp
    obtain ⟨-, -, h3, h4⟩ := qla_t p hp
    have hadj : qaC (F 3 ||| F 4) (qla p) (qob p) = true := qAny_iff.mpr ⟨p, hp, by rw [b_or, h1.1]; simp⟩
    have hin := q_FR_in h hadj
    have hm : bt (qHn (F 3 ||| F 4) s 6) (qla p) = true ∧ bt (qHn (F 3 ||| F 4) s 6) (qob p) = true := by
      cases e1 : bt (qHn (F 3 ||| F 4) s 6) (qla p) with
      | true => exact ⟨rfl, hCo.2.2.1 _ _ (by omega) h4 e1 hadj⟩
      | false =>
        cases e2 : bt (qHn (F 3 ||| F 4) s 6) (qob p) with
        | true =>
          have := hCo.2.2.1 (qob p) (qla p) h4 (by omega) e2 (by rw [qaC_sym]; exact hadj)
          rw [e1] at this; cases this
        | false =>
          have := h1.2
          rw [decide_eq_true ((b_meet hp).mpr ⟨e1, e2⟩)] at this
          cases this
    symm
    refine qAny_iff.mpr ⟨qob p, hin.2, qAny_iff.mpr ⟨qla p, h3, ?_⟩⟩
    have e5 := (qtw_p (a := qob p) (b := qla p) hp (Or.inr ⟨rfl, rfl⟩))
    have e6 : qsh f (qob p) (qla p) = 1 := by
      unfold qsh
      rw [if_neg e5.2, e5.1]
      rw [h1.1] at k2
      exact of_decide_eq_true k2.symm
    rw [hm.1, hm.2, decide_eq_true e6]; rfl
  | false =>
    cases hy : qLow N f (qHn (F 3 ||| F 4) s 6) with
    | false => rfl
    | true =>
      obtain ⟨a, ha, h1⟩ := qAny_iff.mp hy
      obtain ⟨b, hb, h2⟩ := qAny_iff.mp h1
      rw [Bool.and_eq_true, Bool.and_eq_true] at h2
      obtain ⟨g1, g2, g3⟩ := h2
      rcases q_pair a (by omega) b (by omega) with e | ⟨p, hp, hm⟩
      · omega
      · obtain ⟨e1, e2⟩ := qtw_p hp hm
        obtain ⟨k1, k2, k3, k4⟩ := h.2.2.1 p hp
        have g4 := of_decide_eq_true g3
        unfold qsh at g4
        rw [if_neg e2, e1] at g4
        have : qPl F (qHn (F 3 ||| F 4) s 6) = true := by
          refine qAny_iff.mpr ⟨p, hp, ?_⟩
          rw [k2, decide_eq_true g4, decide_eq_false (fun c => ?_)]
          · rfl
          · obtain ⟨c1, c2⟩ := (b_meet hp).mp c
            rcases hm with ⟨m1, m2⟩ | ⟨m1, m2⟩
            · rw [← m1, g1] at c1; cases c1
            · rw [← m1, g2] at c1; cases c1
        rw [hx] at this; cases this
/-- what the reference reckons as a level is what the class does -/
theorem q_FR_lev (hN : N ≤ 6) (h : q_FR N F f) {d : Int32} {dd : Nat → Int32} (hdd : ∀ n, n < N → dd n = qb (bt d n)) {s : Nat} (hs : s < N) : qLvI N f dd s = qb (bt (qLev F d) s) := by
  have hG : qHn (F 3 ||| F 4) s 6 = qSet N f s := q_FR_set hN h hs
  have hlt : ∀ v, bt (qSet N f s) v = true → v < N := (qRn_Co hN (qaj f) hs).2.1
  rw [qLev_bit h (by omega), hG]
  unfold qLvI qUp
  rw [q_FR_low hN h hs]
  have hD : ∀ o, o < N → qdr f dd o = qb (bt (qdv F d) o) := fun o ho => q_FR_drive h ho (hdd o ho)
  cases hl : qLow N f (qSet N f s) with
  | true =>
    rw [qFo_t N hD, if_pos rfl]
    congr 1
    cases hx : qAny N (fun o => bt (qSet N f s) o && !bt (qdv F d) o) with
    | true =>
      obtain ⟨o, ho, h1⟩ := qAny_iff.mp hx
      rw [Bool.and_eq_true] at h1
      rw [decide_eq_false (fun c => ?_)]; · rfl
      have := congrArg (fun z => bt z o) c
      simp only [b_and, h1.1, Bool.and_true] at this
      rw [this] at h1; cases h1.2
    | false =>
      rw [decide_eq_true]; · rfl
      apply b_ext
      intro i _
      rw [b_and]
      cases hi : bt (qSet N f s) i with
      | false => rw [Bool.and_false]
      | true =>
        cases hj : bt (qdv F d) i with
        | true => rfl
        | false => rw [qAny_iff.mpr ⟨i, hlt i hi, by rw [hi, hj]; rfl⟩] at hx; cases hx
  | false =>
    rw [qFo_f N hD, if_neg Bool.false_ne_true]
    congr 1
    cases hx : qAny N (fun o => bt (qSet N f s) o && bt (qdv F d) o) with
    | true =>
      obtain ⟨o, ho, h1⟩ := qAny_iff.mp hx
      rw [Bool.and_eq_true] at h1
      rw [decide_eq_false (fun c => ?_)]; · rfl
      have := b_zero.mp c o (by omega)
      rw [b_and, h1.1, h1.2] at this; cases this
    | false =>
      rw [decide_eq_true]; · rfl
      rw [b_zero]
      intro i _
      rw [b_and]
      cases hi : bt (qSet N f s) i with
      | false => rw [Bool.and_false]
      | true =>
        cases hj : bt (qdv F d) i with
        | false => rfl
        | true => rw [qAny_iff.mpr ⟨i, hlt i hi, by rw [hi, hj]; rfl⟩] at hx; cases hx
end FR
