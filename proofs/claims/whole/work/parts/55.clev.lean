/-! ===== the class: what hangs together, levels ===== -/
def q_Sta (I : Nat → Nat → Int32) : Prop := (∀ k, I 1000 k = q_t0.getD k 0) ∧ (∀ k, I 1001 k = q_t1.getD k 0) ∧ (∀ k, I 1002 k = q_t2.getD k 0) ∧ (∀ k, I 1003 k = q_t3.getD k 0)
def qla (p : Nat) : Nat := ([0, 0, 0, 0, 0, 1, 1, 1, 1, 2, 2, 2, 3, 3, 4] : List Nat).getD p 0
def qob (p : Nat) : Nat := ([1, 2, 3, 4, 5, 2, 3, 4, 5, 3, 4, 5, 4, 5, 5] : List Nat).getD p 0
theorem qla_t : ∀ p, p < 15 → q_t1.getD p 0 = nI (qla p) ∧ q_t2.getD p 0 = nI (qob p) ∧ qla p < qob p ∧ qob p < 6 := by decide +kernel
def qNo (p : Nat) : Int32 := ((1 : Int32) <<< (nI (qla p) &&& 31)) ||| ((1 : Int32) <<< (nI (qob p) &&& 31))
theorem b_qNo {p : Nat} (hp : p < 15) {v : Nat} (hv : v < 32) : bt (qNo p) v = (decide (v = qla p) || decide (v = qob p)) := by
  obtain ⟨-, -, h3, h4⟩ := qla_t p hp
  unfold qNo
  rw [b_or, b_one (by omega) hv, b_one (by omega) hv]
/-- pairs of a group, one by one -/
def qHi (x g : Int32) : Nat → Int32
  | 0 => g
  | p + 1 => if bt x p = true ∧ ¬ (qHi x g p &&& qNo p) = 0 then qHi x g p ||| qNo p else qHi x g p
def qHn (x : Int32) (s : Nat) : Nat → Int32
  | 0 => (1 : Int32) <<< (nI s &&& 31)
  | k + 1 => qHi x (qHn x s k) 15
theorem qHi_stop {x g : Int32} {p : Nat} (h : ∀ j, p ≤ j → bt x j = false) : ∀ k, qHi x g (p + k) = qHi x g p := by
  intro k
  induction k with
  | zero => rfl
  | succ k ih =>
    show (if bt x (p + k) = true ∧ _ then _ else qHi x g (p + k)) = _
    rw [if_neg (fun c => by rw [h (p + k) (by omega)] at c; cases c.1), ih]
theorem qHn_stop {x : Int32} {s r : Nat} (h : qHn x s (r + 1) = qHn x s r) : ∀ k, qHn x s (r + k) = qHn x s r := by
  intro k
  induction k with
  | zero => rfl
  | succ k ih => show qHi x (qHn x s (r + k)) 15 = _; rw [ih]; exact h
theorem b_shr0 (x : Int32) {p : Nat} (hp : p < 32) : (x >>> (nI p &&& 31)) = 0 ↔ ∀ j, p ≤ j → bt x j = false := by
  rw [b_zero]
  constructor
  · intro h j hj
    by_cases hj2 : j < 32
    · have := h (j - p) (by omega)
      rw [b_sshr p hp x (by omega), if_pos (by omega), show p + (j - p) = j by omega] at this
      exact this
    · exact b_big (by omega)
  · intro h i hi
    rw [b_sshr p hp x hi]
    split
    · exact h _ (by omega)
    · exact h 31 (by omega)
/-- two nets are short by a pair of a set -/
def qaC (x : Int32) (a b : Nat) : Bool := qAny 15 (fun p => bt x p && ((decide (a = qla p) && decide (b = qob p)) || (decide (b = qla p) && decide (a = qob p))))
theorem qaC_sym (x : Int32) (a b : Nat) : qaC x a b = qaC x b a := by
  unfold qaC
  apply qAny_cong
  intro p _
  rw [Bool.or_comm]
theorem b_meet {g : Int32} {p : Nat} (hp : p < 15) : (g &&& qNo p) = 0 ↔ (bt g (qla p) = false ∧ bt g (qob p) = false) := by
  obtain ⟨-, -, h3, h4⟩ := qla_t p hp
  rw [b_zero]
  constructor
  · intro h
    have h1 := h (qla p) (by omega)
    have h2 := h (qob p) (by omega)
    rw [b_and, b_qNo hp (by omega)] at h1 h2
    simp at h1 h2
    exact ⟨h1, h2⟩
  · intro ⟨h1, h2⟩ i hi
    rw [b_and, b_qNo hp hi]
    by_cases e1 : i = qla p
    · rw [e1, h1]; rfl
    · by_cases e2 : i = qob p
      · rw [e2, h2]; rfl
      · rw [decide_eq_false e1, decide_eq_false e2]; simp
theorem qHi_mono {x g : Int32} {v : Nat} : ∀ (j p : Nat), bt (qHi x g p) v = true → bt (qHi x g (p + j)) v = true := by
  intro j
  induction j with
  | zero => intro p h; exact h
  | succ j ih =>
    intro p h
    have h1 := ih p h
    rw [show qHi x g (p + (j + 1)) = (if bt x (p + j) = true ∧ ¬ (qHi x g (p + j) &&& qNo (p + j)) = 0 then qHi x g (p + j) ||| qNo (p + j) else qHi x g (p + j)) from rfl]
    split
    · rw [b_or, h1]; rfl
    · exact h1
theorem qHi_step {x g : Int32} {a b : Nat} (ha : a < 6) (hb : b < 6) (h1 : bt g a = true) (h2 : qaC x a b = true) : bt (qHi x g 15) b = true := by
  obtain ⟨p, hp, h3⟩ := qAny_iff.mp h2
  rw [Bool.and_eq_true, Bool.or_eq_true, Bool.and_eq_true, Bool.and_eq_true] at h3
  obtain ⟨h4, h5⟩ := h3
  have h6 : bt (qHi x g p) a = true := by
    have := qHi_mono (x := x) (g := g) (v := a) p 0 h1
    rw [Nat.zero_add] at this; exact this
  have h7 : bt (qHi x g (p + 1)) b = true := by
    have hne : ¬ (qHi x g p &&& qNo p) = 0 := by
      intro c
      obtain ⟨c1, c2⟩ := (b_meet hp).mp c
      rcases h5 with ⟨h, -⟩ | ⟨-, h⟩
      · rw [← of_decide_eq_true h, h6] at c1; cases c1
      · rw [← of_decide_eq_true h, h6] at c2; cases c2
    show bt (if bt x p = true ∧ ¬ (qHi x g p &&& qNo p) = 0 then _ else _) b = true
    rw [if_pos ⟨h4, hne⟩, b_or, b_qNo hp (by omega)]
    rcases h5 with ⟨-, h⟩ | ⟨h, -⟩ <;> rw [h] <;> simp
  have := qHi_mono (x := x) (g := g) (v := b) (15 - (p + 1)) (p + 1) h7
  rw [show p + 1 + (15 - (p + 1)) = 15 by omega] at this
  exact this
theorem qHi_sound {x g : Int32} {T : Nat → Bool} (hT : q_Cl 6 (qaC x) T) (hg : ∀ v, bt g v = true → T v = true) : ∀ p, p ≤ 15 → ∀ v, bt (qHi x g p) v = true → T v = true := by
  intro p
  induction p with
  | zero => intro _ v h; exact hg v h
  | succ p ih =>
    intro hp v h
    replace h : bt (if bt x p = true ∧ ¬ (qHi x g p &&& qNo p) = 0 then qHi x g p ||| qNo p else qHi x g p) v = true := h
    split at h
    · rename_i hc
      rw [b_or, Bool.or_eq_true] at h
      rcases h with h | h
      · exact ih (by omega) v h
      · obtain ⟨-, -, h3, h4⟩ := qla_t p (by omega)
        have hv : v < 32 := Nat.lt_of_not_le (fun c => by rw [b_big c] at h; cases h)
        rw [b_qNo (by omega) hv, Bool.or_eq_true] at h
        have hadj : qaC x (qla p) (qob p) = true := qAny_iff.mpr ⟨p, by omega, by rw [hc.1]; simp⟩
        have hm : bt (qHi x g p) (qla p) = true ∨ bt (qHi x g p) (qob p) = true := by
          cases e1 : bt (qHi x g p) (qla p) with
          | true => exact Or.inl rfl
          | false =>
            cases e2 : bt (qHi x g p) (qob p) with
            | true => exact Or.inr rfl
            | false => exact absurd ((b_meet (by omega)).mpr ⟨e1, e2⟩) hc.2
        have hab : T (qla p) = true ∧ T (qob p) = true := by
          rcases hm with hm | hm
          · have t1 := ih (by omega) _ hm
            exact ⟨t1, hT _ _ (by omega) h4 t1 hadj⟩
          · have t1 := ih (by omega) _ hm
            exact ⟨hT _ _ h4 (by omega) t1 (by rw [qaC_sym]; exact hadj), t1⟩
        rcases h with h | h
        · rw [of_decide_eq_true h]; exact hab.1
        · rw [of_decide_eq_true h]; exact hab.2
    · exact ih (by omega) v h
theorem qHn_Co (x : Int32) {s : Nat} (hs : s < 6) : q_Co 6 (qaC x) s (bt (qHn x s 6)) := by
  have h0 : ∀ v, bt (qHn x s 0) v = decide (v = s) := by
    intro v
    by_cases hv : v < 32
    · exact b_one (by omega) hv
    · rw [b_big (by omega), decide_eq_false (by omega)]
  have hlt : ∀ k v, bt (qHn x s k) v = true → v < 6 := by
    intro k
    induction k with
    | zero => intro v h; rw [h0] at h; rw [of_decide_eq_true h]; exact hs
    | succ k ih =>
      intro v h
      exact of_decide_eq_true (qHi_sound (T := fun v => decide (v < 6)) (fun a b _ hb _ _ => decide_eq_true hb) (fun v hv => decide_eq_true (ih v hv)) 15 (by omega) v h)
  refine q_grow (fun k v => bt (qHn x s k) v) h0 hs (fun k v _ h => ?_) (fun k a b _ ha hb h1 h2 => qHi_step ha hb h1 h2) (fun k T _ hT h v hv => qHi_sound hT h 15 (by omega) v hv) (fun k v _ h => hlt k v h)
  have := qHi_mono (x := x) (g := qHn x s k) (v := v) 15 0 h
  rw [Nat.zero_add] at this; exact this
/-! levels -/
def qdv (F : Nat → Int32) (d : Int32) : Int32 := (d &&& (F 0 ^^^ (-1))) ||| F 1
def qPl (F : Nat → Int32) (g : Int32) : Bool := qAny 15 (fun p => bt (F 3) p && !decide ((g &&& qNo p) = 0))
def qUp (F : Nat → Int32) (d g : Int32) : Bool := if qPl F g then decide ((qdv F d &&& g) = g) else !decide ((qdv F d &&& g) = 0)
/-- levels, what is done -/
def qLs (F : Nat → Int32) (d : Int32) : Nat → Int32 × Int32
  | 0 => (0, 0)
  | n + 1 => if bt (qLs F d n).2 n then qLs F d n else (if qUp F d (qHn (F 3 ||| F 4) n 6) then (qLs F d n).1 ||| qHn (F 3 ||| F 4) n 6 else (qLs F d n).1, (qLs F d n).2 ||| qHn (F 3 ||| F 4) n 6)
def qLev (F : Nat → Int32) (d : Int32) : Int32 := if (F 3 ||| F 4) = 0 then qdv F d else (qLs F d 6).1
section CL
variable (I : Nat → Nat → Int32) (J : Nat → Nat → Int64) (e : QP)
theorem fX3_netsOf (hS : q_Sta I) {p : Nat} (hp : p < 15) : mX3_netsOf [.int (nI p)] (qm I J e) = some (some (.int (qNo p)), qm I J e) := by
  obtain ⟨h1, h2, -⟩ := qla_t p hp
  rw [bX3_netsOf, eX3_netsOf_0, q_in_nI hp (by omega), nI_clamp (by omega), hS.2.1, hS.2.2.1, h1, h2]
  rfl
theorem fX3_hanging_42 (hS : q_Sta I) {s : Nat} (hs : s < 6) : mX3_hanging [.ref 42, .int (nI s)] (qm I J e) = some (some (.int (qHn (I 42 3 ||| I 42 4) s 6)), qm I J e) := by
  have hin : ∀ (x g : Int32) (b : Int32) (r k p : Nat), p + k = 15 → kX3_hanging 39 [none, none, some (.int x), some (.int (qHi x g p)), some (.int b), some (.int (nI r)), some (.int (nI p))] [] (qm I J e) = kX3_hanging 20 [none, none, some (.int x), some (.int (qHi x g 15)), some (.int b), some (.int (nI (r + 1))), none] [] (qm I J e) := by
    intro x g b r k
    induction k with
    | zero =>
      intro p hp
      have hp : p = 15 := by omega
      subst hp
      rw [eX3_hanging_42_39, show (15 : Int32) = nI 15 from rfl, if_neg (nI_nlt (Nat.le_refl 15) (by omega)), eX3_hanging_42_86, nI_1]
    | succ k ih =>
      intro p hp
      rw [eX3_hanging_42_39, show (15 : Int32) = nI 15 from rfl, if_pos (nI_lt (by omega) (by omega)), eX3_hanging_42_46]
      by_cases h0 : (x >>> (nI p &&& 31)) = 0
      · have := qHi_stop (g := g) ((b_shr0 x (by omega)).mp h0) (15 - p)
        rw [show p + (15 - p) = 15 by omega] at this
        rw [if_pos h0, eX3_hanging_42_86, nI_1, this]
      · rw [if_neg h0, eX3_hanging_42_53]
        cases hx : bt x p with
        | false =>
          have hn : qHi x g (p + 1) = qHi x g p := if_neg (fun c => by rw [hx] at c; cases c.1)
          rw [if_pos ((b_tst0 x (by omega)).mpr hx), eX3_hanging_42_80, nI_1, ← ih (p + 1) (by omega), hn]
        | true =>
          rw [if_neg (fun c => by rw [(b_tst0 x (by omega)).mp c] at hx; cases hx), eX3_hanging_42_62, fX3_netsOf I J e hS (by omega)]
          simp only [Option.bind_some, Option.toList_some, Option.toList_none, List.nil_append, List.cons_append, q_ck_tt, Bool.and_true, Bool.true_and, if_true, if_false, reduceCtorEq, eX3_hanging_42_68]
          by_cases hm : (qHi x g p &&& qNo p) = 0
          · have hn : qHi x g (p + 1) = qHi x g p := if_neg (fun c => c.2 hm)
            rw [if_pos hm, eX3_hanging_42_80, nI_1, ← ih (p + 1) (by omega), hn]
          · have hn : qHi x g (p + 1) = qHi x g p ||| qNo p := if_pos ⟨hx, hm⟩
            rw [if_neg hm, eX3_hanging_42_72, fX3_netsOf I J e hS (by omega)]
            simp only [Option.bind_some, Option.toList_some, Option.toList_none, List.nil_append, List.cons_append, q_ck_tt, Bool.and_true, Bool.true_and, if_true, if_false, reduceCtorEq, eX3_hanging_42_78, eX3_hanging_42_80, nI_1]
            rw [← ih (p + 1) (by omega), hn]
  have hout : ∀ (x : Int32) (k r : Nat), r + k = 6 → kX3_hanging 20 [none, none, some (.int x), some (.int (qHn x s r)), some (.int (if r = 0 then 0 else qHn x s (r - 1))), some (.int (nI r)), none] [] (qm I J e) = some (some (.int (qHn x s 6)), qm I J e) := by
    intro x k
    induction k with
    | zero =>
      intro r hr
      have hr : r = 6 := by omega
      subst hr
      rw [eX3_hanging_42_20, show (6 : Int32) = nI 6 from rfl, if_neg (nI_nlt (Nat.le_refl 6) (by omega)), eX3_hanging_42_92]
    | succ k ih =>
      intro r hr
      rw [eX3_hanging_42_20, show (6 : Int32) = nI 6 from rfl, if_pos (nI_lt (by omega) (by omega)), eX3_hanging_42_27]
      by_cases hg : qHn x s r = (if r = 0 then 0 else qHn x s (r - 1))
      · rw [if_pos hg, eX3_hanging_42_92]
        cases r with
        | zero =>
          exfalso
          rw [if_pos rfl] at hg
          have := b_zero.mp hg s (by omega)
          rw [show qHn x s 0 = (1 : Int32) <<< (nI s &&& 31) from rfl, b_one (by omega) (by omega)] at this
          simp at this
        | succ r =>
          rw [if_neg (by omega), Nat.add_sub_cancel] at hg
          have h1 := qHn_stop hg (6 - r)
          rw [show r + (6 - r) = 6 by omega] at h1
          rw [h1, hg]
      · rw [if_neg hg, eX3_hanging_42_33, show (0 : Int32) = nI 0 from rfl]
        refine Eq.trans (hin x (qHn x s r) (qHn x s r) r 15 0 (by omega)) ?_
        have := ih (r + 1) (by omega)
        rw [if_neg (by omega), Nat.add_sub_cancel] at this
        exact this
  rw [bX3_hanging_42, eX3_hanging_42_0]
  exact hout _ 6 0 (by omega)
theorem fX3_pullsLow_42 (hS : q_Sta I) (g : Int32) : mX3_pullsLow [.ref 42, .int g] (qm I J e) = some (some (.int (qb (qPl (I 42) g))), qm I J e) := by
  have hl : ∀ (k p : Nat), p + k = 15 → qAny p (fun p => bt (I 42 3) p && !decide ((g &&& qNo p) = 0)) = false → kX3_pullsLow 2 [some (.ref 42), some (.int g), some (.int (nI p))] [] (qm I J e) = some (some (.int (qb (qPl (I 42) g))), qm I J e) := by
    intro k
    induction k with
    | zero =>
      intro p hp hq
      have hp : p = 15 := by omega
      subst hp
      rw [eX3_pullsLow_42_2, show (15 : Int32) = nI 15 from rfl, if_neg (nI_nlt (Nat.le_refl 15) (by omega)), eX3_pullsLow_42_45]
      unfold qPl; rw [hq]; rfl
    | succ k ih =>
      intro p hp hq
      have hs : ∀ c, (bt (I 42 3) p && !decide ((g &&& qNo p) = 0)) = c → qAny (p + 1) (fun p => bt (I 42 3) p && !decide ((g &&& qNo p) = 0)) = c := fun c hc => by
        show (qAny p _ || _) = c
        rw [hq, Bool.false_or]; exact hc
      rw [eX3_pullsLow_42_2, show (15 : Int32) = nI 15 from rfl, if_pos (nI_lt (by omega) (by omega)), eX3_pullsLow_42_8]
      by_cases h0 : (I 42 3 >>> (nI p &&& 31)) = 0
      · rw [if_pos h0, eX3_pullsLow_42_45]
        have hz := (b_shr0 _ (by omega)).mp h0
        have : qPl (I 42) g = false := by
          cases hx : qPl (I 42) g with
          | false => rfl
          | true =>
            obtain ⟨j, hj, h1⟩ := qAny_iff.mp hx
            by_cases hjp : j < p
            · have : qAny p (fun p => bt (I 42 3) p && !decide ((g &&& qNo p) = 0)) = true := qAny_iff.mpr ⟨j, hjp, h1⟩
              rw [hq] at this; cases this
            · rw [hz j (by omega)] at h1; cases h1
        rw [this]; rfl
      · rw [if_neg h0, eX3_pullsLow_42_17]
        cases hx : bt (I 42 3) p with
        | false => rw [if_pos ((b_tst0 _ (by omega)).mpr hx), eX3_pullsLow_42_39, nI_1]; exact ih (p + 1) (by omega) (hs _ (by rw [hx]; rfl))
        | true =>
          rw [if_neg (fun c => by rw [(b_tst0 _ (by omega)).mp c] at hx; cases hx), eX3_pullsLow_42_28, fX3_netsOf I J e hS (by omega)]
          simp only [Option.bind_some, Option.toList_some, Option.toList_none, List.nil_append, List.cons_append, q_ck_tt, Bool.and_true, Bool.true_and, if_true, if_false, reduceCtorEq, eX3_pullsLow_42_33]
          by_cases hm : (g &&& qNo p) = 0
          · rw [if_pos hm, eX3_pullsLow_42_39, nI_1]; exact ih (p + 1) (by omega) (hs _ (by rw [hx, decide_eq_true hm]; rfl))
          · rw [if_neg hm, eX3_pullsLow_42_37]
            have : qPl (I 42) g = true := qAny_iff.mpr ⟨p, by omega, by rw [hx, decide_eq_false hm]; rfl⟩
            rw [this]; rfl
  rw [bX3_pullsLow_42, eX3_pullsLow_42_0]
  exact hl 15 0 (by omega) rfl
theorem fX3_drives_42 (d : Int32) : mX3_drives [.ref 42, .int d] (qm I J e) = some (some (.int (qdv (I 42) d)), qm I J e) := by
  simp only [bX3_drives_42, eX3_drives_42_0]
  rfl
theorem fX3_levels_42 (hS : q_Sta I) (d : Int32) : mX3_levels [.ref 42, .int d] (qm I J e) = some (some (.int (qLev (I 42) d)), qm I J e) := by
  rw [bX3_levels_42, eX3_levels_42_0, fX3_drives_42]
  simp only [Option.bind_some, Option.toList_some, Option.toList_none, List.nil_append, List.cons_append, q_ck_tt, Bool.and_true, Bool.true_and, if_true, if_false, reduceCtorEq, eX3_levels_42_5]
  unfold qLev
  by_cases h0 : (I 42 3 ||| I 42 4) = 0
  · rw [if_pos h0, if_pos h0, eX3_levels_42_18]
  · rw [if_neg h0, if_neg h0, eX3_levels_42_20]
    refine Eq.trans (q_for (fun n (y : Int32 × Int32) => kX3_levels 28 [some (.ref 42), none, some (.int (qdv (I 42) d)), some (.int y.1), some (.int y.2), some (.int (nI n)), none, none] [] (qm I J e)) 6 (qLs (I 42) d) (fun n hn => ?_)) ?_
    · show kX3_levels 28 _ _ _ = kX3_levels 28 _ _ _
      rw [eX3_levels_42_28, show (6 : Int32) = nI 6 from rfl, if_pos (nI_lt hn (by omega)), eX3_levels_42_35]
      cases hd : bt (qLs (I 42) d n).2 n with
      | true =>
        have hq : qLs (I 42) d (n + 1) = qLs (I 42) d n := if_pos hd
        rw [if_neg (fun c => by rw [(b_tst0 _ (by omega)).mp c] at hd; cases hd), eX3_levels_42_95, nI_1, hq]
      | false =>
        have hq : qLs (I 42) d (n + 1) = (if qUp (I 42) d (qHn (I 42 3 ||| I 42 4) n 6) then (qLs (I 42) d n).1 ||| qHn (I 42 3 ||| I 42 4) n 6 else (qLs (I 42) d n).1, (qLs (I 42) d n).2 ||| qHn (I 42 3 ||| I 42 4) n 6) := if_neg (by rw [hd]; decide)
        rw [if_pos ((b_tst0 _ (by omega)).mpr hd), eX3_levels_42_45, fX3_hanging_42 I J e hS hn]
        simp only [Option.bind_some, Option.toList_some, Option.toList_none, List.nil_append, List.cons_append, q_ck_tt, Bool.and_true, Bool.true_and, if_true, if_false, reduceCtorEq, eX3_levels_42_51]
        rw [fX3_pullsLow_42 I J e hS]
        simp only [Option.bind_some, Option.toList_some, Option.toList_none, List.nil_append, List.cons_append, q_ck_tt, Bool.and_true, Bool.true_and, if_true, if_false, reduceCtorEq, eX3_levels_42_72, qb_0]
        rw [hq]
        unfold qUp
        cases hp : qPl (I 42) (qHn (I 42 3 ||| I 42 4) n 6) with
        | false =>
          rw [if_pos rfl, eX3_levels_42_85]
          by_cases ho : (qdv (I 42) d &&& qHn (I 42 3 ||| I 42 4) n 6) = 0
          · rw [if_pos ho, eX3_levels_42_95, nI_1, decide_eq_true ho]; rfl
          · rw [if_neg ho, eX3_levels_42_90, eX3_levels_42_95, nI_1, decide_eq_false ho]; rfl
        | true =>
          rw [if_neg (by decide), eX3_levels_42_75]
          by_cases ho : (qdv (I 42) d &&& qHn (I 42 3 ||| I 42 4) n 6) = qHn (I 42 3 ||| I 42 4) n 6
          · rw [if_pos ho, eX3_levels_42_82, eX3_levels_42_90, eX3_levels_42_95, nI_1, decide_eq_true ho]; rfl
          · rw [if_neg ho, eX3_levels_42_95, nI_1, decide_eq_false ho]; rfl
    · show kX3_levels 28 _ _ _ = _
      rw [eX3_levels_42_28, show (6 : Int32) = nI 6 from rfl, if_neg (nI_nlt (Nat.le_refl 6) (by omega)), eX3_levels_42_101]
theorem fX3_hanging_51 (hS : q_Sta I) {s : Nat} (hs : s < 6) : mX3_hanging [.ref 51, .int (nI s)] (qm I J e) = some (some (.int (qHn (I 51 3 ||| I 51 4) s 6)), qm I J e) := by
  have hin : ∀ (x g : Int32) (b : Int32) (r k p : Nat), p + k = 15 → kX3_hanging 39 [none, none, some (.int x), some (.int (qHi x g p)), some (.int b), some (.int (nI r)), some (.int (nI p))] [] (qm I J e) = kX3_hanging 20 [none, none, some (.int x), some (.int (qHi x g 15)), some (.int b), some (.int (nI (r + 1))), none] [] (qm I J e) := by
    intro x g b r k
    induction k with
    | zero =>
      intro p hp
      have hp : p = 15 := by omega
      subst hp
      rw [eX3_hanging_51_39, show (15 : Int32) = nI 15 from rfl, if_neg (nI_nlt (Nat.le_refl 15) (by omega)), eX3_hanging_51_86, nI_1]
    | succ k ih =>
      intro p hp
      rw [eX3_hanging_51_39, show (15 : Int32) = nI 15 from rfl, if_pos (nI_lt (by omega) (by omega)), eX3_hanging_51_46]
      by_cases h0 : (x >>> (nI p &&& 31)) = 0
      · have := qHi_stop (g := g) ((b_shr0 x (by omega)).mp h0) (15 - p)
        rw [show p + (15 - p) = 15 by omega] at this
        rw [if_pos h0, eX3_hanging_51_86, nI_1, this]
      · rw [if_neg h0, eX3_hanging_51_53]
        cases hx : bt x p with
        | false =>
          have hn : qHi x g (p + 1) = qHi x g p := if_neg (fun c => by rw [hx] at c; cases c.1)
          rw [if_pos ((b_tst0 x (by omega)).mpr hx), eX3_hanging_51_80, nI_1, ← ih (p + 1) (by omega), hn]
        | true =>
          rw [if_neg (fun c => by rw [(b_tst0 x (by omega)).mp c] at hx; cases hx), eX3_hanging_51_62, fX3_netsOf I J e hS (by omega)]
          simp only [Option.bind_some, Option.toList_some, Option.toList_none, List.nil_append, List.cons_append, q_ck_tt, Bool.and_true, Bool.true_and, if_true, if_false, reduceCtorEq, eX3_hanging_51_68]
          by_cases hm : (qHi x g p &&& qNo p) = 0
          · have hn : qHi x g (p + 1) = qHi x g p := if_neg (fun c => c.2 hm)
            rw [if_pos hm, eX3_hanging_51_80, nI_1, ← ih (p + 1) (by omega), hn]
          · have hn : qHi x g (p + 1) = qHi x g p ||| qNo p := if_pos ⟨hx, hm⟩
            rw [if_neg hm, eX3_hanging_51_72, fX3_netsOf I J e hS (by omega)]
            simp only [Option.bind_some, Option.toList_some, Option.toList_none, List.nil_append, List.cons_append, q_ck_tt, Bool.and_true, Bool.true_and, if_true, if_false, reduceCtorEq, eX3_hanging_51_78, eX3_hanging_51_80, nI_1]
            rw [← ih (p + 1) (by omega), hn]
  have hout : ∀ (x : Int32) (k r : Nat), r + k = 6 → kX3_hanging 20 [none, none, some (.int x), some (.int (qHn x s r)), some (.int (if r = 0 then 0 else qHn x s (r - 1))), some (.int (nI r)), none] [] (qm I J e) = some (some (.int (qHn x s 6)), qm I J e) := by
    intro x k
    induction k with
    | zero =>
      intro r hr
      have hr : r = 6 := by omega
      subst hr
      rw [eX3_hanging_51_20, show (6 : Int32) = nI 6 from rfl, if_neg (nI_nlt (Nat.le_refl 6) (by omega)), eX3_hanging_51_92]
    | succ k ih =>
      intro r hr
      rw [eX3_hanging_51_20, show (6 : Int32) = nI 6 from rfl, if_pos (nI_lt (by omega) (by omega)), eX3_hanging_51_27]
      by_cases hg : qHn x s r = (if r = 0 then 0 else qHn x s (r - 1))
      · rw [if_pos hg, eX3_hanging_51_92]
        cases r with
        | zero =>
          exfalso
          rw [if_pos rfl] at hg
          have := b_zero.mp hg s (by omega)
          rw [show qHn x s 0 = (1 : Int32) <<< (nI s &&& 31) from rfl, b_one (by omega) (by omega)] at this
          simp at this
        | succ r =>
          rw [if_neg (by omega), Nat.add_sub_cancel] at hg
          have h1 := qHn_stop hg (6 - r)
          rw [show r + (6 - r) = 6 by omega] at h1
          rw [h1, hg]
      · rw [if_neg hg, eX3_hanging_51_33, show (0 : Int32) = nI 0 from rfl]
        refine Eq.trans (hin x (qHn x s r) (qHn x s r) r 15 0 (by omega)) ?_
        have := ih (r + 1) (by omega)
        rw [if_neg (by omega), Nat.add_sub_cancel] at this
        exact this
  rw [bX3_hanging_51, eX3_hanging_51_0]
  exact hout _ 6 0 (by omega)
theorem fX3_pullsLow_51 (hS : q_Sta I) (g : Int32) : mX3_pullsLow [.ref 51, .int g] (qm I J e) = some (some (.int (qb (qPl (I 51) g))), qm I J e) := by
  have hl : ∀ (k p : Nat), p + k = 15 → qAny p (fun p => bt (I 51 3) p && !decide ((g &&& qNo p) = 0)) = false → kX3_pullsLow 2 [some (.ref 51), some (.int g), some (.int (nI p))] [] (qm I J e) = some (some (.int (qb (qPl (I 51) g))), qm I J e) := by
    intro k
    induction k with
    | zero =>
      intro p hp hq
      have hp : p = 15 := by omega
      subst hp
      rw [eX3_pullsLow_51_2, show (15 : Int32) = nI 15 from rfl, if_neg (nI_nlt (Nat.le_refl 15) (by omega)), eX3_pullsLow_51_45]
      unfold qPl; rw [hq]; rfl
    | succ k ih =>
      intro p hp hq
      have hs : ∀ c, (bt (I 51 3) p && !decide ((g &&& qNo p) = 0)) = c → qAny (p + 1) (fun p => bt (I 51 3) p && !decide ((g &&& qNo p) = 0)) = c := fun c hc => by
        show (qAny p _ || _) = c
        rw [hq, Bool.false_or]; exact hc
      rw [eX3_pullsLow_51_2, show (15 : Int32) = nI 15 from rfl, if_pos (nI_lt (by omega) (by omega)), eX3_pullsLow_51_8]
      by_cases h0 : (I 51 3 >>> (nI p &&& 31)) = 0
      · rw [if_pos h0, eX3_pullsLow_51_45]
        have hz := (b_shr0 _ (by omega)).mp h0
        have : qPl (I 51) g = false := by
          cases hx : qPl (I 51) g with
          | false => rfl
          | true =>
            obtain ⟨j, hj, h1⟩ := qAny_iff.mp hx
            by_cases hjp : j < p
            · have : qAny p (fun p => bt (I 51 3) p && !decide ((g &&& qNo p) = 0)) = true := qAny_iff.mpr ⟨j, hjp, h1⟩
              rw [hq] at this; cases this
            · rw [hz j (by omega)] at h1; cases h1
        rw [this]; rfl
      · rw [if_neg h0, eX3_pullsLow_51_17]
        cases hx : bt (I 51 3) p with
        | false => rw [if_pos ((b_tst0 _ (by omega)).mpr hx), eX3_pullsLow_51_39, nI_1]; exact ih (p + 1) (by omega) (hs _ (by rw [hx]; rfl))
        | true =>
          rw [if_neg (fun c => by rw [(b_tst0 _ (by omega)).mp c] at hx; cases hx), eX3_pullsLow_51_28, fX3_netsOf I J e hS (by omega)]
          simp only [Option.bind_some, Option.toList_some, Option.toList_none, List.nil_append, List.cons_append, q_ck_tt, Bool.and_true, Bool.true_and, if_true, if_false, reduceCtorEq, eX3_pullsLow_51_33]
          by_cases hm : (g &&& qNo p) = 0
          · rw [if_pos hm, eX3_pullsLow_51_39, nI_1]; exact ih (p + 1) (by omega) (hs _ (by rw [hx, decide_eq_true hm]; rfl))
          · rw [if_neg hm, eX3_pullsLow_51_37]
            have : qPl (I 51) g = true := qAny_iff.mpr ⟨p, by omega, by rw [hx, decide_eq_false hm]; rfl⟩
            rw [this]; rfl
  rw [bX3_pullsLow_51, eX3_pullsLow_51_0]
  exact hl 15 0 (by omega) rfl
theorem fX3_drives_51 (d : Int32) : mX3_drives [.ref 51, .int d] (qm I J e) = some (some (.int (qdv (I 51) d)), qm I J e) := by
  simp only [bX3_drives_51, eX3_drives_51_0]
  rfl
theorem fX3_levels_51 (hS : q_Sta I) (d : Int32) : mX3_levels [.ref 51, .int d] (qm I J e) = some (some (.int (qLev (I 51) d)), qm I J e) := by
  rw [bX3_levels_51, eX3_levels_51_0, fX3_drives_51]
  simp only [Option.bind_some, Option.toList_some, Option.toList_none, List.nil_append, List.cons_append, q_ck_tt, Bool.and_true, Bool.true_and, if_true, if_false, reduceCtorEq, eX3_levels_51_5]
  unfold qLev
  by_cases h0 : (I 51 3 ||| I 51 4) = 0
  · rw [if_pos h0, if_pos h0, eX3_levels_51_18]
  · rw [if_neg h0, if_neg h0, eX3_levels_51_20]
    refine Eq.trans (q_for (fun n (y : Int32 × Int32) => kX3_levels 28 [some (.ref 51), none, some (.int (qdv (I 51) d)), some (.int y.1), some (.int y.2), some (.int (nI n)), none, none] [] (qm I J e)) 6 (qLs (I 51) d) (fun n hn => ?_)) ?_
    · show kX3_levels 28 _ _ _ = kX3_levels 28 _ _ _
      rw [eX3_levels_51_28, show (6 : Int32) = nI 6 from rfl, if_pos (nI_lt hn (by omega)), eX3_levels_51_35]
      cases hd : bt (qLs (I 51) d n).2 n with
      | true =>
        have hq : qLs (I 51) d (n + 1) = qLs (I 51) d n := if_pos hd
        rw [if_neg (fun c => by rw [(b_tst0 _ (by omega)).mp c] at hd; cases hd), eX3_levels_51_95, nI_1, hq]
      | false =>
        have hq : qLs (I 51) d (n + 1) = (if qUp (I 51) d (qHn (I 51 3 ||| I 51 4) n 6) then (qLs (I 51) d n).1 ||| qHn (I 51 3 ||| I 51 4) n 6 else (qLs (I 51) d n).1, (qLs (I 51) d n).2 ||| qHn (I 51 3 ||| I 51 4) n 6) := if_neg (by rw [hd]; decide)
        rw [if_pos ((b_tst0 _ (by omega)).mpr hd), eX3_levels_51_45, fX3_hanging_51 I J e hS hn]
        simp only [Option.bind_some, Option.toList_some, Option.toList_none, List.nil_append, List.cons_append, q_ck_tt, Bool.and_true, Bool.true_and, if_true, if_false, reduceCtorEq, eX3_levels_51_51]
        rw [fX3_pullsLow_51 I J e hS]
        simp only [Option.bind_some, Option.toList_some, Option.toList_none, List.nil_append, List.cons_append, q_ck_tt, Bool.and_true, Bool.true_and, if_true, if_false, reduceCtorEq, eX3_levels_51_72, qb_0]
        rw [hq]
        unfold qUp
        cases hp : qPl (I 51) (qHn (I 51 3 ||| I 51 4) n 6) with
        | false =>
          rw [if_pos rfl, eX3_levels_51_85]
          by_cases ho : (qdv (I 51) d &&& qHn (I 51 3 ||| I 51 4) n 6) = 0
          · rw [if_pos ho, eX3_levels_51_95, nI_1, decide_eq_true ho]; rfl
          · rw [if_neg ho, eX3_levels_51_90, eX3_levels_51_95, nI_1, decide_eq_false ho]; rfl
        | true =>
          rw [if_neg (by decide), eX3_levels_51_75]
          by_cases ho : (qdv (I 51) d &&& qHn (I 51 3 ||| I 51 4) n 6) = qHn (I 51 3 ||| I 51 4) n 6
          · rw [if_pos ho, eX3_levels_51_82, eX3_levels_51_90, eX3_levels_51_95, nI_1, decide_eq_true ho]; rfl
          · rw [if_neg ho, eX3_levels_51_95, nI_1, decide_eq_false ho]; rfl
    · show kX3_levels 28 _ _ _ = _
      rw [eX3_levels_51_28, show (6 : Int32) = nI 6 from rfl, if_neg (nI_nlt (Nat.le_refl 6) (by omega)), eX3_levels_51_101]
theorem fX3_hanging_55 (hS : q_Sta I) {s : Nat} (hs : s < 6) : mX3_hanging [.ref 55, .int (nI s)] (qm I J e) = some (some (.int (qHn (I 55 3 ||| I 55 4) s 6)), qm I J e) := by
  have hin : ∀ (x g : Int32) (b : Int32) (r k p : Nat), p + k = 15 → kX3_hanging 39 [none, none, some (.int x), some (.int (qHi x g p)), some (.int b), some (.int (nI r)), some (.int (nI p))] [] (qm I J e) = kX3_hanging 20 [none, none, some (.int x), some (.int (qHi x g 15)), some (.int b), some (.int (nI (r + 1))), none] [] (qm I J e) := by
    intro x g b r k
    induction k with
    | zero =>
      intro p hp
      have hp : p = 15 := by omega
      subst hp
      rw [eX3_hanging_55_39, show (15 : Int32) = nI 15 from rfl, if_neg (nI_nlt (Nat.le_refl 15) (by omega)), eX3_hanging_55_86, nI_1]
    | succ k ih =>
      intro p hp
      rw [eX3_hanging_55_39, show (15 : Int32) = nI 15 from rfl, if_pos (nI_lt (by omega) (by omega)), eX3_hanging_55_46]
      by_cases h0 : (x >>> (nI p &&& 31)) = 0
      · have := qHi_stop (g := g) ((b_shr0 x (by omega)).mp h0) (15 - p)
        rw [show p + (15 - p) = 15 by omega] at this
        rw [if_pos h0, eX3_hanging_55_86, nI_1, this]
      · rw [if_neg h0, eX3_hanging_55_53]
        cases hx : bt x p with
        | false =>
          have hn : qHi x g (p + 1) = qHi x g p := if_neg (fun c => by rw [hx] at c; cases c.1)
          rw [if_pos ((b_tst0 x (by omega)).mpr hx), eX3_hanging_55_80, nI_1, ← ih (p + 1) (by omega), hn]
        | true =>
          rw [if_neg (fun c => by rw [(b_tst0 x (by omega)).mp c] at hx; cases hx), eX3_hanging_55_62, fX3_netsOf I J e hS (by omega)]
          simp only [Option.bind_some, Option.toList_some, Option.toList_none, List.nil_append, List.cons_append, q_ck_tt, Bool.and_true, Bool.true_and, if_true, if_false, reduceCtorEq, eX3_hanging_55_68]
          by_cases hm : (qHi x g p &&& qNo p) = 0
          · have hn : qHi x g (p + 1) = qHi x g p := if_neg (fun c => c.2 hm)
            rw [if_pos hm, eX3_hanging_55_80, nI_1, ← ih (p + 1) (by omega), hn]
          · have hn : qHi x g (p + 1) = qHi x g p ||| qNo p := if_pos ⟨hx, hm⟩
            rw [if_neg hm, eX3_hanging_55_72, fX3_netsOf I J e hS (by omega)]
            simp only [Option.bind_some, Option.toList_some, Option.toList_none, List.nil_append, List.cons_append, q_ck_tt, Bool.and_true, Bool.true_and, if_true, if_false, reduceCtorEq, eX3_hanging_55_78, eX3_hanging_55_80, nI_1]
            rw [← ih (p + 1) (by omega), hn]
  have hout : ∀ (x : Int32) (k r : Nat), r + k = 6 → kX3_hanging 20 [none, none, some (.int x), some (.int (qHn x s r)), some (.int (if r = 0 then 0 else qHn x s (r - 1))), some (.int (nI r)), none] [] (qm I J e) = some (some (.int (qHn x s 6)), qm I J e) := by
    intro x k
    induction k with
    | zero =>
      intro r hr
      have hr : r = 6 := by omega
      subst hr
      rw [eX3_hanging_55_20, show (6 : Int32) = nI 6 from rfl, if_neg (nI_nlt (Nat.le_refl 6) (by omega)), eX3_hanging_55_92]
    | succ k ih =>
      intro r hr
      rw [eX3_hanging_55_20, show (6 : Int32) = nI 6 from rfl, if_pos (nI_lt (by omega) (by omega)), eX3_hanging_55_27]
      by_cases hg : qHn x s r = (if r = 0 then 0 else qHn x s (r - 1))
      · rw [if_pos hg, eX3_hanging_55_92]
        cases r with
        | zero =>
          exfalso
          rw [if_pos rfl] at hg
          have := b_zero.mp hg s (by omega)
          rw [show qHn x s 0 = (1 : Int32) <<< (nI s &&& 31) from rfl, b_one (by omega) (by omega)] at this
          simp at this
        | succ r =>
          rw [if_neg (by omega), Nat.add_sub_cancel] at hg
          have h1 := qHn_stop hg (6 - r)
          rw [show r + (6 - r) = 6 by omega] at h1
          rw [h1, hg]
      · rw [if_neg hg, eX3_hanging_55_33, show (0 : Int32) = nI 0 from rfl]
        refine Eq.trans (hin x (qHn x s r) (qHn x s r) r 15 0 (by omega)) ?_
        have := ih (r + 1) (by omega)
        rw [if_neg (by omega), Nat.add_sub_cancel] at this
        exact this
  rw [bX3_hanging_55, eX3_hanging_55_0]
  exact hout _ 6 0 (by omega)
theorem fX3_pullsLow_55 (hS : q_Sta I) (g : Int32) : mX3_pullsLow [.ref 55, .int g] (qm I J e) = some (some (.int (qb (qPl (I 55) g))), qm I J e) := by
  have hl : ∀ (k p : Nat), p + k = 15 → qAny p (fun p => bt (I 55 3) p && !decide ((g &&& qNo p) = 0)) = false → kX3_pullsLow 2 [some (.ref 55), some (.int g), some (.int (nI p))] [] (qm I J e) = some (some (.int (qb (qPl (I 55) g))), qm I J e) := by
    intro k
    induction k with
    | zero =>
      intro p hp hq
      have hp : p = 15 := by omega
      subst hp
      rw [eX3_pullsLow_55_2, show (15 : Int32) = nI 15 from rfl, if_neg (nI_nlt (Nat.le_refl 15) (by omega)), eX3_pullsLow_55_45]
      unfold qPl; rw [hq]; rfl
    | succ k ih =>
      intro p hp hq
      have hs : ∀ c, (bt (I 55 3) p && !decide ((g &&& qNo p) = 0)) = c → qAny (p + 1) (fun p => bt (I 55 3) p && !decide ((g &&& qNo p) = 0)) = c := fun c hc => by
        show (qAny p _ || _) = c
        rw [hq, Bool.false_or]; exact hc
      rw [eX3_pullsLow_55_2, show (15 : Int32) = nI 15 from rfl, if_pos (nI_lt (by omega) (by omega)), eX3_pullsLow_55_8]
      by_cases h0 : (I 55 3 >>> (nI p &&& 31)) = 0
      · rw [if_pos h0, eX3_pullsLow_55_45]
        have hz := (b_shr0 _ (by omega)).mp h0
        have : qPl (I 55) g = false := by
          cases hx : qPl (I 55) g with
          | false => rfl
          | true =>
            obtain ⟨j, hj, h1⟩ := qAny_iff.mp hx
            by_cases hjp : j < p
            · have : qAny p (fun p => bt (I 55 3) p && !decide ((g &&& qNo p) = 0)) = true := qAny_iff.mpr ⟨j, hjp, h1⟩
              rw [hq] at this; cases this
            · rw [hz j (by omega)] at h1; cases h1
        rw [this]; rfl
      · rw [if_neg h0, eX3_pullsLow_55_17]
        cases hx : bt (I 55 3) p with
        | false => rw [if_pos ((b_tst0 _ (by omega)).mpr hx), eX3_pullsLow_55_39, nI_1]; exact ih (p + 1) (by omega) (hs _ (by rw [hx]; rfl))
        | true =>
          rw [if_neg (fun c => by rw [(b_tst0 _ (by omega)).mp c] at hx; cases hx), eX3_pullsLow_55_28, fX3_netsOf I J e hS (by omega)]
          simp only [Option.bind_some, Option.toList_some, Option.toList_none, List.nil_append, List.cons_append, q_ck_tt, Bool.and_true, Bool.true_and, if_true, if_false, reduceCtorEq, eX3_pullsLow_55_33]
          by_cases hm : (g &&& qNo p) = 0
          · rw [if_pos hm, eX3_pullsLow_55_39, nI_1]; exact ih (p + 1) (by omega) (hs _ (by rw [hx, decide_eq_true hm]; rfl))
          · rw [if_neg hm, eX3_pullsLow_55_37]
            have : qPl (I 55) g = true := qAny_iff.mpr ⟨p, by omega, by rw [hx, decide_eq_false hm]; rfl⟩
            rw [this]; rfl
  rw [bX3_pullsLow_55, eX3_pullsLow_55_0]
  exact hl 15 0 (by omega) rfl
theorem fX3_drives_55 (d : Int32) : mX3_drives [.ref 55, .int d] (qm I J e) = some (some (.int (qdv (I 55) d)), qm I J e) := by
  simp only [bX3_drives_55, eX3_drives_55_0]
  rfl
theorem fX3_levels_55 (hS : q_Sta I) (d : Int32) : mX3_levels [.ref 55, .int d] (qm I J e) = some (some (.int (qLev (I 55) d)), qm I J e) := by
  rw [bX3_levels_55, eX3_levels_55_0, fX3_drives_55]
  simp only [Option.bind_some, Option.toList_some, Option.toList_none, List.nil_append, List.cons_append, q_ck_tt, Bool.and_true, Bool.true_and, if_true, if_false, reduceCtorEq, eX3_levels_55_5]
  unfold qLev
  by_cases h0 : (I 55 3 ||| I 55 4) = 0
  · rw [if_pos h0, if_pos h0, eX3_levels_55_18]
  · rw [if_neg h0, if_neg h0, eX3_levels_55_20]
    refine Eq.trans (q_for (fun n (y : Int32 × Int32) => kX3_levels 28 [some (.ref 55), none, some (.int (qdv (I 55) d)), some (.int y.1), some (.int y.2), some (.int (nI n)), none, none] [] (qm I J e)) 6 (qLs (I 55) d) (fun n hn => ?_)) ?_
    · show kX3_levels 28 _ _ _ = kX3_levels 28 _ _ _
      rw [eX3_levels_55_28, show (6 : Int32) = nI 6 from rfl, if_pos (nI_lt hn (by omega)), eX3_levels_55_35]
      cases hd : bt (qLs (I 55) d n).2 n with
      | true =>
        have hq : qLs (I 55) d (n + 1) = qLs (I 55) d n := if_pos hd
        rw [if_neg (fun c => by rw [(b_tst0 _ (by omega)).mp c] at hd; cases hd), eX3_levels_55_95, nI_1, hq]
      | false =>
        have hq : qLs (I 55) d (n + 1) = (if qUp (I 55) d (qHn (I 55 3 ||| I 55 4) n 6) then (qLs (I 55) d n).1 ||| qHn (I 55 3 ||| I 55 4) n 6 else (qLs (I 55) d n).1, (qLs (I 55) d n).2 ||| qHn (I 55 3 ||| I 55 4) n 6) := if_neg (by rw [hd]; decide)
        rw [if_pos ((b_tst0 _ (by omega)).mpr hd), eX3_levels_55_45, fX3_hanging_55 I J e hS hn]
        simp only [Option.bind_some, Option.toList_some, Option.toList_none, List.nil_append, List.cons_append, q_ck_tt, Bool.and_true, Bool.true_and, if_true, if_false, reduceCtorEq, eX3_levels_55_51]
        rw [fX3_pullsLow_55 I J e hS]
        simp only [Option.bind_some, Option.toList_some, Option.toList_none, List.nil_append, List.cons_append, q_ck_tt, Bool.and_true, Bool.true_and, if_true, if_false, reduceCtorEq, eX3_levels_55_72, qb_0]
        rw [hq]
        unfold qUp
        cases hp : qPl (I 55) (qHn (I 55 3 ||| I 55 4) n 6) with
        | false =>
          rw [if_pos rfl, eX3_levels_55_85]
          by_cases ho : (qdv (I 55) d &&& qHn (I 55 3 ||| I 55 4) n 6) = 0
          · rw [if_pos ho, eX3_levels_55_95, nI_1, decide_eq_true ho]; rfl
          · rw [if_neg ho, eX3_levels_55_90, eX3_levels_55_95, nI_1, decide_eq_false ho]; rfl
        | true =>
          rw [if_neg (by decide), eX3_levels_55_75]
          by_cases ho : (qdv (I 55) d &&& qHn (I 55 3 ||| I 55 4) n 6) = qHn (I 55 3 ||| I 55 4) n 6
          · rw [if_pos ho, eX3_levels_55_82, eX3_levels_55_90, eX3_levels_55_95, nI_1, decide_eq_true ho]; rfl
          · rw [if_neg ho, eX3_levels_55_95, nI_1, decide_eq_false ho]; rfl
    · show kX3_levels 28 _ _ _ = _
      rw [eX3_levels_55_28, show (6 : Int32) = nI 6 from rfl, if_neg (nI_nlt (Nat.le_refl 6) (by omega)), eX3_levels_55_101]
end CL
