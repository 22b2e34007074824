/-! ===== the formula: brackets, relations, nots; the state of both ===== -/
theorem fX12_hasBracket {R : Nat → Nat → Int32} (K : Nat → Nat → Int64) (e : QP) {m : Nat} (h : R 64 19 = nI m) (hm : m ≤ 160) : mX12_hasBracket [.ref 64] (qm R K e) = some (some (.int (qb (qAny m (fun i => decide (R 71 i = 20))))), qm R K e) := by
  have hst : ∀ i, i < m → kX12_hasBracket 4 [some (.ref 64), some (.int (qb (qAny i (fun i => decide (R 71 i = 20))))), some (.int (nI i))] [] (qm R K e) = kX12_hasBracket 4 [some (.ref 64), some (.int (qb (qAny (i + 1) (fun i => decide (R 71 i = 20))))), some (.int (nI (i + 1)))] [] (qm R K e) := by
    intro i hi
    have h2 : nI i + 1 = nI (i + 1) := nI_add i 1
    have hq : qAny (i + 1) (fun i => decide (R 71 i = 20)) = (qAny i (fun i => decide (R 71 i = 20)) || decide (R 71 i = 20)) := rfl
    rw [eX12_hasBracket_4, h, if_pos (nI_lt hi (by omega)), eX12_hasBracket_12, hq]
    cases hb : qAny i (fun i => decide (R 71 i = 20)) with
    | true => rw [if_neg (by decide), eX12_hasBracket_27, eX12_hasBracket_32, h2]; rfl
    | false =>
      rw [if_pos (by rfl), eX12_hasBracket_16, q_in_nI (by omega) (by omega), nI_n (by omega), Bool.true_and, q_ck_tt]
      by_cases g : R 71 i = 20
      · rw [if_pos g, eX12_hasBracket_27, eX12_hasBracket_32, h2, decide_eq_true g]; rfl
      · rw [if_neg g, eX12_hasBracket_31, eX12_hasBracket_32, h2, decide_eq_false g]; rfl
  have hl := q_for (fun i (b : Bool) => kX12_hasBracket 4 [some (.ref 64), some (.int (qb b)), some (.int (nI i))] [] (qm R K e)) m (fun i => qAny i (fun i => decide (R 71 i = 20))) hst
  rw [bX12_hasBracket, eX12_hasBracket_0]
  refine Eq.trans hl ?_
  rw [eX12_hasBracket_4, h, if_neg (nI_nlt (Nat.le_refl _) (by omega)), eX12_hasBracket_39]
  cases qAny m (fun i => decide (R 71 i = 20)) <;> rfl
def qhr : List Int32 → Bool
  | [] => false
  | x :: l => if x = 20 then false else if 4 < qti x then qhr l else decide (qti x = 4)
theorem q_hr_lp {R : Nat → Nat → Int32} (K : Nat → Nat → Int64) (e : QP) : ∀ (T : List Int32), q_Sk (R 71) T → T.length ≤ 160 → kX12_hasRelation 7 [some (.ref 64), some (.int (nI T.length - 1))] [] (qm R K e) = some (some (.int (qb (qhr T))), qm R K e) := by
  intro T
  induction T with
  | nil =>
    intro _ _
    rw [eX12_hasRelation_7, if_pos (by decide), eX12_hasRelation_41, if_pos (by decide), eX12_hasRelation_73, eX12_hasRelation_74]
    rfl
  | cons x l ih =>
    intro hk hl
    have hlen : (x :: l).length = l.length + 1 := List.length_cons
    rw [hlen] at hl
    obtain ⟨hk1, hv⟩ := q_Sk_tail hk
    have hp : ¬ nI l.length < 0 := nI_pos (by omega)
    rw [hlen, nI_1s (by omega), Nat.add_sub_cancel, eX12_hasRelation_7, if_neg hp, eX12_hasRelation_11, q_in_nI (by omega) (by omega), nI_n (by omega), Bool.true_and, q_ck_tt, hv]
    have h41 : kX12_hasRelation 41 [some (.ref 64), some (.int (nI l.length))] [] (qm R K e) = some (some (.int (qb (!decide (x = 20) && decide (qti x = 4)))), qm R K e) := by
      rw [eX12_hasRelation_41, if_neg hp, eX12_hasRelation_45, q_in_nI (by omega) (by omega), nI_n (by omega), Bool.true_and, q_ck_tt, hv]
      by_cases g : x = 20
      · rw [if_pos g, eX12_hasRelation_73, eX12_hasRelation_74, decide_eq_true g]; rfl
      · rw [if_neg g, eX12_hasRelation_56, q_in_nI (by omega) (by omega), nI_n (by omega), Bool.true_and, q_ck_tt, hv, fX12_tight]
        simp only [Option.bind_some, Option.toList_some, Option.toList_none, List.nil_append, List.cons_append, q_ck_tt, Bool.and_true, Bool.true_and, if_true, if_false, reduceCtorEq]
        rw [eX12_hasRelation_65, decide_eq_false g]
        by_cases g4 : qti x = 4
        · rw [if_pos (by rw [g4]; rfl), eX12_hasRelation_69, eX12_hasRelation_74, decide_eq_true g4]; rfl
        · rw [if_neg (show ¬ nI (qti x) = (4 : Int32) from fun y => g4 (nI_inj (b := 4) (by have := qti_le x; omega) (by omega) y)), eX12_hasRelation_73, eX12_hasRelation_74, decide_eq_false g4]; rfl
    show _ = some (some (Value.int (qb (if x = 20 then false else if 4 < qti x then qhr l else decide (qti x = 4)))), qm R K e)
    by_cases g : x = 20
    · rw [if_pos g, if_pos g, h41, decide_eq_true g]; rfl
    · rw [if_neg g, if_neg g, eX12_hasRelation_22, q_in_nI (by omega) (by omega), nI_n (by omega), Bool.true_and, q_ck_tt, hv, fX12_tight]
      simp only [Option.bind_some, Option.toList_some, Option.toList_none, List.nil_append, List.cons_append, q_ck_tt, Bool.and_true, Bool.true_and, if_true, if_false, reduceCtorEq]
      rw [eX12_hasRelation_31]
      by_cases g4 : 4 < qti x
      · rw [if_pos (show (4 : Int32) < nI (qti x) from nI_lt (a := 4) g4 (by have := qti_le x; omega)), if_pos g4, eX12_hasRelation_35, eX12_hasRelation_38, ← Int32.sub_eq_add_neg]
        exact ih hk1 (by omega)
      · rw [if_neg (show ¬ (4 : Int32) < nI (qti x) from nI_nlt (a := 4) (by omega) (by omega)), if_neg g4, h41, decide_eq_false g]; rfl
theorem fX12_hasRelation {R : Nat → Nat → Int32} (K : Nat → Nat → Int64) (e : QP) {T : List Int32} (hk : q_Sk (R 71) T) (hl : R 64 19 = nI T.length) (hb : T.length ≤ 160) : mX12_hasRelation [.ref 64] (qm R K e) = some (some (.int (qb (qhr T))), qm R K e) := by
  rw [bX12_hasRelation, eX12_hasRelation_0, hl]
  exact q_hr_lp K e T hk hb
def qmn : List Int32 → Bool
  | [] => true
  | x :: _ => decide (x = 20) || decide (qti x < 4)
theorem fX12_mayNot {R : Nat → Nat → Int32} (K : Nat → Nat → Int64) (e : QP) {T : List Int32} (hk : q_Sk (R 71) T) (hl : R 64 19 = nI T.length) (hb : T.length ≤ 160) : mX12_mayNot [.ref 64] (qm R K e) = some (some (.int (qb (qmn T))), qm R K e) := by
  have h1 : kX12_mayNot 41 [none] [] (qm R K e) = some (some (.int 1), qm R K e) := by rw [eX12_mayNot_41, eX12_mayNot_46]; rfl
  rw [bX12_mayNot, eX12_mayNot_0, hl]
  cases T with
  | nil => rw [if_pos (by rfl), h1]; rfl
  | cons x l =>
    have hlen : (x :: l).length = l.length + 1 := List.length_cons
    rw [hlen] at hl hb ⊢
    obtain ⟨hk1, hv⟩ := q_Sk_tail hk
    rw [if_neg (nI_ne0 (by omega) (by omega)), eX12_mayNot_7, hl, nI_1s (by omega), Nat.add_sub_cancel, q_in_nI (by omega) (by omega), nI_n (by omega), Bool.true_and, q_ck_tt, hv]
    show _ = some (some (Value.int (qb (decide (x = 20) || decide (qti x < 4)))), qm R K e)
    by_cases g : x = 20
    · rw [if_pos g, h1, decide_eq_true g]; rfl
    · rw [if_neg g, eX12_mayNot_23, hl, nI_1s (by omega), Nat.add_sub_cancel, q_in_nI (by omega) (by omega), nI_n (by omega), Bool.true_and, q_ck_tt, hv, fX12_tight]
      simp only [Option.bind_some, Option.toList_some, Option.toList_none, List.nil_append, List.cons_append, q_ck_tt, Bool.and_true, Bool.true_and, if_true, if_false, reduceCtorEq]
      rw [eX12_mayNot_37, decide_eq_false g]
      by_cases g4 : qti x < 4
      · rw [if_pos (show nI (qti x) < (4 : Int32) from nI_lt (b := 4) g4 (by omega)), h1, decide_eq_true g4]; rfl
      · rw [if_neg (show ¬ nI (qti x) < (4 : Int32) from nI_nlt (b := 4) (by omega) (by have := qti_le x; omega)), eX12_mayNot_45, eX12_mayNot_46, decide_eq_false g4]; rfl
theorem fX12_isFull {R : Nat → Nat → Int32} (K : Nat → Nat → Int64) (e : QP) {u : Nat} (h0 : R 64 20 = nI u) (h2 : R 64 22 = nI u) (hu : u ≤ 30) : mX12_isFull [.ref 64] (qm R K e) = some (some (.int (qb (decide (u = 30)))), qm R K e) := by
  rw [bX12_isFull, eX12_isFull_0, h0, if_neg (show ¬ nI u = (60 : Int32) from fun g => by have := nI_inj (b := 60) (by omega) (by omega) g; omega), eX12_isFull_9, h2]
  by_cases g : u = 30
  · rw [if_pos (by rw [g]; rfl), eX12_isFull_18, eX12_isFull_23, decide_eq_true g]; rfl
  · rw [if_neg (show ¬ nI u = (30 : Int32) from fun y => g (nI_inj (b := 30) (by omega) (by omega) y)), eX12_isFull_22, eX12_isFull_23, decide_eq_false g]; rfl
/-- what is asked for at the token -/
def qas (c x : Int32) : Int32 := if c = 2 then (if x = 0 then 0 else if x = 19 then 1 else if x = 4 then 2 else if x = 20 then 3 else -1) else -1
theorem fX12_asked {v : Nat → Nat} {n s : Nat} {C : Nat → Nat → Int32} {J : Nat → Nat → Int64} {R : Nat → Nat → Int32} {K : Nat → Nat → Int64} (e : QP) (h : q_Pt v n C J R K s) : mX12_asked [.ref 64] (qm R K e) = some (some (.int (qas (C 31 5) (C 31 6))), qm R K e) := by
  have kw : ∀ k, k < 21 → ∀ w : Int64, w = qKW k → R 64 6 = 1 → ((lg_cmp (K 64 9) w = 0) ↔ (C 31 5 = 2 ∧ C 31 6 = nI k)) := by
    intro k hk w hw h1
    have := h.key hk
    rw [h1, decide_eq_true rfl, Bool.true_and] at this
    rw [q_lcm, hw]
    constructor
    · intro g
      rw [decide_eq_true g] at this
      simpa using this.symm
    · intro g
      rw [g.1, g.2] at this
      simpa using this
  have k0 := kw 0 (by decide) 110386941092709 (by decide +kernel)
  have k19 := kw 19 (by decide) 1667591276 (by decide +kernel)
  have k4 := kw 4 (by decide) 7234932 (by decide +kernel)
  have k20 := kw 20 (by decide) 427021001579 (by decide +kernel)
  rw [bX12_asked, eX12_asked_0]
  by_cases h1 : R 64 6 = 1
  · have k0 := k0 h1
    have k19 := k19 h1
    have k4 := k4 h1
    have k20 := k20 h1
    rw [if_pos h1, eX12_asked_10]
    unfold qas
    by_cases g2 : C 31 5 = 2
    · rw [if_pos g2]
      by_cases a0 : C 31 6 = 0
      · rw [if_pos (k0.mpr ⟨g2, a0⟩), if_pos a0, eX12_asked_21]
      · rw [if_neg (fun y => a0 (k0.mp y).2), if_neg a0, eX12_asked_23]
        by_cases a1 : C 31 6 = 19
        · rw [if_pos (k19.mpr ⟨g2, a1⟩), if_pos a1, eX12_asked_34]
        · rw [if_neg (fun y => a1 (k19.mp y).2), if_neg a1, eX12_asked_36]
          by_cases a2 : C 31 6 = 4
          · rw [if_pos (k4.mpr ⟨g2, a2⟩), if_pos a2, eX12_asked_47]
          · rw [if_neg (fun y => a2 (k4.mp y).2), if_neg a2, eX12_asked_49]
            by_cases a3 : C 31 6 = 20
            · rw [if_pos (k20.mpr ⟨g2, a3⟩), if_pos a3, eX12_asked_60, eX12_asked_65]
            · rw [if_neg (fun y => a3 (k20.mp y).2), if_neg a3, eX12_asked_64, eX12_asked_65]
    · rw [if_neg g2, if_neg (fun y => g2 (k0.mp y).1), eX12_asked_23, if_neg (fun y => g2 (k19.mp y).1), eX12_asked_36, if_neg (fun y => g2 (k4.mp y).1), eX12_asked_49, if_neg (fun y => g2 (k20.mp y).1), eX12_asked_64, eX12_asked_65]
  · have g2 : ¬ C 31 5 = 2 := fun g => by
      rcases h.tk with ⟨a, b⟩ | ⟨a, b⟩ | ⟨a, b, _⟩ | ⟨a, b, _⟩ | ⟨a, b, _⟩ | ⟨a, m, m1, m2, c, b⟩
      · rw [a] at g; exact absurd g (by decide)
      · rw [a] at g; exact absurd g (by decide)
      · exact h1 b
      · exact h1 b
      · rw [a] at g; exact absurd g (by decide)
      · rw [a] at g; exact absurd g (by decide)
    unfold qas
    rw [if_neg h1, eX12_asked_8, if_neg g2]
theorem fX12_countUnit {R : Nat → Nat → Int32} (K : Nat → Nat → Int64) (e : QP) {u : Nat} (h0 : R 64 20 = nI u) (h2 : R 64 22 = nI u) : mX12_countUnit [.ref 64] (qm R K e) = some (none, qm (q_up (q_up R 64 20 (nI (u + 1))) 64 22 (nI (u + 1))) K e) := by
  rw [bX12_countUnit, eX12_countUnit_0, h0, h2, show nI u + 1 = nI (u + 1) from nI_add u 1]
/-- code and stack of both -/
def q_Cd (C R : Nat → Nat → Int32) (P : List Int32) (r dp : Nat) : Prop := C 28 2 = nI (r + P.length) ∧ R 64 17 = nI r ∧ ∃ S A : Nat → Int32, (∀ k, k < r → S k = R 67 k ∧ A k = R 68 k) ∧ (∀ j, j < P.length → S (r + j) = qe1 (P.getD j 0) ∧ A (r + j) = qe2 (P.getD j 0)) ∧ q_Fm (C 29) S A (r + P.length) ∧ qdep S (r + P.length) = dp
def q_Fs (v : Nat → Nat) (n : Nat) (C : Nat → Nat → Int32) (J : Nat → Nat → Int64) (R : Nat → Nat → Int32) (K : Nat → Nat → Int64) (s : Nat) (S P : List Int32) (r u w dp : Nat) : Prop :=
  q_Pt v n C J R K s ∧ (q_Sk (R 71) (P ++ S) ∧ R 64 19 = nI (P ++ S).length) ∧ q_Cd C R P r dp ∧ (C 28 3 = nI u ∧ R 64 20 = nI u ∧ R 64 22 = nI u ∧ u ≤ 30) ∧ R 64 23 = nI (w + qnts P) ∧ dp ≤ u ∧ r + P.length ≤ 9 * u
/-- what reading a formula changes -/
def q_Gx (C : Nat → Nat → Int32) (J : Nat → Nat → Int64) (R : Nat → Nat → Int32) (K : Nat → Nat → Int64) (C' : Nat → Nat → Int32) (J' : Nat → Nat → Int64) (R' : Nat → Nat → Int32) (K' : Nat → Nat → Int64) : Prop :=
  ((∀ p, p ≠ 31 → p ≠ 28 → p ≠ 29 → C' p = C p) ∧ (∀ k, k ≠ 3 → k ≠ 4 → k ≠ 5 → k ≠ 6 → C' 31 k = C 31 k)) ∧ (∀ p, p ≠ 31 → J' p = J p) ∧ ((∀ p, p ≠ 64 → p ≠ 67 → p ≠ 68 → p ≠ 71 → R' p = R p) ∧ (∀ k, k ≠ 4 → k ≠ 6 → k ≠ 7 → k ≠ 8 → k ≠ 17 → k ≠ 19 → k ≠ 20 → k ≠ 22 → k ≠ 23 → R' 64 k = R 64 k)) ∧ (∀ p, p ≠ 64 → K' p = K p)
theorem q_Gx_refl (C : Nat → Nat → Int32) (J : Nat → Nat → Int64) (R : Nat → Nat → Int32) (K : Nat → Nat → Int64) : q_Gx C J R K C J R K := ⟨⟨fun _ _ _ _ => rfl, fun _ _ _ _ _ => rfl⟩, fun _ _ => rfl, ⟨fun _ _ _ _ _ => rfl, fun _ _ _ _ _ _ _ _ _ _ => rfl⟩, fun _ _ => rfl⟩
theorem q_Gx_trans {C C1 C2 : Nat → Nat → Int32} {J J1 J2 : Nat → Nat → Int64} {R R1 R2 : Nat → Nat → Int32} {K K1 K2 : Nat → Nat → Int64} (h : q_Gx C J R K C1 J1 R1 K1) (g : q_Gx C1 J1 R1 K1 C2 J2 R2 K2) : q_Gx C J R K C2 J2 R2 K2 :=
  ⟨⟨fun p a b c => (g.1.1 p a b c).trans (h.1.1 p a b c), fun k a b c d => (g.1.2 k a b c d).trans (h.1.2 k a b c d)⟩, fun p a => (g.2.1 p a).trans (h.2.1 p a), ⟨fun p a b c d => (g.2.2.1.1 p a b c d).trans (h.2.2.1.1 p a b c d), fun k a b c d i j l m o => (g.2.2.1.2 k a b c d i j l m o).trans (h.2.2.1.2 k a b c d i j l m o)⟩, fun p a => (g.2.2.2 p a).trans (h.2.2.2 p a)⟩
theorem q_Gx_ad {C C1 : Nat → Nat → Int32} {J J1 : Nat → Nat → Int64} {R R1 : Nat → Nat → Int32} {K K1 : Nat → Nat → Int64} (h : q_Ad C J R K C1 J1 R1 K1) : q_Gx C J R K C1 J1 R1 K1 :=
  ⟨⟨fun p a _ _ => h.1.1 p a, h.1.2⟩, h.2.1, ⟨fun p a _ _ _ => h.2.2.1.1 p a, fun k a b c d _ _ _ _ _ => h.2.2.1.2 k a b c d⟩, h.2.2.2⟩
theorem q_Gx.gf {C : Nat → Nat → Int32} {J : Nat → Nat → Int64} {R : Nat → Nat → Int32} {K : Nat → Nat → Int64} {C' : Nat → Nat → Int32} {J' : Nat → Nat → Int64} {R' : Nat → Nat → Int32} {K' : Nat → Nat → Int64} (h : q_Gx C J R K C' J' R' K') : q_Gf C J R K C' J' R' K' := by
  refine ⟨fun p hp => ⟨h.1.1 p (by omega) (by omega) (by omega), h.2.1 p (by omega)⟩, fun p k hp => ?_, fun p a _ => h.2.2.2 p a⟩
  by_cases h64 : p = 64
  · subst h64
    refine h.2.2.1.2 k ?_ ?_ ?_ ?_ ?_ ?_ ?_ ?_ ?_ <;> (intro e; subst e; cases hp)
  · rw [h.2.2.1.1 p h64 (fun g => by subst g; cases hp) (fun g => by subst g; cases hp) (fun g => by subst g; cases hp)]
theorem qdep_c {S S' : Nat → Int32} : ∀ {k : Nat}, (∀ i, i < k → S' i = S i) → qdep S' k = qdep S k := by
  intro k
  induction k with
  | zero => intro _; rfl
  | succ k ih =>
    intro h
    show (if S' k = 0 ∨ S' k = 1 then qdep S' k + 1 else if S' k = 2 then qdep S' k else qdep S' k - 1) = (if S k = 0 ∨ S k = 1 then qdep S k + 1 else if S k = 2 then qdep S k else qdep S k - 1)
    rw [h k (by omega), ih (fun i hi => h i (by omega))]
/-- one code more -/
theorem q_Fm_up {D S A : Nat → Int32} {z : Nat} (h : q_Fm D S A z) {c a b : Int32} {d : Nat} (ho : q_Op c a b) (hd : qdep (va_up S z a) (z + 1) = d) (h30 : d ≤ 30) (h2 : a = 2 → 1 ≤ qdep S z) (h3 : a = 3 → 2 ≤ qdep S z) : q_Fm (va_up D z c) (va_up S z a) (va_up A z b) (z + 1) := by
  intro k hk
  have hc : ∀ k, k ≤ z → qdep (va_up S z a) k = qdep S k := fun k hk => qdep_c (fun i hi => va_miss (by omega))
  by_cases hkz : k = z
  · subst hkz
    rw [va_hit, va_hit, va_hit, hd, hc k (Nat.le_refl _)]
    exact ⟨ho, h30, h2, h3⟩
  · rw [va_miss hkz, va_miss hkz, va_miss hkz, hc k (by omega), hc (k + 1) (by omega)]
    exact h k (by omega)
theorem fX4_put {C : Nat → Nat → Int32} (J : Nat → Nat → Int64) (e : QP) {z : Nat} (h : C 28 2 = nI z) (hz : z < 300) (c : Int32) : mX4_put [.ref 28, .int c] (qm C J e) = some (none, qm (q_up (q_up C 29 z c) 28 2 (nI (z + 1))) J e) := by
  rw [bX4_put, eX4_put_0, h, if_pos (show nI z < (300 : Int32) from nI_lt (b := 300) hz (by omega)), eX4_put_10, h, q_in_nI hz (by omega), nI_n (by omega), Bool.true_and, q_ck_tt, show nI z + 1 = nI (z + 1) from nI_add z 1, eX4_put_30]
