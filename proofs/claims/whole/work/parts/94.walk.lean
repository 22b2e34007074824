/-! ===== walks: the shortest; in how many ways ===== -/
def qYb (f : Nat → Nat) (s : Nat) : Bool := !decide (f (qnx s false) < f s)
def qYs (f : Nat → Nat) (s : Nat) : Nat → Nat
  | 0 => s
  | i + 1 => qnx (qYs f s i) (qYb f (qYs f s i))
def q_Wk (f : Nat → Nat) (t : Nat) : Prop := ∀ s, s < 16 → f s < 16 ∧ (s ≠ t → f (qnx s (qYb f s)) + 1 = f s) ∧ (f s = 0 ↔ s = t)
theorem qMz_t : ∀ t, t < 16 → ∀ s, s < 16 → qMz true t s = qMz false s t ∧ qMz true t s < 16 ∧ (s ≠ t → qMz true t (qnx s (qYb (qMz true t) s)) + 1 = qMz true t s) ∧ (qMz true t s = 0 ↔ s = t) := by decide +kernel
theorem q_Wk_of {t : Nat} (ht : t < 16) : q_Wk (qMz true t) t := fun s hs => (qMz_t t ht s hs).2
theorem qYs_lt {f : Nat → Nat} {s : Nat} (hs : s < 16) : ∀ i, qYs f s i < 16
  | 0 => hs
  | i + 1 => (qnx_t _ (qYs_lt hs i) _).1
theorem qYs_f {f : Nat → Nat} {t s : Nat} (h : q_Wk f t) (hs : s < 16) : ∀ i, i ≤ f s → f (qYs f s i) + i = f s
  | 0, _ => rfl
  | i + 1, hi => by
    have ih := qYs_f h hs i (by omega)
    obtain ⟨-, h2, h3⟩ := h _ (qYs_lt hs i)
    have hne : qYs f s i ≠ t := fun c => by
      have := h3.mpr c
      omega
    have := h2 hne
    show f (qnx (qYs f s i) (qYb f (qYs f s i))) + (i + 1) = f s
    omega
theorem q_up_sw {α : Type} (f : Nat → Nat → α) {p q : Nat} (h : q ≠ p) (A B : Nat → α) (k : Nat) (v : α) : q_up (va_up (va_up f p A) q B) p k v = va_up (va_up f p (va_up A k v)) q B := by
  rw [va_up_comm f (fun c => h c.symm), q_up_up, va_up_comm _ h]
section WL
variable {I : Nat → Nat → Int32} {J : Nat → Nat → Int64} {e : QP} {rb tx L : Nat}
theorem fX10_lead_43 (hS : q_Sta I) {t s : Nat} (ht : t < 16) (hs : s < 16) : ∃ I', mX10_lead [.ref 34, .int (nI s), .int (nI t), .ref 43] (qm I J e) = some (some (.int (nI (qMz true t s))), qm I' J e) ∧ (∀ k, k < qMz true t s → I' 43 k = qb (qYb (qMz true t) (qYs (qMz true t) s k))) ∧ ∀ p, p ≠ 35 → p ≠ 43 → I' p = I p := by
  have hme := fX10_measure (J := J) (e := e) hS true ht
  have hwk := q_Wk_of ht
  generalize qMz true t = f at hme hwk
  have hfs := (hwk s hs).1
  have h35 : ∀ G k, k < 16 → (va_up (va_up I 35 (q16 f (I 35))) 43 G) 35 k = nI (f k) := fun G k hk => by rw [va_miss (by decide), va_hit, q16_in hk]
  have h1000 : ∀ G, q_Sta (va_up (va_up I 35 (q16 f (I 35))) 43 G) := fun G => hS
  have hP : (va_up I 35 (q16 f (I 35))) 43 = I 43 := va_miss (by decide)
  generalize hM : va_up I 35 (q16 f (I 35)) = M at hme h35 h1000 hP
  have hst : ∀ n, n < f s → (fun n (y : Nat × (Nat → Int32)) => kX10_lead 25 [some (.ref 34), none, none, some (.ref 43), some (.int (nI y.1)), some (.int (nI (f s))), some (.int (nI n)), none] [] (qm (va_up M 43 y.2) J e)) n (qYs f s n, fa_fill (fun k => qb (qYb f (qYs f s k))) (I 43) n) = (fun n (y : Nat × (Nat → Int32)) => kX10_lead 25 [some (.ref 34), none, none, some (.ref 43), some (.int (nI y.1)), some (.int (nI (f s))), some (.int (nI n)), none] [] (qm (va_up M 43 y.2) J e)) (n + 1) (qYs f s (n + 1), fa_fill (fun k => qb (qYb f (qYs f s k))) (I 43) (n + 1)) := by
    intro n hn
    show kX10_lead 25 _ _ _ = kX10_lead 25 _ _ _
    dsimp only
    have hl := qYs_lt (f := f) hs n
    have hf1 := (hwk _ hl).1
    have hnl := (qnx_t _ hl false).1
    have hf2 := (hwk _ hnl).1
    have n0 : ∀ G, mX10_next [.int (nI (qYs f s n)), .int 0] (qm (va_up M 43 G) J e) = some (some (.int (nI (qnx (qYs f s n) false))), qm (va_up M 43 G) J e) := fun G => fX10_next _ J e (h1000 G) hl false
    have n1 : ∀ G b, mX10_next [.int (nI (qYs f s n)), .int (qb b)] (qm (va_up M 43 G) J e) = some (some (.int (nI (qnx (qYs f s n) b))), qm (va_up M 43 G) J e) := fun G b => fX10_next _ J e (h1000 G) hl b
    have hb : ∀ b : Bool, b = qYb f (qYs f s n) → ∀ G, kX10_lead 65 [some (.ref 34), none, none, some (.ref 43), some (.int (nI (qYs f s n))), some (.int (nI (f s))), some (.int (nI n)), none] [.int (qb b), .int (nI n), .ref 43] (qm (va_up M 43 (fa_fill (fun k => qb (qYb f (qYs f s k))) G n)) J e) = kX10_lead 25 [some (.ref 34), none, none, some (.ref 43), some (.int (nI (qYs f s (n + 1)))), some (.int (nI (f s))), some (.int (nI (n + 1))), none] [] (qm (va_up M 43 (fa_fill (fun k => qb (qYb f (qYs f s k))) G (n + 1))) J e) := by
      intro b hb G
      rw [eX10_lead_34_43_65, q_in_nI (show n < 16 by omega) (by omega), nI_clamp (show n < 2 ^ 31 by omega), q_up_up, fa_next' (f := fun k => qb (qYb f (qYs f s k))) (by rw [hb]), va_hit, fa_fill_in (show n < n + 1 by omega), n1]
      simp only [Option.bind_some, Option.toList_some, Option.toList_none, List.nil_append, List.cons_append, q_ck_tt, Bool.and_true, Bool.true_and, if_true, if_false, reduceCtorEq]
      rw [eX10_lead_34_43_75, nI_1]
      rfl
    rw [eX10_lead_34_43_25, if_pos (nI_lt hn (by omega)), eX10_lead_34_43_32, n0]
    simp only [Option.bind_some, Option.toList_some, Option.toList_none, List.nil_append, List.cons_append, q_ck_tt, Bool.and_true, Bool.true_and, if_true, if_false, reduceCtorEq]
    rw [eX10_lead_34_43_38, q_in_nI hl (by omega), q_in_nI hnl (by omega), nI_clamp (show qYs f s n < 2 ^ 31 by omega), nI_clamp (show qnx (qYs f s n) false < 2 ^ 31 by omega), h35 _ _ hl, h35 _ _ hnl]
    simp only [Option.bind_some, Option.toList_some, Option.toList_none, List.nil_append, List.cons_append, q_ck_tt, Bool.and_true, Bool.true_and, if_true, if_false, reduceCtorEq]
    by_cases c : f (qnx (qYs f s n) false) < f (qYs f s n)
    · rw [if_pos (nI_lt c (by omega)), eX10_lead_34_43_60]
      exact hb false (by unfold qYb; rw [decide_eq_true c]; rfl) _
    · rw [if_neg (nI_nlt (by omega) (by omega)), eX10_lead_34_43_64]
      exact hb true (by unfold qYb; rw [decide_eq_false c]; rfl) _
  have hq := q_for (fun n (y : Nat × (Nat → Int32)) => kX10_lead 25 [some (.ref 34), none, none, some (.ref 43), some (.int (nI y.1)), some (.int (nI (f s))), some (.int (nI n)), none] [] (qm (va_up M 43 y.2) J e)) (f s) (fun n => (qYs f s n, fa_fill (fun k => qb (qYb f (qYs f s k))) (I 43) n)) hst
  refine ⟨va_up M 43 (fa_fill (fun k => qb (qYb f (qYs f s k))) (I 43) (f s)), ?_, ?_, ?_⟩
  · dsimp only at hq
    have hm1 : mX10_measure [.ref 34, .int (nI t), .int 1] (qm I J e) = some (none, qm M J e) := hme
    have h35' : M 35 s = nI (f s) := by rw [← hM, va_hit, q16_in hs]
    rw [fa_fill_0, va_up_eq (f := M) (p := 43) hP] at hq
    rw [bX10_lead_34_43, eX10_lead_34_43_0, hm1]
    simp only [Option.bind_some, Option.toList_some, Option.toList_none, List.nil_append, List.cons_append, q_ck_tt, Bool.and_true, Bool.true_and, if_true, if_false, reduceCtorEq]
    rw [eX10_lead_34_43_6, q_in_nI hs (by omega), nI_clamp (show s < 2 ^ 31 by omega), h35', if_neg (show ¬ (16 : Int32) < nI (f s) from nI_nlt (a := 16) (by omega) (by omega))]
    simp only [Option.bind_some, Option.toList_some, Option.toList_none, List.nil_append, List.cons_append, q_ck_tt, Bool.and_true, Bool.true_and, if_true, if_false, reduceCtorEq]
    refine Eq.trans hq ?_
    rw [eX10_lead_34_43_25, if_neg (nI_nlt (Nat.le_refl _) (by omega)), eX10_lead_34_43_83]
  · intro k hk
    rw [va_hit, fa_fill_in hk]
  · intro p h1 h2
    rw [va_miss h2, ← hM, va_miss h1]
theorem fX10_lead_63 (hS : q_Sta I) {t s : Nat} (ht : t < 16) (hs : s < 16) : ∃ I', mX10_lead [.ref 34, .int (nI s), .int (nI t), .ref 63] (qm I J e) = some (some (.int (nI (qMz true t s))), qm I' J e) ∧ (∀ k, k < qMz true t s → I' 63 k = qb (qYb (qMz true t) (qYs (qMz true t) s k))) ∧ ∀ p, p ≠ 35 → p ≠ 63 → I' p = I p := by
  have hme := fX10_measure (J := J) (e := e) hS true ht
  have hwk := q_Wk_of ht
  generalize qMz true t = f at hme hwk
  have hfs := (hwk s hs).1
  have h35 : ∀ G k, k < 16 → (va_up (va_up I 35 (q16 f (I 35))) 63 G) 35 k = nI (f k) := fun G k hk => by rw [va_miss (by decide), va_hit, q16_in hk]
  have h1000 : ∀ G, q_Sta (va_up (va_up I 35 (q16 f (I 35))) 63 G) := fun G => hS
  have hP : (va_up I 35 (q16 f (I 35))) 63 = I 63 := va_miss (by decide)
  generalize hM : va_up I 35 (q16 f (I 35)) = M at hme h35 h1000 hP
  have hst : ∀ n, n < f s → (fun n (y : Nat × (Nat → Int32)) => kX10_lead 25 [some (.ref 34), none, none, some (.ref 63), some (.int (nI y.1)), some (.int (nI (f s))), some (.int (nI n)), none] [] (qm (va_up M 63 y.2) J e)) n (qYs f s n, fa_fill (fun k => qb (qYb f (qYs f s k))) (I 63) n) = (fun n (y : Nat × (Nat → Int32)) => kX10_lead 25 [some (.ref 34), none, none, some (.ref 63), some (.int (nI y.1)), some (.int (nI (f s))), some (.int (nI n)), none] [] (qm (va_up M 63 y.2) J e)) (n + 1) (qYs f s (n + 1), fa_fill (fun k => qb (qYb f (qYs f s k))) (I 63) (n + 1)) := by
    intro n hn
    show kX10_lead 25 _ _ _ = kX10_lead 25 _ _ _
    dsimp only
    have hl := qYs_lt (f := f) hs n
    have hf1 := (hwk _ hl).1
    have hnl := (qnx_t _ hl false).1
    have hf2 := (hwk _ hnl).1
    have n0 : ∀ G, mX10_next [.int (nI (qYs f s n)), .int 0] (qm (va_up M 63 G) J e) = some (some (.int (nI (qnx (qYs f s n) false))), qm (va_up M 63 G) J e) := fun G => fX10_next _ J e (h1000 G) hl false
    have n1 : ∀ G b, mX10_next [.int (nI (qYs f s n)), .int (qb b)] (qm (va_up M 63 G) J e) = some (some (.int (nI (qnx (qYs f s n) b))), qm (va_up M 63 G) J e) := fun G b => fX10_next _ J e (h1000 G) hl b
    have hb : ∀ b : Bool, b = qYb f (qYs f s n) → ∀ G, kX10_lead 65 [some (.ref 34), none, none, some (.ref 63), some (.int (nI (qYs f s n))), some (.int (nI (f s))), some (.int (nI n)), none] [.int (qb b), .int (nI n), .ref 63] (qm (va_up M 63 (fa_fill (fun k => qb (qYb f (qYs f s k))) G n)) J e) = kX10_lead 25 [some (.ref 34), none, none, some (.ref 63), some (.int (nI (qYs f s (n + 1)))), some (.int (nI (f s))), some (.int (nI (n + 1))), none] [] (qm (va_up M 63 (fa_fill (fun k => qb (qYb f (qYs f s k))) G (n + 1))) J e) := by
      intro b hb G
      rw [eX10_lead_34_63_65, q_in_nI (show n < 16 by omega) (by omega), nI_clamp (show n < 2 ^ 31 by omega), q_up_up, fa_next' (f := fun k => qb (qYb f (qYs f s k))) (by rw [hb]), va_hit, fa_fill_in (show n < n + 1 by omega), n1]
      simp only [Option.bind_some, Option.toList_some, Option.toList_none, List.nil_append, List.cons_append, q_ck_tt, Bool.and_true, Bool.true_and, if_true, if_false, reduceCtorEq]
      rw [eX10_lead_34_63_75, nI_1]
      rfl
    rw [eX10_lead_34_63_25, if_pos (nI_lt hn (by omega)), eX10_lead_34_63_32, n0]
    simp only [Option.bind_some, Option.toList_some, Option.toList_none, List.nil_append, List.cons_append, q_ck_tt, Bool.and_true, Bool.true_and, if_true, if_false, reduceCtorEq]
    rw [eX10_lead_34_63_38, q_in_nI hl (by omega), q_in_nI hnl (by omega), nI_clamp (show qYs f s n < 2 ^ 31 by omega), nI_clamp (show qnx (qYs f s n) false < 2 ^ 31 by omega), h35 _ _ hl, h35 _ _ hnl]
    simp only [Option.bind_some, Option.toList_some, Option.toList_none, List.nil_append, List.cons_append, q_ck_tt, Bool.and_true, Bool.true_and, if_true, if_false, reduceCtorEq]
    by_cases c : f (qnx (qYs f s n) false) < f (qYs f s n)
    · rw [if_pos (nI_lt c (by omega)), eX10_lead_34_63_60]
      exact hb false (by unfold qYb; rw [decide_eq_true c]; rfl) _
    · rw [if_neg (nI_nlt (by omega) (by omega)), eX10_lead_34_63_64]
      exact hb true (by unfold qYb; rw [decide_eq_false c]; rfl) _
  have hq := q_for (fun n (y : Nat × (Nat → Int32)) => kX10_lead 25 [some (.ref 34), none, none, some (.ref 63), some (.int (nI y.1)), some (.int (nI (f s))), some (.int (nI n)), none] [] (qm (va_up M 63 y.2) J e)) (f s) (fun n => (qYs f s n, fa_fill (fun k => qb (qYb f (qYs f s k))) (I 63) n)) hst
  refine ⟨va_up M 63 (fa_fill (fun k => qb (qYb f (qYs f s k))) (I 63) (f s)), ?_, ?_, ?_⟩
  · dsimp only at hq
    have hm1 : mX10_measure [.ref 34, .int (nI t), .int 1] (qm I J e) = some (none, qm M J e) := hme
    have h35' : M 35 s = nI (f s) := by rw [← hM, va_hit, q16_in hs]
    rw [fa_fill_0, va_up_eq (f := M) (p := 63) hP] at hq
    rw [bX10_lead_34_63, eX10_lead_34_63_0, hm1]
    simp only [Option.bind_some, Option.toList_some, Option.toList_none, List.nil_append, List.cons_append, q_ck_tt, Bool.and_true, Bool.true_and, if_true, if_false, reduceCtorEq]
    rw [eX10_lead_34_63_6, q_in_nI hs (by omega), nI_clamp (show s < 2 ^ 31 by omega), h35', if_neg (show ¬ (16 : Int32) < nI (f s) from nI_nlt (a := 16) (by omega) (by omega))]
    simp only [Option.bind_some, Option.toList_some, Option.toList_none, List.nil_append, List.cons_append, q_ck_tt, Bool.and_true, Bool.true_and, if_true, if_false, reduceCtorEq]
    refine Eq.trans hq ?_
    rw [eX10_lead_34_63_25, if_neg (nI_nlt (Nat.le_refl _) (by omega)), eX10_lead_34_63_83]
  · intro k hk
    rw [va_hit, fa_fill_in hk]
  · intro p h1 h2
    rw [va_miss h2, ← hM, va_miss h1]
theorem fX12_stepTo {f : Nat → Nat} {t s : Nat} (ht : t < 16) (hs : s < 16) (hwk : q_Wk f t) (h95 : ∀ a, a < 16 → I 95 (16 * a + t) = nI (f a)) : mX12_stepTo [.ref 64, .int (nI s), .int (nI t)] (qm I J e) = some (some (.int (qb (qYb f s))), qm I J e) := by
  have hnl := (qnx_t _ hs false).1
  have hf1 := (hwk _ hs).1
  have hf2 := (hwk _ hnl).1
  have n0 : mX12_nextState [.int (nI s), .int 0] (qm I J e) = some (some (.int (nI (qnx s false))), qm I J e) := fX12_nextState I J e hs false
  have hm : ∀ a, (16 : Int32) * nI a + nI t = nI (16 * a + t) := fun a => by rw [show (16 : Int32) = nI 16 from rfl, pk_mul, nI_add]
  rw [bX12_stepTo, eX12_stepTo_0, n0]
  simp only [Option.bind_some, Option.toList_some, Option.toList_none, List.nil_append, List.cons_append, q_ck_tt, Bool.and_true, Bool.true_and, if_true, if_false, reduceCtorEq]
  rw [eX12_stepTo_11, hm, hm, q_in_nI (show 16 * s + t < 256 by omega) (by omega), q_in_nI (show 16 * qnx s false + t < 256 by omega) (by omega), nI_clamp (show 16 * s + t < 2 ^ 31 by omega), nI_clamp (show 16 * qnx s false + t < 2 ^ 31 by omega), h95 _ hs, h95 _ hnl]
  simp only [Option.bind_some, Option.toList_some, Option.toList_none, List.nil_append, List.cons_append, q_ck_tt, Bool.and_true, Bool.true_and, if_true, if_false, reduceCtorEq]
  by_cases c : f (qnx s false) < f s
  · rw [if_pos (nI_lt c (by omega)), eX12_stepTo_29, eX12_stepTo_34]
    unfold qYb; rw [decide_eq_true c]; rfl
  · rw [if_neg (nI_nlt (by omega) (by omega)), eX12_stepTo_33, eX12_stepTo_34]
    unfold qYb; rw [decide_eq_false c]; rfl
theorem q_Fr_t (hF : q_Fr I) {t : Nat} (ht : t < 16) : ∀ a, a < 16 → I 95 (16 * a + t) = nI (qMz true t a) := fun a ha => by rw [hF a ha t ht, (qMz_t t ht a ha).1]
theorem o_walk (hS : q_Sta I) (hF : q_Fr I) (a b : Int32) : ∃ (r : Int32) (I1 I2 : Nat → Nat → Int32), mX11_walk [.ref 1, .int a, .int b] (qm I J (3, 17, rb, tx, L)) = some (some (.int r), qm I1 J (3, 17, rb, tx, L)) ∧ mX12_walk [.ref 64, .int a, .int b] (qm I1 J (3, 17, rb, tx, L)) = some (some (.int r), qm I2 J (3, 17, rb, tx, L)) ∧ q_Ly I2 ∧ I1 1004 = I 1004 ∧ ∀ p k, p ≠ 35 → p ≠ 63 → p ≠ 96 → ¬ (p = 1 ∧ k = 12) → ¬ (p = 64 ∧ k = 62) → I2 p k = I p k := by
  have h10 : ¬ ((1 : Int32) = 0) := by decide
  have hno : ∀ b1 b2 : Bool, q_in a 16 = b1 → q_in b 16 = b2 → (b1 && b2) = false → ∃ (r : Int32) (I1 I2 : Nat → Nat → Int32), mX11_walk [.ref 1, .int a, .int b] (qm I J (3, 17, rb, tx, L)) = some (some (.int r), qm I1 J (3, 17, rb, tx, L)) ∧ mX12_walk [.ref 64, .int a, .int b] (qm I1 J (3, 17, rb, tx, L)) = some (some (.int r), qm I2 J (3, 17, rb, tx, L)) ∧ q_Ly I2 ∧ I1 1004 = I 1004 ∧ ∀ p k, p ≠ 35 → p ≠ 63 → p ≠ 96 → ¬ (p = 1 ∧ k = 12) → ¬ (p = 64 ∧ k = 62) → I2 p k = I p k := by
    intro b1 b2 e1 e2 hb
    refine ⟨-1, q_up I 1 12 0, q_up (q_up I 1 12 0) 64 62 0, ?_, ?_, ⟨0, by omega, rfl, rfl, fun k hk => absurd hk (by omega)⟩, by rw [q_up_va, va_miss (by decide)], ?_⟩
    · rw [bX11_walk, eX11_walk_0, fX11_isState, e1]
      simp only [Option.bind_some, Option.toList_some, Option.toList_none, List.nil_append, List.cons_append, q_ck_tt, Bool.and_true, Bool.true_and, if_true, if_false, reduceCtorEq]
      rw [eX11_walk_9]
      cases b1 with
      | false => rw [if_pos qb_f, eX11_walk_19]
      | true =>
        cases b2 with
        | true => cases hb
        | false =>
          rw [if_neg (show ¬ qb true = 0 by decide), eX11_walk_12, fX11_isState, e2]
          simp only [Option.bind_some, Option.toList_some, Option.toList_none, List.nil_append, List.cons_append, q_ck_tt, Bool.and_true, Bool.true_and, if_true, if_false, reduceCtorEq]
          rw [eX11_walk_16, if_pos qb_f, eX11_walk_19]
    · rw [bX12_walk, eX12_walk_0, fX12_isState, e1]
      simp only [Option.bind_some, Option.toList_some, Option.toList_none, List.nil_append, List.cons_append, q_ck_tt, Bool.and_true, Bool.true_and, if_true, if_false, reduceCtorEq]
      rw [eX12_walk_9]
      cases b1 with
      | false => rw [if_pos qb_f, eX12_walk_19]
      | true =>
        cases b2 with
        | true => cases hb
        | false =>
          rw [if_neg (show ¬ qb true = 0 by decide), eX12_walk_12, fX12_isState, e2]
          simp only [Option.bind_some, Option.toList_some, Option.toList_none, List.nil_append, List.cons_append, q_ck_tt, Bool.and_true, Bool.true_and, if_true, if_false, reduceCtorEq]
          rw [eX12_walk_16, if_pos qb_f, eX12_walk_19]
    · intro p k _ _ _ h1 h2
      rw [q_up_at]
      by_cases hp : p = 64
      · rw [if_pos hp, if_neg (fun c => h2 ⟨hp, c⟩), q_up_at, if_neg (by decide), hp]
      · rw [if_neg hp, q_up_at]
        by_cases hq : p = 1
        · rw [if_pos hq, if_neg (fun c => h1 ⟨hq, c⟩), hq]
        · rw [if_neg hq]
  cases ha : q_in a 16 with
  | false => exact hno false _ ha rfl rfl
  | true =>
    cases hb : q_in b 16 with
    | false => exact hno true false ha hb rfl
    | true =>
      clear hno
      obtain ⟨s, hs, rfl, -⟩ := q_in_of ha
      obtain ⟨t, ht, rfl, -⟩ := q_in_of hb
      obtain ⟨I', l0, l1, l2⟩ := fX10_lead_63 (I := q_up I 1 12 0) (J := J) (e := (3, 17, rb, tx, L)) hS ht hs
      have hfr := q_Fr_t hF ht
      have hwk := q_Wk_of ht
      generalize qMz true t = f at l0 l1 hfr hwk
      have hfs := (hwk s hs).1
      have i1 : ∀ k, k ≠ 12 → I' 1 k = I 1 k := fun k hk => by rw [l2 1 (by decide) (by decide), q_up_va, va_hit, va_miss hk]
      have ip : ∀ p, p ≠ 1 → p ≠ 35 → p ≠ 63 → I' p = I p := fun p h1 h2 h3 => by rw [l2 p h2 h3, q_up_va, va_miss h1]
      have hK : ∀ p, p ≠ 1 → (q_up I' 1 12 (nI (f s))) p = I' p := fun p hp => by rw [q_up_va, va_miss hp]
      have hK1 : (q_up I' 1 12 (nI (f s))) 1 12 = nI (f s) := by rw [q_up_va, va_hit, va_hit]
      have hK2 : ∀ k, k ≠ 12 → (q_up I' 1 12 (nI (f s))) 1 k = I' 1 k := fun k hk => by rw [q_up_va, va_hit, va_miss hk]
      have hc : mX11_walk [.ref 1, .int (nI s), .int (nI t)] (qm I J (3, 17, rb, tx, L)) = some (some (.int (nI (f s))), qm (q_up I' 1 12 (nI (f s))) J (3, 17, rb, tx, L)) := by
        rw [bX11_walk, eX11_walk_0, fX11_isState, ha]
        simp only [Option.bind_some, Option.toList_some, Option.toList_none, List.nil_append, List.cons_append, q_ck_tt, Bool.and_true, Bool.true_and, if_true, if_false, reduceCtorEq]
        rw [eX11_walk_9, qb_t, if_neg h10, eX11_walk_12, fX11_isState, hb]
        simp only [Option.bind_some, Option.toList_some, Option.toList_none, List.nil_append, List.cons_append, q_ck_tt, Bool.and_true, Bool.true_and, if_true, if_false, reduceCtorEq]
        rw [eX11_walk_16, qb_t, if_neg h10, eX11_walk_21, l0]
        simp only [Option.bind_some, Option.toList_some, Option.toList_none, List.nil_append, List.cons_append, q_ck_tt, Bool.and_true, Bool.true_and, if_true, if_false, reduceCtorEq]
        rw [eX11_walk_35]
      generalize q_up I' 1 12 (nI (f s)) = K at hK hK1 hK2 hc
      have k95 : ∀ a, a < 16 → K 95 (16 * a + t) = nI (f a) := fun a h => by rw [hK 95 (by decide), ip 95 (by decide) (by decide) (by decide)]; exact hfr a h
      have hst : ∀ n, n < f s → (fun n (y : Nat × ((Nat → Int32) × (Nat → Int32))) => kX12_walk 23 [some (.ref 64), none, some (.int (nI t)), some (.int (nI y.1))] [] (qm (va_up (va_up K 64 y.2.1) 96 y.2.2) J (3, 17, rb, tx, L))) n (qYs f s n, va_up (K 64) 62 (nI n), fa_fill (fun k => qb (qYb f (qYs f s k))) (K 96) n) = (fun n (y : Nat × ((Nat → Int32) × (Nat → Int32))) => kX12_walk 23 [some (.ref 64), none, some (.int (nI t)), some (.int (nI y.1))] [] (qm (va_up (va_up K 64 y.2.1) 96 y.2.2) J (3, 17, rb, tx, L))) (n + 1) (qYs f s (n + 1), va_up (K 64) 62 (nI (n + 1)), fa_fill (fun k => qb (qYb f (qYs f s k))) (K 96) (n + 1)) := by
        intro n hn
        show kX12_walk 23 _ _ _ = kX12_walk 23 _ _ _
        dsimp only
        have hl := qYs_lt (f := f) hs n
        have hne : ¬ nI (qYs f s n) = nI t := fun c => by
          have h1 := qYs_f hwk hs n (by omega)
          have h2 := (hwk _ hl).2.2.mpr (nI_inj (by omega) (by omega) c)
          omega
        have s95 : ∀ A B, ∀ a, a < 16 → (va_up (va_up K 64 A) 96 B) 95 (16 * a + t) = nI (f a) := fun A B a h => by rw [va_miss (by decide), va_miss (by decide)]; exact k95 a h
        have r62 : ∀ B, (va_up (va_up K 64 (va_up (K 64) 62 (nI n))) 96 B) 64 62 = nI n := fun B => by rw [va_miss (by decide), va_hit, va_hit]
        rw [eX12_walk_23, if_neg hne, eX12_walk_28, fX12_stepTo ht hl hwk (s95 _ _), r62]
        simp only [Option.bind_some, Option.toList_some, Option.toList_none, List.nil_append, List.cons_append, q_ck_tt, Bool.and_true, Bool.true_and, if_true, if_false, reduceCtorEq]
        rw [eX12_walk_42, r62, q_in_nI (show n < 16 by omega) (by omega), nI_clamp (show n < 2 ^ 31 by omega), q_up_up, fa_next' (f := fun k => qb (qYb f (qYs f s k))) rfl, va_hit, fa_fill_in (show n < n + 1 by omega), fX12_nextState _ _ _ hl]
        simp only [Option.bind_some, Option.toList_some, Option.toList_none, List.nil_append, List.cons_append, q_ck_tt, Bool.and_true, Bool.true_and, if_true, if_false, reduceCtorEq]
        rw [eX12_walk_56, r62, nI_1, q_up_sw _ (by decide), va_up_up]
        rfl
      have hq := q_for (fun n (y : Nat × ((Nat → Int32) × (Nat → Int32))) => kX12_walk 23 [some (.ref 64), none, some (.int (nI t)), some (.int (nI y.1))] [] (qm (va_up (va_up K 64 y.2.1) 96 y.2.2) J (3, 17, rb, tx, L))) (f s) (fun n => (qYs f s n, va_up (K 64) 62 (nI n), fa_fill (fun k => qb (qYb f (qYs f s k))) (K 96) n)) hst
      have hend : qYs f s (f s) = t := by
        have h1 := qYs_f hwk hs (f s) (Nat.le_refl _)
        exact (hwk _ (qYs_lt hs _)).2.2.mp (by omega)
      refine ⟨nI (f s), K, va_up (va_up K 64 (va_up (K 64) 62 (nI (f s)))) 96 (fa_fill (fun k => qb (qYb f (qYs f s k))) (K 96) (f s)), hc, ?_, ⟨f s, by omega, ?_, ?_, ?_⟩, by rw [hK 1004 (by decide), ip 1004 (by decide) (by decide) (by decide)], ?_⟩
      · dsimp only at hq
        rw [fa_fill_0, va_up_eq (f := va_up K 64 (va_up (K 64) 62 (nI 0))) (p := 96) (by rw [va_miss (by decide)])] at hq
        rw [bX12_walk, eX12_walk_0, fX12_isState, ha]
        simp only [Option.bind_some, Option.toList_some, Option.toList_none, List.nil_append, List.cons_append, q_ck_tt, Bool.and_true, Bool.true_and, if_true, if_false, reduceCtorEq]
        rw [eX12_walk_9, qb_t, if_neg h10, eX12_walk_12, fX12_isState, hb]
        simp only [Option.bind_some, Option.toList_some, Option.toList_none, List.nil_append, List.cons_append, q_ck_tt, Bool.and_true, Bool.true_and, if_true, if_false, reduceCtorEq]
        rw [eX12_walk_16, qb_t, if_neg h10, eX12_walk_21, q_up_va]
        refine Eq.trans hq ?_
        rw [hend, eX12_walk_23, if_pos rfl, eX12_walk_70, va_miss (by decide), va_hit, va_hit]
      · rw [va_miss (by decide), va_miss (by decide)]; exact hK1
      · rw [va_miss (by decide), va_hit, va_hit]
      · intro k hk
        rw [va_hit, fa_fill_in hk, va_miss (by decide), va_miss (by decide), hK 63 (by decide), l1 k hk]
      · intro p k h1 h2 h3 h4 h5
        rw [va_miss h3]
        by_cases hp : p = 64
        · rw [hp, va_hit, va_miss (fun c => h5 ⟨hp, c⟩), hK 64 (by decide), ip 64 (by decide) (by decide) (by decide)]
        · rw [va_miss hp]
          by_cases hq : p = 1
          · have hk : k ≠ 12 := fun c => h4 ⟨hq, c⟩
            rw [hq, hK2 k hk, i1 k hk]
          · rw [hK p hq, ip p hq h1 h2]
end WL
