/-! ===== notes: untell; where a receiver stands ===== -/
def q_Nt (I : Nat → Nat → Int32) (N RM : Nat) (rc : Nat → Nat) : Prop := ∃ c : Nat, c ≤ 30 ∧ I 56 6 = nI c ∧ I 64 79 = nI c ∧ ∀ j, j < c → (∃ k s : Nat, k < 3 ∧ s < qSt k N ∧ I 57 j = nI k ∧ I 105 j = nI k ∧ I 58 j = nI s ∧ I 106 j = nI s) ∧ (∃ r : Nat, r < RM ∧ I 59 j = nI (rc r) ∧ I 107 j = nI r) ∧ (I 60 j = I 110 j ∧ ∃ b : Bool, I 110 j = qb b) ∧ I 61 j = I 108 j ∧ I 62 j = I 109 j ∧ (I 109 j = -1 ∨ ∃ t : Nat, t ≤ 100000 ∧ I 109 j = nI t)
section NT
variable {I : Nat → Nat → Int32} {J : Nat → Nat → Int64} {e : QP} {rb tx L : Nat} {D N : Nat} {cl : Nat → Nat} {RM : Nat} {rc : Nat → Nat}
theorem q_Core.rcof (h : q_Core I D N cl RM rc) {x : Nat} (hx : x < 24) (hb : bt (I 3 11) x = true) : ∃ r, r < RM ∧ rc r = x := by
  obtain ⟨-, -, h3, h4⟩ := h.br
  have h1 : fb_ct (bt (I 3 11)) (x + 1) ≤ fb_ct (bt (I 3 11)) 24 := fb_ct_mono _ (by omega)
  rw [fb_ct_succ, hb, if_pos rfl, h4] at h1
  refine ⟨fb_ct (bt (I 3 11)) x, by omega, ?_⟩
  obtain ⟨-, -, g3, g4⟩ := h3 (fb_ct (bt (I 3 11)) x) (by omega)
  exact fb_ct_kth_one g3 hb g4
theorem q_Core.rcinj (h : q_Core I D N cl RM rc) {r s : Nat} (hr : r < RM) (hs : s < RM) (he : rc r = rc s) : r = s := by
  obtain ⟨-, -, h3, -⟩ := h.br
  have a := (h3 r hr).2.2.2
  have b := (h3 s hs).2.2.2
  rw [he] at a
  omega
theorem fX12_placeOf (h : q_Core I D N cl RM rc) {x : Nat} (hx : x < 24) (f : Int32) (hf : (∃ r, r < RM ∧ rc r = x ∧ f = nI r) ∨ ((∀ r, r < RM → rc r ≠ x) ∧ f = -1)) : mX12_placeOf [.ref 64, .int (nI x)] (qm I J e) = some (some (.int f), qm I J e) := by
  obtain ⟨h1, h2, h3, -⟩ := h.br
  have hst : ∀ r, r < RM → kX12_placeOf 4 [some (.ref 64), some (.int (nI x)), some (.int (if ∃ s, s < r ∧ rc s = x then f else -1)), some (.int (nI r))] [] (qm I J e) = kX12_placeOf 4 [some (.ref 64), some (.int (nI x)), some (.int (if ∃ s, s < r + 1 ∧ rc s = x then f else -1)), some (.int (nI (r + 1)))] [] (qm I J e) := by
    intro r hr
    obtain ⟨g1, g2, -, -⟩ := h3 r hr
    rw [eX12_placeOf_4, h1, if_pos (nI_lt hr (by omega)), eX12_placeOf_12, q_in_nI (show r < 24 by omega) (by omega), nI_clamp (by omega), g1]
    simp only [Option.bind_some, Option.toList_some, Option.toList_none, List.nil_append, List.cons_append, q_ck_tt, Bool.and_true, Bool.true_and, if_true, if_false, reduceCtorEq]
    by_cases hc : rc r = x
    · have hfr : f = nI r := by
        rcases hf with ⟨s, s1, s2, s3⟩ | ⟨s1, -⟩
        · rw [s3, h.rcinj s1 hr (by rw [s2, hc])]
        · exact absurd hc (s1 r hr)
      rw [if_pos (show nI (rc r) = nI x by rw [hc]), eX12_placeOf_22, eX12_placeOf_27, nI_1, if_pos ⟨r, by omega, hc⟩, hfr]
    · have hiff : (∃ s, s < r + 1 ∧ rc s = x) ↔ (∃ s, s < r ∧ rc s = x) := by
        refine ⟨fun ⟨s, s1, s2⟩ => ⟨s, ?_, s2⟩, fun ⟨s, s1, s2⟩ => ⟨s, by omega, s2⟩⟩
        have : s ≠ r := fun c => hc (by rw [← c]; exact s2)
        omega
      rw [if_neg (fun c => hc (nI_inj (by omega) (by omega) c)), eX12_placeOf_26, eX12_placeOf_27, nI_1]
      simp only [hiff]
  have hq := q_for (fun r (y : Int32) => kX12_placeOf 4 [some (.ref 64), some (.int (nI x)), some (.int y), some (.int (nI r))] [] (qm I J e)) RM (fun r => if ∃ s, s < r ∧ rc s = x then f else -1) hst
  have h0 : (if ∃ s, s < 0 ∧ rc s = x then f else -1) = -1 := if_neg (fun ⟨s, s1, _⟩ => absurd s1 (by omega))
  rw [bX12_placeOf, eX12_placeOf_0]
  rw [h0] at hq
  refine Eq.trans hq ?_
  show kX12_placeOf 4 _ _ _ = _
  rw [eX12_placeOf_4, h1, if_neg (nI_nlt (Nat.le_refl _) (by omega)), eX12_placeOf_34]
  rcases hf with ⟨s, s1, s2, s3⟩ | ⟨s1, s2⟩
  · rw [if_pos ⟨s, s1, s2⟩]
  · rw [if_neg (fun ⟨s, a, b⟩ => s1 s a b), s2]
theorem o_untell (h : q_Nt I N RM rc) (ht : q_Tm I) (a : Int32) : ∃ (r : Int32) (I1 I2 : Nat → Nat → Int32), mX11_untell [.ref 1, .int a] (qm I J (3, 17, rb, tx, L)) = some (some (.int r), qm I1 J (3, 17, rb, tx, L)) ∧ mX12_untell [.ref 64, .int a] (qm I1 J (3, 17, rb, tx, L)) = some (some (.int r), qm I2 J (3, 17, rb, tx, L)) ∧ q_Nt I2 N RM rc ∧ (∀ p, p ≠ 62 → I1 p = I p) ∧ ∀ p, p ≠ 62 → p ≠ 109 → I2 p = I p := by
  have h' := h
  have h10 : ¬ ((1 : Int32) = 0) := by decide
  obtain ⟨c, hc, h1, h2, h3⟩ := h
  obtain ⟨t, t1, t2, t3⟩ := ht
  cases hq : q_in a c with
  | false =>
    have hq2 := hq
    rw [q_inP a (show c < 2 ^ 30 by omega)] at hq2
    refine ⟨0, I, I, ?_, ?_, h', fun _ _ => rfl, fun _ _ _ => rfl⟩
    · have hs : mX7_strike [.ref 56, .int a, .int (I 1 15)] (qm I J (3, 17, rb, tx, L)) = some (some (.int 0), qm I J (3, 17, rb, tx, L)) := by
        rw [bX7_strike, eX7_strike_0]
        by_cases c1 : a < 0
        · rw [if_pos c1, eX7_strike_22]
        · rw [if_neg c1, eX7_strike_4, h1, if_neg (fun c => by rw [decide_eq_false c1, decide_eq_true c] at hq2; cases hq2), eX7_strike_22]
      rw [bX11_untell, eX11_untell_0, hs]
      simp only [Option.bind_some, Option.toList_some, Option.toList_none, List.nil_append, List.cons_append, q_ck_tt, Bool.and_true, Bool.true_and, if_true, if_false, reduceCtorEq]
      rw [eX11_untell_12]
      rfl
    · rw [bX12_untell, eX12_untell_0, h2, fX12_isIn0 I J _ a (show c < 2 ^ 30 by omega), hq]
      simp only [Option.bind_some, Option.toList_some, Option.toList_none, List.nil_append, List.cons_append, q_ck_tt, Bool.and_true, Bool.true_and, if_true, if_false, reduceCtorEq]
      rw [eX12_untell_11, if_pos qb_f, eX12_untell_23]
  | true =>
    obtain ⟨n, hn, rfl, hn31⟩ := q_in_of hq
    obtain ⟨g1, g2, g3, g4, g5, g6⟩ := h3 n hn
    have h30 : q_in (nI n) 30 = true := q_in_nI (by omega) (by omega)
    by_cases hu : I 109 n = -1
    · refine ⟨1, va_up I 62 (va_up (I 62) n (nI t)), va_up (va_up I 62 (va_up (I 62) n (nI t))) 109 (va_up (I 109) n (nI t)), ?_, ?_, ⟨c, hc, h1, h2, fun j hj => ?_⟩, fun p hp => va_miss hp, fun p hp hp2 => by rw [va_miss hp2, va_miss hp]⟩
      · have hs : mX7_strike [.ref 56, .int (nI n), .int (I 1 15)] (qm I J (3, 17, rb, tx, L)) = some (some (.int 1), qm (va_up I 62 (va_up (I 62) n (nI t))) J (3, 17, rb, tx, L)) := by
          rw [bX7_strike, eX7_strike_0, if_neg (nI_pos hn31), eX7_strike_4, h1, if_pos (nI_lt hn (by omega)), eX7_strike_12, h30, nI_clamp hn31, g5, hu, if_pos rfl, eX7_strike_24, h30, nI_clamp hn31, t2]
          rfl
        rw [bX11_untell, eX11_untell_0, hs]
        simp only [Option.bind_some, Option.toList_some, Option.toList_none, List.nil_append, List.cons_append, q_ck_tt, Bool.and_true, Bool.true_and, if_true, if_false, reduceCtorEq]
        rw [eX11_untell_12]
        rfl
      · have e79 : (va_up I 62 (va_up (I 62) n (nI t))) 64 79 = nI c := h2
        have e80 : (va_up I 62 (va_up (I 62) n (nI t))) 64 80 = nI t := t3
        have e109 : (va_up I 62 (va_up (I 62) n (nI t))) 109 = I 109 := rfl
        rw [bX12_untell, eX12_untell_0, e79, fX12_isIn0 _ J _ (nI n) (show c < 2 ^ 30 by omega), hq]
        simp only [Option.bind_some, Option.toList_some, Option.toList_none, List.nil_append, List.cons_append, q_ck_tt, Bool.and_true, Bool.true_and, if_true, if_false, reduceCtorEq]
        rw [eX12_untell_11, qb_t, if_neg h10, eX12_untell_14, h30, nI_clamp hn31, e109, hu, if_pos (by decide), eX12_untell_25, h30, nI_clamp hn31, e80, q_up_va, e109]
        rfl
      · obtain ⟨k1, k2, k3, k4, k5, k6⟩ := h3 j hj
        refine ⟨k1, k2, k3, k4, ?_, ?_⟩
        · show va_up (I 62) n (nI t) j = va_up (I 109) n (nI t) j
          by_cases hjn : j = n
          · rw [hjn, va_hit, va_hit]
          · rw [va_miss hjn, va_miss hjn]; exact k5
        · show va_up (I 109) n (nI t) j = -1 ∨ ∃ t' : Nat, t' ≤ 100000 ∧ va_up (I 109) n (nI t) j = nI t'
          by_cases hjn : j = n
          · rw [hjn, va_hit]; exact Or.inr ⟨t, t1, rfl⟩
          · rw [va_miss hjn]; exact k6
    · have hpos : ¬ I 109 n < 0 := by
        rcases g6 with g | ⟨t', t1', g⟩
        · exact absurd g hu
        · rw [g]; exact nI_pos (by omega)
      refine ⟨0, I, I, ?_, ?_, h', fun _ _ => rfl, fun _ _ _ => rfl⟩
      · have hs : mX7_strike [.ref 56, .int (nI n), .int (I 1 15)] (qm I J (3, 17, rb, tx, L)) = some (some (.int 0), qm I J (3, 17, rb, tx, L)) := by
          rw [bX7_strike, eX7_strike_0, if_neg (nI_pos hn31), eX7_strike_4, h1, if_pos (nI_lt hn (by omega)), eX7_strike_12, h30, nI_clamp hn31, g5, if_neg hu, eX7_strike_22]
          rfl
        rw [bX11_untell, eX11_untell_0, hs]
        simp only [Option.bind_some, Option.toList_some, Option.toList_none, List.nil_append, List.cons_append, q_ck_tt, Bool.and_true, Bool.true_and, if_true, if_false, reduceCtorEq]
        rw [eX11_untell_12]
        rfl
      · rw [bX12_untell, eX12_untell_0, h2, fX12_isIn0 I J _ (nI n) (show c < 2 ^ 30 by omega), hq]
        simp only [Option.bind_some, Option.toList_some, Option.toList_none, List.nil_append, List.cons_append, q_ck_tt, Bool.and_true, Bool.true_and, if_true, if_false, reduceCtorEq]
        rw [eX12_untell_11, qb_t, if_neg h10, eX12_untell_14, h30, nI_clamp hn31, if_neg hpos, eX12_untell_23]
        rfl
end NT
