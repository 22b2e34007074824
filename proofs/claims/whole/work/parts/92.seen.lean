/-! ===== seen ===== -/
section SN
variable {I : Nat → Nat → Int32} {J : Nat → Nat → Int64} {e : QP} {rb tx L : Nat} {D N : Nat} {cl : Nat → Nat} {RM : Nat} {rc : Nat → Nat}
theorem fX7_write {c : Nat} (hc : c < 30) (h1 : I 56 6 = nI c) (k s x t : Int32) (b : Bool) : mX7_write [.ref 56, .int k, .int s, .int x, .int (qb b), .int t] (qm I J e) = some (some (.int (nI c)), qm (q_up (q_up (q_up (q_up (q_up (q_up (q_up I 57 c k) 58 c s) 59 c x) 60 c (qb b)) 61 c t) 62 c (-1)) 56 6 (nI (c + 1))) J e) := by
  have h30 : q_in (nI c) 30 = true := q_in_nI hc (by omega)
  have hcl := nI_clamp (show c < 2 ^ 31 by omega)
  have e1 : (q_up (q_up I 57 c k) 58 c s) 56 6 = nI c := h1
  have e2 : (q_up (q_up (q_up I 57 c k) 58 c s) 59 c x) 56 6 = nI c := h1
  have e3 : (q_up (q_up (q_up (q_up (q_up (q_up I 57 c k) 58 c s) 59 c x) 60 c (qb b)) 61 c t) 62 c (-1)) 56 6 = nI c := h1
  have k1 : nI c + 1 - 1 = nI c := by rw [nI_1, nI_1s (by omega), Nat.add_sub_cancel]
  rw [bX7_write, eX7_write_0, h1, if_pos (show nI c < (30 : Int32) from nI_lt (b := 30) hc (by decide)), eX7_write_11, h1, h30, hcl]
  simp only [Option.bind_some, Option.toList_some, Option.toList_none, List.nil_append, List.cons_append, q_ck_tt, Bool.and_true, Bool.true_and, if_true, if_false, reduceCtorEq]
  rw [eX7_write_35, e1, h30, hcl]
  simp only [Option.bind_some, Option.toList_some, Option.toList_none, List.nil_append, List.cons_append, q_ck_tt, Bool.and_true, Bool.true_and, if_true, if_false, reduceCtorEq]
  cases b with
  | false =>
    rw [if_pos qb_f, eX7_write_58, eX7_write_59, e2, h30, hcl]
    simp only [Option.bind_some, Option.toList_some, Option.toList_none, List.nil_append, List.cons_append, q_ck_tt, Bool.and_true, Bool.true_and, if_true, if_false, reduceCtorEq]
    have e3' : (q_up (q_up (q_up (q_up (q_up (q_up I 57 c k) 58 c s) 59 c x) 60 c 0) 61 c t) 62 c (-1)) 56 6 = nI c := h1
    rw [eX7_write_82, e3', k1, nI_1]
    rfl
  | true =>
    rw [if_neg (show ¬ qb true = 0 by decide), eX7_write_54, eX7_write_59, e2, h30, hcl]
    simp only [Option.bind_some, Option.toList_some, Option.toList_none, List.nil_append, List.cons_append, q_ck_tt, Bool.and_true, Bool.true_and, if_true, if_false, reduceCtorEq]
    have e3' : (q_up (q_up (q_up (q_up (q_up (q_up I 57 c k) 58 c s) 59 c x) 60 c 1) 61 c t) 62 c (-1)) 56 6 = nI c := h1
    rw [eX7_write_82, e3', k1, nI_1]
    rfl
theorem fX7_write_n (h1 : I 56 6 = nI 30) (k s x t b : Int32) : mX7_write [.ref 56, .int k, .int s, .int x, .int b, .int t] (qm I J e) = some (some (.int (-1)), qm I J e) := by
  rw [bX7_write, eX7_write_0, h1, if_neg (show ¬ nI 30 < (30 : Int32) by decide), eX7_write_9]
theorem q_rc_n (h : q_Core I D N cl RM rc) {x : Nat} (hb : bt (I 3 11) x = false) : ∀ r, r < RM → rc r ≠ x := by
  intro r hr c
  obtain ⟨-, -, h3, -⟩ := h.br
  have := (h3 r hr).2.2.1
  rw [c, hb] at this
  cases this
theorem o_seen (h : q_Core I D N cl RM rc) (hn : q_Nt I N RM rc) (ht : q_Tm I) (a1 a2 a3 a4 : Int32) (b : Bool) : ∃ (r : Int32) (I1 I2 : Nat → Nat → Int32), mX11_seen [.ref 1, .int a1, .int a2, .int a3, .int a4, .int (qb b)] (qm I J (3, 17, rb, tx, L)) = some (some (.int r), qm I1 J (3, 17, rb, tx, L)) ∧ mX12_seen [.ref 64, .int a1, .int a2, .int a3, .int a4, .int (qb b)] (qm I1 J (3, 17, rb, tx, L)) = some (some (.int r), qm I2 J (3, 17, rb, tx, L)) ∧ q_Nt I2 N RM rc ∧ (∀ p, p < 56 ∨ 62 < p → I1 p = I p) ∧ (∀ p k, p < 56 ∨ 62 < p → p < 105 ∨ 110 < p → ¬ (p = 64 ∧ k = 79) → I2 p k = I p k) := by
  have hD := h.d4
  have hN := h.n6
  have hn' := hn
  have h10 : ¬ ((1 : Int32) = 0) := by decide
  obtain ⟨c, hc, h1, h2, h3⟩ := hn
  obtain ⟨t, t1, t2, t3⟩ := ht
  have hno : ∀ (f : mX11_seen [.ref 1, .int a1, .int a2, .int a3, .int a4, .int (qb b)] (qm I J (3, 17, rb, tx, L)) = some (some (.int (-1)), qm I J (3, 17, rb, tx, L))) (g : mX12_seen [.ref 64, .int a1, .int a2, .int a3, .int a4, .int (qb b)] (qm I J (3, 17, rb, tx, L)) = some (some (.int (-1)), qm I J (3, 17, rb, tx, L))), ∃ (r : Int32) (I1 I2 : Nat → Nat → Int32), mX11_seen [.ref 1, .int a1, .int a2, .int a3, .int a4, .int (qb b)] (qm I J (3, 17, rb, tx, L)) = some (some (.int r), qm I1 J (3, 17, rb, tx, L)) ∧ mX12_seen [.ref 64, .int a1, .int a2, .int a3, .int a4, .int (qb b)] (qm I1 J (3, 17, rb, tx, L)) = some (some (.int r), qm I2 J (3, 17, rb, tx, L)) ∧ q_Nt I2 N RM rc ∧ (∀ p, p < 56 ∨ 62 < p → I1 p = I p) ∧ (∀ p k, p < 56 ∨ 62 < p → p < 105 ∨ 110 < p → ¬ (p = 64 ∧ k = 79) → I2 p k = I p k) := fun f g => ⟨-1, I, I, f, g, hn', fun _ _ => rfl, fun _ _ _ _ _ => rfl⟩
  cases hq1 : q_in a1 3 with
  | false =>
    refine hno ?_ ?_
    · rw [bX11_seen, eX11_seen_0, fX11_isKind, hq1]
      simp only [Option.bind_some, Option.toList_some, Option.toList_none, List.nil_append, List.cons_append, q_ck_tt, Bool.and_true, Bool.true_and, if_true, if_false, reduceCtorEq]
      rw [eX11_seen_4, if_pos qb_f, eX11_seen_36]
    · rw [bX12_seen, eX12_seen_0, fX12_isKind, hq1]
      simp only [Option.bind_some, Option.toList_some, Option.toList_none, List.nil_append, List.cons_append, q_ck_tt, Bool.and_true, Bool.true_and, if_true, if_false, reduceCtorEq]
      rw [eX12_seen_4, if_pos qb_f, eX12_seen_55]
  | true =>
    obtain ⟨k, hk, rfl, -⟩ := q_in_of hq1
    have h6 := qSt_6 (k := k) hN
    have cK : kX11_seen 0 [some (.ref 1), some (.int (nI k)), some (.int a2), some (.int a3), some (.int a4), some (.int (qb b))] [] (qm I J (3, 17, rb, tx, L)) = kX11_seen 7 [some (.ref 1), some (.int (nI k)), some (.int a2), some (.int a3), some (.int a4), some (.int (qb b))] [] (qm I J (3, 17, rb, tx, L)) := by
      rw [eX11_seen_0, fX11_isKind, hq1]
      simp only [Option.bind_some, Option.toList_some, Option.toList_none, List.nil_append, List.cons_append, q_ck_tt, Bool.and_true, Bool.true_and, if_true, if_false, reduceCtorEq]
      rw [eX11_seen_4, qb_t, if_neg h10]
    have rK : ∀ M : Nat → Nat → Int32, M 64 51 = nI N → kX12_seen 0 [some (.ref 64), some (.int (nI k)), some (.int a2), some (.int a3), some (.int a4), some (.int (qb b))] [] (qm M J (3, 17, rb, tx, L)) = kX12_seen 19 [some (.ref 64), some (.int (nI k)), some (.int a2), some (.int a3), some (.int a4), some (.int (qb b))] [.int (qb (q_in a2 (qSt k N)))] (qm M J (3, 17, rb, tx, L)) := by
      intro M hM
      rw [eX12_seen_0, fX12_isKind, hq1]
      simp only [Option.bind_some, Option.toList_some, Option.toList_none, List.nil_append, List.cons_append, q_ck_tt, Bool.and_true, Bool.true_and, if_true, if_false, reduceCtorEq]
      rw [eX12_seen_4, qb_t, if_neg h10, eX12_seen_7, fX12_stepsOf M J _ hN hM hk]
      simp only [Option.bind_some, Option.toList_some, Option.toList_none, List.nil_append, List.cons_append, q_ck_tt, Bool.and_true, Bool.true_and, if_true, if_false, reduceCtorEq]
      rw [eX12_seen_14, fX12_isIn0 M J _ a2 (show qSt k N < 2 ^ 30 by omega)]
      simp only [Option.bind_some, Option.toList_some, Option.toList_none, List.nil_append, List.cons_append, q_ck_tt, Bool.and_true, Bool.true_and, if_true, if_false, reduceCtorEq]
    cases hq2 : q_in a2 (qSt k N) with
    | false =>
      have hq2' := hq2
      rw [q_inP a2 (show qSt k N < 2 ^ 30 by omega)] at hq2'
      refine hno ?_ ?_
      · rw [bX11_seen, cK, eX11_seen_7]
        by_cases c1 : a2 < 0
        · rw [if_pos c1, eX11_seen_36]
        · rw [if_neg c1, eX11_seen_11, fX2_stepCount I J _ h.st hN h.i35 hk]
          simp only [Option.bind_some, Option.toList_some, Option.toList_none, List.nil_append, List.cons_append, q_ck_tt, Bool.and_true, Bool.true_and, if_true, if_false, reduceCtorEq]
          rw [eX11_seen_20, if_neg (fun c => by rw [decide_eq_false c1, decide_eq_true c] at hq2'; cases hq2'), eX11_seen_36]
      · rw [bX12_seen, rK I h.m51, hq2, eX12_seen_19, if_pos qb_f, eX12_seen_55]
    | true =>
      obtain ⟨s, hs, rfl, hs31⟩ := q_in_of hq2
      have cS : kX11_seen 0 [some (.ref 1), some (.int (nI k)), some (.int (nI s)), some (.int a3), some (.int a4), some (.int (qb b))] [] (qm I J (3, 17, rb, tx, L)) = kX11_seen 23 [some (.ref 1), some (.int (nI k)), some (.int (nI s)), some (.int a3), some (.int a4), some (.int (qb b))] [] (qm I J (3, 17, rb, tx, L)) := by
        rw [cK, eX11_seen_7, if_neg (nI_pos hs31), eX11_seen_11, fX2_stepCount I J _ h.st hN h.i35 hk]
        simp only [Option.bind_some, Option.toList_some, Option.toList_none, List.nil_append, List.cons_append, q_ck_tt, Bool.and_true, Bool.true_and, if_true, if_false, reduceCtorEq]
        rw [eX11_seen_20, if_pos (nI_lt hs (by omega))]
      cases hq3 : q_in a3 D with
      | false =>
        refine hno ?_ ?_
        · rw [bX11_seen, cS, eX11_seen_23, fX0_hasReceiver_n I J _ hD h.i30 hq3]
          simp only [Option.bind_some, Option.toList_some, Option.toList_none, List.nil_append, List.cons_append, q_ck_tt, Bool.and_true, Bool.true_and, if_true, if_false, reduceCtorEq]
          rw [eX11_seen_33, if_pos rfl, eX11_seen_36]
        · rw [bX12_seen, rK I h.m51, hq2, eX12_seen_19, qb_t, if_neg h10, eX12_seen_22, fX12_isCell_n I J _ hD h.m50 hq3]
          simp only [Option.bind_some, Option.toList_some, Option.toList_none, List.nil_append, List.cons_append, q_ck_tt, Bool.and_true, Bool.true_and, if_true, if_false, reduceCtorEq]
          rw [eX12_seen_29, if_pos rfl, eX12_seen_55]
      | true =>
        obtain ⟨d, hd, rfl, -⟩ := q_in_of hq3
        obtain ⟨-, -, e3, e4, e5, -, -⟩ := h.bn.2.2 d hd
        cases hq4 : q_in a4 (cl d) with
        | false =>
          refine hno ?_ ?_
          · rw [bX11_seen, cS, eX11_seen_23, fX0_hasReceiver_y I J _ hD h.i30 hd e3 e5, hq4, Bool.false_and]
            simp only [Option.bind_some, Option.toList_some, Option.toList_none, List.nil_append, List.cons_append, q_ck_tt, Bool.and_true, Bool.true_and, if_true, if_false, reduceCtorEq]
            rw [eX11_seen_33, if_pos qb_f, eX11_seen_36]
          · rw [bX12_seen, rK I h.m51, hq2, eX12_seen_19, qb_t, if_neg h10, eX12_seen_22, fX12_isCell_y I J _ hD h.m50 hd e4 e5, hq4]
            simp only [Option.bind_some, Option.toList_some, Option.toList_none, List.nil_append, List.cons_append, q_ck_tt, Bool.and_true, Bool.true_and, if_true, if_false, reduceCtorEq]
            rw [eX12_seen_29, if_pos qb_f, eX12_seen_55]
        | true =>
          obtain ⟨j, hj, rfl, hj31⟩ := q_in_of hq4
          have hx : 6 * d + j < 24 := by omega
          have hm : (6 : Int32) * nI d + nI j = nI (6 * d + j) := by rw [show (6 : Int32) = nI 6 from rfl, pk_mul, nI_add]
          have cR : kX11_seen 0 [some (.ref 1), some (.int (nI k)), some (.int (nI s)), some (.int (nI d)), some (.int (nI j)), some (.int (qb b))] [] (qm I J (3, 17, rb, tx, L)) = kX11_seen 33 [some (.ref 1), some (.int (nI k)), some (.int (nI s)), some (.int (nI d)), some (.int (nI j)), some (.int (qb b))] [.int (qb (bt (I 3 11) (6 * d + j)))] (qm I J (3, 17, rb, tx, L)) := by
            rw [cS, eX11_seen_23, fX0_hasReceiver_y I J _ hD h.i30 hd e3 e5, hq4, nI_clamp hj31, Bool.true_and]
            simp only [Option.bind_some, Option.toList_some, Option.toList_none, List.nil_append, List.cons_append, q_ck_tt, Bool.and_true, Bool.true_and, if_true, if_false, reduceCtorEq]
          have rR : ∀ M : Nat → Nat → Int32, M 64 51 = nI N → M 64 50 = nI D → M 85 d = nI (cl d) → kX12_seen 0 [some (.ref 64), some (.int (nI k)), some (.int (nI s)), some (.int (nI d)), some (.int (nI j)), some (.int (qb b))] [] (qm M J (3, 17, rb, tx, L)) = kX12_seen 32 [some (.ref 64), some (.int (nI k)), some (.int (nI s)), some (.int (nI d)), some (.int (nI j)), some (.int (qb b))] [] (qm M J (3, 17, rb, tx, L)) := by
            intro M m1 m2 m3
            rw [rK M m1, hq2, eX12_seen_19, qb_t, if_neg h10, eX12_seen_22, fX12_isCell_y M J _ hD m2 hd m3 e5, hq4]
            simp only [Option.bind_some, Option.toList_some, Option.toList_none, List.nil_append, List.cons_append, q_ck_tt, Bool.and_true, Bool.true_and, if_true, if_false, reduceCtorEq]
            rw [eX12_seen_29, qb_t, if_neg h10]
          cases hb : bt (I 3 11) (6 * d + j) with
          | false =>
            refine hno ?_ ?_
            · rw [bX11_seen, cR, hb, eX11_seen_33, if_pos qb_f, eX11_seen_36]
            · rw [bX12_seen, rR I h.m51 h.m50 e4, eX12_seen_32, hm, fX12_placeOf h hx (-1) (Or.inr ⟨q_rc_n h hb, rfl⟩)]
              simp only [Option.bind_some, Option.toList_some, Option.toList_none, List.nil_append, List.cons_append, q_ck_tt, Bool.and_true, Bool.true_and, if_true, if_false, reduceCtorEq]
              rw [eX12_seen_43, if_pos (by decide), eX12_seen_55]
          | true =>
            obtain ⟨r, hr, hrx⟩ := h.rcof hx hb
            have hRM : RM ≤ 18 := h.br.2.1
            have hrn : ¬ nI r < 0 := nI_pos (by omega)
            by_cases hfull : c = 30
            · subst hfull
              refine hno ?_ ?_
              · rw [bX11_seen, cR, hb, eX11_seen_33, qb_t, if_neg h10, eX11_seen_38, fX11_placeOf]
                simp only [Option.bind_some, Option.toList_some, Option.toList_none, List.nil_append, List.cons_append, q_ck_tt, Bool.and_true, Bool.true_and, if_true, if_false, reduceCtorEq]
                rw [eX11_seen_50, fX7_write_n h1]
                simp only [Option.bind_some, Option.toList_some, Option.toList_none, List.nil_append, List.cons_append, q_ck_tt, Bool.and_true, Bool.true_and, if_true, if_false, reduceCtorEq]
                rw [eX11_seen_59]
              · rw [bX12_seen, rR I h.m51 h.m50 e4, eX12_seen_32, hm, fX12_placeOf h hx (nI r) (Or.inl ⟨r, hr, hrx, rfl⟩)]
                simp only [Option.bind_some, Option.toList_some, Option.toList_none, List.nil_append, List.cons_append, q_ck_tt, Bool.and_true, Bool.true_and, if_true, if_false, reduceCtorEq]
                rw [eX12_seen_43, if_neg hrn, eX12_seen_46, h2, if_pos (show nI 30 = (30 : Int32) from rfl), eX12_seen_55]
            · have hc30 : c < 30 := by omega
              have h30 : q_in (nI c) 30 = true := q_in_nI hc30 (by omega)
              have hcl := nI_clamp (show c < 2 ^ 31 by omega)
              have hw := fX7_write (I := I) (J := J) (e := (3, 17, rb, tx, L)) hc30 h1 (nI k) (nI s) (nI (6 * d + j)) (I 1 15) b
              generalize hI1 : q_up (q_up (q_up (q_up (q_up (q_up (q_up I 57 c (nI k)) 58 c (nI s)) 59 c (nI (6 * d + j))) 60 c (qb b)) 61 c (I 1 15)) 62 c (-1)) 56 6 (nI (c + 1)) = I1 at hw
              have f1 : ∀ p, p < 56 ∨ 62 < p → I1 p = I p := by
                intro p hp
                rw [← hI1]
                simp only [q_up_va]
                rw [va_miss (by omega), va_miss (by omega), va_miss (by omega), va_miss (by omega), va_miss (by omega), va_miss (by omega), va_miss (by omega)]
              have hC1 : q_Core I1 D N cl RM rc := q_Core_rows h (fun p hp => f1 p (by
                have : ∀ q, q ∈ q_crl → q < 56 ∨ 62 < q := by decide
                exact this p hp))
              have i79 : I1 64 79 = nI c := by rw [f1 64 (by omega)]; exact h2
              have i80 : I1 64 80 = nI t := by rw [f1 64 (by omega)]; exact t3
              have hk1 : nI c + 1 - 1 = nI c := by rw [nI_1, nI_1s (by omega), Nat.add_sub_cancel]
              have hM1 : q_Core (q_up (q_up I1 105 c (nI k)) 106 c (nI s)) D N cl RM rc := q_Core_rows hC1 (fun p hp => by
                have h5 : ∀ q, q ∈ q_crl → q ≠ 105 ∧ q ≠ 106 := by decide
                rw [q_up_va, q_up_va, va_miss (h5 p hp).2, va_miss (h5 p hp).1])
              generalize hI2 : q_up (q_up (q_up (q_up (q_up (q_up (q_up I1 105 c (nI k)) 106 c (nI s)) 107 c (nI r)) 110 c (vp_nar .boolean (qb b))) 108 c (nI t)) 109 c (-1)) 64 79 (nI (c + 1)) = I2
              have f2 : ∀ p, p < 105 ∨ 110 < p → p ≠ 64 → I2 p = I1 p := by
                intro p hp hp2
                rw [← hI2]
                simp only [q_up_va]
                rw [va_miss hp2, va_miss (by omega), va_miss (by omega), va_miss (by omega), va_miss (by omega), va_miss (by omega), va_miss (by omega)]
              refine ⟨nI c, I1, I2, ?_, ?_, ?_, f1, ?_⟩
              · rw [bX11_seen, cR, hb, eX11_seen_33, qb_t, if_neg h10, eX11_seen_38, fX11_placeOf]
                simp only [Option.bind_some, Option.toList_some, Option.toList_none, List.nil_append, List.cons_append, q_ck_tt, Bool.and_true, Bool.true_and, if_true, if_false, reduceCtorEq]
                rw [eX11_seen_50, hw]
                simp only [Option.bind_some, Option.toList_some, Option.toList_none, List.nil_append, List.cons_append, q_ck_tt, Bool.and_true, Bool.true_and, if_true, if_false, reduceCtorEq]
                rw [eX11_seen_59]
              · rw [bX12_seen, rR I1 hC1.m51 hC1.m50 (by rw [f1 85 (by omega)]; exact e4), eX12_seen_32, hm, fX12_placeOf hC1 hx (nI r) (Or.inl ⟨r, hr, hrx, rfl⟩)]
                simp only [Option.bind_some, Option.toList_some, Option.toList_none, List.nil_append, List.cons_append, q_ck_tt, Bool.and_true, Bool.true_and, if_true, if_false, reduceCtorEq]
                rw [eX12_seen_43, if_neg hrn, eX12_seen_46, i79, if_neg (show ¬ nI c = (30 : Int32) from fun q => hfull (nI_inj (by omega) (by omega) q)), eX12_seen_57, i79, h30, hcl]
                simp only [Option.bind_some, Option.toList_some, Option.toList_none, List.nil_append, List.cons_append, q_ck_tt, Bool.and_true, Bool.true_and, if_true, if_false, reduceCtorEq]
                have a1 : (q_up (q_up I1 105 c (nI k)) 106 c (nI s)) 64 79 = nI c := i79
                have a2 : (q_up (q_up I1 105 c (nI k)) 106 c (nI s)) 64 80 = nI t := i80
                rw [eX12_seen_81, hm, fX12_placeOf hM1 hx (nI r) (Or.inl ⟨r, hr, hrx, rfl⟩)]
                simp only [Option.bind_some, Option.toList_some, Option.toList_none, List.nil_append, List.cons_append, q_ck_tt, Bool.and_true, Bool.true_and, if_true, if_false, reduceCtorEq]
                rw [a1, eX12_seen_96, a1, a2, h30, hcl]
                simp only [Option.bind_some, Option.toList_some, Option.toList_none, List.nil_append, List.cons_append, q_ck_tt, Bool.and_true, Bool.true_and, if_true, if_false, reduceCtorEq]
                have a3 : (q_up (q_up (q_up (q_up (q_up I1 105 c (nI k)) 106 c (nI s)) 107 c (nI r)) 110 c (vp_nar .boolean (qb b))) 108 c (nI t)) 64 79 = nI c := i79
                rw [eX12_seen_121, a3, h30, hcl, nI_1]
                simp only [Option.bind_some, Option.toList_some, Option.toList_none, List.nil_append, List.cons_append, q_ck_tt, Bool.and_true, Bool.true_and, if_true, if_false, reduceCtorEq]
                rw [hI2, eX12_seen_145, nI_1s (by omega), Nat.add_sub_cancel]
              · have hvb : vp_nar .boolean (qb b) = qb b := by cases b <;> rfl
                rw [hvb] at hI2
                have r57 : ∀ i, I2 57 i = if i = c then nI k else I 57 i := fun i => by rw [f2 57 (by omega) (by decide), ← hI1]; rfl
                have r58 : ∀ i, I2 58 i = if i = c then nI s else I 58 i := fun i => by rw [f2 58 (by omega) (by decide), ← hI1]; rfl
                have r59 : ∀ i, I2 59 i = if i = c then nI (6 * d + j) else I 59 i := fun i => by rw [f2 59 (by omega) (by decide), ← hI1]; rfl
                have r60 : ∀ i, I2 60 i = if i = c then qb b else I 60 i := fun i => by rw [f2 60 (by omega) (by decide), ← hI1]; rfl
                have r61 : ∀ i, I2 61 i = if i = c then I 1 15 else I 61 i := fun i => by rw [f2 61 (by omega) (by decide), ← hI1]; rfl
                have r62 : ∀ i, I2 62 i = if i = c then -1 else I 62 i := fun i => by rw [f2 62 (by omega) (by decide), ← hI1]; rfl
                have r105 : ∀ i, I2 105 i = if i = c then nI k else I 105 i := fun i => by rw [← f1 105 (by omega), ← hI2]; rfl
                have r106 : ∀ i, I2 106 i = if i = c then nI s else I 106 i := fun i => by rw [← f1 106 (by omega), ← hI2]; rfl
                have r107 : ∀ i, I2 107 i = if i = c then nI r else I 107 i := fun i => by rw [← f1 107 (by omega), ← hI2]; rfl
                have r110 : ∀ i, I2 110 i = if i = c then qb b else I 110 i := fun i => by rw [← f1 110 (by omega), ← hI2]; rfl
                have r108 : ∀ i, I2 108 i = if i = c then nI t else I 108 i := fun i => by rw [← f1 108 (by omega), ← hI2]; rfl
                have r109 : ∀ i, I2 109 i = if i = c then -1 else I 109 i := fun i => by rw [← f1 109 (by omega), ← hI2]; rfl
                refine ⟨c + 1, by omega, by rw [f2 56 (by omega) (by decide), ← hI1]; rfl, by rw [← hI2]; rfl, fun i hi => ?_⟩
                rw [r57, r58, r59, r60, r61, r62, r105, r106, r107, r110, r108, r109]
                by_cases hic : i = c
                · simp only [if_pos hic]
                  refine ⟨⟨k, s, hk, hs, rfl, rfl, rfl, rfl⟩, ⟨r, hr, by rw [hrx], rfl⟩, ⟨trivial, b, rfl⟩, t2, trivial, Or.inl trivial⟩
                · simp only [if_neg hic]
                  exact h3 i (by omega)
              · intro p q p1 p2 p3
                by_cases hp64 : p = 64
                · rw [hp64, ← hI2, q_up_at, if_pos rfl, if_neg (fun c => p3 ⟨hp64, c⟩), ← f1 64 (by omega)]
                  rfl
                · rw [f2 p p2 hp64, f1 p p1]
end SN
