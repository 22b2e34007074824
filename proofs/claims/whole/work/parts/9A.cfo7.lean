/-! ===== the formula: units ===== -/
/-- the reference's unit() behind its nots and brackets refuses -/
theorem q_un133_f {v : Nat → Nat} {n s : Nat} {C R R' : Nat → Nat → Int32} {J : Nat → Nat → Int64} (K : Nat → Nat → Int64) (e : QP) (a : Int32) (b2 : mX12_wrong [.ref 64, .int 2] (qm R K e) = some (none, qm R' K e)) (b3 : q_Fl C R') : kX12_unit 133 [some (.ref 64), none, some (.int a)] [] (qm R K e) = some (none, qm R' K e) := by
  rw [eX12_unit_133, b2]
  simp only [Option.bind_some, Option.toList_some, Option.toList_none, List.nil_append, List.cons_append, q_ck_tt, Bool.and_true, Bool.true_and, if_true, if_false, reduceCtorEq]
  rw [eX12_unit_138, if_pos b3.2.1, eX12_unit_145]
/-- a leaf: a number or what is asked for -/
theorem q_leaf {v : Nat → Nat} {n L : Nat} {C : Nat → Nat → Int32} {J : Nat → Nat → Int64} {R : Nat → Nat → Int32} {K : Nat → Nat → Int64} {s : Nat} {S : List Int32} {r u w dp : Nat} (e : QP) (h : q_Fs v n C J R K s S [] r u w dp) (hu : u < 30) (h0 : C 31 5 ≠ 0) (h1 : C 31 5 ≠ 1) {c a b : Int32} (ho : q_Op c a b) (ha : a = 0 ∨ a = 1) :
    ∃ (C1 : Nat → Nat → Int32) (C2 : Nat → Nat → Int32) (J2 : Nat → Nat → Int64) (R1 R2 : Nat → Nat → Int32) (R3 : Nat → Nat → Int32) (K3 : Nat → Nat → Int64) (s3 : Nat), mX4_put [.ref 28, .int c] (qm (q_up C 28 3 (nI (u + 1))) J (3, 17, 17, 2, L)) = some (none, qm C1 J (3, 17, 17, 2, L)) ∧ mX9_advance [.ref 31] (qm C1 J (3, 17, 17, 2, L)) = some (none, qm C2 J2 (3, 17, 17, 2, L)) ∧ mX12_countUnit [.ref 64] (qm R K e) = some (none, qm R1 K e) ∧ R1 64 8 = R 64 8 ∧ mX12_add [.ref 64, .int a, .int b] (qm R1 K e) = some (none, qm R2 K e) ∧ mX12_token [.ref 64] (qm R2 K e) = some (none, qm R3 K3 e) ∧ q_Gx C J R K C2 J2 R3 K3 ∧ s < s3 ∧ q_Fs v n C2 J2 R3 K3 s3 S [] (r + 1) (u + 1) w (dp + 1) := by
  obtain ⟨h1', ⟨h2, h3⟩, ⟨c1, c2, Sv, Av, c3, c4, c5, c6⟩, ⟨u1, u2, u3, u4⟩, h5, h6, h7⟩ := h
  rw [List.length_nil, Nat.add_zero] at c1 c5 c6 h7
  have k1 : mX4_put [.ref 28, .int c] (qm (q_up C 28 3 (nI (u + 1))) J (3, 17, 17, 2, L)) = some (none, qm (q_up (q_up (q_up C 28 3 (nI (u + 1))) 29 r c) 28 2 (nI (r + 1))) J (3, 17, 17, 2, L)) := fX4_put J _ (by rw [q_up_at2 _ _ (by decide)]; exact c1) (by omega) c
  have k2 := fX12_countUnit (R := R) K e u2 u3
  have k3 : mX12_add [.ref 64, .int a, .int b] (qm (q_up (q_up R 64 20 (nI (u + 1))) 64 22 (nI (u + 1))) K e) = _ := fX12_add K e (r := r) (by rw [q_up_at2 _ _ (by decide), q_up_at2 _ _ (by decide)]; exact c2) (by omega) a b
  generalize hC1 : q_up (q_up (q_up C 28 3 (nI (u + 1))) 29 r c) 28 2 (nI (r + 1)) = C1 at k1
  generalize hR1 : q_up (q_up R 64 20 (nI (u + 1))) 64 22 (nI (u + 1)) = R1 at k2 k3
  generalize hR2 : q_up (q_up (q_up R1 67 r a) 68 r b) 64 17 (nI (r + 1)) = R2 at k3
  have co : ∀ p, p ≠ 28 → p ≠ 29 → C1 p = C p := fun p x y => by rw [← hC1, q_up_at3 _ _ x, q_up_at3 _ _ y, q_up_at3 _ _ x]
  have c282 : C1 28 2 = nI (r + 1) := by rw [← hC1, q_up_at1]
  have c283 : C1 28 3 = nI (u + 1) := by rw [← hC1, q_up_at2 _ _ (by decide), q_up_at3 _ _ (by decide), q_up_at1]
  have c29 : C1 29 = va_up (C 29) r c := by rw [← hC1, q_up_at3 _ _ (by decide), q_up_va, va_hit, q_up_at3 _ _ (by decide)]
  have ro : ∀ p, p ≠ 64 → p ≠ 67 → p ≠ 68 → R2 p = R p := fun p x y z => by rw [← hR2, q_up_at3 _ _ x, q_up_at3 _ _ z, q_up_at3 _ _ y, ← hR1, q_up_at3 _ _ x, q_up_at3 _ _ x]
  have r1o : ∀ k, k ≠ 20 → k ≠ 22 → R1 64 k = R 64 k := fun k x y => by rw [← hR1, q_up_at2 _ _ y, q_up_at2 _ _ x]
  have r2o : ∀ k, k ≠ 17 → R2 64 k = R1 64 k := fun k x => by rw [← hR2, q_up_at2 _ _ x, q_up_at3 _ _ (by decide), q_up_at3 _ _ (by decide)]
  have r17 : R2 64 17 = nI (r + 1) := by rw [← hR2, q_up_at1]
  have r67 : R2 67 = va_up (R 67) r a := by rw [← hR2, q_up_at3 _ _ (by decide), q_up_at3 _ _ (by decide), q_up_va, va_hit, ← hR1, q_up_at3 _ _ (by decide), q_up_at3 _ _ (by decide)]
  have r68 : R2 68 = va_up (R 68) r b := by rw [← hR2, q_up_at3 _ _ (by decide), q_up_va, va_hit, q_up_at3 _ _ (by decide), ← hR1, q_up_at3 _ _ (by decide), q_up_at3 _ _ (by decide)]
  have r20 : R1 64 20 = nI (u + 1) := by rw [← hR1, q_up_at2 _ _ (by decide), q_up_at1]
  have r22 : R1 64 22 = nI (u + 1) := by rw [← hR1, q_up_at1]
  have hF : q_Fs v n C1 J R2 K s S [] (r + 1) (u + 1) w (dp + 1) := by
    have hd : qdep (va_up Sv r a) (r + 1) = dp + 1 := by
      show (if va_up Sv r a r = 0 ∨ va_up Sv r a r = 1 then qdep (va_up Sv r a) r + 1 else if va_up Sv r a r = 2 then qdep (va_up Sv r a) r else qdep (va_up Sv r a) r - 1) = dp + 1
      rw [va_hit, qdep_c (S := Sv) (fun i hi => va_miss (by omega)), c6, if_pos ha]
    refine ⟨q_Pt_eq h1' (co 2 (by decide) (by decide)) (fun k _ _ => by rw [co 31 (by decide) (by decide)]) rfl rfl (ro 65 (by decide) (by decide) (by decide)) (fun k _ _ _ => by rw [r2o k (by omega), r1o k (by omega) (by omega)]) rfl, ⟨by rw [ro 71 (by decide) (by decide) (by decide)]; exact h2, by rw [r2o 19 (by decide), r1o 19 (by decide) (by decide)]; exact h3⟩, ⟨c282, r17, va_up Sv r a, va_up Av r b, fun k hk => ?_, fun j hj => absurd hj (Nat.not_lt_zero j), ?_, hd⟩, ⟨c283, by rw [r2o 20 (by decide)]; exact r20, by rw [r2o 22 (by decide)]; exact r22, by omega⟩, by rw [r2o 23 (by decide), r1o 23 (by decide) (by decide)]; exact h5, by omega, by rw [List.length_nil]; omega⟩
    · rw [r67, r68]
      by_cases hkr : k = r
      · subst hkr; rw [va_hit, va_hit, va_hit, va_hit]; exact ⟨rfl, rfl⟩
      · rw [va_miss hkr, va_miss hkr, va_miss hkr, va_miss hkr]; exact c3 k (by omega)
    · rw [c29]
      refine q_Fm_up c5 ho hd (by omega) (fun g => ?_) (fun g => ?_)
      · rcases ha with x | x <;> rw [x] at g <;> exact absurd g (by decide)
      · rcases ha with x | x <;> rw [x] at g <;> exact absurd g (by decide)
  have h31 : C1 31 = C 31 := co 31 (by decide) (by decide)
  obtain ⟨C2, J2, R3, K3, s3, f1, f2, f3, f4, f5⟩ := q_adv (L := L) (e := e) hF.pt (by rw [h31]; exact h0) (by rw [h31]; exact h1)
  refine ⟨C1, C2, J2, R1, R2, R3, K3, s3, k1, f1, k2, r1o 8 (by decide) (by decide), k3, f2, q_Gx_trans ⟨⟨fun p _ x y => co p x y, fun k _ _ _ _ => by rw [h31]⟩, fun _ _ => rfl, ⟨fun p x y z _ => ro p x y z, fun k _ _ _ _ x _ y z _ => by rw [r2o k x, r1o k y z]⟩, fun _ _ => rfl⟩ (q_Gx_ad f3), f4, q_Fs_ad hF f3 f5⟩
theorem q_lv_unit {d : Nat} (h1 : q_Sx 1 (mX9_either d) d) : q_Sx 7 (mX9_unit (d + 1)) (d + 1) := by
  intro v n s L C J R K e S r u w dp c hc hF hlen hw hn hT hM
  have hp := hF.pt
  have h19 : R 64 19 = nI S.length := by have := hF.2.1.2; rw [List.nil_append] at this; exact this
  have hsk : q_Sk (R 71) S := hF.2.1.1
  have h23 : R 64 23 = nI w := hF.2.2.2.2.1
  obtain ⟨u1, u2, u3, u4⟩ := hF.2.2.2.1
  have hru := hF.2.2.2.2.2.2
  rw [List.length_nil, Nat.add_zero] at hru
  have hkey := hp.key (k := 18) (by decide)
  rw [show qKW 18 = 7237492 by decide +kernel, show nI 18 = (18 : Int32) from rfl] at hkey
  have h40 := hp.sgn (k := 40) (by decide) (by decide)
  rw [show nI 40 = (40 : Int32) from rfl] at h40
  have r53 : kX12_unit 2 [some (.ref 64), some (.int 1), none] [] (qm R K e) = kX12_unit 53 [some (.ref 64), some (.int 1), none] [] (qm R K e) := by
    rw [eX12_unit_2, if_neg (by decide), eX12_unit_6, if_pos hp.ok, eX12_unit_13, fX12_isWord, hkey]
    simp only [Option.bind_some, Option.toList_some, Option.toList_none, List.nil_append, List.cons_append, q_ck_tt, Bool.and_true, Bool.true_and, if_true, if_false, reduceCtorEq]
    cases hb : (decide (C 31 5 = 2) && decide (C 31 6 = 18)) with
    | false => rw [eX12_unit_20, if_pos (by rfl)]
    | true =>
      have hb' : C 31 5 = 2 ∧ C 31 6 = 18 := by simpa using hb
      rcases hM (by decide) with g | g
      · rw [eX12_unit_20, if_neg (by decide), eX12_unit_23, fX12_mayNot K e hsk h19 (by omega), g]
        simp only [Option.bind_some, Option.toList_some, Option.toList_none, List.nil_append, List.cons_append, q_ck_tt, Bool.and_true, Bool.true_and, if_true, if_false, reduceCtorEq]
        rw [eX12_unit_27, if_pos (by rfl)]
      · exact absurd hb' g
  have hfull := fX12_isFull (R := R) K e u2 u3 u4
  -- both refuse at a bracket
  have hbr : ∀ (X : Option QR), (∀ C', mX9_refuse [.ref 31, .int 2] (qm C J (3, 17, 17, 2, L)) = some (some (.int 0), qm C' J (3, 17, 17, 2, L)) → ∃ C'', X = some (some (.int 0), qm C'' J (3, 17, 17, 2, L)) ∧ C'' 31 = C' 31 ∧ ∀ p, (p < 17 ∨ 31 < p) → C'' p = C' p) → kX12_unit 2 [some (.ref 64), some (.int 1), none] [] (qm R K e) = kX12_unit 78 [some (.ref 64), some (.int 1), none] [] (qm R K e) → q_Bad L e C J R K X ((kX12_unit 2 [some (.ref 64), some (.int 1), none] [] (qm R K e)).bind c) := by
    intro X hX hY
    obtain ⟨C', R', b1, b2, b3, b4, _, _⟩ := q_refw L e hp 2 (by decide)
    obtain ⟨C'', x1, x2, x3⟩ := hX C' b1
    have hR' : ∀ k, k ≠ 2 → k ≠ 3 → k ≠ 4 → k ≠ 6 → k ≠ 7 → k ≠ 8 → R' 64 k = R 64 k := b4.2.2
    have hcu := fX12_countUnit (R := R') K e (u := u) (by rw [hR' 20 (by decide) (by decide) (by decide) (by decide) (by decide) (by decide)]; exact u2) (by rw [hR' 22 (by decide) (by decide) (by decide) (by decide) (by decide) (by decide)]; exact u3)
    generalize hRc : q_up (q_up R' 64 20 (nI (u + 1))) 64 22 (nI (u + 1)) = Rc at hcu
    have hsc : q_Sc R' Rc := by rw [← hRc]; exact q_Sc_up rfl (by omega) (q_Sc_up rfl (by omega) (q_Sc_refl R'))
    obtain ⟨R'', o1, o2⟩ := fX12_openUp_f (R := Rc) K e (m := S.length) (by rw [← hRc, q_up_at2 _ _ (by decide), q_up_at2 _ _ (by decide), hR' 19 (by decide) (by decide) (by decide) (by decide) (by decide) (by decide)]; exact h19) (by omega) (by rw [hsc.2.1]; exact b3.2.1) 20
    have hf2 : (0 : Int32) < R'' 64 2 := by rw [o2.2.1, hsc.2.1]; exact b3.2.1
    refine q_Bad.of (C' := C'') (J' := J) (R1 := R') x1 ⟨fun p hpp => ⟨(x3 p hpp).trans (b4.1.1 p hpp).1, (b4.1.1 p hpp).2⟩, b4.1.2.1, b4.1.2.2⟩ ⟨by rw [x2]; exact b3.1, b3.2.1, by rw [x2]; exact b3.2.2⟩ (R' := R'') ?_ (q_Sc_trans hsc o2)
    rw [hY, eX12_unit_78, b2]
    simp only [Option.bind_some, Option.toList_some, Option.toList_none, List.nil_append, List.cons_append, q_ck_tt, Bool.and_true, Bool.true_and, if_true, if_false, reduceCtorEq]
    rw [eX12_unit_83, hcu]
    simp only [Option.bind_some, Option.toList_some, Option.toList_none, List.nil_append, List.cons_append, q_ck_tt, Bool.and_true, Bool.true_and, if_true, if_false, reduceCtorEq]
    rw [eX12_unit_87, o1]
    simp only [Option.bind_some, Option.toList_some, Option.toList_none, List.nil_append, List.cons_append, q_ck_tt, Bool.and_true, Bool.true_and, if_true, if_false, reduceCtorEq]
    rw [eX12_unit_93, q_un2_f K e hf2]
    show c (none, qm R'' K e) = _
    rw [hc, q_H_f K e hf2]
  -- both refuse elsewhere
  have hel : ∀ (X : Option QR), (∀ C', mX9_refuse [.ref 31, .int 2] (qm C J (3, 17, 17, 2, L)) = some (some (.int 0), qm C' J (3, 17, 17, 2, L)) → ∃ C'', X = some (some (.int 0), qm C'' J (3, 17, 17, 2, L)) ∧ C'' 31 = C' 31 ∧ ∀ p, (p < 17 ∨ 31 < p) → C'' p = C' p) → (∃ a : Int32, kX12_unit 2 [some (.ref 64), some (.int 1), none] [] (qm R K e) = kX12_unit 133 [some (.ref 64), none, some (.int a)] [] (qm R K e)) → q_Bad L e C J R K X ((kX12_unit 2 [some (.ref 64), some (.int 1), none] [] (qm R K e)).bind c) := by
    intro X hX hY
    obtain ⟨a, hY⟩ := hY
    obtain ⟨C', R', b1, b2, b3, b4, _, _⟩ := q_refw L e hp 2 (by decide)
    obtain ⟨C'', x1, x2, x3⟩ := hX C' b1
    refine q_Bad.of (C' := C'') (J' := J) (R1 := R') x1 ⟨fun p hpp => ⟨(x3 p hpp).trans (b4.1.1 p hpp).1, (b4.1.1 p hpp).2⟩, b4.1.2.1, b4.1.2.2⟩ ⟨by rw [x2]; exact b3.1, b3.2.1, by rw [x2]; exact b3.2.2⟩ (R' := R') ?_ (q_Sc_refl R')
    rw [hY, eX12_unit_133, b2]
    simp only [Option.bind_some, Option.toList_some, Option.toList_none, List.nil_append, List.cons_append, q_ck_tt, Bool.and_true, Bool.true_and, if_true, if_false, reduceCtorEq]
    rw [eX12_unit_138, if_pos b3.2.1, eX12_unit_145]
    show c (none, qm R' K e) = _
    rw [hc, q_H_f K e b3.2.1]
  have hxr : ∀ (X Y : Option QR), (∀ C', mX9_refuse [.ref 31, .int 2] (qm C J (3, 17, 17, 2, L)) = some (some (.int 0), qm C' J (3, 17, 17, 2, L)) → X = some (some (.int 0), qm C' J (3, 17, 17, 2, L))) → ∀ C', mX9_refuse [.ref 31, .int 2] (qm C J (3, 17, 17, 2, L)) = some (some (.int 0), qm C' J (3, 17, 17, 2, L)) → ∃ C'', X = some (some (.int 0), qm C'' J (3, 17, 17, 2, L)) ∧ C'' 31 = C' 31 ∧ ∀ p, (p < 17 ∨ 31 < p) → C'' p = C' p := fun X Y h C' g => ⟨C', h C' g, rfl, fun _ _ => rfl⟩
  generalize hCu : q_up C 28 3 (nI (u + 1)) = Cu
  have cu31 : Cu 31 = C 31 := by rw [← hCu, q_up_at3 _ _ (by decide)]
  have cuo : ∀ p, p ≠ 28 → Cu p = C p := fun p x => by rw [← hCu, q_up_at3 _ _ x]
  have hxr2 : ∀ (X : Option QR), (∀ C', mX9_refuse [.ref 31, .int 2] (qm Cu J (3, 17, 17, 2, L)) = some (some (.int 0), qm C' J (3, 17, 17, 2, L)) → X = some (some (.int 0), qm C' J (3, 17, 17, 2, L))) → ∀ C', mX9_refuse [.ref 31, .int 2] (qm C J (3, 17, 17, 2, L)) = some (some (.int 0), qm C' J (3, 17, 17, 2, L)) → ∃ C'', X = some (some (.int 0), qm C'' J (3, 17, 17, 2, L)) ∧ C'' 31 = C' 31 ∧ ∀ p, (p < 17 ∨ 31 < p) → C'' p = C' p := by
    intro X h C' g
    rw [fX9_refuse] at g
    have hq : q_up (q_up C 31 12 (if C 31 5 = 1 then 1 else 2)) 31 13 (C 31 4) = C' := by
      injection g with g; injection g with g1 g; injection g
    refine ⟨_, h _ (fX9_refuse Cu J L 2), ?_, fun p hp => ?_⟩
    · rw [← hq, cu31, q_up_va, q_up_va, q_up_va, q_up_va, va_hit, va_hit, va_hit, va_hit, cu31]
    · rw [← hq, q_up_at3 _ _ (by omega), q_up_at3 _ _ (by omega), q_up_at3 _ _ (by omega), q_up_at3 _ _ (by omega), cuo p (by omega)]
  have has := fX12_asked e hp
  have r101 : decide (R 64 6 = 40) = false → kX12_unit 2 [some (.ref 64), some (.int 1), none] [] (qm R K e) = kX12_unit 113 [some (.ref 64), none, none] [.int (qas (C 31 5) (C 31 6))] (qm R K e) := by
    intro g
    rw [r53, eX12_unit_53, if_neg (of_decide_eq_false g), eX12_unit_96, eX12_unit_2, if_pos (by rfl), eX12_unit_101, hp.ok, if_neg (by decide), eX12_unit_109, has]
    simp only [Option.bind_some, Option.toList_some, Option.toList_none, List.nil_append, List.cons_append, q_ck_tt, Bool.and_true, Bool.true_and, if_true, if_false, reduceCtorEq]
  by_cases hu : u < 30
  · have hcl : mX9_unit (d + 1) [.ref 31, .int (nI w)] (qm C J (3, 17, 17, 2, L)) = kX9_unit (d + 1) 39 [some (.ref 31), some (.int (nI w)), some (.ref 28)] [.int (qb (decide (C 31 5 = 5) && decide (C 31 6 = 40)))] (qm Cu J (3, 17, 17, 2, L)) := by
      rw [bX9_unit, eX9_unit_0, u1, if_pos (show nI u < (30 : Int32) from nI_lt (b := 30) hu (by omega)), eX9_unit_23, u1, show nI u + 1 = nI (u + 1) from nI_add u 1, hCu, fX9_atSign, cu31]
      simp only [Option.bind_some, Option.toList_some, Option.toList_none, List.nil_append, List.cons_append, q_ck_tt, Bool.and_true, Bool.true_and, if_true, if_false, reduceCtorEq]
    cases hb : (decide (C 31 5 = 5) && decide (C 31 6 = 40)) with
    | true =>
      have hb' : C 31 5 = 5 ∧ C 31 6 = 40 := by simpa using hb
      rw [hb] at hcl h40
      rw [eX9_unit_39, if_neg (by decide)] at hcl
      have r62 : kX12_unit 2 [some (.ref 64), some (.int 1), none] [] (qm R K e) = if (6 : Int32) < nI w then kX12_unit 78 [some (.ref 64), some (.int 1), none] [] (qm R K e) else kX12_unit 83 [some (.ref 64), some (.int 1), none] [] (qm R K e) := by
        rw [r53, eX12_unit_53, if_pos (of_decide_eq_true h40), eX12_unit_62, hfull, decide_eq_false (show ¬ u = 30 by omega)]
        simp only [Option.bind_some, Option.toList_some, Option.toList_none, List.nil_append, List.cons_append, q_ck_tt, Bool.and_true, Bool.true_and, if_true, if_false, reduceCtorEq]
        rw [eX12_unit_66, if_pos (by rfl), eX12_unit_69, h23]
      by_cases h7 : w < 7
      · rw [eX9_unit_42, if_pos (show nI w < (7 : Int32) from nI_lt (b := 7) h7 (by omega))] at hcl
        rw [if_neg (show ¬ (6 : Int32) < nI w from nI_nlt (a := 6) (by omega) (by omega))] at r62
        have hcu := fX12_countUnit (R := R) K e u2 u3
        generalize hRc : q_up (q_up R 64 20 (nI (u + 1))) 64 22 (nI (u + 1)) = Rc at hcu
        have rco : ∀ p, p ≠ 64 → Rc p = R p := fun p x => by rw [← hRc, q_up_at3 _ _ x, q_up_at3 _ _ x]
        have rc6 : ∀ k, k ≠ 20 → k ≠ 22 → Rc 64 k = R 64 k := fun k x y => by rw [← hRc, q_up_at2 _ _ y, q_up_at2 _ _ x]
        have hFu : q_Fs v n Cu J Rc K s S [] r (u + 1) w dp := by
          obtain ⟨g1, ⟨g2, g3⟩, g4, g5, g6, g7, g8⟩ := hF
          refine ⟨q_Pt_eq g1 (cuo 2 (by decide)) (fun k _ _ => by rw [cu31]) rfl rfl (rco 65 (by decide)) (fun k _ _ _ => rc6 k (by omega) (by omega)) rfl, ⟨by rw [rco 71 (by decide)]; exact g2, by rw [rc6 19 (by decide) (by decide)]; exact g3⟩, q_Cd_eq g4 (by rw [← hCu, q_up_at2 _ _ (by decide)]) (rc6 17 (by decide) (by decide)) (cuo 29 (by decide)) ⟨rco 67 (by decide), rco 68 (by decide)⟩, ⟨by rw [← hCu, q_up_at1], by rw [← hRc, q_up_at2 _ _ (by decide), q_up_at1], by rw [← hRc, q_up_at1], by omega⟩, by rw [rc6 23 (by decide) (by decide)]; exact g6, by omega, by omega⟩
        have gx0 : q_Gx C J R K Cu J Rc K := ⟨⟨fun p _ x _ => cuo p x, fun k _ _ _ _ => by rw [cu31]⟩, fun _ _ => rfl, ⟨fun p x _ _ _ => rco p x, fun k _ _ _ _ _ _ x y _ => rc6 k x y⟩, fun _ _ => rfl⟩
        obtain ⟨C1, J1, R1, K1, s1, f1, f2, f3, f4, f5⟩ := q_openF (L := L) e hFu 20 (by omega) (by rw [cu31, hb'.1]; decide) (by rw [cu31, hb'.1]; decide)
        rw [eX12_unit_83, hcu] at r62
        simp only [Option.bind_some, Option.toList_some, Option.toList_none, List.nil_append, List.cons_append, q_ck_tt, Bool.and_true, Bool.true_and, if_true, if_false, reduceCtorEq] at r62
        rw [eX12_unit_87, f2] at r62
        simp only [Option.bind_some, Option.toList_some, Option.toList_none, List.nil_append, List.cons_append, q_ck_tt, Bool.and_true, Bool.true_and, if_true, if_false, reduceCtorEq] at r62
        rw [eX12_unit_93] at r62
        rw [eX9_unit_54, f1] at hcl
        simp only [Option.bind_some, Option.toList_some, Option.toList_none, List.nil_append, List.cons_append, q_ck_tt, Bool.and_true, Bool.true_and, if_true, if_false, reduceCtorEq] at hcl
        rw [eX9_unit_58, show nI w + 1 = nI (w + 1) from nI_add w 1] at hcl
        rcases h1 v n s1 L C1 J1 R1 K1 e (20 :: S) r (u + 1) (w + 1) dp c hc f5 (by rw [List.length_cons]; omega) (by omega) (by omega) (Or.inr ⟨20, S, rfl, Or.inl rfl⟩) (fun g => absurd g (by decide)) with ⟨C2, J2, R2, K2, s2, P2, r2, u2', d1, d2, d3, d4, d5, d6, d7, d8, d9⟩ | ⟨C2, J2, R2, K2, d1, d2, d3, d4⟩
        · have hp2 := d5.pt
          have hbl : (P2 ++ 20 :: S).length ≤ 160 := by rw [List.length_append, List.length_cons]; omega
          have hbk : mX12_hasBracket [.ref 64] (qm R2 K2 e) = some (some (.int 1), qm R2 K2 e) := by
            rw [fX12_hasBracket K2 e d5.2.1.2 hbl]
            have : qAny (P2 ++ 20 :: S).length (fun i => decide (R2 71 i = 20)) = true := by
              refine qAny_iff.mpr ⟨S.length, by rw [List.length_append, List.length_cons]; omega, ?_⟩
              have g := d5.2.1.1 P2.length (by rw [List.length_append, List.length_cons]; omega)
              rw [List.length_append, List.length_cons, show P2.length + (S.length + 1) - 1 - P2.length = S.length by omega] at g
              rw [g]
              simp [List.getD]
            rw [this]
            rfl
          have hcl2 : mX9_unit (d + 1) [.ref 31, .int (nI w)] (qm C J (3, 17, 17, 2, L)) = (mX9_takeSign [.ref 31, .int 41] (qm C2 J2 (3, 17, 17, 2, L))).bind (fun r => kX9_unit (d + 1) 74 [some (.ref 31), none, none] (r.1.toList ++ []) r.2) := by
            rw [hcl, d1]
            simp only [Option.bind_some, Option.toList_some, Option.toList_none, List.nil_append, List.cons_append, q_ck_tt, Bool.and_true, Bool.true_and, if_true, if_false, reduceCtorEq]
            rw [eX9_unit_65, if_neg (by decide), eX9_unit_68]
          have hH : q_H e R2 K2 = kX12_formula 50 [some (.ref 64), some (.int 1), none] [.int (qsg (C2 31 5) (C2 31 6))] (qm R2 K2 e) := by
            unfold q_H
            rw [eX12_formula_35, if_neg (by decide), eX12_formula_39, if_pos hp2.ok, eX12_formula_46, fX12_sign e hp2]
            simp only [Option.bind_some, Option.toList_some, Option.toList_none, List.nil_append, List.cons_append, q_ck_tt, Bool.and_true, Bool.true_and, if_true, if_false, reduceCtorEq]
          obtain ⟨R3, k1, k2, k3, k4⟩ := q_closeF e d5 0 (by omega) (Or.inr ⟨20, S, rfl, Or.inl rfl⟩) (fun x hx => ⟨Nat.zero_le _, (d6 x hx).2⟩) hbl (by omega)
          generalize hR4 : q_up (q_up R3 64 19 (nI S.length)) 64 23 (nI w) = R4
          have r4o : ∀ p, p ≠ 64 → R4 p = R3 p := fun p x => by rw [← hR4, q_up_at3 _ _ x, q_up_at3 _ _ x]
          have r46 : ∀ k, k ≠ 19 → k ≠ 23 → R4 64 k = R3 64 k := fun k x y => by rw [← hR4, q_up_at2 _ _ y, q_up_at2 _ _ x]
          have hF4 : q_Fs v n C2 J2 R4 K2 s2 S [] (r2 + P2.length) u2' w (dp + 1) := by
            obtain ⟨g1, ⟨g2, g3⟩, g4, ⟨g5, g5b, g5c, g5d⟩, g6, g7, g8⟩ := k4
            refine ⟨q_Pt_eq g1 rfl (fun _ _ _ => rfl) rfl rfl (r4o 65 (by decide)) (fun k _ _ _ => r46 k (by omega) (by omega)) rfl, ⟨by rw [r4o 71 (by decide)]; exact (q_Sk_tail g2).1, by rw [← hR4, q_up_at2 _ _ (by decide), q_up_at1]; rfl⟩, q_Cd_eq g4 rfl (r46 17 (by decide) (by decide)) rfl ⟨r4o 67 (by decide), r4o 68 (by decide)⟩, ⟨g5, by rw [r46 20 (by decide) (by decide)]; exact g5b, by rw [r46 22 (by decide) (by decide)]; exact g5c, g5d⟩, by rw [← hR4, q_up_at1]; rfl, g7, g8⟩
          have gx4 : q_Gx C2 J2 R2 K2 C2 J2 R4 K2 := q_Gx_trans k2 ⟨⟨fun _ _ _ _ => rfl, fun _ _ _ _ _ => rfl⟩, fun _ _ => rfl, ⟨fun p x _ _ _ => r4o p x, fun k _ _ _ _ _ x _ _ y => r46 k x y⟩, fun _ _ => rfl⟩
          rcases q_tkSign (L := L) (e := e) hF4.pt (k := 41) (by decide) (by decide) (a := 41) rfl with ⟨t5, t6, t7, C3, J3, R5, K5, s5, t1, t2, t3, t4, t8⟩ | ⟨t0, -⟩
          · have h2641 : R2 64 6 = 41 := by
              rw [← k3 6 (by decide) (by decide) (by decide), ← r46 6 (by decide) (by decide)]; exact t7
            refine Or.inl ⟨C3, J3, R5, K5, s5, [], r2 + P2.length, u2', ?_, ?_, q_Gx_trans gx0 (q_Gx_trans f3 (q_Gx_trans d3 (q_Gx_trans gx4 (q_Gx_ad t3)))), by omega, q_Fs_ad hF4 t3 t8, fun z hz => absurd hz (List.not_mem_nil), Or.inr (Or.inl (by have := qti_le (qsg (C3 31 5) (C3 31 6)); omega)), Nat.zero_le _, by rw [List.length_nil]; omega⟩
            · rw [hcl2, t1]
              simp only [Option.bind_some, Option.toList_some, Option.toList_none, List.nil_append, List.cons_append, q_ck_tt, Bool.and_true, Bool.true_and, if_true, if_false, reduceCtorEq]
              rw [eX9_unit_74, if_neg (by decide), eX9_unit_77, eX9_unit_82]
              rfl
            · rw [r62, d2, hH, eX12_formula_50, if_pos h2641, eX12_formula_60, hbk]
              simp only [Option.bind_some, Option.toList_some, Option.toList_none, List.nil_append, List.cons_append, q_ck_tt, Bool.and_true, Bool.true_and, if_true, if_false, reduceCtorEq]
              rw [eX12_formula_64, if_neg (by decide), eX12_formula_67]
              have k1' : mX12_close [.ref 64, .int 0] (qm R2 K2 e) = some (none, qm R3 K2 e) := k1
              have h319 : R3 64 19 = nI (S.length + 1) := k4.2.1.2
              have h323 : R3 64 23 = nI (w + 1) := k4.2.2.2.2.1
              rw [k1']
              simp only [Option.bind_some, Option.toList_some, Option.toList_none, List.nil_append, List.cons_append, q_ck_tt, Bool.and_true, Bool.true_and, if_true, if_false, reduceCtorEq]
              rw [eX12_formula_72, h319, h323, nI_1s (by omega), nI_1s (by omega), Nat.add_sub_cancel, Nat.add_sub_cancel, hR4, t2]
              simp only [Option.bind_some, Option.toList_some, Option.toList_none, List.nil_append, List.cons_append, q_ck_tt, Bool.and_true, Bool.true_and, if_true, if_false, reduceCtorEq]
              rw [eX12_formula_96, eX12_formula_159]
              rfl
          · have h2641 : ¬ R2 64 6 = 41 := by
              rw [← k3 6 (by decide) (by decide) (by decide), ← r46 6 (by decide) (by decide)]; exact t0
            rcases q_tkSign (L := L) (e := e) hp2 (k := 41) (by decide) (by decide) (a := 41) rfl with ⟨-, -, t7, -⟩ | ⟨-, C', R', t1, t2, t3, t4⟩
            · exact absurd t7 h2641
            · refine Or.inr ⟨C', J2, R', K2, ?_, ?_, q_Gf_trans gx0.gf (q_Gf_trans f3.gf (q_Gf_trans d3.gf t4.1)), t3⟩
              · rw [hcl2, t1]
                simp only [Option.bind_some, Option.toList_some, Option.toList_none, List.nil_append, List.cons_append, q_ck_tt, Bool.and_true, Bool.true_and, if_true, if_false, reduceCtorEq]
                rw [eX9_unit_74, if_pos rfl, eX9_unit_81, eX9_unit_82]
                rfl
              · have h157 : kX12_formula 157 [some (.ref 64), none, none] [] (qm R2 K2 e) = some (none, qm R' K2 e) := by
                  rw [eX12_formula_157, eX12_formula_159, eX12_formula_35, if_pos rfl, eX12_formula_162, if_pos hp2.ok, eX12_formula_169, hbk]
                  simp only [Option.bind_some, Option.toList_some, Option.toList_none, List.nil_append, List.cons_append, q_ck_tt, Bool.and_true, Bool.true_and, if_true, if_false, reduceCtorEq]
                  rw [eX12_formula_173, if_neg (by decide), eX12_formula_176, t2]
                  simp only [Option.bind_some, Option.toList_some, Option.toList_none, List.nil_append, List.cons_append, q_ck_tt, Bool.and_true, Bool.true_and, if_true, if_false, reduceCtorEq]
                  rw [eX12_formula_181, if_neg (q_pos_ne t3.2.1), eX12_formula_193]
                rw [r62, d2, hH, eX12_formula_50, if_neg h2641, eX12_formula_99]
                by_cases h0 : qsg (C2 31 5) (C2 31 6) = 0
                · rw [if_pos h0, h157]
                · have h4r : qti (qsg (C2 31 5) (C2 31 6)) = 4 ∧ qhr P2 = true := by
                    rcases d7 with g | g | ⟨g, -, g3⟩
                    · exact absurd g h0
                    · have := qti_le (qsg (C2 31 5) (C2 31 6)); omega
                    · exact ⟨g, g3⟩
                  rw [if_neg h0, eX12_formula_103, fX12_tight]
                  simp only [Option.bind_some, Option.toList_some, Option.toList_none, List.nil_append, List.cons_append, q_ck_tt, Bool.and_true, Bool.true_and, if_true, if_false, reduceCtorEq]
                  rw [eX12_formula_107, if_pos (show nI (qti (qsg (C2 31 5) (C2 31 6))) = (4 : Int32) by rw [h4r.1]; rfl), eX12_formula_111, fX12_hasRelation K2 e d5.2.1.1 d5.2.1.2 hbl, qhr_app h4r.2]
                  simp only [Option.bind_some, Option.toList_some, Option.toList_none, List.nil_append, List.cons_append, q_ck_tt, Bool.and_true, Bool.true_and, if_true, if_false, reduceCtorEq]
                  rw [eX12_formula_115, if_neg (by decide), h157]
        · refine Or.inr ⟨C2, J2, R2, K2, ?_, by rw [r62]; exact d2, q_Gf_trans gx0.gf (q_Gf_trans f3.gf d3), d4⟩
          rw [hcl, d1]
          simp only [Option.bind_some, Option.toList_some, Option.toList_none, List.nil_append, List.cons_append, q_ck_tt, Bool.and_true, Bool.true_and, if_true, if_false, reduceCtorEq]
          rw [eX9_unit_65, if_pos rfl, eX9_unit_81, eX9_unit_82]
          rfl
      · rw [eX9_unit_42, if_neg (show ¬ nI w < (7 : Int32) from nI_nlt (b := 7) (by omega) (by omega)), eX9_unit_48] at hcl
        rw [if_pos (show (6 : Int32) < nI w from nI_lt (a := 6) (by omega) (by omega))] at r62
        refine Or.inr (hbr _ (hxr2 _ (fun C' g => ?_)) r62)
        rw [hcl, g]
        simp only [Option.bind_some, Option.toList_some, Option.toList_none, List.nil_append, List.cons_append, q_ck_tt, Bool.and_true, Bool.true_and, if_true, if_false, reduceCtorEq]
        rw [eX9_unit_53]
        rfl
    | false =>
      rw [hb] at hcl h40
      rw [eX9_unit_39, if_pos (by rfl), eX9_unit_83, cu31] at hcl
      have r113 := r101 h40
      -- a leaf of both
      have hlf : ∀ (cc a b : Int32), q_Op cc a b → (a = 0 ∨ a = 1) → C 31 5 ≠ 0 → C 31 5 ≠ 1 → (∀ C1, mX4_put [.ref 28, .int cc] (qm Cu J (3, 17, 17, 2, L)) = some (none, qm C1 J (3, 17, 17, 2, L)) → mX9_unit (d + 1) [.ref 31, .int (nI w)] (qm C J (3, 17, 17, 2, L)) = kX9_unit (d + 1) 177 [some (.ref 31), none, none] [] (qm C1 J (3, 17, 17, 2, L))) → (∀ R1, R1 64 8 = R 64 8 → mX12_countUnit [.ref 64] (qm R K e) = some (none, qm R1 K e) → kX12_unit 2 [some (.ref 64), some (.int 1), none] [] (qm R K e) = kX12_unit 172 [some (.ref 64), none, none] [.int b, .int a, .ref 64] (qm R1 K e)) → q_Lv 7 (d + 1) w v n L e s C J R K S r u dp (mX9_unit (d + 1) [.ref 31, .int (nI w)] (qm C J (3, 17, 17, 2, L))) ((kX12_unit 2 [some (.ref 64), some (.int 1), none] [] (qm R K e)).bind c) := by
        intro cc a b ho hab n0 n1 hX hY
        obtain ⟨C1, C2, J2, R1, R2, R3, K3, s3, l1, l2, l3, l4, l5, l6, l7, l8, l9⟩ := q_leaf (L := L) e hF hu n0 n1 ho hab
        rw [hCu] at l1
        refine Or.inl ⟨C2, J2, R3, K3, s3, [], r + 1, u + 1, ?_, ?_, l7, l8, l9, fun z hz => absurd hz (List.not_mem_nil), Or.inr (Or.inl (by have := qti_le (qsg (C2 31 5) (C2 31 6)); omega)), Nat.zero_le _, by rw [List.length_nil]; omega⟩
        · rw [hX C1 l1, eX9_unit_177, l2]
          simp only [Option.bind_some, Option.toList_some, Option.toList_none, List.nil_append, List.cons_append, q_ck_tt, Bool.and_true, Bool.true_and, if_true, if_false, reduceCtorEq]
          rw [eX9_unit_181]
        · rw [hY R1 l4 l3, eX12_unit_172, l5]
          simp only [Option.bind_some, Option.toList_some, Option.toList_none, List.nil_append, List.cons_append, q_ck_tt, Bool.and_true, Bool.true_and, if_true, if_false, reduceCtorEq]
          rw [eX12_unit_175, l6]
          simp only [Option.bind_some, Option.toList_some, Option.toList_none, List.nil_append, List.cons_append, q_ck_tt, Bool.and_true, Bool.true_and, if_true, if_false, reduceCtorEq]
          rw [eX12_unit_179]
          show c (none, qm R3 K3 e) = _
          rw [hc]
      have h126 : ∀ (a : Int32) (R1 : Nat → Nat → Int32), mX12_countUnit [.ref 64] (qm R K e) = some (none, qm R1 K e) → kX12_unit 126 [some (.ref 64), none, some (.int a)] [] (qm R K e) = kX12_unit 150 [some (.ref 64), none, some (.int a)] [] (qm R1 K e) := by
        intro a R1 hcu
        rw [eX12_unit_126, hfull, decide_eq_false (show ¬ u = 30 by omega)]
        simp only [Option.bind_some, Option.toList_some, Option.toList_none, List.nil_append, List.cons_append, q_ck_tt, Bool.and_true, Bool.true_and, if_true, if_false, reduceCtorEq]
        rw [eX12_unit_130, if_pos (by rfl), eX12_unit_138, hp.ok, if_neg (by decide), eX12_unit_146, hcu]
        simp only [Option.bind_some, Option.toList_some, Option.toList_none, List.nil_append, List.cons_append, q_ck_tt, Bool.and_true, Bool.true_and, if_true, if_false, reduceCtorEq]
      by_cases h4 : C 31 5 = 4
      · obtain ⟨m, m1, m2, m3⟩ := hp.num.2 h4
        have h62 := hp.num.1.mp h4
        have hqa : qas (C 31 5) (C 31 6) = -1 := by unfold qas; rw [if_neg (by rw [h4]; decide)]
        rw [if_pos h4] at hcl
        refine hlf (nI m) 0 (nI m) (Or.inl ⟨rfl, rfl, m, by omega, rfl⟩) (Or.inl rfl) (by rw [h4]; decide) (by rw [h4]; decide) (fun C1 g => ?_) (fun R1 g8 g => ?_)
        · rw [hcl, eX9_unit_91, cu31, m2, g]
          simp only [Option.bind_some, Option.toList_some, Option.toList_none, List.nil_append, List.cons_append, q_ck_tt, Bool.and_true, Bool.true_and, if_true, if_false, reduceCtorEq]
          rw [eX9_unit_99]
        · rw [r113, eX12_unit_113, if_pos h62, h126 _ R1 g, hqa, eX12_unit_150, if_pos (by decide), eX12_unit_155, eX12_unit_160, if_pos (by decide), eX12_unit_164, g8, m3]
      · have h62 : ¬ R 64 6 = 2 := fun g => h4 (hp.num.1.mpr g)
        rw [if_neg h4, eX9_unit_102, fX9_atKey, cu31] at hcl
        simp only [Option.bind_some, Option.toList_some, Option.toList_none, List.nil_append, List.cons_append, q_ck_tt, Bool.and_true, Bool.true_and, if_true, if_false, reduceCtorEq] at hcl
        rw [eX12_unit_113, if_neg h62, eX12_unit_122] at r113
        have hask : ∀ (k j : Nat), k < 21 → j < 4 → C 31 5 = 2 → qas (C 31 5) (C 31 6) = nI j → (∀ C1, mX4_put [.ref 28, .int (-(nI (j + 1)))] (qm Cu J (3, 17, 17, 2, L)) = some (none, qm C1 J (3, 17, 17, 2, L)) → mX9_unit (d + 1) [.ref 31, .int (nI w)] (qm C J (3, 17, 17, 2, L)) = kX9_unit (d + 1) 177 [some (.ref 31), none, none] [] (qm C1 J (3, 17, 17, 2, L))) → q_Lv 7 (d + 1) w v n L e s C J R K S r u dp (mX9_unit (d + 1) [.ref 31, .int (nI w)] (qm C J (3, 17, 17, 2, L))) ((kX12_unit 2 [some (.ref 64), some (.int 1), none] [] (qm R K e)).bind c) := by
          intro k j hk hj h2 hq hX
          have hjp : ¬ nI j < 0 := nI_pos (by omega)
          refine hlf _ 1 (nI j) (Or.inr (Or.inl ⟨rfl, j, hj, rfl, rfl⟩)) (Or.inr rfl) (by rw [h2]; decide) (by rw [h2]; decide) hX (fun R1 _ g => ?_)
          rw [r113, hq, if_neg hjp, h126 _ R1 g, eX12_unit_150, if_neg hjp, eX12_unit_159, eX12_unit_160, if_neg hjp, eX12_unit_171]
        cases k0 : (decide (C 31 5 = 2) && decide (C 31 6 = 0)) with
        | true =>
          have hk : C 31 5 = 2 ∧ C 31 6 = 0 := by simpa using k0
          rw [k0, eX9_unit_107, if_neg (by decide)] at hcl
          refine hask 0 0 (by decide) (by decide) hk.1 (by rw [hk.1, hk.2]; rfl) (fun C1 g => ?_)
          have g' : mX4_put [.ref 28, .int (-1)] (qm Cu J (3, 17, 17, 2, L)) = some (none, qm C1 J (3, 17, 17, 2, L)) := g
          rw [hcl, eX9_unit_110, g']
          simp only [Option.bind_some, Option.toList_some, Option.toList_none, List.nil_append, List.cons_append, q_ck_tt, Bool.and_true, Bool.true_and, if_true, if_false, reduceCtorEq]
          rw [eX9_unit_115]
        | false =>
          rw [k0, eX9_unit_107, if_pos (by rfl), eX9_unit_118, fX9_atKey, cu31] at hcl
          simp only [Option.bind_some, Option.toList_some, Option.toList_none, List.nil_append, List.cons_append, q_ck_tt, Bool.and_true, Bool.true_and, if_true, if_false, reduceCtorEq] at hcl
          cases k1 : (decide (C 31 5 = 2) && decide (C 31 6 = 19)) with
          | true =>
            have hk : C 31 5 = 2 ∧ C 31 6 = 19 := by simpa using k1
            rw [k1, eX9_unit_124, if_neg (by decide)] at hcl
            refine hask 19 1 (by decide) (by decide) hk.1 (by rw [hk.1, hk.2]; rfl) (fun C1 g => ?_)
            have g' : mX4_put [.ref 28, .int (-2)] (qm Cu J (3, 17, 17, 2, L)) = some (none, qm C1 J (3, 17, 17, 2, L)) := g
            rw [hcl, eX9_unit_127, g']
            simp only [Option.bind_some, Option.toList_some, Option.toList_none, List.nil_append, List.cons_append, q_ck_tt, Bool.and_true, Bool.true_and, if_true, if_false, reduceCtorEq]
            rw [eX9_unit_133]
          | false =>
            rw [k1, eX9_unit_124, if_pos (by rfl), eX9_unit_136, fX9_atKey, cu31] at hcl
            simp only [Option.bind_some, Option.toList_some, Option.toList_none, List.nil_append, List.cons_append, q_ck_tt, Bool.and_true, Bool.true_and, if_true, if_false, reduceCtorEq] at hcl
            cases k2 : (decide (C 31 5 = 2) && decide (C 31 6 = 4)) with
            | true =>
              have hk : C 31 5 = 2 ∧ C 31 6 = 4 := by simpa using k2
              rw [k2, eX9_unit_141, if_neg (by decide)] at hcl
              refine hask 4 2 (by decide) (by decide) hk.1 (by rw [hk.1, hk.2]; rfl) (fun C1 g => ?_)
              have g' : mX4_put [.ref 28, .int (-3)] (qm Cu J (3, 17, 17, 2, L)) = some (none, qm C1 J (3, 17, 17, 2, L)) := g
              rw [hcl, eX9_unit_144, g']
              simp only [Option.bind_some, Option.toList_some, Option.toList_none, List.nil_append, List.cons_append, q_ck_tt, Bool.and_true, Bool.true_and, if_true, if_false, reduceCtorEq]
              rw [eX9_unit_150]
            | false =>
              rw [k2, eX9_unit_141, if_pos (by rfl), eX9_unit_153, fX9_atKey, cu31] at hcl
              simp only [Option.bind_some, Option.toList_some, Option.toList_none, List.nil_append, List.cons_append, q_ck_tt, Bool.and_true, Bool.true_and, if_true, if_false, reduceCtorEq] at hcl
              cases k3 : (decide (C 31 5 = 2) && decide (C 31 6 = 20)) with
              | true =>
                have hk : C 31 5 = 2 ∧ C 31 6 = 20 := by simpa using k3
                rw [k3, eX9_unit_159, if_neg (by decide)] at hcl
                refine hask 20 3 (by decide) (by decide) hk.1 (by rw [hk.1, hk.2]; rfl) (fun C1 g => ?_)
                have g' : mX4_put [.ref 28, .int (-4)] (qm Cu J (3, 17, 17, 2, L)) = some (none, qm C1 J (3, 17, 17, 2, L)) := g
                rw [hcl, eX9_unit_162, g']
                simp only [Option.bind_some, Option.toList_some, Option.toList_none, List.nil_append, List.cons_append, q_ck_tt, Bool.and_true, Bool.true_and, if_true, if_false, reduceCtorEq]
                rw [eX9_unit_168]
              | false =>
                rw [k3, eX9_unit_159, if_pos (by rfl), eX9_unit_171] at hcl
                have hqa : qas (C 31 5) (C 31 6) = -1 := by
                  unfold qas
                  by_cases g2 : C 31 5 = 2
                  · rw [g2] at k0 k1 k2 k3
                    have z0 : ¬ C 31 6 = 0 := by simpa using k0
                    have z1 : ¬ C 31 6 = 19 := by simpa using k1
                    have z2 : ¬ C 31 6 = 4 := by simpa using k2
                    have z3 : ¬ C 31 6 = 20 := by simpa using k3
                    rw [if_pos g2, if_neg z0, if_neg z1, if_neg z2, if_neg z3]
                  · rw [if_neg g2]
                rw [hqa, if_pos (by decide)] at r113
                refine Or.inr (hel _ (hxr2 _ (fun C' g => ?_)) ⟨_, r113⟩)
                rw [hcl, g]
                simp only [Option.bind_some, Option.toList_some, Option.toList_none, List.nil_append, List.cons_append, q_ck_tt, Bool.and_true, Bool.true_and, if_true, if_false, reduceCtorEq]
                rw [eX9_unit_176]
                rfl
  · have hcl : mX9_unit (d + 1) [.ref 31, .int (nI w)] (qm C J (3, 17, 17, 2, L)) = (mX9_refuse [.ref 31, .int 2] (qm C J (3, 17, 17, 2, L))).bind (fun r => kX9_unit (d + 1) 22 [some (.ref 31), none, none] (r.1.toList ++ []) r.2) := by
      rw [bX9_unit, eX9_unit_0, u1, if_neg (show ¬ nI u < (30 : Int32) from nI_nlt (b := 30) (by omega) (by omega)), eX9_unit_17]
    have hX := hxr (mX9_unit (d + 1) [.ref 31, .int (nI w)] (qm C J (3, 17, 17, 2, L))) none (fun C' g => by
      rw [hcl, g]
      simp only [Option.bind_some, Option.toList_some, Option.toList_none, List.nil_append, List.cons_append, q_ck_tt, Bool.and_true, Bool.true_and, if_true, if_false, reduceCtorEq]
      rw [eX9_unit_22]
      rfl)
    rw [decide_eq_true (show u = 30 by omega)] at hfull
    cases hb : decide (R 64 6 = 40) with
    | true =>
      refine Or.inr (hbr _ hX ?_)
      rw [r53, eX12_unit_53, if_pos (of_decide_eq_true hb), eX12_unit_62, hfull]
      simp only [Option.bind_some, Option.toList_some, Option.toList_none, List.nil_append, List.cons_append, q_ck_tt, Bool.and_true, Bool.true_and, if_true, if_false, reduceCtorEq]
      rw [eX12_unit_66, if_neg (by decide)]
    | false =>
      refine Or.inr (hel _ hX ⟨qas (C 31 5) (C 31 6), ?_⟩)
      have h126 : kX12_unit 126 [some (.ref 64), none, some (.int (qas (C 31 5) (C 31 6)))] [] (qm R K e) = kX12_unit 133 [some (.ref 64), none, some (.int (qas (C 31 5) (C 31 6)))] [] (qm R K e) := by
        rw [eX12_unit_126, hfull]
        simp only [Option.bind_some, Option.toList_some, Option.toList_none, List.nil_append, List.cons_append, q_ck_tt, Bool.and_true, Bool.true_and, if_true, if_false, reduceCtorEq]
        rw [eX12_unit_130, if_neg (by decide)]
      rw [r101 hb, eX12_unit_113]
      by_cases h62 : R 64 6 = 2
      · rw [if_pos h62, h126]
      · rw [if_neg h62, eX12_unit_122]
        by_cases h0 : qas (C 31 5) (C 31 6) < 0
        · rw [if_pos h0]
        · rw [if_neg h0, h126]
theorem q_levels : ∀ d, q_Sx 1 (mX9_either d) d ∧ q_Sx 2 (mX9_both d) d ∧ q_Sx 3 (mX9_one d) d ∧ q_Sx 4 (mX9_relation d) d ∧ q_Sx 5 (mX9_sum d) d ∧ q_Sx 6 (mX9_term d) d ∧ q_Sx 7 (mX9_unit d) d := by
  intro d
  induction d with
  | zero =>
    refine ⟨?_, ?_, ?_, ?_, ?_, ?_, ?_⟩ <;> (intro v n s L C J R K e S r u w dp c hc hF hlen hw hn; omega)
  | succ d ih =>
    obtain ⟨h1, h2, h3, h4, h5, h6, h7⟩ := ih
    exact ⟨q_lv_either h2, q_lv_both h3, q_lv_one h4 h3, q_lv_relation h5, q_lv_sum h6, q_lv_term h7, q_lv_unit h1⟩
