/-! ===== lines: a device, its beginning ===== -/
theorem q_dev67 {v : Nat → Nat} {n s L : Nat} {C : Nat → Nat → Int32} {J : Nat → Nat → Int64} {R : Nat → Nat → Int32} {K : Nat → Nat → Int64} {e : QP} {D N : Nat} {cl : Nat → Nat} (h : q_Pt v n C J R K s) (hB : q_B6 C R D N cl) (n1 : q_Nm J K 18 0 (D + 1)) (n2 : q_Nm J K 22 4 N) (hD : D < 4) (h20 : C 20 D = -1) :
    q_Res v n s L e C J R K (kX9_deviceLine 67 [some (.ref 31), some (.int (nI D))] [] (qm C J (3, 17, 17, 2, L))) (kX12_readDevice 9 [some (.ref 64), none] [] (qm R K e)) := by
  have hR46 : R 64 46 = nI D := hB.1.1.2.1
  rcases q_tNum (L := L) (e := e) h (k := 1) (by decide) (c := 1) (w := 26994) rfl (by decide +kernel) 2 4 with ⟨C1, J1, R1, K1, s1, m, a1, a2, a3, a4, ⟨m1, m2, m3, m4, m5⟩, a6, a7, a8⟩ | ⟨C', R', x, a1, a2, a3, a4, a5⟩ | ⟨C1, J1, C', R', K', x, a1, a2, a3, a4, a5, a6⟩
  · have hm : m ≤ 4 := q_num_le (b := 4) m1 m5
    have hm2 : 2 ≤ m := q_num_ge (b := 2) (by omega) m4
    have hp : q_Pt v n (q_up C1 19 D (nI m)) J1 R1 K1 s1 := q_Pt_eq a8 (by rw [q_up_at3 _ _ (by decide)]) (fun k _ _ => by rw [q_up_at3 _ _ (by decide)]) rfl rfl rfl (fun _ _ _ _ => rfl) rfl
    have h5 : q_up C1 19 D (nI m) 31 5 = 4 := by rw [q_up_at3 _ _ (by decide)]; exact m2
    obtain ⟨C2, J2, R2, K2, s2, f1, f2, f3, f4, f5⟩ := q_adv (L := L) (e := e) hp (by rw [h5]; decide) (by rw [h5]; decide)
    have r2 : R2 64 46 = nI D := by rw [f3.2.2.1.2 46 (by decide) (by decide) (by decide) (by decide), a6.2.2.1.2 46 (by decide) (by decide) (by decide) (by decide)]; exact hR46
    have hcl : kX9_deviceLine 67 [some (.ref 31), some (.int (nI D))] [] (qm C J (3, 17, 17, 2, L)) = kX9_deviceLine 103 [some (.ref 31), some (.int (nI D))] [] (qm C2 J2 (3, 17, 17, 2, L)) := by
      rw [eX9_deviceLine_67, a1]
      simp only [Option.bind_some, Option.toList_some, Option.toList_none, List.nil_append, List.cons_append, q_ck_tt, Bool.and_true, Bool.true_and, if_true, if_false, reduceCtorEq]
      rw [eX9_deviceLine_72, if_neg (by decide), eX9_deviceLine_75, a3]
      simp only [Option.bind_some, Option.toList_some, Option.toList_none, List.nil_append, List.cons_append, q_ck_tt, Bool.and_true, Bool.true_and, if_true, if_false, reduceCtorEq]
      rw [eX9_deviceLine_81, if_neg (by decide), eX9_deviceLine_86, q_in_nI (by omega) (by omega), nI_n (by omega), Bool.true_and, q_ck_tt, m3, f1]
      simp only [Option.bind_some, Option.toList_some, Option.toList_none, List.nil_append, List.cons_append, q_ck_tt, Bool.and_true, Bool.true_and, if_true, if_false, reduceCtorEq]
    generalize hRe : q_up (q_up R2 74 D (nI m)) 75 D (-1) = Re
    have hrf : kX12_readDevice 9 [some (.ref 64), none] [] (qm R K e) = kX12_readDevice 44 [some (.ref 64), none] [] (qm Re K2 e) := by
      rw [eX12_readDevice_9, a4 R2 K2 f2]
      simp only [Option.bind_some, Option.toList_some, Option.toList_none, List.nil_append, List.cons_append, q_ck_tt, Bool.and_true, Bool.true_and, if_true, if_false, reduceCtorEq]
      rw [hR46, eX12_readDevice_26, r2, q_in_nI (by omega) (by omega), nI_n (by omega)]
      simp only [Option.bind_some, Option.toList_some, Option.toList_none, List.nil_append, List.cons_append, q_ck_tt, Bool.and_true, Bool.true_and, if_true, if_false, reduceCtorEq]
      rw [if_pos f5.ok, hRe]
    have reo : ∀ p, p ≠ 74 → p ≠ 75 → Re p = R2 p := fun p x1 x2 => by rw [← hRe, q_up_at3 _ _ x2, q_up_at3 _ _ x1]
    have re74 : Re 74 = va_up (R2 74) D (nI m) := by rw [← hRe, q_up_at3 _ _ (by decide), q_up_va, va_hit]
    have re75 : Re 75 = va_up (R2 75) D (-1) := by rw [← hRe, q_up_va, va_hit, q_up_at3 _ _ (by decide)]
    have cf : ∀ p, p ≠ 31 → p ≠ 19 → C2 p = C p := fun p x1 x2 => by rw [f3.1.1 p x1, q_up_at3 _ _ x2, a6.1.1 p x1]
    have rf : ∀ p, p ≠ 64 → R2 p = R p := fun p x1 => by rw [f3.2.2.1.1 p x1, a6.2.2.1.1 p x1]
    have rf6 : ∀ k, k ≠ 4 → k ≠ 6 → k ≠ 7 → k ≠ 8 → R2 64 k = R 64 k := fun k x1 x2 x3 x4 => by rw [f3.2.2.1.2 k x1 x2 x3 x4, a6.2.2.1.2 k x1 x2 x3 x4]
    have c31 : ∀ k, k ≠ 3 → k ≠ 4 → k ≠ 5 → k ≠ 6 → C2 31 k = C 31 k := fun k x1 x2 x3 x4 => by rw [f3.1.2 k x1 x2 x3 x4, q_up_at3 _ _ (by decide), a6.1.2 k x1 x2 x3 x4]
    have g0 : q_Gf C J R K C2 J2 Re K2 := by
      have g0 : q_Gf C J R K C2 J2 R2 K2 := q_Gf_trans (q_Gf_C (by omega) a6.gf) f3.gf
      refine ⟨g0.1, fun p k hp => ?_, g0.2.2⟩
      rw [← g0.2.1 p k hp, reo p (fun g => by subst g; cases hp) (fun g => by subst g; cases hp)]
    have hp2 : q_Pt v n C2 J2 Re K2 s2 := q_Pt_eq f5 rfl (fun _ _ _ => rfl) rfl rfl (reo 65 (by decide) (by decide)) (fun k _ _ _ => by rw [reo 64 (by decide) (by decide)]) rfl
    have hB2 : q_B6 C2 Re D N cl := by
      refine q_B6_st hB (cf 17 (by decide) (by decide)) (fun p _ _ => cf p (by omega) (by omega)) (fun d hd => ⟨?_, by rw [cf 20 (by decide) (by decide)], by rw [cf 21 (by decide) (by decide)]⟩) (fun k _ _ => c31 k (by omega) (by omega) (by omega) (by omega)) (fun p _ _ => by rw [reo p (by omega) (by omega), rf p (by omega)]) (fun d hd => ⟨by rw [re74, va_miss (by omega), rf 74 (by decide)], by rw [re75, va_miss (by omega), rf 75 (by decide)], by rw [reo 76 (by decide) (by decide), rf 76 (by decide)]⟩) ⟨by rw [reo 67 (by decide) (by decide), rf 67 (by decide)], by rw [reo 68 (by decide) (by decide), rf 68 (by decide)]⟩ (fun k _ => by rw [reo 64 (by decide) (by decide), rf6 k (by omega) (by omega) (by omega) (by omega)])
      rw [f3.1.1 19 (by decide), q_up_at2 _ _ (by omega), a6.1.1 19 (by decide)]
    have n1' : q_Nm J2 K2 18 0 (D + 1) := q_Nm_ad (q_Nm_ad n1 (by decide) a6) (by decide) f3
    have n2' : q_Nm J2 K2 22 4 N := q_Nm_ad (q_Nm_ad n2 (by decide) a6) (by decide) f3
    have c19 : C2 19 D = nI m := by rw [f3.1.1 19 (by decide), q_up_at1]
    have c20 : C2 20 D = -1 := by rw [cf 20 (by decide) (by decide)]; exact h20
    have r74 : Re 74 D = nI m := by rw [re74, va_hit]
    have r75 : Re 75 D = -1 := by rw [re75, va_hit]
    have re46 : Re 64 46 = nI D := by rw [reo 64 (by decide) (by decide)]; exact r2
    rw [hcl, hrf]
    refine q_Res.mono ?_ g0 (Nat.le_of_lt (by omega : s < s2))
    have hkey := hp2.key (k := 2) (by decide)
    have hw2 : qKW 2 = 26980 := by decide +kernel
    rw [hw2, show nI 2 = (2 : Int32) from rfl] at hkey
    have hc3 : kX9_deviceLine 103 [some (.ref 31), some (.int (nI D))] [] (qm C2 J2 (3, 17, 17, 2, L)) = kX9_deviceLine 108 [some (.ref 31), some (.int (nI D))] [.int (qb (decide (C2 31 5 = 2) && decide (C2 31 6 = 2)))] (qm C2 J2 (3, 17, 17, 2, L)) := by
      rw [eX9_deviceLine_103, fX9_atKey]
      simp only [Option.bind_some, Option.toList_some, Option.toList_none, List.nil_append, List.cons_append, q_ck_tt, Bool.and_true, Bool.true_and, if_true, if_false, reduceCtorEq]
    have hr3 : kX12_readDevice 44 [some (.ref 64), none] [] (qm Re K2 e) = kX12_readDevice 51 [some (.ref 64), none] [.int (qb (decide (C2 31 5 = 2) && decide (C2 31 6 = 2)))] (qm Re K2 e) := by
      rw [eX12_readDevice_44, fX12_isWord, hkey]
      simp only [Option.bind_some, Option.toList_some, Option.toList_none, List.nil_append, List.cons_append, q_ck_tt, Bool.and_true, Bool.true_and, if_true, if_false, reduceCtorEq]
    rw [hc3, hr3]
    cases hb : (decide (C2 31 5 = 2) && decide (C2 31 6 = 2)) with
    | false =>
      rw [eX9_deviceLine_108, if_pos (by rfl), eX12_readDevice_51, if_pos (by rfl)]
      exact q_dev144 hp2 hB2 n1' n2' hD (by rw [c19, r74]) (by rw [c20, r75]) ⟨m, hm2, hm, r74⟩ (Or.inl r75)
    | true =>
      have hb' : C2 31 5 = 2 ∧ C2 31 6 = 2 := by simpa using hb
      rw [eX9_deviceLine_108, if_neg (by decide), eX12_readDevice_51, if_neg (by decide)]
      rcases q_tNum (L := L) (e := e) hp2 (k := 2) (by decide) (c := 2) (w := 26980) rfl hw2.symm 0 127 with ⟨C3, J3, R3, K3, s3, m', b1, b2, b3, b4, ⟨l1, l2, l3, l4, l5⟩, b6, b7, b8⟩ | ⟨C', R', x, b1, b2, b3, b4, b5⟩ | ⟨C3, J3, C', R', K', x, b1, b2, b3, b4, b5, b6⟩
      · have hm' : m' ≤ 127 := q_num_le (b := 127) l1 l5
        have hp3 : q_Pt v n (q_up C3 20 D (nI m')) J3 R3 K3 s3 := q_Pt_eq b8 (by rw [q_up_at3 _ _ (by decide)]) (fun k _ _ => by rw [q_up_at3 _ _ (by decide)]) rfl rfl rfl (fun _ _ _ _ => rfl) rfl
        have h53 : q_up C3 20 D (nI m') 31 5 = 4 := by rw [q_up_at3 _ _ (by decide)]; exact l2
        obtain ⟨C4, J4, R4, K4, s4, g1, g2, g3, g4, g5⟩ := q_adv (L := L) (e := e) hp3 (by rw [h53]; decide) (by rw [h53]; decide)
        have hc4 : kX9_deviceLine 111 [some (.ref 31), some (.int (nI D))] [] (qm C2 J2 (3, 17, 17, 2, L)) = kX9_deviceLine 144 [some (.ref 31), some (.int (nI D))] [] (qm C4 J4 (3, 17, 17, 2, L)) := by
          rw [eX9_deviceLine_111, b2]
          simp only [Option.bind_some, Option.toList_some, Option.toList_none, List.nil_append, List.cons_append, q_ck_tt, Bool.and_true, Bool.true_and, if_true, if_false, reduceCtorEq]
          rw [eX9_deviceLine_115, b3]
          simp only [Option.bind_some, Option.toList_some, Option.toList_none, List.nil_append, List.cons_append, q_ck_tt, Bool.and_true, Bool.true_and, if_true, if_false, reduceCtorEq]
          rw [eX9_deviceLine_122, if_neg (by decide), eX9_deviceLine_127, q_in_nI (by omega) (by omega), nI_n (by omega), Bool.true_and, q_ck_tt, l3, g1]
          simp only [Option.bind_some, Option.toList_some, Option.toList_none, List.nil_append, List.cons_append, q_ck_tt, Bool.and_true, Bool.true_and, if_true, if_false, reduceCtorEq]
        have hr4 : kX12_readDevice 54 [some (.ref 64), none] [] (qm Re K2 e) = kX12_readDevice 73 [some (.ref 64), none] [] (qm (q_up R4 75 D (nI m')) K4 e) := by
          rw [eX12_readDevice_54, b4 R4 K4 g2]
          simp only [Option.bind_some, Option.toList_some, Option.toList_none, List.nil_append, List.cons_append, q_ck_tt, Bool.and_true, Bool.true_and, if_true, if_false, reduceCtorEq]
          rw [re46, eX12_readDevice_72, q_in_nI (by omega) (by omega), nI_n (by omega), Bool.true_and, q_ck_tt]
        rw [hc4, hr4]
        have cf4 : ∀ p, p ≠ 31 → p ≠ 20 → C4 p = C2 p := fun p x1 x2 => by rw [g3.1.1 p x1, q_up_at3 _ _ x2, b6.1.1 p x1]
        have rf4 : ∀ p, p ≠ 64 → R4 p = Re p := fun p x1 => by rw [g3.2.2.1.1 p x1, b6.2.2.1.1 p x1]
        have rf64 : ∀ k, k ≠ 4 → k ≠ 6 → k ≠ 7 → k ≠ 8 → R4 64 k = Re 64 k := fun k x1 x2 x3 x4 => by rw [g3.2.2.1.2 k x1 x2 x3 x4, b6.2.2.1.2 k x1 x2 x3 x4]
        have c314 : ∀ k, k ≠ 3 → k ≠ 4 → k ≠ 5 → k ≠ 6 → C4 31 k = C2 31 k := fun k x1 x2 x3 x4 => by rw [g3.1.2 k x1 x2 x3 x4, q_up_at3 _ _ (by decide), b6.1.2 k x1 x2 x3 x4]
        refine q_Res.mono (q_dev144 (cl := cl) ?_ ?_ (q_Nm_ad (q_Nm_ad n1' (by decide) b6) (by decide) g3) (q_Nm_ad (q_Nm_ad n2' (by decide) b6) (by decide) g3) hD ?_ ?_ ⟨m, hm2, hm, ?_⟩ (Or.inr ⟨m', by omega, q_up_at1 _ _ _ _⟩)) (q_Gf_R rfl (q_Gf_trans (q_Gf_C (by omega) b6.gf) g3.gf)) (Nat.le_of_lt (Nat.lt_trans b7 g4))
        · exact q_Pt_eq g5 rfl (fun _ _ _ => rfl) rfl rfl (q_up_at3 _ _ (by decide)) (fun k _ _ _ => by rw [q_up_at3 _ _ (by decide)]) rfl
        · refine q_B6_st hB2 (cf4 17 (by decide) (by decide)) (fun p _ _ => cf4 p (by omega) (by omega)) (fun d hd => ⟨by rw [cf4 19 (by decide) (by decide)], ?_, by rw [cf4 21 (by decide) (by decide)]⟩) (fun k _ _ => c314 k (by omega) (by omega) (by omega) (by omega)) (fun p _ _ => by rw [q_up_at3 _ _ (by omega), rf4 p (by omega)]) (fun d hd => ⟨by rw [q_up_at3 _ _ (by decide), rf4 74 (by decide)], by rw [q_up_at2 _ _ (by omega), rf4 75 (by decide)], by rw [q_up_at3 _ _ (by decide), rf4 76 (by decide)]⟩) ⟨by rw [q_up_at3 _ _ (by decide), rf4 67 (by decide)], by rw [q_up_at3 _ _ (by decide), rf4 68 (by decide)]⟩ (fun k _ => by rw [q_up_at3 _ _ (by decide), rf64 k (by omega) (by omega) (by omega) (by omega)])
          rw [g3.1.1 20 (by decide), q_up_at2 _ _ (by omega), b6.1.1 20 (by decide)]
        · rw [q_up_at3 _ _ (by decide), rf4 74 (by decide), r74, cf4 19 (by decide) (by decide), c19]
        · rw [q_up_at1, g3.1.1 20 (by decide), q_up_at1]
        · rw [q_up_at3 _ _ (by decide), rf4 74 (by decide), r74]
      · exact absurd hb' b2
      · obtain ⟨R'', d1, d2⟩ := q_dv73_f (R := q_up R' 75 D x) (K := K') (e := e) (D := D) (by rw [q_up_at3 _ _ (by decide)]; exact b5.2.1) (by rw [q_up_at3 _ _ (by decide), b6.2.2 46 (by decide) (by decide) (by decide) (by decide) (by decide) (by decide)]; exact re46) hD
        refine Or.inr (q_Bad.of (C' := C') (J' := J3) (R1 := R') ?_ b6.1 b5 (R' := R'') ?_ (q_Sc_trans (q_Sc_up rfl (by omega) (q_Sc_refl R')) d2))
        · rw [eX9_deviceLine_111, b2]
          simp only [Option.bind_some, Option.toList_some, Option.toList_none, List.nil_append, List.cons_append, q_ck_tt, Bool.and_true, Bool.true_and, if_true, if_false, reduceCtorEq]
          rw [eX9_deviceLine_115, b3]
          simp only [Option.bind_some, Option.toList_some, Option.toList_none, List.nil_append, List.cons_append, q_ck_tt, Bool.and_true, Bool.true_and, if_true, if_false, reduceCtorEq]
          rw [eX9_deviceLine_122, if_pos rfl, eX9_deviceLine_125]
        · rw [eX12_readDevice_54, b4]
          simp only [Option.bind_some, Option.toList_some, Option.toList_none, List.nil_append, List.cons_append, q_ck_tt, Bool.and_true, Bool.true_and, if_true, if_false, reduceCtorEq]
          rw [re46, eX12_readDevice_72, q_in_nI (by omega) (by omega), nI_n (by omega), Bool.true_and, q_ck_tt, d1]
  · have r46 : R' 64 46 = nI D := by rw [a5.2.2 46 (by decide) (by decide) (by decide) (by decide) (by decide) (by decide)]; exact hR46
    obtain ⟨R'', d1, d2⟩ := q_dv73_f (R := q_up (q_up R' 74 D x) 75 D (-1)) (K := K) (e := e) (D := D) (by rw [q_up_at3 _ _ (by decide), q_up_at3 _ _ (by decide)]; exact a4.2.1) (by rw [q_up_at3 _ _ (by decide), q_up_at3 _ _ (by decide)]; exact r46) hD
    refine Or.inr (q_Bad.of (C' := C') (J' := J) (R1 := R') ?_ a5.1 a4 (R' := R'') ?_ (q_Sc_trans (q_Sc_up rfl (by omega) (q_Sc_up rfl (by omega) (q_Sc_refl R'))) d2))
    · rw [eX9_deviceLine_67, a1]
      simp only [Option.bind_some, Option.toList_some, Option.toList_none, List.nil_append, List.cons_append, q_ck_tt, Bool.and_true, Bool.true_and, if_true, if_false, reduceCtorEq]
      rw [eX9_deviceLine_72, if_pos rfl, eX9_deviceLine_84]
    · rw [eX12_readDevice_9, a3]
      simp only [Option.bind_some, Option.toList_some, Option.toList_none, List.nil_append, List.cons_append, q_ck_tt, Bool.and_true, Bool.true_and, if_true, if_false, reduceCtorEq]
      rw [hR46, eX12_readDevice_26, r46, q_in_nI (by omega) (by omega), nI_n (by omega)]
      simp only [Option.bind_some, Option.toList_some, Option.toList_none, List.nil_append, List.cons_append, q_ck_tt, Bool.and_true, Bool.true_and, if_true, if_false, reduceCtorEq]
      rw [if_neg (q_pos_ne a4.2.1), d1]
  · have r46 : R' 64 46 = nI D := by rw [a6.2.2 46 (by decide) (by decide) (by decide) (by decide) (by decide) (by decide)]; exact hR46
    obtain ⟨R'', d1, d2⟩ := q_dv73_f (R := q_up (q_up R' 74 D x) 75 D (-1)) (K := K') (e := e) (D := D) (by rw [q_up_at3 _ _ (by decide), q_up_at3 _ _ (by decide)]; exact a5.2.1) (by rw [q_up_at3 _ _ (by decide), q_up_at3 _ _ (by decide)]; exact r46) hD
    refine Or.inr (q_Bad.of (C' := C') (J' := J1) (R1 := R') ?_ a6.1 a5 (R' := R'') ?_ (q_Sc_trans (q_Sc_up rfl (by omega) (q_Sc_up rfl (by omega) (q_Sc_refl R'))) d2))
    · rw [eX9_deviceLine_67, a1]
      simp only [Option.bind_some, Option.toList_some, Option.toList_none, List.nil_append, List.cons_append, q_ck_tt, Bool.and_true, Bool.true_and, if_true, if_false, reduceCtorEq]
      rw [eX9_deviceLine_72, if_neg (by decide), eX9_deviceLine_75, a3]
      simp only [Option.bind_some, Option.toList_some, Option.toList_none, List.nil_append, List.cons_append, q_ck_tt, Bool.and_true, Bool.true_and, if_true, if_false, reduceCtorEq]
      rw [eX9_deviceLine_81, if_pos rfl, eX9_deviceLine_84]
    · rw [eX12_readDevice_9, a4]
      simp only [Option.bind_some, Option.toList_some, Option.toList_none, List.nil_append, List.cons_append, q_ck_tt, Bool.and_true, Bool.true_and, if_true, if_false, reduceCtorEq]
      rw [hR46, eX12_readDevice_26, r46, q_in_nI (by omega) (by omega), nI_n (by omega)]
      simp only [Option.bind_some, Option.toList_some, Option.toList_none, List.nil_append, List.cons_append, q_ck_tt, Bool.and_true, Bool.true_and, if_true, if_false, reduceCtorEq]
      rw [if_neg (q_pos_ne a5.2.1), d1]
theorem q_dev {v : Nat → Nat} {n s L : Nat} {C : Nat → Nat → Int32} {J : Nat → Nat → Int64} {R : Nat → Nat → Int32} {K : Nat → Nat → Int64} {e : QP} {D N : Nat} {cl : Nat → Nat} (h : q_Pt v n C J R K s) (h2 : C 31 5 = 2) (hB : q_BR C J R K D N cl) (hD : D < 4) : q_Res v n s L e C J R K (mX9_deviceLine [.ref 31] (qm C J (3, 17, 17, 2, L))) (mX12_readDevice [.ref 64] (qm R K e)) := by
  obtain ⟨hB6, n1, n2⟩ := hB
  have hC0 : C 17 0 = nI D := hB6.1.1.1
  have hR46 : R 64 46 = nI D := hB6.1.1.2.1
  have c0 : mX9_deviceLine [.ref 31] (qm C J (3, 17, 17, 2, L)) = kX9_deviceLine 19 [some (.ref 31), some (.int (nI D))] [] (qm C J (3, 17, 17, 2, L)) := by rw [bX9_deviceLine, eX9_deviceLine_0, hC0, if_pos (show nI D < (4 : Int32) from nI_lt (b := 4) hD (by omega))]
  have hnn := q_newName_18 (L := L) (e := e) h (by rw [h2]; decide) (by rw [h2]; decide) n1 hD
  rw [show nI 0 = (0 : Int32) from rfl] at hnn
  rcases hnn with ⟨C1, J1, R1, K1, s1, e1, e2, e3, e4, e5, e6, e7, e8⟩ | ⟨C1, J1, C', R', K', e1, e2, e3, e4, e5⟩
  · have hp1 : q_Pt v n (q_up C1 20 D (-1)) (q_up J1 18 D (J1 31 7)) R1 (q_up K1 66 (0 + D) (K1 64 9)) s1 := q_Pt_eq e6 (q_up_at3 _ _ (by decide)) (fun k _ _ => by rw [q_up_at3 _ _ (by decide)]) (q_up_at3 _ _ (by decide)) (by rw [q_up_at3 _ _ (by decide)]) rfl (fun _ _ _ _ => rfl) (by rw [q_up_at3 _ _ (by decide)])
    have h53 : q_up C1 20 D (-1) 31 5 = 3 := by rw [q_up_at3 _ _ (by decide)]; exact e7
    obtain ⟨C2, J2, R2, K2, s2, f1, f2, f3, f4, f5⟩ := q_adv (L := L) (e := e) hp1 (by rw [h53]; decide) (by rw [h53]; decide)
    have c1 : kX9_deviceLine 19 [some (.ref 31), some (.int (nI D))] [] (qm C J (3, 17, 17, 2, L)) = kX9_deviceLine 67 [some (.ref 31), some (.int (nI D))] [] (qm C2 J2 (3, 17, 17, 2, L)) := by
      rw [eX9_deviceLine_19, e1]
      simp only [Option.bind_some, Option.toList_some, Option.toList_none, List.nil_append, List.cons_append, q_ck_tt, Bool.and_true, Bool.true_and, if_true, if_false, reduceCtorEq]
      rw [eX9_deviceLine_23, e2]
      simp only [Option.bind_some, Option.toList_some, Option.toList_none, List.nil_append, List.cons_append, q_ck_tt, Bool.and_true, Bool.true_and, if_true, if_false, reduceCtorEq]
      rw [eX9_deviceLine_35, if_neg (by decide), eX9_deviceLine_40, q_in_nI (by omega) (by omega), nI_n (by omega)]
      simp only [Option.bind_some, Option.toList_some, Option.toList_none, List.nil_append, List.cons_append, q_ck_tt, Bool.and_true, Bool.true_and, if_true, if_false, reduceCtorEq]
      rw [eX9_deviceLine_64, f1]
      simp only [Option.bind_some, Option.toList_some, Option.toList_none, List.nil_append, List.cons_append, q_ck_tt, Bool.and_true, Bool.true_and, if_true, if_false, reduceCtorEq]
    have r1 : mX12_readDevice [.ref 64] (qm R K e) = kX12_readDevice 9 [some (.ref 64), none] [] (qm R2 K2 e) := by
      rw [bX12_readDevice, eX12_readDevice_0, hR46, e3 R2 K2 f2]
      simp only [Option.bind_some, Option.toList_some, Option.toList_none, List.nil_append, List.cons_append, q_ck_tt, Bool.and_true, Bool.true_and, if_true, if_false, reduceCtorEq]
    rw [c0, c1, r1]
    refine q_Res.mono (q_dev67 (cl := cl) f5 ?_ (q_Nm_ad e8 (by decide) f3) (q_Nm_ad (q_Nm_eq (q_Nm_ad n2 (by decide) e4) (fun i _ => by rw [q_up_at3 _ _ (by decide)]) (fun i _ => by rw [q_up_at2 _ _ (by omega)])) (by decide) f3) hD ?_) (q_Gf_trans (q_Gf_C (by omega) (q_Gf_J (by omega) (q_Gf_K (Or.inr rfl) e4.gf))) f3.gf) (Nat.le_of_lt (Nat.lt_trans e5 f4))
    · refine q_B6_ad (q_B6_st (q_B6_ad hB6 e4) (q_up_at3 _ _ (by decide)) (fun p _ _ => q_up_at3 _ _ (by omega)) (fun d hd => ⟨by rw [q_up_at3 _ _ (by decide)], by rw [q_up_at2 _ _ (by omega)], by rw [q_up_at3 _ _ (by decide)]⟩) (fun k _ _ => by rw [q_up_at3 _ _ (by decide)]) (fun p _ _ => rfl) (fun d _ => ⟨rfl, rfl, rfl⟩) ⟨rfl, rfl⟩ (fun k _ => rfl)) f3
    · rw [f3.1.1 20 (by decide), q_up_at1]
  · obtain ⟨R'', d1, d2⟩ := q_dv9_f (R := R') (K := K') (e := e) (D := D) e4.2.1 (by rw [e5.2.2 46 (by decide) (by decide) (by decide) (by decide) (by decide) (by decide)]; exact hR46) hD
    refine Or.inr (q_Bad.of (C' := C') (J' := J1) (R1 := R') ?_ e5.1 e4 (R' := R'') ?_ d2)
    · rw [c0, eX9_deviceLine_19, e1]
      simp only [Option.bind_some, Option.toList_some, Option.toList_none, List.nil_append, List.cons_append, q_ck_tt, Bool.and_true, Bool.true_and, if_true, if_false, reduceCtorEq]
      rw [eX9_deviceLine_23, e2]
      simp only [Option.bind_some, Option.toList_some, Option.toList_none, List.nil_append, List.cons_append, q_ck_tt, Bool.and_true, Bool.true_and, if_true, if_false, reduceCtorEq]
      rw [eX9_deviceLine_35, if_pos rfl, eX9_deviceLine_38]
    · rw [bX12_readDevice, eX12_readDevice_0, hR46, e3]
      simp only [Option.bind_some, Option.toList_some, Option.toList_none, List.nil_append, List.cons_append, q_ck_tt, Bool.and_true, Bool.true_and, if_true, if_false, reduceCtorEq]
      exact d1
