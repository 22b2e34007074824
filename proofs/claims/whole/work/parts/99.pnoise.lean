/-! ===== lines: noise, draw ===== -/
theorem q_B6_z {C R C' R' : Nat → Nat → Int32} {D N : Nat} {cl : Nat → Nat} (h : q_B6 C R D N cl) (c17 : ∀ k, k < 14 → C' 17 k = C 17 k) (cc : ∀ p, 23 ≤ p → p ≤ 29 → C' p = C p) (cd : ∀ d, d < D → C' 19 d = C 19 d ∧ C' 20 d = C 20 d ∧ C' 21 d = C 21 d) (c31 : C' 31 9 = C 31 9)
    (rr : ∀ p, 77 ≤ p → p ≤ 82 → R' p = R p) (rd : ∀ d, d < D → R' 74 d = R 74 d ∧ R' 75 d = R 75 d ∧ R' 76 d = R 76 d) (r6 : R' 67 = R 67 ∧ R' 68 = R 68) (r64 : ∀ k, (k = 17 ∨ k = 20 ∨ k = 24 ∨ k = 46 ∨ k = 47) → R' 64 k = R 64 k) (hz : q_Rz C' R') : q_B6 C' R' D N cl := by
  obtain ⟨h1, h2, h3, h4, h5, h6⟩ := h
  refine ⟨?_, ?_, ?_, ?_, ?_, hz⟩
  · obtain ⟨a, b, c⟩ := h1
    refine ⟨by rw [c17 0 (by omega), r64 46 (by omega)]; exact a, by rw [c17 5 (by omega), r64 47 (by omega)]; exact b, fun d hd => ?_⟩
    obtain ⟨x1, x2, x3⟩ := cd d hd
    obtain ⟨y1, y2, y3⟩ := rd d hd
    rw [x1, x2, x3, y1, y2, y3]
    exact c d hd
  · unfold q_Rk
    rw [c17 11 (by omega), cc 23 (by omega) (by omega), cc 24 (by omega) (by omega), cc 26 (by omega) (by omega), rr 77 (by omega) (by omega), rr 78 (by omega) (by omega)]
    exact h2
  · unfold q_Rs2
    rw [cc 25 (by omega) (by omega), rr 79 (by omega) (by omega)]
    exact h3
  · have hq : qrd R' N = qrd R N := by
      funext k
      unfold qrd
      rw [rr 80 (by omega) (by omega), rr 81 (by omega) (by omega), rr 82 (by omega) (by omega)]
    unfold q_Rf
    rw [hq, cc 27 (by omega) (by omega), c17 11 (by omega), rr 81 (by omega) (by omega)]
    exact h4
  · unfold q_Ro
    rw [cc 28 (by omega) (by omega), cc 29 (by omega) (by omega), r6.1, r6.2, c31, r64 24 (by omega), r64 20 (by omega), r64 17 (by omega)]
    exact h5
theorem q_noise {v : Nat → Nat} {n s L : Nat} {C : Nat → Nat → Int32} {J : Nat → Nat → Int64} {R : Nat → Nat → Int32} {K : Nat → Nat → Int64} {e : QP} {D N : Nat} {cl : Nat → Nat} (h : q_Pt v n C J R K s) (h2 : C 31 5 = 2) (h6 : C 31 6 = nI 15) (hB : q_BR C J R K D N cl) (h0 : C 31 10 = 0) : ∃ Y, q_Res v n s L e C J R K (mX9_noiseLine [.ref 31] (qm C J (3, 17, 17, 2, L))) Y ∧ ∀ R' K', Y = some (none, qm R' K' e) → kX12_readLine 143 [some (.ref 64)] [] (qm R K e) = kX12_readLine 210 [some (.ref 64)] [] (qm R' K' e) := by
  obtain ⟨hB6, n1, n2⟩ := hB
  have hp0 : q_Pt v n (q_up C 31 10 1) J (q_up R 64 54 1) K s := q_Pt_eq h (q_up_at3 _ _ (by decide)) (fun k _ _ => by rw [q_up_at2 _ _ (by omega)]) rfl rfl (q_up_at3 _ _ (by decide)) (fun k _ _ _ => by rw [q_up_at2 _ _ (by omega)]) rfl
  have hc0 : mX9_noiseLine [.ref 31] (qm C J (3, 17, 17, 2, L)) = (mX9_advance [.ref 31] (qm (q_up C 31 10 1) J (3, 17, 17, 2, L))).bind (fun r => kX9_noiseLine 22 [some (.ref 31)] (r.1.toList ++ []) r.2) := by
    rw [bX9_noiseLine, eX9_noiseLine_0, h0, if_pos rfl, eX9_noiseLine_13]
  have hr0 : kX12_readLine 143 [some (.ref 64)] [] (qm R K e) = (mX12_toldBy [.ref 64, .long 474315584357, .int 0, .int 100] (qm (q_up R 64 54 1) K e)).bind (fun r => kX12_readLine 159 [some (.ref 64)] (r.1.toList ++ [.ref 64]) r.2) := by rw [eX12_readLine_143]
  have g0 : q_Gf C J R K (q_up C 31 10 1) J (q_up R 64 54 1) K := q_Gf_R rfl (q_Gf_C (by omega) (q_Gf_refl C J R K))
  rcases q_tNum (L := L) (e := e) hp0 (k := 15) (by decide) (c := 15) (w := 474315584357) rfl (by decide +kernel) 0 100 with ⟨C1, J1, R1, K1, s1, m, a1, a2, a3, a4, ⟨m1, m2, m3, m4, m5⟩, a6, a7, a8⟩ | ⟨C', R', x, a1, a2, a3, a4, a5⟩ | ⟨C1, J1, C', R', K', x, a1, a2, a3, a4, a5, a6⟩
  · have hm : m ≤ 100 := q_num_le (b := 100) m1 m5
    have hp : q_Pt v n (q_up C1 17 14 (nI m)) J1 R1 K1 s1 := q_Pt_eq a8 (by rw [q_up_at3 _ _ (by decide)]) (fun k _ _ => by rw [q_up_at3 _ _ (by decide)]) rfl rfl rfl (fun _ _ _ _ => rfl) rfl
    have h5 : q_up C1 17 14 (nI m) 31 5 = 4 := by rw [q_up_at3 _ _ (by decide)]; exact m2
    obtain ⟨C2, J2, R2, K2, s2, f1, f2, f3, f4, f5⟩ := q_adv (L := L) (e := e) hp (by rw [h5]; decide) (by rw [h5]; decide)
    refine ⟨some (none, qm (q_up R2 64 48 (nI m)) K2 e), Or.inl ⟨C2, J2, q_up R2 64 48 (nI m), K2, D, N, cl, s2, ?_, rfl, ?_, by omega, ?_, ?_, ?_, ?_⟩, ?_⟩
    · rw [hc0, a2]
      simp only [Option.bind_some, Option.toList_some, Option.toList_none, List.nil_append, List.cons_append, q_ck_tt, Bool.and_true, Bool.true_and, if_true, if_false, reduceCtorEq]
      rw [eX9_noiseLine_22, a3]
      simp only [Option.bind_some, Option.toList_some, Option.toList_none, List.nil_append, List.cons_append, q_ck_tt, Bool.and_true, Bool.true_and, if_true, if_false, reduceCtorEq]
      rw [eX9_noiseLine_29, if_neg (by decide), eX9_noiseLine_34, m3, f1]
      simp only [Option.bind_some, Option.toList_some, Option.toList_none, List.nil_append, List.cons_append, q_ck_tt, Bool.and_true, Bool.true_and, if_true, if_false, reduceCtorEq]
      rw [eX9_noiseLine_49]
    · exact q_Gf_R rfl (q_Gf_trans g0 (q_Gf_trans (q_Gf_C (by omega) a6.gf) f3.gf))
    · exact q_Pt_eq f5 rfl (fun _ _ _ => rfl) rfl rfl (q_up_at3 _ _ (by decide)) (fun k _ _ _ => by rw [q_up_at2 _ _ (by omega)]) rfl
    · have cf : ∀ p, p ≠ 31 → p ≠ 17 → C2 p = C p := fun p x1 x2 => by rw [f3.1.1 p x1, q_up_at3 _ _ x2, a6.1.1 p x1, q_up_at3 _ _ x1]
      have rf : ∀ p, p ≠ 64 → q_up R2 64 48 (nI m) p = R p := fun p x1 => by rw [q_up_at3 _ _ x1, f3.2.2.1.1 p x1, a6.2.2.1.1 p x1, q_up_at3 _ _ x1]
      have rf6 : ∀ k, k ≠ 4 → k ≠ 6 → k ≠ 7 → k ≠ 8 → k ≠ 54 → k ≠ 48 → q_up R2 64 48 (nI m) 64 k = R 64 k := fun k x1 x2 x3 x4 x5 x6 => by rw [q_up_at2 _ _ x6, f3.2.2.1.2 k x1 x2 x3 x4, a6.2.2.1.2 k x1 x2 x3 x4, q_up_at2 _ _ x5]
      have c31 : ∀ k, k ≠ 3 → k ≠ 4 → k ≠ 5 → k ≠ 6 → k ≠ 10 → C2 31 k = C 31 k := fun k x1 x2 x3 x4 x5 => by rw [f3.1.2 k x1 x2 x3 x4, q_up_at3 _ _ (by decide), a6.1.2 k x1 x2 x3 x4, q_up_at2 _ _ x5]
      have c17 : ∀ k, k ≠ 14 → C2 17 k = C 17 k := fun k x1 => by rw [f3.1.1 17 (by decide), q_up_at2 _ _ x1, a6.1.1 17 (by decide), q_up_at3 _ _ (by decide)]
      refine q_B6_z hB6 (fun k _ => c17 k (by omega)) (fun p _ _ => cf p (by omega) (by omega)) (fun d _ => ⟨by rw [cf 19 (by decide) (by decide)], by rw [cf 20 (by decide) (by decide)], by rw [cf 21 (by decide) (by decide)]⟩) (c31 9 (by decide) (by decide) (by decide) (by decide) (by decide)) (fun p _ _ => rf p (by omega)) (fun d _ => ⟨by rw [rf 74 (by decide)], by rw [rf 75 (by decide)], by rw [rf 76 (by decide)]⟩) ⟨rf 67 (by decide), rf 68 (by decide)⟩ (fun k _ => rf6 k (by omega) (by omega) (by omega) (by omega) (by omega) (by omega)) ?_
      have c1 : C2 31 10 = 1 := by rw [f3.1.2 10 (by decide) (by decide) (by decide) (by decide), q_up_at3 _ _ (by decide), a6.1.2 10 (by decide) (by decide) (by decide) (by decide), q_up_at1]
      have r1 : q_up R2 64 48 (nI m) 64 54 = 1 := by rw [q_up_at2 _ _ (by decide), f3.2.2.1.2 54 (by decide) (by decide) (by decide) (by decide), a6.2.2.1.2 54 (by decide) (by decide) (by decide) (by decide), q_up_at1]
      have c2 : C2 17 14 = nI m := by rw [f3.1.1 17 (by decide), q_up_at1]
      have r2 : q_up R2 64 48 (nI m) 64 48 = nI m := q_up_at1 _ _ _ _
      obtain ⟨z1, z2⟩ := hB6.2.2.2.2.2
      refine ⟨⟨by rw [c1, r1], Or.inr r1, m, hm, c2, r2⟩, ?_⟩
      rw [rf6 3 (by decide) (by decide) (by decide) (by decide) (by decide) (by decide), c31 12 (by decide) (by decide) (by decide) (by decide) (by decide), c31 11 (by decide) (by decide) (by decide) (by decide) (by decide), rf6 55 (by decide) (by decide) (by decide) (by decide) (by decide) (by decide), c17 15 (by decide), rf6 49 (by decide) (by decide) (by decide) (by decide) (by decide) (by decide)]
      exact z2
    · exact q_Nm_ad (q_Nm_ad n1 (by decide) a6) (by decide) f3
    · exact q_Nm_ad (q_Nm_ad n2 (by decide) a6) (by decide) f3
    · intro R' K' hY
      have hM : qm (q_up R2 64 48 (nI m)) K2 e = qm R' K' e := by injection hY with hY; injection hY
      rw [hr0, a4 R2 K2 f2]
      simp only [Option.bind_some, Option.toList_some, Option.toList_none, List.nil_append, List.cons_append, q_ck_tt, Bool.and_true, Bool.true_and, if_true, if_false, reduceCtorEq]
      rw [eX12_readLine_159, hM]
  · exact absurd ⟨by rw [q_up_at2 _ _ (by decide)]; exact h2, by rw [q_up_at2 _ _ (by decide)]; exact h6⟩ a2
  · refine ⟨some (none, qm (q_up R' 64 48 x) K' e), Or.inr (q_Bad.of (C' := C') (J' := J1) (R1 := R') ?_ (q_Gf_trans g0 a6.1) a5 rfl (q_Sc_up rfl (by omega) (q_Sc_refl R'))), ?_⟩
    · rw [hc0, a2]
      simp only [Option.bind_some, Option.toList_some, Option.toList_none, List.nil_append, List.cons_append, q_ck_tt, Bool.and_true, Bool.true_and, if_true, if_false, reduceCtorEq]
      rw [eX9_noiseLine_22, a3]
      simp only [Option.bind_some, Option.toList_some, Option.toList_none, List.nil_append, List.cons_append, q_ck_tt, Bool.and_true, Bool.true_and, if_true, if_false, reduceCtorEq]
      rw [eX9_noiseLine_29, if_pos rfl, eX9_noiseLine_32]
    · intro R2 K2 hY
      have hM : qm (q_up R' 64 48 x) K' e = qm R2 K2 e := by injection hY with hY; injection hY
      rw [hr0, a4]
      simp only [Option.bind_some, Option.toList_some, Option.toList_none, List.nil_append, List.cons_append, q_ck_tt, Bool.and_true, Bool.true_and, if_true, if_false, reduceCtorEq]
      rw [eX12_readLine_159, hM]
theorem q_draw {v : Nat → Nat} {n s L : Nat} {C : Nat → Nat → Int32} {J : Nat → Nat → Int64} {R : Nat → Nat → Int32} {K : Nat → Nat → Int64} {e : QP} {D N : Nat} {cl : Nat → Nat} (h : q_Pt v n C J R K s) (h2 : C 31 5 = 2) (h6 : C 31 6 = nI 16) (hB : q_BR C J R K D N cl) (h0 : C 31 11 = 0) : ∃ Y, q_Res v n s L e C J R K (mX9_drawLine [.ref 31] (qm C J (3, 17, 17, 2, L))) Y ∧ ∀ R' K', Y = some (none, qm R' K' e) → kX12_readLine 182 [some (.ref 64)] [] (qm R K e) = kX12_readLine 210 [some (.ref 64)] [] (qm R' K' e) := by
  obtain ⟨hB6, n1, n2⟩ := hB
  have hp0 : q_Pt v n (q_up C 31 11 1) J (q_up R 64 55 1) K s := q_Pt_eq h (q_up_at3 _ _ (by decide)) (fun k _ _ => by rw [q_up_at2 _ _ (by omega)]) rfl rfl (q_up_at3 _ _ (by decide)) (fun k _ _ _ => by rw [q_up_at2 _ _ (by omega)]) rfl
  have hc0 : mX9_drawLine [.ref 31] (qm C J (3, 17, 17, 2, L)) = (mX9_advance [.ref 31] (qm (q_up C 31 11 1) J (3, 17, 17, 2, L))).bind (fun r => kX9_drawLine 22 [some (.ref 31)] (r.1.toList ++ []) r.2) := by
    rw [bX9_drawLine, eX9_drawLine_0, h0, if_pos rfl, eX9_drawLine_13]
  have hr0 : kX12_readLine 182 [some (.ref 64)] [] (qm R K e) = (mX12_toldBy [.ref 64, .long 1685217655, .int 0, .int 999] (qm (q_up R 64 55 1) K e)).bind (fun r => kX12_readLine 199 [some (.ref 64)] (r.1.toList ++ [.ref 64]) r.2) := by rw [eX12_readLine_182]
  have g0 : q_Gf C J R K (q_up C 31 11 1) J (q_up R 64 55 1) K := q_Gf_R rfl (q_Gf_C (by omega) (q_Gf_refl C J R K))
  rcases q_tNum (L := L) (e := e) hp0 (k := 16) (by decide) (c := 16) (w := 1685217655) rfl (by decide +kernel) 0 999 with ⟨C1, J1, R1, K1, s1, m, a1, a2, a3, a4, ⟨m1, m2, m3, m4, m5⟩, a6, a7, a8⟩ | ⟨C', R', x, a1, a2, a3, a4, a5⟩ | ⟨C1, J1, C', R', K', x, a1, a2, a3, a4, a5, a6⟩
  · have hm : m ≤ 999 := q_num_le (b := 999) m1 m5
    have hp : q_Pt v n (q_up C1 17 15 (nI m)) J1 R1 K1 s1 := q_Pt_eq a8 (by rw [q_up_at3 _ _ (by decide)]) (fun k _ _ => by rw [q_up_at3 _ _ (by decide)]) rfl rfl rfl (fun _ _ _ _ => rfl) rfl
    have h5 : q_up C1 17 15 (nI m) 31 5 = 4 := by rw [q_up_at3 _ _ (by decide)]; exact m2
    obtain ⟨C2, J2, R2, K2, s2, f1, f2, f3, f4, f5⟩ := q_adv (L := L) (e := e) hp (by rw [h5]; decide) (by rw [h5]; decide)
    refine ⟨some (none, qm (q_up R2 64 49 (nI m)) K2 e), Or.inl ⟨C2, J2, q_up R2 64 49 (nI m), K2, D, N, cl, s2, ?_, rfl, ?_, by omega, ?_, ?_, ?_, ?_⟩, ?_⟩
    · rw [hc0, a2]
      simp only [Option.bind_some, Option.toList_some, Option.toList_none, List.nil_append, List.cons_append, q_ck_tt, Bool.and_true, Bool.true_and, if_true, if_false, reduceCtorEq]
      rw [eX9_drawLine_22, a3]
      simp only [Option.bind_some, Option.toList_some, Option.toList_none, List.nil_append, List.cons_append, q_ck_tt, Bool.and_true, Bool.true_and, if_true, if_false, reduceCtorEq]
      rw [eX9_drawLine_30, if_neg (by decide), eX9_drawLine_35, m3, f1]
      simp only [Option.bind_some, Option.toList_some, Option.toList_none, List.nil_append, List.cons_append, q_ck_tt, Bool.and_true, Bool.true_and, if_true, if_false, reduceCtorEq]
      rw [eX9_drawLine_50]
    · exact q_Gf_R rfl (q_Gf_trans g0 (q_Gf_trans (q_Gf_C (by omega) a6.gf) f3.gf))
    · exact q_Pt_eq f5 rfl (fun _ _ _ => rfl) rfl rfl (q_up_at3 _ _ (by decide)) (fun k _ _ _ => by rw [q_up_at2 _ _ (by omega)]) rfl
    · have cf : ∀ p, p ≠ 31 → p ≠ 17 → C2 p = C p := fun p x1 x2 => by rw [f3.1.1 p x1, q_up_at3 _ _ x2, a6.1.1 p x1, q_up_at3 _ _ x1]
      have rf : ∀ p, p ≠ 64 → q_up R2 64 49 (nI m) p = R p := fun p x1 => by rw [q_up_at3 _ _ x1, f3.2.2.1.1 p x1, a6.2.2.1.1 p x1, q_up_at3 _ _ x1]
      have rf6 : ∀ k, k ≠ 4 → k ≠ 6 → k ≠ 7 → k ≠ 8 → k ≠ 55 → k ≠ 49 → q_up R2 64 49 (nI m) 64 k = R 64 k := fun k x1 x2 x3 x4 x5 x6 => by rw [q_up_at2 _ _ x6, f3.2.2.1.2 k x1 x2 x3 x4, a6.2.2.1.2 k x1 x2 x3 x4, q_up_at2 _ _ x5]
      have c31 : ∀ k, k ≠ 3 → k ≠ 4 → k ≠ 5 → k ≠ 6 → k ≠ 11 → C2 31 k = C 31 k := fun k x1 x2 x3 x4 x5 => by rw [f3.1.2 k x1 x2 x3 x4, q_up_at3 _ _ (by decide), a6.1.2 k x1 x2 x3 x4, q_up_at2 _ _ x5]
      have c17 : ∀ k, k ≠ 15 → C2 17 k = C 17 k := fun k x1 => by rw [f3.1.1 17 (by decide), q_up_at2 _ _ x1, a6.1.1 17 (by decide), q_up_at3 _ _ (by decide)]
      refine q_B6_z hB6 (fun k _ => c17 k (by omega)) (fun p _ _ => cf p (by omega) (by omega)) (fun d _ => ⟨by rw [cf 19 (by decide) (by decide)], by rw [cf 20 (by decide) (by decide)], by rw [cf 21 (by decide) (by decide)]⟩) (c31 9 (by decide) (by decide) (by decide) (by decide) (by decide)) (fun p _ _ => rf p (by omega)) (fun d _ => ⟨by rw [rf 74 (by decide)], by rw [rf 75 (by decide)], by rw [rf 76 (by decide)]⟩) ⟨rf 67 (by decide), rf 68 (by decide)⟩ (fun k _ => rf6 k (by omega) (by omega) (by omega) (by omega) (by omega) (by omega)) ?_
      have c1 : C2 31 11 = 1 := by rw [f3.1.2 11 (by decide) (by decide) (by decide) (by decide), q_up_at3 _ _ (by decide), a6.1.2 11 (by decide) (by decide) (by decide) (by decide), q_up_at1]
      have r1 : q_up R2 64 49 (nI m) 64 55 = 1 := by rw [q_up_at2 _ _ (by decide), f3.2.2.1.2 55 (by decide) (by decide) (by decide) (by decide), a6.2.2.1.2 55 (by decide) (by decide) (by decide) (by decide), q_up_at1]
      have c2 : C2 17 15 = nI m := by rw [f3.1.1 17 (by decide), q_up_at1]
      have r2 : q_up R2 64 49 (nI m) 64 49 = nI m := q_up_at1 _ _ _ _
      obtain ⟨z1, z2⟩ := hB6.2.2.2.2.2
      refine ⟨?_, ⟨by rw [c1, r1], Or.inr r1, m, hm, c2, r2⟩, by rw [rf6 3 (by decide) (by decide) (by decide) (by decide) (by decide) (by decide), c31 12 (by decide) (by decide) (by decide) (by decide) (by decide)]; exact z2.2⟩
      rw [c31 10 (by decide) (by decide) (by decide) (by decide) (by decide), rf6 54 (by decide) (by decide) (by decide) (by decide) (by decide) (by decide), c17 14 (by decide), rf6 48 (by decide) (by decide) (by decide) (by decide) (by decide) (by decide)]
      exact z1
    · exact q_Nm_ad (q_Nm_ad n1 (by decide) a6) (by decide) f3
    · exact q_Nm_ad (q_Nm_ad n2 (by decide) a6) (by decide) f3
    · intro R' K' hY
      have hM : qm (q_up R2 64 49 (nI m)) K2 e = qm R' K' e := by injection hY with hY; injection hY
      rw [hr0, a4 R2 K2 f2]
      simp only [Option.bind_some, Option.toList_some, Option.toList_none, List.nil_append, List.cons_append, q_ck_tt, Bool.and_true, Bool.true_and, if_true, if_false, reduceCtorEq]
      rw [eX12_readLine_199, hM]
  · exact absurd ⟨by rw [q_up_at2 _ _ (by decide)]; exact h2, by rw [q_up_at2 _ _ (by decide)]; exact h6⟩ a2
  · refine ⟨some (none, qm (q_up R' 64 49 x) K' e), Or.inr (q_Bad.of (C' := C') (J' := J1) (R1 := R') ?_ (q_Gf_trans g0 a6.1) a5 rfl (q_Sc_up rfl (by omega) (q_Sc_refl R'))), ?_⟩
    · rw [hc0, a2]
      simp only [Option.bind_some, Option.toList_some, Option.toList_none, List.nil_append, List.cons_append, q_ck_tt, Bool.and_true, Bool.true_and, if_true, if_false, reduceCtorEq]
      rw [eX9_drawLine_22, a3]
      simp only [Option.bind_some, Option.toList_some, Option.toList_none, List.nil_append, List.cons_append, q_ck_tt, Bool.and_true, Bool.true_and, if_true, if_false, reduceCtorEq]
      rw [eX9_drawLine_30, if_pos rfl, eX9_drawLine_33]
    · intro R2 K2 hY
      have hM : qm (q_up R' 64 49 x) K' e = qm R2 K2 e := by injection hY with hY; injection hY
      rw [hr0, a4]
      simp only [Option.bind_some, Option.toList_some, Option.toList_none, List.nil_append, List.cons_append, q_ck_tt, Bool.and_true, Bool.true_and, if_true, if_false, reduceCtorEq]
      rw [eX12_readLine_199, hM]
