/-! ===== lines: nets, the whole line ===== -/
theorem q_ct_or (a b : Int32) : ∀ n, fb_ct (bt (a ||| b)) n ≤ fb_ct (bt a) n + fb_ct (bt b) n := by
  intro n
  induction n with
  | zero => exact Nat.le_refl _
  | succ n ih =>
    rw [fb_ct_succ, fb_ct_succ, fb_ct_succ, b_or]
    cases bt a n <;> cases bt b n <;> simp <;> omega
theorem q_ct_one {k : Nat} (hk : k < 32) : ∀ n, fb_ct (bt ((1 : Int32) <<< (nI k &&& 31))) n ≤ if k < n then 1 else 0 := by
  intro n
  induction n with
  | zero => exact Nat.zero_le _
  | succ n ih =>
    rw [fb_ct_succ, b_bit hk]
    by_cases h : n = k
    · subst h
      rw [if_neg (by omega)] at ih
      rw [if_pos (by simp), if_pos (by omega)]
      omega
    · rw [if_neg (by simpa using h)]
      by_cases g : k < n
      · rw [if_pos g] at ih
        rw [if_pos (by omega)]
        omega
      · rw [if_neg g] at ih
        rw [if_neg (by omega)]
        omega
theorem q_B6_net {C R C' R' : Nat → Nat → Int32} {D N : Nat} {cl : Nat → Nat} (hN : N < 6) (hO : q_O5 C R D N cl) (hM : q_Rh C R D N cl) (hw : ∃ x, x < 24 ∧ C 26 x = nI N ∧ R 78 x = 1) (hct : fb_ct (bt (C 24 N)) 24 ≤ 3)
    (c5 : C' 17 5 = nI (N + 1)) (c11 : C' 17 11 = C 17 11 ||| C 24 N) (c17 : ∀ k, k ≠ 5 → k ≠ 11 → C' 17 k = C 17 k) (cc : ∀ p, 19 ≤ p → p ≤ 29 → p ≠ 22 → p ≠ 25 → C' p = C p) (c25 : ∀ k, k ≠ N → C' 25 k = C 25 k) (c31 : ∀ k, 9 ≤ k → k ≤ 12 → C' 31 k = C 31 k)
    (hs : C' 25 N = R' 79 N ∧ (R' 79 N = -1 ∨ R' 79 N = 0 ∨ R' 79 N = 1)) (r79 : ∀ k, k ≠ N → R' 79 k = R 79 k) (r80 : ∀ k, k ≠ N → R' 80 k = R 80 k) (r80n : R' 80 N = -1) (r47 : R' 64 47 = nI (N + 1))
    (rr : ∀ p, (p = 67 ∨ p = 68 ∨ (74 ≤ p ∧ p ≤ 78) ∨ p = 81 ∨ p = 82) → R' p = R p) (r64 : ∀ k, (k = 3 ∨ k = 17 ∨ k = 20 ∨ k = 24 ∨ k = 46 ∨ (48 ≤ k ∧ k ≤ 55)) → R' 64 k = R 64 k) : q_B6 C' R' D (N + 1) cl := by
  obtain ⟨h1, h3, h4, h5, h6⟩ := hO
  obtain ⟨a, b, c, d, f, g⟩ := hM
  have h11 : ∀ x, x < 32 → bt (C' 17 11) x = (decide (x < 24) && (!decide (C 26 x = -1) && decide (R 78 x = 1))) := by
    intro x hx
    rw [c11, b_or, d x hx, (c N hN x hx).2]
    by_cases hx2 : x < 24
    · rw [decide_eq_true hx2]
      by_cases h8 : R 78 x = 1
      · rw [decide_eq_true h8]
        by_cases hn : C 26 x = nI N
        · have : ¬ C 26 x = -1 := by rw [hn]; exact nI_ne_m1 (by omega)
          rw [decide_eq_true hn, decide_eq_false this]; rfl
        · rw [decide_eq_false hn]; cases decide (C 26 x = -1) <;> rfl
      · rw [decide_eq_false h8]; simp
    · rw [decide_eq_false hx2]; rfl
  refine ⟨?_, ?_, ?_, ?_, ?_, ?_⟩
  · obtain ⟨x, y, z⟩ := h1
    unfold q_Rn
    rw [c17 0 (by decide) (by decide), r64 46 (by omega), cc 19 (by omega) (by omega) (by omega) (by omega), cc 20 (by omega) (by omega) (by omega) (by omega), cc 21 (by omega) (by omega) (by omega) (by omega), rr 74 (by omega), rr 75 (by omega), rr 76 (by omega)]
    exact ⟨x, ⟨c5, r47, by omega⟩, z⟩
  · unfold q_Rk
    rw [cc 23 (by omega) (by omega) (by omega) (by omega), cc 24 (by omega) (by omega) (by omega) (by omega), cc 26 (by omega) (by omega) (by omega) (by omega), rr 77 (by omega), rr 78 (by omega)]
    refine ⟨a, b, c, h11, fun k hk => ?_, ?_⟩
    · by_cases hkN : k = N
      · rw [hkN]; exact hw
      · exact f k (by omega)
    · rw [c11]
      have := q_ct_or (C 17 11) (C 24 N) 24
      omega
  · refine ⟨fun k hk => ?_, fun k x1 x2 => ?_⟩
    · by_cases hkN : k = N
      · rw [hkN]; exact hs
      · rw [c25 k hkN, r79 k hkN]; exact h3.1 k (by omega)
    · rw [c25 k (by omega)]; exact h3.2 k (by omega) x2
  · obtain ⟨⟨f1, f2, f3, f4⟩, hop, hok⟩ := h4
    unfold q_Rf
    rw [cc 27 (by omega) (by omega) (by omega) (by omega), rr 81 (by omega)]
    refine ⟨⟨fun k hk => ?_, fun k hk => f2 k (by omega), fun p hp => ?_, f4⟩, fun x hx => ⟨(hop x hx).1, fun hb => ?_⟩, hok⟩
    · rw [qrd_19 _ _ _ (by omega), if_pos hk]
      by_cases hkN : k = N
      · rw [hkN, r80n, (f2 N (Nat.le_refl _)).1, (f2 N (Nat.le_refl _)).2]
        exact ⟨Or.inl rfl, by decide, by decide⟩
      · have := f1 k (by omega)
        rw [qrd_19 _ _ _ (by omega), if_pos (by omega)] at this
        rw [r80 k hkN]
        exact this
    · obtain ⟨x1, x2, x3, x4⟩ := f3 p hp
      rw [qrd_29] at x1 x2 x3 x4
      rw [qrd_29, rr 82 (by omega)]
      exact ⟨x1, x2, x3, fun y => x4 (by omega)⟩
    · rw [c11, b_or, (hop x hx).2 hb, Bool.true_or]
  · unfold q_Ro
    rw [cc 28 (by omega) (by omega) (by omega) (by omega), cc 29 (by omega) (by omega) (by omega) (by omega), rr 67 (by omega), rr 68 (by omega), c31 9 (by omega) (by omega), r64 24 (by omega), r64 20 (by omega), r64 17 (by omega)]
    exact h5
  · unfold q_Rz
    rw [c17 14 (by decide) (by decide), c17 15 (by decide) (by decide), c31 10 (by omega) (by omega), c31 11 (by omega) (by omega), c31 12 (by omega) (by omega), r64 3 (by omega), r64 54 (by omega), r64 55 (by omega), r64 48 (by omega), r64 49 (by omega)]
    exact h6
theorem q_netEnd {v : Nat → Nat} {n s0 s L : Nat} {C : Nat → Nat → Int32} {J : Nat → Nat → Int64} {R : Nat → Nat → Int32} {K : Nat → Nat → Int64} {e : QP} {D N : Nat} {cl : Nat → Nat} (hs0 : s0 < s) (h : q_Pt v n C J R K s) (hO : q_O5 C R D N cl) (hM : q_Rh C R D N cl) (hN : N < 6) (n1 : q_Nm J K 18 0 D) (n2 : q_Nm J K 22 4 (N + 1)) (hw : ∃ x, x < 24 ∧ C 26 x = nI N ∧ R 78 x = 1) (hct : fb_ct (bt (C 24 N)) 24 ≤ 3) :
    q_Res v n s0 L e C J R K (kX9_netLine 188 [some (.ref 31), some (.int (nI N)), none] [] (qm C J (3, 17, 17, 2, L))) (kX12_readNet 96 [some (.ref 64), none] [] (qm R K e)) := by
  have hC5 : C 17 5 = nI N := hO.1.2.1.1
  have h47 : R 64 47 = nI N := hO.1.2.1.2.1
  have hS25 : C 25 N = -1 := hO.2.1.2 N (Nat.le_refl _) hN
  generalize hCx : q_up (q_up C 17 11 (C 17 11 ||| C 24 N)) 17 5 (nI (N + 1)) = Cx
  generalize hRx : q_up R 79 N (-1) = Rx
  have cxo : ∀ p, p ≠ 17 → Cx p = C p := fun p y => by rw [← hCx, q_up_at3 _ _ y, q_up_at3 _ _ y]
  have cx5 : Cx 17 5 = nI (N + 1) := by rw [← hCx, q_up_at1]
  have cx11 : Cx 17 11 = C 17 11 ||| C 24 N := by rw [← hCx, q_up_at2 _ _ (by decide), q_up_at1]
  have cx17 : ∀ k, k ≠ 5 → k ≠ 11 → Cx 17 k = C 17 k := fun k y z => by rw [← hCx, q_up_at2 _ _ y, q_up_at2 _ _ z]
  have rxo : ∀ p, p ≠ 79 → Rx p = R p := fun p y => by rw [← hRx, q_up_at3 _ _ y]
  have rx79 : Rx 79 = va_up (R 79) N (-1) := by rw [← hRx, q_up_va, va_hit]
  have hpx : q_Pt v n Cx J Rx K s := q_Pt_eq h (cxo 2 (by decide)) (fun k _ _ => by rw [cxo 31 (by decide)]) rfl rfl (rxo 65 (by decide)) (fun k _ _ _ => by rw [rxo 64 (by decide)]) rfl
  have g0 : q_Gf C J R K Cx J Rx K := by
    rw [← hRx, ← hCx]
    exact q_Gf_R rfl (q_Gf_C (by omega) (q_Gf_C (by omega) (q_Gf_refl C J R K)))
  have hkey := hpx.key (k := 8) (by decide)
  have hw8 : qKW 8 = 1935763045 := by decide +kernel
  rw [hw8, show nI 8 = (8 : Int32) from rfl] at hkey
  have hc0 : kX9_netLine 188 [some (.ref 31), some (.int (nI N)), none] [] (qm C J (3, 17, 17, 2, L)) = kX9_netLine 228 [some (.ref 31), some (.int (nI N)), none] [.int (qb (decide (Cx 31 5 = 2) && decide (Cx 31 6 = 8)))] (qm Cx J (3, 17, 17, 2, L)) := by
    rw [eX9_netLine_188, q_in_nI (by omega) (by omega), nI_n (by omega), Bool.true_and, q_ck_tt, eX9_netLine_214, q_up_at2 _ _ (show (5 : Nat) ≠ 11 by decide), hC5, show nI N + 1 = nI (N + 1) from nI_add N 1, hCx, fX9_atKey]
    simp only [Option.bind_some, Option.toList_some, Option.toList_none, List.nil_append, List.cons_append, q_ck_tt, Bool.and_true, Bool.true_and, if_true, if_false, reduceCtorEq]
  have hr0 : kX12_readNet 96 [some (.ref 64), none] [] (qm R K e) = kX12_readNet 120 [some (.ref 64), none] [.int (qb (decide (Cx 31 5 = 2) && decide (Cx 31 6 = 8)))] (qm Rx K e) := by
    rw [eX12_readNet_96, h47, q_in_nI (by omega) (by omega), nI_n (by omega), Bool.true_and, q_ck_tt, if_pos h.ok, hRx, eX12_readNet_113, fX12_isWord, hkey]
    simp only [Option.bind_some, Option.toList_some, Option.toList_none, List.nil_append, List.cons_append, q_ck_tt, Bool.and_true, Bool.true_and, if_true, if_false, reduceCtorEq]
  have hrx47 : Rx 64 47 = nI N := by rw [rxo 64 (by decide)]; exact h47
  rw [hc0, hr0]
  cases hb : (decide (Cx 31 5 = 2) && decide (Cx 31 6 = 8)) with
  | false =>
    rw [eX9_netLine_228, if_pos (by rfl), eX9_netLine_231, eX12_readNet_120, if_pos (by rfl), eX12_readNet_141, hpx.ok, if_neg (by decide), eX12_readNet_149, hrx47, q_in_nI (by omega) (by omega), nI_n (by omega), Bool.true_and, q_ck_tt, show nI N + 1 = nI (N + 1) from nI_add N 1]
    generalize hRe : q_up (q_up Rx 80 N (-1)) 64 47 (nI (N + 1)) = Re
    have reo : ∀ p, p ≠ 80 → p ≠ 64 → Re p = Rx p := fun p y z => by rw [← hRe, q_up_at3 _ _ z, q_up_at3 _ _ y]
    have re64 : ∀ k, k ≠ 47 → Re 64 k = R 64 k := fun k y => by rw [← hRe, q_up_at2 _ _ y, q_up_at3 _ _ (by decide), rxo 64 (by decide)]
    have re80 : Re 80 = va_up (R 80) N (-1) := by rw [← hRe, q_up_at3 _ _ (by decide), q_up_va, va_hit, rxo 80 (by decide)]
    refine Or.inl ⟨Cx, J, Re, K, D, N + 1, cl, s, rfl, rfl, ?_, hs0, ?_, ?_, n1, n2⟩
    · rw [← hRe]; exact q_Gf_R rfl (q_Gf_R rfl g0)
    · exact q_Pt_eq hpx rfl (fun _ _ _ => rfl) rfl rfl (reo 65 (by decide) (by decide)) (fun k _ _ _ => by rw [re64 k (by omega), rxo 64 (by decide)]) rfl
    · exact q_B6_net hN hO hM hw hct cx5 cx11 cx17 (fun p _ _ _ _ => cxo p (by omega)) (fun k _ => by rw [cxo 25 (by decide)]) (fun k _ _ => by rw [cxo 31 (by decide)]) ⟨by rw [cxo 25 (by decide), hS25, reo 79 (by decide) (by decide), rx79, va_hit], by rw [reo 79 (by decide) (by decide), rx79, va_hit]; exact Or.inl rfl⟩ (fun k hk => by rw [reo 79 (by decide) (by decide), rx79, va_miss hk]) (fun k hk => by rw [re80, va_miss hk]) (by rw [re80, va_hit]) (by rw [← hRe, q_up_at1]) (fun p _ => by rw [reo p (by omega) (by omega), rxo p (by omega)]) (fun k _ => re64 k (by omega))
  | true =>
    have hb' : Cx 31 5 = 2 ∧ Cx 31 6 = 8 := by simpa using hb
    rw [eX9_netLine_228, if_neg (by decide), eX12_readNet_120, if_neg (by decide)]
    rcases q_tNum (L := L) (e := e) hpx (k := 8) (by decide) (c := 8) (w := 1935763045) rfl hw8.symm 0 1 with ⟨C1, J1, R1, K1, s1, m, a1, a2, a3, a4, ⟨m1, m2, m3, m4, m5⟩, a6, a7, a8⟩ | ⟨C', R', x, a1, a2, a3, a4, a5⟩ | ⟨C1, J1, C', R', K', x, a1, a2, a3, a4, a5, a6⟩
    · have hm : m ≤ 1 := q_num_le (b := 1) m1 m5
      have hp : q_Pt v n (q_up C1 25 N (nI m)) J1 R1 K1 s1 := q_Pt_eq a8 (by rw [q_up_at3 _ _ (by decide)]) (fun k _ _ => by rw [q_up_at3 _ _ (by decide)]) rfl rfl rfl (fun _ _ _ _ => rfl) rfl
      have h5 : q_up C1 25 N (nI m) 31 5 = 4 := by rw [q_up_at3 _ _ (by decide)]; exact m2
      obtain ⟨C2, J2, R2, K2, s2, f1, f2, f3, f4, f5⟩ := q_adv (L := L) (e := e) hp (by rw [h5]; decide) (by rw [h5]; decide)
      have cf : ∀ p, p ≠ 31 → p ≠ 25 → C2 p = Cx p := fun p y z => by rw [f3.1.1 p y, q_up_at3 _ _ z, a6.1.1 p y]
      have c31 : ∀ k, k ≠ 3 → k ≠ 4 → k ≠ 5 → k ≠ 6 → C2 31 k = Cx 31 k := fun k x1 x2 x3 x4 => by rw [f3.1.2 k x1 x2 x3 x4, q_up_at3 _ _ (by decide), a6.1.2 k x1 x2 x3 x4]
      have rf : ∀ p, p ≠ 64 → R2 p = Rx p := fun p y => by rw [f3.2.2.1.1 p y, a6.2.2.1.1 p y]
      have rf6 : ∀ k, k ≠ 4 → k ≠ 6 → k ≠ 7 → k ≠ 8 → R2 64 k = R 64 k := fun k x1 x2 x3 x4 => by rw [f3.2.2.1.2 k x1 x2 x3 x4, a6.2.2.1.2 k x1 x2 x3 x4, rxo 64 (by decide)]
      have hr47 : R2 64 47 = nI N := by rw [rf6 47 (by decide) (by decide) (by decide) (by decide)]; exact h47
      generalize hRe : q_up (q_up (q_up R2 79 N (nI m)) 80 N (-1)) 64 47 (nI (N + 1)) = Re
      have reo : ∀ p, p ≠ 79 → p ≠ 80 → p ≠ 64 → Re p = R2 p := fun p x y z => by rw [← hRe, q_up_at3 _ _ z, q_up_at3 _ _ y, q_up_at3 _ _ x]
      have re64 : ∀ k, k ≠ 47 → Re 64 k = R2 64 k := fun k y => by rw [← hRe, q_up_at2 _ _ y, q_up_at3 _ _ (by decide), q_up_at3 _ _ (by decide)]
      have re80 : Re 80 = va_up (R 80) N (-1) := by rw [← hRe, q_up_at3 _ _ (by decide), q_up_va, va_hit, q_up_at3 _ _ (by decide), rf 80 (by decide), rxo 80 (by decide)]
      have re79 : Re 79 = va_up (R2 79) N (nI m) := by rw [← hRe, q_up_at3 _ _ (by decide), q_up_at3 _ _ (by decide), q_up_va, va_hit]
      have hcl : kX9_netLine 233 [some (.ref 31), some (.int (nI N)), none] [] (qm Cx J (3, 17, 17, 2, L)) = some (some (.int 1), qm C2 J2 (3, 17, 17, 2, L)) := by
        rw [eX9_netLine_233, a2]
        simp only [Option.bind_some, Option.toList_some, Option.toList_none, List.nil_append, List.cons_append, q_ck_tt, Bool.and_true, Bool.true_and, if_true, if_false, reduceCtorEq]
        rw [eX9_netLine_237, a3]
        simp only [Option.bind_some, Option.toList_some, Option.toList_none, List.nil_append, List.cons_append, q_ck_tt, Bool.and_true, Bool.true_and, if_true, if_false, reduceCtorEq]
        rw [eX9_netLine_243, if_neg (by decide), eX9_netLine_248, q_in_nI (by omega) (by omega), nI_n (by omega), Bool.true_and, q_ck_tt, m3, f1]
        simp only [Option.bind_some, Option.toList_some, Option.toList_none, List.nil_append, List.cons_append, q_ck_tt, Bool.and_true, Bool.true_and, if_true, if_false, reduceCtorEq]
        rw [eX9_netLine_265]
      have hrf : kX12_readNet 123 [some (.ref 64), none] [] (qm Rx K e) = some (none, qm Re K2 e) := by
        rw [eX12_readNet_123, a4 R2 K2 f2]
        simp only [Option.bind_some, Option.toList_some, Option.toList_none, List.nil_append, List.cons_append, q_ck_tt, Bool.and_true, Bool.true_and, if_true, if_false, reduceCtorEq]
        rw [hrx47, eX12_readNet_140, q_in_nI (by omega) (by omega), nI_n (by omega), Bool.true_and, q_ck_tt, eX12_readNet_141, q_up_at3 _ _ (show (64 : Nat) ≠ 79 by decide), f5.ok, if_neg (by decide), eX12_readNet_149, q_up_at3 _ _ (show (64 : Nat) ≠ 79 by decide), hr47, q_in_nI (by omega) (by omega), nI_n (by omega), Bool.true_and, q_ck_tt, show nI N + 1 = nI (N + 1) from nI_add N 1, hRe]
      refine Or.inl ⟨C2, J2, Re, K2, D, N + 1, cl, s2, hcl, hrf, ?_, by omega, ?_, ?_, q_Nm_ad (q_Nm_ad n1 (by decide) a6) (by decide) f3, q_Nm_ad (q_Nm_ad n2 (by decide) a6) (by decide) f3⟩
      · rw [← hRe]; exact q_Gf_R rfl (q_Gf_R rfl (q_Gf_R rfl (q_Gf_trans g0 (q_Gf_trans (q_Gf_C (by omega) a6.gf) f3.gf))))
      · exact q_Pt_eq f5 rfl (fun _ _ _ => rfl) rfl rfl (reo 65 (by decide) (by decide) (by decide)) (fun k _ _ _ => re64 k (by omega)) rfl
      · refine q_B6_net hN hO hM hw hct (by rw [cf 17 (by decide) (by decide)]; exact cx5) (by rw [cf 17 (by decide) (by decide)]; exact cx11) (fun k y z => by rw [cf 17 (by decide) (by decide)]; exact cx17 k y z) (fun p _ _ _ _ => by rw [cf p (by omega) (by omega), cxo p (by omega)]) (fun k hk => by rw [f3.1.1 25 (by decide), q_up_at2 _ _ hk, a6.1.1 25 (by decide), cxo 25 (by decide)]) (fun k _ _ => by rw [c31 k (by omega) (by omega) (by omega) (by omega), cxo 31 (by decide)]) ⟨by rw [f3.1.1 25 (by decide), q_up_at1, re79, va_hit], ?_⟩ (fun k hk => by rw [re79, va_miss hk, rf 79 (by decide), rx79, va_miss hk]) (fun k hk => by rw [re80, va_miss hk]) (by rw [re80, va_hit]) (by rw [← hRe, q_up_at1]) (fun p _ => by rw [reo p (by omega) (by omega) (by omega), rf p (by omega), rxo p (by omega)]) (fun k _ => by rw [re64 k (by omega), rf6 k (by omega) (by omega) (by omega) (by omega)])
        rw [re79, va_hit]
        rcases q_m01 hm with ⟨g, -⟩ | ⟨g, -⟩
        · exact Or.inr (Or.inl g)
        · exact Or.inr (Or.inr g)
    · exact absurd hb' a2
    · have hr47 : R' 64 47 = nI N := by rw [a6.2.2 47 (by decide) (by decide) (by decide) (by decide) (by decide) (by decide)]; exact hrx47
      refine Or.inr (q_Bad.of (C' := C') (J' := J1) (R1 := R') ?_ (q_Gf_trans g0 a6.1) a5 (R' := q_up R' 79 N x) ?_ (q_Sc_up rfl (by omega) (q_Sc_refl R')))
      · rw [eX9_netLine_233, a2]
        simp only [Option.bind_some, Option.toList_some, Option.toList_none, List.nil_append, List.cons_append, q_ck_tt, Bool.and_true, Bool.true_and, if_true, if_false, reduceCtorEq]
        rw [eX9_netLine_237, a3]
        simp only [Option.bind_some, Option.toList_some, Option.toList_none, List.nil_append, List.cons_append, q_ck_tt, Bool.and_true, Bool.true_and, if_true, if_false, reduceCtorEq]
        rw [eX9_netLine_243, if_pos rfl, eX9_netLine_246]
      · rw [eX12_readNet_123, a4]
        simp only [Option.bind_some, Option.toList_some, Option.toList_none, List.nil_append, List.cons_append, q_ck_tt, Bool.and_true, Bool.true_and, if_true, if_false, reduceCtorEq]
        rw [hrx47, eX12_readNet_140, q_in_nI (by omega) (by omega), nI_n (by omega), Bool.true_and, q_ck_tt, eX12_readNet_141, q_up_at3 _ _ (show (64 : Nat) ≠ 79 by decide), if_pos a5.2.1, eX12_readNet_148]
