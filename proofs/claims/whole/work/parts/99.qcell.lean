/-! ===== lines: a cell that is named; nets that are stuck ===== -/
theorem q_numc {c m : Nat} (hc : c ≤ 9999) (hm : m ≤ 9999) (h : ¬ nI c - 1 < nI m) : m < c := by
  cases c with
  | zero => exact absurd (show nI 0 - 1 < nI m from q_m1_lt (a := m) (by omega)) h
  | succ c =>
    rw [nI_1s (by omega)] at h
    have := q_num_le (b := c + 1 - 1) hm h
    omega
theorem q_celq {v : Nat → Nat} {n s L : Nat} {C : Nat → Nat → Int32} {J : Nat → Nat → Int64} {R : Nat → Nat → Int32} {K : Nat → Nat → Int64} {e : QP} {D N : Nat} {cl : Nat → Nat} (h : q_Pt v n C J R K s) (hn : q_Rn C R D N cl) (n1 : q_Nm J K 18 0 D) :
    (∃ (x : Nat) (C1 : Nat → Nat → Int32) (J1 : Nat → Nat → Int64) (R1 : Nat → Nat → Int32) (K1 : Nat → Nat → Int64) (s1 : Nat), x < 6 * D ∧ x % 6 < cl (x / 6) ∧ mX9_atCell [.ref 31] (qm C J (3, 17, 17, 2, L)) = some (some (.int (nI x)), qm C1 J1 (3, 17, 17, 2, L)) ∧ mX12_readCell [.ref 64] (qm R K e) = some (some (.int (nI x)), qm R1 K1 e) ∧ q_Ad C J R K C1 J1 R1 K1 ∧ s < s1 ∧ q_Pt v n C1 J1 R1 K1 s1 ∧ C1 31 5 = 4) ∨
    (∃ (C' : Nat → Nat → Int32) (J' : Nat → Nat → Int64) (R' : Nat → Nat → Int32) (K' : Nat → Nat → Int64), mX9_atCell [.ref 31] (qm C J (3, 17, 17, 2, L)) = some (some (.int (-1)), qm C' J' (3, 17, 17, 2, L)) ∧ mX12_readCell [.ref 64] (qm R K e) = some (some (.int 0), qm R' K' e) ∧ q_Fl C' R' ∧ q_Gb C J R K C' J' R' K') := by
  obtain ⟨⟨d1, d2, d3⟩, -, hd⟩ := hn
  have ho := q_oldName_18 (L := L) (e := e) h n1 d3
  rw [show nI 0 = (0 : Int32) from rfl] at ho
  rcases ho with ⟨i, hi, h3, o1, o2⟩ | ⟨C', R', o1, o2, o3, o4⟩
  · obtain ⟨C1, J1, R1, K1, s1, f1, f2, f3, f4, f5⟩ := q_adv (L := L) (e := e) h (by rw [h3]; decide) (by rw [h3]; decide)
    obtain ⟨-, -, hc, hr, hl, -, -⟩ := hd i hi
    have hc1 : C1 21 i = nI (cl i) := by rw [f3.1.1 21 (by decide)]; exact hc
    have hr1 : R1 76 i = nI (cl i) := by rw [f3.2.2.1.1 76 (by decide)]; exact hr
    have hcl : mX9_atCell [.ref 31] (qm C J (3, 17, 17, 2, L)) = (mX9_atNumber [.ref 31, .int 0, .int (nI (cl i) - 1)] (qm C1 J1 (3, 17, 17, 2, L))).bind (fun r => kX9_atCell 46 [some (.ref 31), some (.int (nI i))] (r.1.toList ++ []) r.2) := by
      rw [bX9_atCell, eX9_atCell_0, d1, o1]
      simp only [Option.bind_some, Option.toList_some, Option.toList_none, List.nil_append, List.cons_append, q_ck_tt, Bool.and_true, Bool.true_and, if_true, if_false, reduceCtorEq]
      rw [eX9_atCell_18, if_neg (nI_ne_m1 (by omega)), eX9_atCell_26, f1]
      simp only [Option.bind_some, Option.toList_some, Option.toList_none, List.nil_append, List.cons_append, q_ck_tt, Bool.and_true, Bool.true_and, if_true, if_false, reduceCtorEq]
      rw [eX9_atCell_30, q_in_nI (by omega) (by omega), nI_n (by omega), Bool.true_and, q_ck_tt, hc1]
    have hrf : mX12_readCell [.ref 64] (qm R K e) = (mX12_numberHere [.ref 64, .int 0, .int (nI (cl i) - 1)] (qm R1 K1 e)).bind (fun r => kX12_readCell 45 [some (.ref 64), some (.int (nI i)), none] (r.1.toList ++ []) r.2) := by
      rw [bX12_readCell, eX12_readCell_0, d2, o2]
      simp only [Option.bind_some, Option.toList_some, Option.toList_none, List.nil_append, List.cons_append, q_ck_tt, Bool.and_true, Bool.true_and, if_true, if_false, reduceCtorEq]
      rw [eX12_readCell_9, if_pos h.ok, eX12_readCell_17, f2]
      simp only [Option.bind_some, Option.toList_some, Option.toList_none, List.nil_append, List.cons_append, q_ck_tt, Bool.and_true, Bool.true_and, if_true, if_false, reduceCtorEq]
      rw [eX12_readCell_21, f5.ok, if_neg (by decide), eX12_readCell_32, q_in_nI (by omega) (by omega), nI_n (by omega), Bool.true_and, q_ck_tt, hr1]
    rcases q_numb (L := L) (e := e) f5 0 (nI (cl i) - 1) with ⟨m, m1, m2, m3, m4, m5, m6, m7, m8⟩ | ⟨C', R', x, x1, x2, x3, x4⟩
    · have hm : m < cl i := q_numc (by omega) m1 m6
      refine Or.inl ⟨6 * i + m, C1, J1, R1, K1, s1, by omega, ?_, ?_, ?_, f3, f4, f5, m2⟩
      · rw [show (6 * i + m) % 6 = m by omega, show (6 * i + m) / 6 = i by omega]; exact hm
      · rw [hcl, m7]
        simp only [Option.bind_some, Option.toList_some, Option.toList_none, List.nil_append, List.cons_append, q_ck_tt, Bool.and_true, Bool.true_and, if_true, if_false, reduceCtorEq]
        rw [eX9_atCell_46, if_neg (by decide), eX9_atCell_49, m3, fX11_placeOf]
        simp only [Option.bind_some, Option.toList_some, Option.toList_none, List.nil_append, List.cons_append, q_ck_tt, Bool.and_true, Bool.true_and, if_true, if_false, reduceCtorEq]
        rw [eX9_atCell_57, eX9_atCell_61]
      · have h6 : (6 : Int32) * nI i + nI m = nI (6 * i + m) := by rw [show (6 : Int32) * nI i = nI (6 * i) from (Int32.ofNat_mul 6 i).symm, nI_add]
        rw [hrf, m8]
        simp only [Option.bind_some, Option.toList_some, Option.toList_none, List.nil_append, List.cons_append, q_ck_tt, Bool.and_true, Bool.true_and, if_true, if_false, reduceCtorEq]
        rw [eX12_readCell_45, f5.ok, if_neg (by decide), eX12_readCell_57, h6, eX12_readCell_63]
    · refine Or.inr ⟨C', J1, R', K1, ?_, ?_, x3, q_Gb_ad f3 x4⟩
      · rw [hcl, x1]
        simp only [Option.bind_some, Option.toList_some, Option.toList_none, List.nil_append, List.cons_append, q_ck_tt, Bool.and_true, Bool.true_and, if_true, if_false, reduceCtorEq]
        rw [eX9_atCell_46, if_pos rfl, eX9_atCell_60, eX9_atCell_61]
      · rw [hrf, x2]
        simp only [Option.bind_some, Option.toList_some, Option.toList_none, List.nil_append, List.cons_append, q_ck_tt, Bool.and_true, Bool.true_and, if_true, if_false, reduceCtorEq]
        rw [eX12_readCell_45, if_pos x3.2.1, eX12_readCell_53, eX12_readCell_63]
  · refine Or.inr ⟨C', J, R', K, ?_, ?_, o3, o4⟩
    · rw [bX9_atCell, eX9_atCell_0, d1, o1]
      simp only [Option.bind_some, Option.toList_some, Option.toList_none, List.nil_append, List.cons_append, q_ck_tt, Bool.and_true, Bool.true_and, if_true, if_false, reduceCtorEq]
      rw [eX9_atCell_18, if_pos rfl, eX9_atCell_24]
    · rw [bX12_readCell, eX12_readCell_0, d2, o2]
      simp only [Option.bind_some, Option.toList_some, Option.toList_none, List.nil_append, List.cons_append, q_ck_tt, Bool.and_true, Bool.true_and, if_true, if_false, reduceCtorEq]
      rw [eX12_readCell_9, if_neg (q_pos_ne o3.2.1), eX12_readCell_21, if_pos o3.2.1, eX12_readCell_28, eX12_readCell_45, if_pos o3.2.1, eX12_readCell_53, eX12_readCell_63]
/-- the told faults alone change -/
theorem q_B6_f {C R C' R' : Nat → Nat → Int32} {D N : Nat} {cl : Nat → Nat} (h : q_B6 C R D N cl) (c17 : C' 17 = C 17) (cc : ∀ p, 23 ≤ p → p ≤ 29 → p ≠ 27 → C' p = C p) (cd : ∀ d, d < D → C' 19 d = C 19 d ∧ C' 20 d = C 20 d ∧ C' 21 d = C 21 d) (c31 : ∀ k, 9 ≤ k → k ≤ 12 → C' 31 k = C 31 k)
    (rr : ∀ p, 77 ≤ p → p ≤ 79 → R' p = R p) (rd : ∀ d, d < D → R' 74 d = R 74 d ∧ R' 75 d = R 75 d ∧ R' 76 d = R 76 d) (r6 : R' 67 = R 67 ∧ R' 68 = R 68) (r64 : ∀ k, (k = 3 ∨ k = 17 ∨ k = 20 ∨ k = 24 ∨ (46 ≤ k ∧ k ≤ 55)) → R' 64 k = R 64 k) (hf : q_Rf C' R' D N) : q_B6 C' R' D N cl := by
  obtain ⟨h1, h2, h3, h4, h5, h6⟩ := h
  refine ⟨?_, ?_, ?_, hf, ?_, ?_⟩
  · obtain ⟨a, b, c⟩ := h1
    refine ⟨by rw [c17, r64 46 (by omega)]; exact a, by rw [c17, r64 47 (by omega)]; exact b, fun d hd => ?_⟩
    obtain ⟨x1, x2, x3⟩ := cd d hd
    obtain ⟨y1, y2, y3⟩ := rd d hd
    rw [x1, x2, x3, y1, y2, y3]
    exact c d hd
  · unfold q_Rk
    rw [c17, cc 23 (by omega) (by omega) (by omega), cc 24 (by omega) (by omega) (by omega), cc 26 (by omega) (by omega) (by omega), rr 77 (by omega) (by omega), rr 78 (by omega) (by omega)]
    exact h2
  · unfold q_Rs2
    rw [cc 25 (by omega) (by omega) (by omega), rr 79 (by omega) (by omega)]
    exact h3
  · unfold q_Ro
    rw [cc 28 (by omega) (by omega) (by omega), cc 29 (by omega) (by omega) (by omega), r6.1, r6.2, c31 9 (by omega) (by omega), r64 24 (by omega), r64 20 (by omega), r64 17 (by omega)]
    exact h5
  · unfold q_Rz
    rw [c17, c31 10 (by omega) (by omega), c31 11 (by omega) (by omega), c31 12 (by omega) (by omega), r64 3 (by omega), r64 54 (by omega), r64 55 (by omega), r64 48 (by omega), r64 49 (by omega)]
    exact h6
theorem q_m01 {m : Nat} (hm : m ≤ 1) : (nI m = 0 ∧ m = 0) ∨ (nI m = 1 ∧ m = 1) := by
  rcases (by omega : m = 0 ∨ m = 1) with g | g
  · subst g; exact Or.inl ⟨rfl, rfl⟩
  · subst g; exact Or.inr ⟨rfl, rfl⟩
theorem b_msh {m i : Nat} (hm : m ≤ 1) (hi : i < 32) (v : Nat) : bt (nI m <<< (nI i &&& 31)) v = (decide (m = 1) && decide (v = i)) := by
  by_cases hv : v < 32
  · rcases q_m01 hm with ⟨g, g2⟩ | ⟨g, g2⟩
    · rw [g, b_shl i hi _ hv, b_0, g2, Bool.and_false]; rfl
    · rw [g, b_one hi hv, g2]; rfl
  · rw [b_big (by omega), decide_eq_false (show ¬ v = i by omega), Bool.and_false]
theorem q_FR_stk {N : Nat} {F F' f f' : Nat → Int32} (hN : N ≤ 6) (h : q_FR N F f) {i m : Nat} (hi : i < N) (hm : m ≤ 1) (hf : f (19 + i) = -1) (e0 : F' 0 = F 0 ||| ((1 : Int32) <<< (nI i &&& 31))) (e1 : F' 1 = F 1 ||| (nI m <<< (nI i &&& 31))) (e3 : F' 3 = F 3) (e4 : F' 4 = F 4) (g1 : f' (19 + i) = nI m) (g2 : ∀ k, k < 6 → k ≠ i → f' (19 + k) = f (19 + k)) (g3 : ∀ k, f' (29 + k) = f (29 + k)) : q_FR N F' f' := by
  obtain ⟨a, b, c, d⟩ := h
  refine ⟨fun k hk => ?_, fun k hk => ?_, fun p hp => ?_, fun k hk => ?_⟩
  · rw [e0, e1, b_or, b_or, b_bit (by omega), b_msh hm (by omega)]
    by_cases hki : k = i
    · subst hki
      obtain ⟨a1, a2, a3⟩ := a k hk
      rw [g1, a2, a3, hf, decide_eq_true (rfl : k = k)]
      rcases q_m01 hm with ⟨x, y⟩ | ⟨x, y⟩
      · rw [x, y]; exact ⟨Or.inr (Or.inl rfl), by decide, by decide⟩
      · rw [x, y]; exact ⟨Or.inr (Or.inr rfl), by decide, by decide⟩
    · rw [g2 k (by omega) hki, decide_eq_false hki, Bool.or_false, Bool.and_false, Bool.or_false]
      exact a k hk
  · rw [e0, e1, b_or, b_or, b_bit (by omega), b_msh hm (by omega), decide_eq_false (show ¬ k = i by omega), Bool.or_false, Bool.and_false, Bool.or_false]
    exact b k hk
  · rw [g3, e3, e4]; exact c p hp
  · rw [e3, e4]; exact d k hk
theorem q_stk_f {R : Nat → Nat → Int32} {K : Nat → Nat → Int64} {e : QP} (hf : (0 : Int32) < R 64 2) (a : Int32) : kX12_readStuck 35 [some (.ref 64), some (.int a), none] [] (qm R K e) = some (none, qm R K e) := by
  rw [eX12_readStuck_35, if_neg (q_pos_ne hf), eX12_readStuck_46, fX12_toldNumber_f hf]
  simp only [Option.bind_some, Option.toList_some, Option.toList_none, List.nil_append, List.cons_append, q_ck_tt, Bool.and_true, Bool.true_and, if_true, if_false, reduceCtorEq]
  rw [eX12_readStuck_52, if_neg (q_pos_ne hf), eX12_readStuck_67]
theorem q_stuck : q_Line mX9_stuckLine mX12_readStuck := by
  intro v n s L C J R K e D N cl h h2 hB _
  obtain ⟨C1, J1, R1, K1, s1, e1, e2, e3, e4, e5⟩ := q_adv (L := L) (e := e) h (by rw [h2]; decide) (by rw [h2]; decide)
  obtain ⟨hB6, n1, n2⟩ := q_BR_ad hB e3
  have hC5 : C1 17 5 = nI N := hB6.1.2.1.1
  have hR47 : R1 64 47 = nI N := hB6.1.2.1.2.1
  have hN : N ≤ 6 := hB6.1.2.1.2.2
  obtain ⟨hF, hop, hok⟩ := hB6.2.2.2.1
  have ho := q_oldName_22 (L := L) (e := e) e5 n2 hN
  rw [show nI 4 = (4 : Int32) from rfl] at ho
  have hc0 : mX9_stuckLine [.ref 31] (qm C J (3, 17, 17, 2, L)) = (mX9_atOldName [.ref 31, .ref 22, .int (nI N)] (qm C1 J1 (3, 17, 17, 2, L))).bind (fun r => kX9_stuckLine 22 [some (.ref 31), none] (r.1.toList ++ []) r.2) := by
    rw [bX9_stuckLine, eX9_stuckLine_0, e1]
    simp only [Option.bind_some, Option.toList_some, Option.toList_none, List.nil_append, List.cons_append, q_ck_tt, Bool.and_true, Bool.true_and, if_true, if_false, reduceCtorEq]
    rw [eX9_stuckLine_4, hC5]
  have hr0 : mX12_readStuck [.ref 64] (qm R K e) = (mX12_oldName [.ref 64, .int 4, .int (nI N)] (qm R1 K1 e)).bind (fun r => kX12_readStuck 13 [some (.ref 64), none, none] (r.1.toList ++ []) r.2) := by
    rw [bX12_readStuck, eX12_readStuck_0, e2]
    simp only [Option.bind_some, Option.toList_some, Option.toList_none, List.nil_append, List.cons_append, q_ck_tt, Bool.and_true, Bool.true_and, if_true, if_false, reduceCtorEq]
    rw [eX12_readStuck_4, hR47]
  refine q_Res.mono ?_ e3.gf (Nat.le_of_lt e4)
  rcases ho with ⟨i, hi, h3, o1, o2⟩ | ⟨C', R', o1, o2, o3, o4⟩
  · have hfi : qrd R1 N (19 + i) = R1 80 i := by rw [qrd_19 _ _ _ (by omega), if_pos hi]
    obtain ⟨q1, q2, q3⟩ := hF.1 i hi
    rw [hfi] at q1 q2 q3
    have hc1 : mX9_stuckLine [.ref 31] (qm C J (3, 17, 17, 2, L)) = if bt (C1 27 0) i = false then kX9_stuckLine 53 [some (.ref 31), some (.int (nI i))] [] (qm C1 J1 (3, 17, 17, 2, L)) else kX9_stuckLine 47 [some (.ref 31), none] [] (qm C1 J1 (3, 17, 17, 2, L)) := by
      rw [hc0, o1]
      simp only [Option.bind_some, Option.toList_some, Option.toList_none, List.nil_append, List.cons_append, q_ck_tt, Bool.and_true, Bool.true_and, if_true, if_false, reduceCtorEq]
      rw [eX9_stuckLine_22, if_neg (nI_ne_m1 (by omega)), eX9_stuckLine_30, b_tst _ (by omega)]
      cases bt (C1 27 0) i <;> rfl
    have hr1 : mX12_readStuck [.ref 64] (qm R K e) = if R1 80 i < 0 then kX12_readStuck 35 [some (.ref 64), some (.int (nI i)), none] [] (qm R1 K1 e) else kX12_readStuck 30 [some (.ref 64), some (.int (nI i)), none] [] (qm R1 K1 e) := by
      rw [hr0, o2]
      simp only [Option.bind_some, Option.toList_some, Option.toList_none, List.nil_append, List.cons_append, q_ck_tt, Bool.and_true, Bool.true_and, if_true, if_false, reduceCtorEq]
      rw [eX12_readStuck_13, if_pos e5.ok, eX12_readStuck_21, q_in_nI (by omega) (by omega), nI_n (by omega), Bool.true_and, q_ck_tt]
    by_cases hb : R1 80 i = -1
    · rw [hb] at q2 q3 hr1
      rw [if_pos (by decide)] at hr1
      rw [q2, if_pos (by decide)] at hc1
      obtain ⟨C2, J2, R2, K2, s2, f1, f2, f3, f4, f5⟩ := q_adv (L := L) (e := e) e5 (by rw [h3]; decide) (by rw [h3]; decide)
      have hr2 : mX12_readStuck [.ref 64] (qm R K e) = kX12_readStuck 46 [some (.ref 64), some (.int (nI i)), none] [] (qm R2 K2 e) := by
        rw [hr1, eX12_readStuck_35, if_pos e5.ok, eX12_readStuck_42, f2]
        simp only [Option.bind_some, Option.toList_some, Option.toList_none, List.nil_append, List.cons_append, q_ck_tt, Bool.and_true, Bool.true_and, if_true, if_false, reduceCtorEq]
      refine q_Res.mono ?_ f3.gf (Nat.le_of_lt f4)
      rcases q_numb (L := L) (e := e) f5 0 1 with ⟨m, m1, m2, m3, m4, m5, m6, m7, m8⟩ | ⟨C', R', x, x1, x2, x3, x4⟩
      · have hm : m ≤ 1 := q_num_le (b := 1) m1 m6
        generalize hCx : q_up (q_up C2 27 0 (C2 27 0 ||| ((1 : Int32) <<< (nI i &&& 31)))) 27 1 (C2 27 1 ||| (nI m <<< (nI i &&& 31))) = Cx
        have cxo : ∀ p, p ≠ 27 → Cx p = C2 p := fun p x1 => by rw [← hCx, q_up_at3 _ _ x1, q_up_at3 _ _ x1]
        have hp : q_Pt v n Cx J2 R2 K2 s2 := q_Pt_eq f5 (cxo 2 (by decide)) (fun k _ _ => by rw [cxo 31 (by decide)]) rfl rfl rfl (fun _ _ _ _ => rfl) rfl
        have h5 : Cx 31 5 = 4 := by rw [cxo 31 (by decide)]; exact m2
        obtain ⟨C3, J3, R3, K3, s3, g1, g2, g3, g4, g5⟩ := q_adv (L := L) (e := e) hp (by rw [h5]; decide) (by rw [h5]; decide)
        have r80 : R2 80 = R1 80 := f3.2.2.1.1 80 (by decide)
        have rf : ∀ p, p ≠ 64 → R3 p = R1 p := fun p x1 => by rw [g3.2.2.1.1 p x1, f3.2.2.1.1 p x1]
        have rf6 : ∀ k, k ≠ 4 → k ≠ 6 → k ≠ 7 → k ≠ 8 → R3 64 k = R1 64 k := fun k x1 x2 x3 x4 => by rw [g3.2.2.1.2 k x1 x2 x3 x4, f3.2.2.1.2 k x1 x2 x3 x4]
        have cf : ∀ p, p ≠ 31 → p ≠ 27 → C3 p = C1 p := fun p x1 x2 => by rw [g3.1.1 p x1, cxo p x2, f3.1.1 p x1]
        have c31 : ∀ k, k ≠ 3 → k ≠ 4 → k ≠ 5 → k ≠ 6 → C3 31 k = C1 31 k := fun k x1 x2 x3 x4 => by rw [g3.1.2 k x1 x2 x3 x4, cxo 31 (by decide), f3.1.2 k x1 x2 x3 x4]
        have c27 : C3 27 = Cx 27 := g3.1.1 27 (by decide)
        have c27' : C2 27 = C1 27 := f3.1.1 27 (by decide)
        refine Or.inl ⟨C3, J3, q_up R3 80 i (nI m), K3, D, N, cl, s3, ?_, ?_, ?_, g4, ?_, ?_, q_Nm_ad (q_Nm_ad n1 (by decide) f3) (by decide) g3, q_Nm_ad (q_Nm_ad n2 (by decide) f3) (by decide) g3⟩
        · rw [hc1, eX9_stuckLine_53, f1]
          simp only [Option.bind_some, Option.toList_some, Option.toList_none, List.nil_append, List.cons_append, q_ck_tt, Bool.and_true, Bool.true_and, if_true, if_false, reduceCtorEq]
          rw [eX9_stuckLine_57, m7]
          simp only [Option.bind_some, Option.toList_some, Option.toList_none, List.nil_append, List.cons_append, q_ck_tt, Bool.and_true, Bool.true_and, if_true, if_false, reduceCtorEq]
          rw [eX9_stuckLine_63, if_neg (by decide), eX9_stuckLine_68, eX9_stuckLine_94, q_up_at2 _ _ (show (1 : Nat) ≠ 0 by decide), q_up_at3 _ _ (show (31 : Nat) ≠ 27 by decide), m3, hCx, g1]
          simp only [Option.bind_some, Option.toList_some, Option.toList_none, List.nil_append, List.cons_append, q_ck_tt, Bool.and_true, Bool.true_and, if_true, if_false, reduceCtorEq]
          rw [eX9_stuckLine_111]
        · rw [hr2, eX12_readStuck_46, fX12_told_ok f5.ok m8 g2]
          simp only [Option.bind_some, Option.toList_some, Option.toList_none, List.nil_append, List.cons_append, q_ck_tt, Bool.and_true, Bool.true_and, if_true, if_false, reduceCtorEq]
          rw [eX12_readStuck_52, if_pos g5.ok, eX12_readStuck_60, q_in_nI (by omega) (by omega), nI_n (by omega), Bool.true_and, q_ck_tt, eX12_readStuck_67]
        · rw [← hCx] at g3
          exact q_Gf_R rfl (q_Gf_trans (q_Gf_C (by omega) (q_Gf_C (by omega) (q_Gf_refl C2 J2 R2 K2))) g3.gf)
        · exact q_Pt_eq g5 rfl (fun _ _ _ => rfl) rfl rfl (q_up_at3 _ _ (by decide)) (fun k _ _ _ => by rw [q_up_at3 _ _ (by decide)]) rfl
        · refine q_B6_f hB6 (cf 17 (by decide) (by decide)) (fun p _ _ _ => cf p (by omega) (by omega)) (fun d _ => ⟨by rw [cf 19 (by decide) (by decide)], by rw [cf 20 (by decide) (by decide)], by rw [cf 21 (by decide) (by decide)]⟩) (fun k _ _ => c31 k (by omega) (by omega) (by omega) (by omega)) (fun p _ _ => by rw [q_up_at3 _ _ (by omega), rf p (by omega)]) (fun d _ => ⟨by rw [q_up_at3 _ _ (by decide), rf 74 (by decide)], by rw [q_up_at3 _ _ (by decide), rf 75 (by decide)], by rw [q_up_at3 _ _ (by decide), rf 76 (by decide)]⟩) ⟨by rw [q_up_at3 _ _ (by decide), rf 67 (by decide)], by rw [q_up_at3 _ _ (by decide), rf 68 (by decide)]⟩ (fun k _ => by rw [q_up_at3 _ _ (by decide), rf6 k (by omega) (by omega) (by omega) (by omega)]) ⟨?_, ?_, ?_⟩
          · refine q_FR_stk hN hF hi hm (by rw [hfi]; exact hb) ?_ ?_ ?_ ?_ ?_ ?_ ?_
            · rw [c27, ← hCx, q_up_at2 _ _ (by decide), q_up_at1, c27']
            · rw [c27, ← hCx, q_up_at1, c27']
            · rw [c27, ← hCx, q_up_at2 _ _ (by decide), q_up_at2 _ _ (by decide), c27']
            · rw [c27, ← hCx, q_up_at2 _ _ (by decide), q_up_at2 _ _ (by decide), c27']
            · rw [qrd_19 _ _ _ (by omega), if_pos hi, q_up_at1]
            · intro k hk hki
              rw [qrd_19 _ _ _ hk, qrd_19 _ _ _ hk, q_up_at2 _ _ hki, rf 80 (by decide)]
            · intro k
              rw [qrd_29, qrd_29, q_up_at3 _ _ (by decide), rf 82 (by decide)]
          · intro x hx
            rw [c27, ← hCx, q_up_at2 _ _ (by decide), q_up_at2 _ _ (by decide), c27', q_up_at3 _ _ (by decide), rf 81 (by decide), cf 17 (by decide) (by decide)]
            exact hop x hx
          · intro d hd
            rw [q_up_at3 _ _ (by decide), rf 81 (by decide)]
            exact hok d hd
      · refine Or.inr ⟨C', J2, R', K2, ?_, ?_, x4.1, x3⟩
        · rw [hc1, eX9_stuckLine_53, f1]
          simp only [Option.bind_some, Option.toList_some, Option.toList_none, List.nil_append, List.cons_append, q_ck_tt, Bool.and_true, Bool.true_and, if_true, if_false, reduceCtorEq]
          rw [eX9_stuckLine_57, x1]
          simp only [Option.bind_some, Option.toList_some, Option.toList_none, List.nil_append, List.cons_append, q_ck_tt, Bool.and_true, Bool.true_and, if_true, if_false, reduceCtorEq]
          rw [eX9_stuckLine_63, if_pos rfl, eX9_stuckLine_66]
        · rw [hr2, eX12_readStuck_46, fX12_told_bad x2 x3.2.1]
          simp only [Option.bind_some, Option.toList_some, Option.toList_none, List.nil_append, List.cons_append, q_ck_tt, Bool.and_true, Bool.true_and, if_true, if_false, reduceCtorEq]
          rw [eX12_readStuck_52, if_neg (q_pos_ne x3.2.1), eX12_readStuck_67]
    · have hlt : ¬ R1 80 i < 0 := by
        rcases q1 with g | g | g
        · exact absurd g hb
        · rw [g]; decide
        · rw [g]; decide
      rw [if_neg hlt] at hr1
      rw [q2, decide_eq_false hb, if_neg (by decide)] at hc1
      obtain ⟨C', R', a1, a2, a3, a4, _, _⟩ := q_refw L e e5 3 (by decide)
      refine Or.inr ⟨C', J1, R', K1, ?_, ?_, a4.1, a3⟩
      · rw [hc1, eX9_stuckLine_47, a1]
        simp only [Option.bind_some, Option.toList_some, Option.toList_none, List.nil_append, List.cons_append, q_ck_tt, Bool.and_true, Bool.true_and, if_true, if_false, reduceCtorEq]
        rw [eX9_stuckLine_52]
        rfl
      · rw [hr1, eX12_readStuck_30, a2]
        simp only [Option.bind_some, Option.toList_some, Option.toList_none, List.nil_append, List.cons_append, q_ck_tt, Bool.and_true, Bool.true_and, if_true, if_false, reduceCtorEq]
        exact q_stk_f a3.2.1 _
  · refine Or.inr ⟨C', J1, R', K1, ?_, ?_, o4.1, o3⟩
    · rw [hc0, o1]
      simp only [Option.bind_some, Option.toList_some, Option.toList_none, List.nil_append, List.cons_append, q_ck_tt, Bool.and_true, Bool.true_and, if_true, if_false, reduceCtorEq]
      rw [eX9_stuckLine_22, if_pos rfl, eX9_stuckLine_28]
    · rw [hr0, o2]
      simp only [Option.bind_some, Option.toList_some, Option.toList_none, List.nil_append, List.cons_append, q_ck_tt, Bool.and_true, Bool.true_and, if_true, if_false, reduceCtorEq]
      rw [eX12_readStuck_13, if_neg (q_pos_ne o3.2.1)]
      exact q_stk_f o3.2.1 _
