/-! ===== the formula: relations, nots ===== -/
theorem q_hr_top {S : List Int32} (h : q_Top S 4) : qhr S = false := by
  rcases h with h | ⟨x, S1, h, g⟩
  · subst h; rfl
  · subst h
    show (if x = 20 then false else if 4 < qti x then qhr S1 else decide (qti x = 4)) = false
    by_cases g20 : x = 20
    · rw [if_pos g20]
    · have g4 : qti x < 4 := by
        rcases g with g | g
        · exact absurd g g20
        · exact g
      rw [if_neg g20, if_neg (by omega), decide_eq_false (by omega)]
theorem q_mn_top {S : List Int32} (h : q_Top S 4) : qmn S = true := by
  rcases h with h | ⟨x, S1, h, g⟩
  · subst h; rfl
  · subst h
    show (decide (x = 20) || decide (qti x < 4)) = true
    rcases g with g | g
    · rw [decide_eq_true g]; rfl
    · rw [decide_eq_true g, Bool.or_true]
theorem q_lv_relation {d : Nat} (hg : q_Sx 5 (mX9_sum d) d) : q_Sx 4 (mX9_relation (d + 1)) (d + 1) := by
  intro v n s L C J R K e S r u w dp c hc hF hlen hw hn hT hM
  have hT' : q_Top S 4 := hT
  rcases hg v n s L C J R K e S r u w dp c hc hF (by omega) hw (by omega) (q_Top_mono hT' (by decide)) (fun _ => hM (by decide)) with ⟨C1, J1, R1, K1, s1, P, r1, u1, c1, c2, c3, c4, c5, c6, c7, c8, c9⟩ | ⟨C1, J1, R1, K1, c1, c2, c3, c4⟩
  · have hp := c5.pt
    have hcl : mX9_relation (d + 1) [.ref 31, .int (nI w)] (qm C J (3, 17, 17, 2, L)) = kX9_relation (d + 1) 16 [some (.ref 31), some (.int (nI w)), none] [.int (qb (decide (C1 31 5 = 5) && decide (C1 31 6 = 60)))] (qm C1 J1 (3, 17, 17, 2, L)) := by
      rw [bX9_relation, eX9_relation_0, c1]
      simp only [Option.bind_some, Option.toList_some, Option.toList_none, List.nil_append, List.cons_append, q_ck_tt, Bool.and_true, Bool.true_and, if_true, if_false, reduceCtorEq]
      rw [eX9_relation_5, if_neg (by decide), eX9_relation_10, fX9_atSign]
      simp only [Option.bind_some, Option.toList_some, Option.toList_none, List.nil_append, List.cons_append, q_ck_tt, Bool.and_true, Bool.true_and, if_true, if_false, reduceCtorEq]
    by_cases hop : qsg (C1 31 5) (C1 31 6) ≠ 0 ∧ qti (qsg (C1 31 5) (C1 31 6)) = 4
    · obtain ⟨h0, ht⟩ := hop
      obtain ⟨hmem, -, -⟩ := q_sgv hp h0
      obtain ⟨-, hne21, hne20⟩ := q_sgO hmem
      have hkind : C1 31 5 = 5 ∧ (C1 31 6 = 60 ∨ C1 31 6 = 62 ∨ C1 31 6 = 61) ∧ qsg (C1 31 5) (C1 31 6) = C1 31 6 ∧ qcx (qsg (C1 31 5) (C1 31 6)) = -(C1 31 6) := by
        rcases q_sgc hp with g | ⟨g, g1, g2⟩ | ⟨g, g1, g2⟩ | ⟨g1, g, g3⟩
        · exact absurd g h0
        · rw [g] at ht; exact absurd ht (by decide)
        · rw [g] at ht; exact absurd ht (by decide)
        · rw [g] at ht ⊢
          refine ⟨g1, ?_⟩
          rcases g3 with g | g | g | g | g | g | g | g <;> rw [g] at ht ⊢ <;> first | exact absurd ht (by decide) | decide
      obtain ⟨k5, k6, k7, k8⟩ := hkind
      have hbl : (P ++ S).length < 160 := by rw [List.length_append]; omega
      obtain ⟨C2, J2, R2, K2, s2, c', b1, b2, b3, b4, b5, b6⟩ := q_op (L := L) e c5 _ rfl h0 (by rw [ht]; exact hT') (fun y hy => by rw [ht]; have := c6 y hy; exact ⟨by omega, this.2⟩) (fun _ => by rw [qhr_high c6]; exact q_hr_top hT') hbl (by omega)
      have h39 : mX9_relation (d + 1) [.ref 31, .int (nI w)] (qm C J (3, 17, 17, 2, L)) = kX9_relation (d + 1) 48 [some (.ref 31), some (.int (nI w)), some (.int (C1 31 6))] [] (qm C2 J2 (3, 17, 17, 2, L)) := by
        have h39 : kX9_relation (d + 1) 39 [some (.ref 31), some (.int (nI w)), none] [] (qm C1 J1 (3, 17, 17, 2, L)) = kX9_relation (d + 1) 48 [some (.ref 31), some (.int (nI w)), some (.int (C1 31 6))] [] (qm C2 J2 (3, 17, 17, 2, L)) := by
          rw [eX9_relation_39, b1]
          simp only [Option.bind_some, Option.toList_some, Option.toList_none, List.nil_append, List.cons_append, q_ck_tt, Bool.and_true, Bool.true_and, if_true, if_false, reduceCtorEq]
        rw [hcl, decide_eq_true k5]
        rcases k6 with g | g | g
        · rw [decide_eq_true g, eX9_relation_16, if_neg (by decide), h39]
        · rw [decide_eq_false (show ¬ C1 31 6 = 60 by rw [g]; decide), eX9_relation_16, if_pos (by rfl), eX9_relation_19, fX9_atSign, decide_eq_true k5, decide_eq_true g]
          simp only [Option.bind_some, Option.toList_some, Option.toList_none, List.nil_append, List.cons_append, q_ck_tt, Bool.and_true, Bool.true_and, if_true, if_false, reduceCtorEq]
          rw [eX9_relation_25, if_neg (by decide), h39]
        · rw [decide_eq_false (show ¬ C1 31 6 = 60 by rw [g]; decide), eX9_relation_16, if_pos (by rfl), eX9_relation_19, fX9_atSign, decide_eq_true k5, decide_eq_false (show ¬ C1 31 6 = 62 by rw [g]; decide)]
          simp only [Option.bind_some, Option.toList_some, Option.toList_none, List.nil_append, List.cons_append, q_ck_tt, Bool.and_true, Bool.true_and, if_true, if_false, reduceCtorEq]
          rw [eX9_relation_25, if_pos (by rfl), eX9_relation_28, fX9_atSign, decide_eq_true k5, decide_eq_true g]
          simp only [Option.bind_some, Option.toList_some, Option.toList_none, List.nil_append, List.cons_append, q_ck_tt, Bool.and_true, Bool.true_and, if_true, if_false, reduceCtorEq]
          rw [eX9_relation_34, if_neg (by decide), h39]
      generalize hx : qsg (C1 31 5) (C1 31 6) = x at *
      rw [← k7] at h39
      have hlv := hg v n s2 L C2 J2 R2 K2 e (x :: S) (r1 + P.length) u1 w (dp + 1) c' b2 b6 (by rw [List.length_cons]; omega) hw (by omega) (Or.inr ⟨x, S, rfl, Or.inr (by rw [ht]; decide)⟩) (fun _ => Or.inl (by
        show (decide (x = 20) || decide (qti x < 4)) = false
        rw [decide_eq_false hne20, decide_eq_false (show ¬ qti x < 4 by omega)]; rfl))
      rcases hlv with ⟨C3, J3, R3, K3, s3, P2, r2, u2, d1, d2, d3, d4, d5, d6, d7, d8, d9⟩ | ⟨C3, J3, R3, K3, d1, d2, d3, d4⟩
      · have hru := b6.2.2.2.2.2.2
        rw [List.length_nil, Nat.add_zero] at hru
        obtain ⟨C4, f1, f2, f3, f4⟩ := q_put (L := L) hmem d5 (by omega)
        have hle : (P2 ++ [x]).length = P2.length + 1 := by rw [List.length_append]; rfl
        refine Or.inl ⟨C4, J3, R3, K3, s3, P2 ++ [x], r2, u2, ?_, by rw [c2, b3]; exact d2, q_Gx_trans c3 (q_Gx_trans b4 (q_Gx_trans d3 f2)), by omega, f4, fun z hz => ?_, ?_, by omega, by omega⟩
        · rw [h39, eX9_relation_48, d1]
          simp only [Option.bind_some, Option.toList_some, Option.toList_none, List.nil_append, List.cons_append, q_ck_tt, Bool.and_true, Bool.true_and, if_true, if_false, reduceCtorEq]
          rw [eX9_relation_53, if_neg (by decide), eX9_relation_58]
          rw [k8, ← k7] at f1
          rw [f1]
          simp only [Option.bind_some, Option.toList_some, Option.toList_none, List.nil_append, List.cons_append, q_ck_tt, Bool.and_true, Bool.true_and, if_true, if_false, reduceCtorEq]
          rw [eX9_relation_70]
        · rcases List.mem_append.mp hz with hz | hz
          · have := d6 z hz; exact ⟨by omega, this.2⟩
          · rw [List.mem_singleton.mp hz]; exact ⟨by omega, hne20⟩
        · rw [f3]
          rcases d7 with g | g | ⟨g, g2, -⟩
          · exact Or.inl g
          · by_cases g4 : qti (qsg (C3 31 5) (C3 31 6)) = 4
            · refine Or.inr (Or.inr ⟨g4, Nat.le_refl _, ?_⟩)
              rw [qhr_high d6]
              show (if x = 20 then false else if 4 < qti x then qhr [] else decide (qti x = 4)) = true
              rw [if_neg hne20, if_neg (by omega), decide_eq_true ht]
            · exact Or.inr (Or.inl (by omega))
          · exact absurd g2 (by decide)
      · refine Or.inr ⟨C3, J3, R3, K3, ?_, by rw [c2, b3]; exact d2, q_Gf_trans c3.gf (q_Gf_trans b4.gf d3), d4⟩
        rw [h39, eX9_relation_48, d1]
        simp only [Option.bind_some, Option.toList_some, Option.toList_none, List.nil_append, List.cons_append, q_ck_tt, Bool.and_true, Bool.true_and, if_true, if_false, reduceCtorEq]
        rw [eX9_relation_53, if_pos rfl, eX9_relation_56]
    · have hb : ∀ y : Int32, (y = 60 ∨ y = 62 ∨ y = 61) → (decide (C1 31 5 = 5) && decide (C1 31 6 = y)) = false := by
        intro y hy
        cases hb : (decide (C1 31 5 = 5) && decide (C1 31 6 = y)) with
        | false => rfl
        | true =>
          have hb' : C1 31 5 = 5 ∧ C1 31 6 = y := by simpa using hb
          refine absurd ?_ hop
          rw [hb'.1, hb'.2]
          rcases hy with hy | hy | hy <;> rw [hy] <;> decide
      refine Or.inl ⟨C1, J1, R1, K1, s1, P, r1, u1, ?_, c2, c3, c4, c5, fun z hz => ⟨by have := c6 z hz; omega, (c6 z hz).2⟩, ?_, by omega, c9⟩
      · rw [hcl, hb 60 (Or.inl rfl), eX9_relation_16, if_pos (by rfl), eX9_relation_19, fX9_atSign, hb 62 (Or.inr (Or.inl rfl))]
        simp only [Option.bind_some, Option.toList_some, Option.toList_none, List.nil_append, List.cons_append, q_ck_tt, Bool.and_true, Bool.true_and, if_true, if_false, reduceCtorEq]
        rw [eX9_relation_25, if_pos (by rfl), eX9_relation_28, fX9_atSign, hb 61 (Or.inr (Or.inr rfl))]
        simp only [Option.bind_some, Option.toList_some, Option.toList_none, List.nil_append, List.cons_append, q_ck_tt, Bool.and_true, Bool.true_and, if_true, if_false, reduceCtorEq]
        rw [eX9_relation_34, if_pos (by rfl), eX9_relation_37]
      · rcases c7 with g | g | ⟨g, g2, -⟩
        · exact Or.inl g
        · by_cases h0 : qsg (C1 31 5) (C1 31 6) = 0
          · exact Or.inl h0
          · refine Or.inr (Or.inl ?_)
            have : qti (qsg (C1 31 5) (C1 31 6)) ≠ 4 := fun y => hop ⟨h0, y⟩
            omega
        · exact absurd g2 (by decide)
  · refine Or.inr ⟨C1, J1, R1, K1, ?_, c2, c3, c4⟩
    rw [bX9_relation, eX9_relation_0, c1]
    simp only [Option.bind_some, Option.toList_some, Option.toList_none, List.nil_append, List.cons_append, q_ck_tt, Bool.and_true, Bool.true_and, if_true, if_false, reduceCtorEq]
    rw [eX9_relation_5, if_pos rfl, eX9_relation_8]
/-- a refusal inside the unit -/
theorem q_un2_f {R : Nat → Nat → Int32} (K : Nat → Nat → Int64) (e : QP) (hf : (0 : Int32) < R 64 2) : kX12_unit 2 [some (.ref 64), some (.int 1), none] [] (qm R K e) = some (none, qm R K e) := by
  rw [eX12_unit_2, if_neg (by decide), eX12_unit_6, if_neg (q_pos_ne hf), eX12_unit_101, if_pos hf, eX12_unit_108]
theorem fX12_openUp_f {R : Nat → Nat → Int32} (K : Nat → Nat → Int64) (e : QP) {m : Nat} (h19 : R 64 19 = nI m) (hm : m < 160) (hf : (0 : Int32) < R 64 2) (x : Int32) : ∃ R', mX12_openUp [.ref 64, .int x] (qm R K e) = some (none, qm R' K e) ∧ q_Sc R R' := by
  refine ⟨q_up (q_up (q_up R 71 m x) 64 19 (nI m + 1)) 64 23 (R 64 23 + 1), ?_, q_Sc_up rfl (by omega) (q_Sc_up rfl (by omega) (q_Sc_up rfl (by omega) (q_Sc_refl R)))⟩
  rw [bX12_openUp, eX12_openUp_0, h19, q_in_nI hm (by omega), nI_n (by omega), Bool.true_and, q_ck_tt, eX12_openUp_22, q_up_at2 _ _ (show (2 : Nat) ≠ 19 by decide), q_up_at3 _ _ (show (64 : Nat) ≠ 71 by decide), if_neg (q_pos_ne hf), eX12_openUp_41, q_up_at2 _ _ (show (23 : Nat) ≠ 19 by decide), q_up_at3 _ _ (show (64 : Nat) ≠ 71 by decide)]
/-- a bracket or a not is opened -/
theorem q_openF {v : Nat → Nat} {n L : Nat} {C : Nat → Nat → Int32} {J : Nat → Nat → Int64} {R : Nat → Nat → Int32} {K : Nat → Nat → Int64} {s : Nat} {S : List Int32} {r u w dp : Nat} (e : QP) (h : q_Fs v n C J R K s S [] r u w dp) (x : Int32) (hl : S.length < 160) (h0 : C 31 5 ≠ 0) (h1 : C 31 5 ≠ 1) :
    ∃ (C1 : Nat → Nat → Int32) (J1 : Nat → Nat → Int64) (R1 : Nat → Nat → Int32) (K1 : Nat → Nat → Int64) (s1 : Nat), mX9_advance [.ref 31] (qm C J (3, 17, 17, 2, L)) = some (none, qm C1 J1 (3, 17, 17, 2, L)) ∧ mX12_openUp [.ref 64, .int x] (qm R K e) = some (none, qm R1 K1 e) ∧ q_Gx C J R K C1 J1 R1 K1 ∧ s < s1 ∧ q_Fs v n C1 J1 R1 K1 s1 (x :: S) [] r u (w + 1) dp := by
  have k5 := q_Fs_push h x
  have h19 : R 64 19 = nI S.length := by have := h.2.1.2; rw [List.nil_append] at this; exact this
  have h23 : R 64 23 = nI w := h.2.2.2.2.1
  generalize hRx : q_up (q_up R 71 S.length x) 64 19 (nI (S.length + 1)) = Rx at k5
  have k6 : q_Fs v n C J (q_up Rx 64 23 (nI (w + 1))) K s (x :: S) [] r u (w + 1) dp := by
    obtain ⟨h1, ⟨h2, h3⟩, hc, ⟨u1, u2, u3, u4⟩, h5, h6, h7⟩ := k5
    refine ⟨q_Pt_eq h1 rfl (fun _ _ _ => rfl) rfl rfl (q_up_at3 _ _ (by decide)) (fun k _ _ _ => by rw [q_up_at2 _ _ (by omega)]) rfl, ⟨by rw [q_up_at3 _ _ (by decide)]; exact h2, by rw [q_up_at2 _ _ (by decide)]; exact h3⟩, q_Cd_eq hc rfl (q_up_at2 _ _ (by decide)) rfl ⟨q_up_at3 _ _ (by decide), q_up_at3 _ _ (by decide)⟩, ⟨u1, by rw [q_up_at2 _ _ (by decide)]; exact u2, by rw [q_up_at2 _ _ (by decide)]; exact u3, u4⟩, q_up_at1 _ _ _ _, h6, h7⟩
  obtain ⟨C1, J1, R1, K1, s1, f1, f2, f3, f4, f5⟩ := q_adv (L := L) (e := e) k6.pt h0 h1
  refine ⟨C1, J1, R1, K1, s1, f1, ?_, ?_, f4, q_Fs_ad k6 f3 f5⟩
  · have hx23 : Rx 64 23 = nI w := by rw [← hRx, q_up_at2 _ _ (by decide), q_up_at3 _ _ (by decide)]; exact h23
    have hx2 : Rx 64 2 = 0 := k5.pt.ok
    rw [bX12_openUp, eX12_openUp_0, h19, q_in_nI hl (by omega), nI_n (by omega), Bool.true_and, q_ck_tt, show nI S.length + 1 = nI (S.length + 1) from nI_add _ 1, hRx, eX12_openUp_22, if_pos hx2, hx23, show nI w + 1 = nI (w + 1) from nI_add _ 1, eX12_openUp_37, f2]
    simp only [Option.bind_some, Option.toList_some, Option.toList_none, List.nil_append, List.cons_append, q_ck_tt, Bool.and_true, Bool.true_and, if_true, if_false, reduceCtorEq]
    rw [eX12_openUp_41v1]
  · refine q_Gx_trans ⟨⟨fun _ _ _ _ => rfl, fun _ _ _ _ _ => rfl⟩, fun _ _ => rfl, ⟨fun p a b c d => by rw [q_up_at3 _ _ a, ← hRx, q_up_at3 _ _ a, q_up_at3 _ _ d], fun k _ _ _ _ _ a _ _ b => by rw [q_up_at2 _ _ b, ← hRx, q_up_at2 _ _ a, q_up_at3 _ _ (by decide)]⟩, fun _ _ => rfl⟩ (q_Gx_ad f3)
theorem q_lv_one {d : Nat} (h4 : q_Sx 4 (mX9_relation d) d) (h3 : q_Sx 3 (mX9_one d) d) : q_Sx 3 (mX9_one (d + 1)) (d + 1) := by
  intro v n s L C J R K e S r u w dp c hc hF hlen hw hn hT hM
  have hT' : q_Top S 4 := hT
  have hp := hF.pt
  have h19 : R 64 19 = nI S.length := by have := hF.2.1.2; rw [List.nil_append] at this; exact this
  have hsk : q_Sk (R 71) S := hF.2.1.1
  have h23 : R 64 23 = nI w := hF.2.2.2.2.1
  have hkey := hp.key (k := 18) (by decide)
  rw [show qKW 18 = 7237492 by decide +kernel, show nI 18 = (18 : Int32) from rfl] at hkey
  by_cases hk : C 31 5 = 2 ∧ C 31 6 = 18
  · have hcl : mX9_one (d + 1) [.ref 31, .int (nI w)] (qm C J (3, 17, 17, 2, L)) = kX9_one (d + 1) 15 [some (.ref 31), some (.int (nI w))] [] (qm C J (3, 17, 17, 2, L)) := by
      rw [bX9_one, eX9_one_0, fX9_atKey, decide_eq_true hk.1, decide_eq_true hk.2]
      simp only [Option.bind_some, Option.toList_some, Option.toList_none, List.nil_append, List.cons_append, q_ck_tt, Bool.and_true, Bool.true_and, if_true, if_false, reduceCtorEq]
      rw [eX9_one_6, if_neg (by decide)]
    have hrf : kX12_unit 2 [some (.ref 64), some (.int 1), none] [] (qm R K e) = if (6 : Int32) < nI w then kX12_unit 39 [some (.ref 64), some (.int 1), none] [] (qm R K e) else kX12_unit 44 [some (.ref 64), some (.int 1), none] [] (qm R K e) := by
      rw [eX12_unit_2, if_neg (by decide), eX12_unit_6, if_pos hp.ok, eX12_unit_13, fX12_isWord, hkey, decide_eq_true hk.1, decide_eq_true hk.2]
      simp only [Option.bind_some, Option.toList_some, Option.toList_none, List.nil_append, List.cons_append, q_ck_tt, Bool.and_true, Bool.true_and, if_true, if_false, reduceCtorEq]
      rw [eX12_unit_20, if_neg (by decide), eX12_unit_23, fX12_mayNot K e hsk h19 (by omega), q_mn_top hT']
      simp only [Option.bind_some, Option.toList_some, Option.toList_none, List.nil_append, List.cons_append, q_ck_tt, Bool.and_true, Bool.true_and, if_true, if_false, reduceCtorEq]
      rw [eX12_unit_27, if_neg (by decide), eX12_unit_30, h23]
    by_cases h7 : w < 7
    · obtain ⟨C1, J1, R1, K1, s1, f1, f2, f3, f4, f5⟩ := q_openF (L := L) e hF 21 (by omega) (by rw [hk.1]; decide) (by rw [hk.1]; decide)
      rw [if_neg (show ¬ (6 : Int32) < nI w from nI_nlt (a := 6) (by omega) (by omega)), eX12_unit_44, f2] at hrf
      simp only [Option.bind_some, Option.toList_some, Option.toList_none, List.nil_append, List.cons_append, q_ck_tt, Bool.and_true, Bool.true_and, if_true, if_false, reduceCtorEq] at hrf
      rw [eX12_unit_50] at hrf
      rw [eX9_one_15, if_pos (show nI w < (7 : Int32) from nI_lt (b := 7) h7 (by omega)), eX9_one_27, f1] at hcl
      simp only [Option.bind_some, Option.toList_some, Option.toList_none, List.nil_append, List.cons_append, q_ck_tt, Bool.and_true, Bool.true_and, if_true, if_false, reduceCtorEq] at hcl
      rw [eX9_one_31, show nI w + 1 = nI (w + 1) from nI_add w 1] at hcl
      rcases h3 v n s1 L C1 J1 R1 K1 e (21 :: S) r u (w + 1) dp c hc f5 (by rw [List.length_cons]; omega) (by omega) (by omega) (Or.inr ⟨21, S, rfl, Or.inr (by decide)⟩) (fun g => absurd g (by decide)) with ⟨C2, J2, R2, K2, s2, P2, r2, u2, d1, d2, d3, d4, d5, d6, d7, d8, d9⟩ | ⟨C2, J2, R2, K2, d1, d2, d3, d4⟩
      · have hru := hF.2.2.2.2.2.2
        rw [List.length_nil, Nat.add_zero] at hru
        obtain ⟨C3, g1, g2, g3, g4⟩ := q_putN (L := L) d5 (by omega)
        have hle : (P2 ++ [(21 : Int32)]).length = P2.length + 1 := by rw [List.length_append]; rfl
        refine Or.inl ⟨C3, J2, R2, K2, s2, P2 ++ [21], r2, u2, ?_, by rw [hrf]; exact d2, q_Gx_trans f3 (q_Gx_trans d3 g2), by omega, g4, fun z hz => ?_, by rw [g3]; exact q_Tn_app d7, by omega, by omega⟩
        · rw [hcl, d1]
          simp only [Option.bind_some, Option.toList_some, Option.toList_none, List.nil_append, List.cons_append, q_ck_tt, Bool.and_true, Bool.true_and, if_true, if_false, reduceCtorEq]
          rw [eX9_one_38, if_neg (by decide), eX9_one_43, g1]
          simp only [Option.bind_some, Option.toList_some, Option.toList_none, List.nil_append, List.cons_append, q_ck_tt, Bool.and_true, Bool.true_and, if_true, if_false, reduceCtorEq]
          rw [eX9_one_55]
        · rcases List.mem_append.mp hz with hz | hz
          · exact d6 z hz
          · rw [List.mem_singleton.mp hz]; decide
      · refine Or.inr ⟨C2, J2, R2, K2, ?_, by rw [hrf]; exact d2, q_Gf_trans f3.gf d3, d4⟩
        rw [hcl, d1]
        simp only [Option.bind_some, Option.toList_some, Option.toList_none, List.nil_append, List.cons_append, q_ck_tt, Bool.and_true, Bool.true_and, if_true, if_false, reduceCtorEq]
        rw [eX9_one_38, if_pos rfl, eX9_one_41]
    · obtain ⟨C', R', b1, b2, b3, b4, _, _⟩ := q_refw L e hp 2 (by decide)
      obtain ⟨R'', o1, o2⟩ := fX12_openUp_f (R := R') K e (m := S.length) (by rw [b4.2.2 19 (by decide) (by decide) (by decide) (by decide) (by decide) (by decide)]; exact h19) (by omega) b3.2.1 21
      have hf2 : (0 : Int32) < R'' 64 2 := by rw [o2.2.1]; exact b3.2.1
      refine Or.inr (q_Bad.of (C' := C') (J' := J) (R1 := R') ?_ b4.1 b3 (R' := R'') ?_ o2)
      · rw [hcl, eX9_one_15, if_neg (show ¬ nI w < (7 : Int32) from nI_nlt (b := 7) (by omega) (by omega)), eX9_one_21, b1]
        simp only [Option.bind_some, Option.toList_some, Option.toList_none, List.nil_append, List.cons_append, q_ck_tt, Bool.and_true, Bool.true_and, if_true, if_false, reduceCtorEq]
        rw [eX9_one_26]
        rfl
      · rw [hrf, if_pos (show (6 : Int32) < nI w from nI_lt (a := 6) (by omega) (by omega)), eX12_unit_39, b2]
        simp only [Option.bind_some, Option.toList_some, Option.toList_none, List.nil_append, List.cons_append, q_ck_tt, Bool.and_true, Bool.true_and, if_true, if_false, reduceCtorEq]
        rw [eX12_unit_44, o1]
        simp only [Option.bind_some, Option.toList_some, Option.toList_none, List.nil_append, List.cons_append, q_ck_tt, Bool.and_true, Bool.true_and, if_true, if_false, reduceCtorEq]
        rw [eX12_unit_50, q_un2_f K e hf2]
        show c (none, qm R'' K e) = _
        rw [hc, q_H_f K e hf2]
  · have hb : (decide (C 31 5 = 2) && decide (C 31 6 = 18)) = false := by
      cases hb : (decide (C 31 5 = 2) && decide (C 31 6 = 18)) with
      | false => rfl
      | true => exact absurd (by simpa using hb) hk
    have hcl : mX9_one (d + 1) [.ref 31, .int (nI w)] (qm C J (3, 17, 17, 2, L)) = (mX9_relation d [.ref 31, .int (nI w)] (qm C J (3, 17, 17, 2, L))).bind (fun r => kX9_one (d + 1) 14 [some (.ref 31), some (.int (nI w))] (r.1.toList ++ []) r.2) := by
      rw [bX9_one, eX9_one_0, fX9_atKey, hb]
      simp only [Option.bind_some, Option.toList_some, Option.toList_none, List.nil_append, List.cons_append, q_ck_tt, Bool.and_true, Bool.true_and, if_true, if_false, reduceCtorEq]
      rw [eX9_one_6, if_pos (by rfl), eX9_one_9]
    rcases h4 v n s L C J R K e S r u w dp c hc hF (by omega) hw (by omega) hT' (fun _ => Or.inr hk) with ⟨C2, J2, R2, K2, s2, P2, r2, u2, d1, d2, d3, d4, d5, d6, d7, d8, d9⟩ | ⟨C2, J2, R2, K2, d1, d2, d3, d4⟩
    · refine Or.inl ⟨C2, J2, R2, K2, s2, P2, r2, u2, ?_, d2, d3, d4, d5, fun z hz => ⟨by have := d6 z hz; omega, (d6 z hz).2⟩, ?_, by omega, d9⟩
      · rw [hcl, d1]
        simp only [Option.bind_some, Option.toList_some, Option.toList_none, List.nil_append, List.cons_append, q_ck_tt, Bool.and_true, Bool.true_and, if_true, if_false, reduceCtorEq]
        rw [eX9_one_14]
        rfl
      · rcases d7 with g | g | ⟨g, g2, g3⟩
        · exact Or.inl g
        · by_cases h0 : qsg (C2 31 5) (C2 31 6) = 0
          · exact Or.inl h0
          · refine Or.inr (Or.inl ?_)
            have := (q_sgv d5.pt h0).2.2
            omega
        · exact Or.inr (Or.inr ⟨g, by decide, g3⟩)
    · refine Or.inr ⟨C2, J2, R2, K2, ?_, d2, d3, d4⟩
      rw [hcl, d1]
      simp only [Option.bind_some, Option.toList_some, Option.toList_none, List.nil_append, List.cons_append, q_ck_tt, Bool.and_true, Bool.true_and, if_true, if_false, reduceCtorEq]
      rw [eX9_one_14]
      rfl
