/-! ===== fits, culprit ===== -/
theorem q_nar (b : Bool) : vp_nar .boolean (qb b) = qb b := by cases b <;> rfl
section FC
variable {I : Nat → Nat → Int32} {J : Nat → Nat → Int64} {e : QP} {rb tx L : Nat} {D N : Nat} {cl : Nat → Nat} {RM : Nat} {rc : Nat → Nat} {sz : Nat} {k c : Nat}
theorem q_Nc_off {K : Nat → Nat → Int32} (h : q_Nc I N RM rc c) (hp : ∀ p, 56 ≤ p → p ≤ 62 → ∀ j, ¬ (p = 56 ∧ j = 7) → K p j = I p j) (hq : ∀ p, 105 ≤ p → p ≤ 110 → K p = I p) (h64 : K 64 79 = I 64 79) : q_Nc K N RM rc c ∧ (∀ j, qnK K j = qnK I j) ∧ (∀ j, qnS K j = qnS I j) ∧ (∀ j, qnR K j = qnR I j) ∧ (∀ j, qnB K j = qnB I j) ∧ ∀ t j, qCn K t j = qCn I t j := by
  have r57 : K 57 = I 57 := funext (fun j => hp 57 (by omega) (by omega) j (by omega))
  have r58 : K 58 = I 58 := funext (fun j => hp 58 (by omega) (by omega) j (by omega))
  have r59 : K 59 = I 59 := funext (fun j => hp 59 (by omega) (by omega) j (by omega))
  have r60 : K 60 = I 60 := funext (fun j => hp 60 (by omega) (by omega) j (by omega))
  have r61 : K 61 = I 61 := funext (fun j => hp 61 (by omega) (by omega) j (by omega))
  have r62 : K 62 = I 62 := funext (fun j => hp 62 (by omega) (by omega) j (by omega))
  have r56 : K 56 6 = I 56 6 := hp 56 (by omega) (by omega) 6 (by omega)
  have eK : ∀ j, qnK K j = qnK I j := fun j => by unfold qnK; rw [r57]
  have eS : ∀ j, qnS K j = qnS I j := fun j => by unfold qnS; rw [r58]
  have eR : ∀ j, qnR K j = qnR I j := fun j => by unfold qnR; rw [hq 107 (by omega) (by omega)]
  have eB : ∀ j, qnB K j = qnB I j := fun j => by unfold qnB; rw [hq 110 (by omega) (by omega)]
  refine ⟨?_, eK, eS, eR, eB, fun t j => by unfold qCn; rw [hq 108 (by omega) (by omega), hq 109 (by omega) (by omega)]⟩
  unfold q_Nc
  simp only [eK, eS, eR, eB]
  rw [r56, h64, r57, r58, r59, r60, r61, r62, hq 105 (by omega) (by omega), hq 106 (by omega) (by omega), hq 107 (by omega) (by omega), hq 108 (by omega) (by omega), hq 109 (by omega) (by omega), hq 110 (by omega) (by omega)]
  exact h
theorem q_Nc_o {K : Nat → Nat → Int32} (h : q_Nc I N RM rc c) (o : q_Off I K) : q_Nc K N RM rc c ∧ (∀ j, qnK K j = qnK I j) ∧ (∀ j, qnS K j = qnS I j) ∧ (∀ j, qnR K j = qnR I j) ∧ (∀ j, qnB K j = qnB I j) ∧ ∀ t j, qCn K t j = qCn I t j := by
  refine q_Nc_off h (fun p h1 h2 j hj => o p j ?_) (fun p h1 h2 => o.r p ?_) (o 64 79 rfl)
  · have : p = 56 ∨ p = 57 ∨ p = 58 ∨ p = 59 ∨ p = 60 ∨ p = 61 ∨ p = 62 := by omega
    rcases this with rfl | rfl | rfl | rfl | rfl | rfl | rfl
    · have hj7 : ¬ j = 7 := fun g => hj ⟨rfl, g⟩
      unfold q_scr
      rw [show q_scl.any (Nat.beq 56) = false from rfl, Bool.false_or, show Nat.beq 56 56 = true from rfl, Bool.true_and]
      cases hb : Nat.beq j 7 with
      | false => rfl
      | true => exact absurd (Nat.eq_of_beq_eq_true hb) hj7
    all_goals rfl
  · have : p = 105 ∨ p = 106 ∨ p = 107 ∨ p = 108 ∨ p = 109 ∨ p = 110 := by omega
    rcases this with rfl | rfl | rfl | rfl | rfl | rfl <;> intro k <;> rfl
theorem fX12_layFits (h : q_Core I D N cl RM rc) (hz : q_Fz I sz) (hn : q_Nc I N RM rc c) (t : Int32) : ∃ K, mX12_layFits [.ref 64, .int t] (qm I J e) = some (some (.int (nI (fb_ct (qFit I N RM rc sz c t) (qSN N RM + 1)))), qm K J e) ∧ q_Off I K ∧ ∀ i, i ≤ qSN N RM → K 111 i = qb (qFit I N RM rc sz c t i) := by
  have h60 := qSN_60 h
  have h18 := h.br.2.1
  have hN := h.n6
  have hn' := hn
  obtain ⟨hc30, -, hc79, hnj⟩ := hn'
  have l1 : ∀ s, s < qSN N RM + 1 → (fun s (y : Nat → Int32) => kX12_layFits 2 [some (.ref 64), some (.int t), some (.int (nI s)), none, none] [] (qm (va_up I 111 y) J e)) s (fa_fill (fun _ => 1) (I 111) s) = (fun s (y : Nat → Int32) => kX12_layFits 2 [some (.ref 64), some (.int t), some (.int (nI s)), none, none] [] (qm (va_up I 111 y) J e)) (s + 1) (fa_fill (fun _ => 1) (I 111) (s + 1)) := by
    intro s hs
    show kX12_layFits 2 _ _ _ = kX12_layFits 2 _ _ _
    have hc := q_Core_off h (q_Off_va I (show q_scl.any (Nat.beq 111) = true from rfl) (fa_fill (fun _ => 1) (I 111) s))
    rw [eX12_layFits_2, fX12_singleMany hc]
    simp only [Option.bind_some, Option.toList_some, Option.toList_none, List.nil_append, List.cons_append, q_ck_tt, Bool.and_true, Bool.true_and, if_true, if_false, reduceCtorEq]
    rw [eX12_layFits_7, if_neg (nI_nlt (by omega) (by omega)), eX12_layFits_10, q_in_nI (show s < 61 by omega) (by omega), nI_clamp (by omega), q_up_up, show vp_nar .boolean 1 = (1 : Int32) from rfl, fa_next' (f := fun _ => 1) rfl, nI_1]
    simp only [Option.bind_some, Option.toList_some, Option.toList_none, List.nil_append, List.cons_append, q_ck_tt, Bool.and_true, Bool.true_and, if_true, if_false, reduceCtorEq]
  have q1 := q_for (fun s (y : Nat → Int32) => kX12_layFits 2 [some (.ref 64), some (.int t), some (.int (nI s)), none, none] [] (qm (va_up I 111 y) J e)) (qSN N RM + 1) (fun s => fa_fill (fun _ => 1) (I 111) s) l1
  rw [fa_fill_0, va_up_id] at q1
  have oB : q_Off I (va_up I 111 (fa_fill (fun _ => 1) (I 111) (qSN N RM + 1))) := q_Off_va I rfl _
  have b111 : ∀ i, i ≤ qSN N RM → (va_up I 111 (fa_fill (fun _ => 1) (I 111) (qSN N RM + 1))) 111 i = 1 := fun i hi => by rw [va_hit, fa_fill_in (by omega)]
  generalize va_up I 111 (fa_fill (fun _ => 1) (I 111) (qSN N RM + 1)) = B at q1 oB b111
  -- kinds
  have l2 : ∀ k (K : Nat → Nat → Int32), k < 3 → (q_Off I K ∧ ∀ i, i ≤ qSN N RM → K 111 i = qb (!qAny c (fun j => decide (qnK I j < k) && (qCn I t j && !qMt I N RM rc sz j i)))) → ∃ K' : Nat → Nat → Int32, (q_Off I K' ∧ ∀ i, i ≤ qSN N RM → K' 111 i = qb (!qAny c (fun j => decide (qnK I j < k + 1) && (qCn I t j && !qMt I N RM rc sz j i)))) ∧ (fun k (K : Nat → Nat → Int32) => kX12_layFits 25 [some (.ref 64), some (.int t), some (.int (nI k)), none, none] [] (qm K J e)) k K = (fun k (K : Nat → Nat → Int32) => kX12_layFits 25 [some (.ref 64), some (.int t), some (.int (nI k)), none, none] [] (qm K J e)) (k + 1) K' := by
    intro k K hk ⟨oK, hK⟩
    have CK := q_Core_off h oK
    obtain ⟨M, m0, m1, m2, m3⟩ := fX12_layTable (J := J) (e := e) CK (q_Fz_off hz oK) hk
    rw [qAi_off oK] at m1
    have oM := q_Off_trans oK m2
    have CM := q_Core_off h oM
    obtain ⟨nM, eK, eS, eR, eB, eC⟩ := q_Nc_o hn oM
    have hin : ∀ j (A : Nat → Nat → Int32), j < c → ((∀ p, p ≠ 111 → A p = M p) ∧ ∀ i, i ≤ qSN N RM → A 111 i = qb (!qAny c (fun j => decide (qnK I j < k) && (qCn I t j && !qMt I N RM rc sz j i)) && !qAny j (fun j => decide (qnK I j = k) && (qCn I t j && !qMt I N RM rc sz j i)))) → ∃ A' : Nat → Nat → Int32, ((∀ p, p ≠ 111 → A' p = M p) ∧ ∀ i, i ≤ qSN N RM → A' 111 i = qb (!qAny c (fun j => decide (qnK I j < k) && (qCn I t j && !qMt I N RM rc sz j i)) && !qAny (j + 1) (fun j => decide (qnK I j = k) && (qCn I t j && !qMt I N RM rc sz j i)))) ∧ (fun j (A : Nat → Nat → Int32) => kX12_layFits 37 [some (.ref 64), some (.int t), some (.int (nI k)), some (.int (nI j)), none] [] (qm A J e)) j A = (fun j (A : Nat → Nat → Int32) => kX12_layFits 37 [some (.ref 64), some (.int t), some (.int (nI k)), some (.int (nI j)), none] [] (qm A J e)) (j + 1) A' := by
      intro j A hj ⟨hA1, hA2⟩
      obtain ⟨n1, n2, -, n4, -, n6, n7, -, n9, -, n11, -⟩ := hnj j hj
      have oA : q_Off I A := fun p q hp => by rw [hA1 p (fun c => by rw [c] at hp; cases hp)]; exact oM p q hp
      have CA := q_Core_off h oA
      obtain ⟨nA, -, -, -, -, eCA⟩ := q_Nc_o hn oA
      have a105 : A 105 = I 105 := oA.r 105 (fun _ => rfl)
      have a79 : A 64 79 = nI c := by rw [oA.r 64 (fun _ => rfl)]; exact hc79
      have hsu : ∀ (p : Nat → Bool), qAny (j + 1) p = (qAny j p || p j) := fun p => rfl
      have hskip : (∀ i, i ≤ qSN N RM → (decide (qnK I j = k) && (qCn I t j && !qMt I N RM rc sz j i)) = false) → ∀ i, i ≤ qSN N RM → A 111 i = qb (!qAny c (fun j => decide (qnK I j < k) && (qCn I t j && !qMt I N RM rc sz j i)) && !qAny (j + 1) (fun j => decide (qnK I j = k) && (qCn I t j && !qMt I N RM rc sz j i))) := by
        intro hf i hi
        rw [hsu, hf i hi, Bool.or_false]
        exact hA2 i hi
      by_cases ck : qnK I j = k
      · cases hcn : qCn I t j with
        | false =>
          refine ⟨A, ⟨hA1, hskip (fun i hi => by rw [hcn, Bool.false_and, Bool.and_false])⟩, ?_⟩
          show kX12_layFits 37 _ _ _ = kX12_layFits 37 _ _ _
          rw [eX12_layFits_37, a79, if_pos (nI_lt hj (by omega)), eX12_layFits_45, q_in_nI (show j < 30 by omega) (by omega), nI_clamp (by omega), a105, n4, if_pos (by rw [ck])]
          simp only [Option.bind_some, Option.toList_some, Option.toList_none, List.nil_append, List.cons_append, q_ck_tt, Bool.and_true, Bool.true_and, if_true, if_false, reduceCtorEq]
          rw [eX12_layFits_55, fX12_doesCount nA hj, eCA, hcn]
          simp only [Option.bind_some, Option.toList_some, Option.toList_none, List.nil_append, List.cons_append, q_ck_tt, Bool.and_true, Bool.true_and, if_true, if_false, reduceCtorEq]
          rw [eX12_layFits_61, if_pos qb_f, eX12_layFits_64, eX12_layFits_142, nI_1]
        | true =>
          have l4 : ∀ s (G : Nat → Nat → Int32), s < qSN N RM + 1 → ((∀ p, p ≠ 111 → G p = A p) ∧ ∀ i, i ≤ qSN N RM → G 111 i = if i < s then qb (!qAny c (fun j => decide (qnK I j < k) && (qCn I t j && !qMt I N RM rc sz j i)) && !qAny (j + 1) (fun j => decide (qnK I j = k) && (qCn I t j && !qMt I N RM rc sz j i))) else A 111 i) → ∃ G' : Nat → Nat → Int32, ((∀ p, p ≠ 111 → G' p = A p) ∧ ∀ i, i ≤ qSN N RM → G' 111 i = if i < s + 1 then qb (!qAny c (fun j => decide (qnK I j < k) && (qCn I t j && !qMt I N RM rc sz j i)) && !qAny (j + 1) (fun j => decide (qnK I j = k) && (qCn I t j && !qMt I N RM rc sz j i))) else A 111 i) ∧ (fun s (G : Nat → Nat → Int32) => kX12_layFits 70 [some (.ref 64), some (.int t), some (.int (nI k)), some (.int (nI j)), some (.int (nI s))] [] (qm G J e)) s G = (fun s (G : Nat → Nat → Int32) => kX12_layFits 70 [some (.ref 64), some (.int t), some (.int (nI k)), some (.int (nI j)), some (.int (nI s))] [] (qm G J e)) (s + 1) G' := by
            intro s G hs ⟨hG1, hG2⟩
            have oG : q_Off I G := fun p q hp => by rw [hG1 p (fun c => by rw [c] at hp; cases hp)]; exact oA p q hp
            have CG := q_Core_off h oG
            have g111 : G 111 s = qb (!qAny c (fun j => decide (qnK I j < k) && (qCn I t j && !qMt I N RM rc sz j s)) && !qAny j (fun j => decide (qnK I j = k) && (qCn I t j && !qMt I N RM rc sz j s))) := by rw [hG2 s (by omega), if_neg (by omega)]; exact hA2 s (by omega)
            have hnew : (!qAny c (fun j => decide (qnK I j < k) && (qCn I t j && !qMt I N RM rc sz j s)) && !qAny (j + 1) (fun j => decide (qnK I j = k) && (qCn I t j && !qMt I N RM rc sz j s))) = ((!qAny c (fun j => decide (qnK I j < k) && (qCn I t j && !qMt I N RM rc sz j s)) && !qAny j (fun j => decide (qnK I j = k) && (qCn I t j && !qMt I N RM rc sz j s))) && qMt I N RM rc sz j s) := by
              rw [hsu, hcn, decide_eq_true ck]
              cases qAny c (fun j => decide (qnK I j < k) && (qCn I t j && !qMt I N RM rc sz j s)) <;> cases qAny j (fun j => decide (qnK I j = k) && (qCn I t j && !qMt I N RM rc sz j s)) <;> cases qMt I N RM rc sz j s <;> rfl
            refine ⟨va_up G 111 (va_up (G 111) s (qb (!qAny c (fun j => decide (qnK I j < k) && (qCn I t j && !qMt I N RM rc sz j s)) && !qAny (j + 1) (fun j => decide (qnK I j = k) && (qCn I t j && !qMt I N RM rc sz j s))))), ⟨fun p hp => by rw [va_miss hp]; exact hG1 p hp, fun i hi => ?_⟩, ?_⟩
            · rw [va_hit]
              by_cases g : i = s
              · rw [g, va_hit, if_pos (by omega)]
              · rw [va_miss g, hG2 i hi]
                by_cases g2 : i < s
                · rw [if_pos g2, if_pos (by omega)]
                · rw [if_neg g2, if_neg (by omega)]
            · show kX12_layFits 70 _ _ _ = kX12_layFits 70 _ _ _
              have h135 : ∀ b : Bool, b = (!qAny c (fun j => decide (qnK I j < k) && (qCn I t j && !qMt I N RM rc sz j s)) && !qAny (j + 1) (fun j => decide (qnK I j = k) && (qCn I t j && !qMt I N RM rc sz j s))) → kX12_layFits 135 [some (.ref 64), some (.int t), some (.int (nI k)), some (.int (nI j)), some (.int (nI s))] [.int (qb b), .int (nI s), .ref 111] (qm G J e) = kX12_layFits 70 [some (.ref 64), some (.int t), some (.int (nI k)), some (.int (nI j)), some (.int (nI (s + 1)))] [] (qm (va_up G 111 (va_up (G 111) s (qb (!qAny c (fun j => decide (qnK I j < k) && (qCn I t j && !qMt I N RM rc sz j s)) && !qAny (j + 1) (fun j => decide (qnK I j = k) && (qCn I t j && !qMt I N RM rc sz j s)))))) J e) := by
                intro b hb
                rw [eX12_layFits_135, q_in_nI (show s < 61 by omega) (by omega), nI_clamp (by omega), q_nar, q_up_va, nI_1, hb]
                simp only [Option.bind_some, Option.toList_some, Option.toList_none, List.nil_append, List.cons_append, q_ck_tt, Bool.and_true, Bool.true_and, if_true, if_false, reduceCtorEq]
              rw [eX12_layFits_70, fX12_singleMany CG]
              simp only [Option.bind_some, Option.toList_some, Option.toList_none, List.nil_append, List.cons_append, q_ck_tt, Bool.and_true, Bool.true_and, if_true, if_false, reduceCtorEq]
              rw [eX12_layFits_76, if_neg (nI_nlt (by omega) (by omega)), eX12_layFits_79, q_in_nI (show s < 61 by omega) (by omega), nI_clamp (by omega), g111]
              simp only [Option.bind_some, Option.toList_some, Option.toList_none, List.nil_append, List.cons_append, q_ck_tt, Bool.and_true, Bool.true_and, if_true, if_false, reduceCtorEq]
              rw [hnew] at h135
              cases hold : (!qAny c (fun j => decide (qnK I j < k) && (qCn I t j && !qMt I N RM rc sz j s)) && !qAny j (fun j => decide (qnK I j = k) && (qCn I t j && !qMt I N RM rc sz j s))) with
              | false =>
                rw [if_pos qb_f, eX12_layFits_134]
                have := h135 false (by rw [hold, Bool.false_and])
                rw [hnew]
                exact this
              | true =>
                have t104 : G 104 (24 * s + qnR I j) = qAi I N RM rc sz k s (rc (qnR I j)) := by rw [hG1 104 (by decide), hA1 104 (by decide)]; exact m1 s (by omega) _ n7
                have g107 : G 107 j = nI (qnR I j) := by rw [oG.r 107 (fun _ => rfl)]; exact n9
                have g106 : G 106 j = nI (qnS I j) := by rw [oG.r 106 (fun _ => rfl)]; exact n6
                have g110 : G 110 j = qb (qnB I j) := by rw [oG.r 110 (fun _ => rfl)]; exact n11
                have h6 := qSt_6 (k := qnK I j) hN
                have hm : (24 : Int32) * nI s + nI (qnR I j) = nI (24 * s + qnR I j) := by rw [show (24 : Int32) = nI 24 from rfl, pk_mul, nI_add]
                have hmt : qMt I N RM rc sz j s = (bt (qAi I N RM rc sz k s (rc (qnR I j))) (qnS I j) == qnB I j) := by unfold qMt; rw [ck]
                rw [if_neg (show ¬ qb true = 0 by decide), eX12_layFits_95, nI_clamp (show j < 2 ^ 31 by omega), g107, hm, q_in_nI (show 24 * s + qnR I j < 1464 by omega) (by omega), q_in_nI (show j < 30 by omega) (by omega), nI_clamp (show 24 * s + qnR I j < 2 ^ 31 by omega), t104]
                simp only [Option.bind_some, Option.toList_some, Option.toList_none, List.nil_append, List.cons_append, q_ck_tt, Bool.and_true, Bool.true_and, if_true, if_false, reduceCtorEq]
                rw [eX12_layFits_117, q_in_nI (show j < 30 by omega) (by omega), nI_clamp (show j < 2 ^ 31 by omega), g106, fX12_has _ _ _ _ (show qnS I j < 32 by omega)]
                simp only [Option.bind_some, Option.toList_some, Option.toList_none, List.nil_append, List.cons_append, q_ck_tt, Bool.and_true, Bool.true_and, if_true, if_false, reduceCtorEq]
                rw [eX12_layFits_121, q_in_nI (show j < 30 by omega) (by omega), nI_clamp (show j < 2 ^ 31 by omega), g110]
                simp only [Option.bind_some, Option.toList_some, Option.toList_none, List.nil_append, List.cons_append, q_ck_tt, Bool.and_true, Bool.true_and, if_true, if_false, reduceCtorEq]
                rw [hnew]
                cases hb1 : bt (qAi I N RM rc sz k s (rc (qnR I j))) (qnS I j) <;> cases hb2 : qnB I j <;> rw [hb1, hb2] at hmt
                · rw [if_pos rfl, eX12_layFits_130]
                  exact h135 true (by rw [hold, hmt]; rfl)
                · rw [if_neg (by decide), eX12_layFits_134]
                  exact h135 false (by rw [hold, hmt]; rfl)
                · rw [if_neg (by decide), eX12_layFits_134]
                  exact h135 false (by rw [hold, hmt]; rfl)
                · rw [if_pos rfl, eX12_layFits_130]
                  exact h135 true (by rw [hold, hmt]; rfl)
          obtain ⟨G, ⟨g1, g2⟩, g3⟩ := q_inv_for (fun s (G : Nat → Nat → Int32) => kX12_layFits 70 [some (.ref 64), some (.int t), some (.int (nI k)), some (.int (nI j)), some (.int (nI s))] [] (qm G J e)) (fun s G => (∀ p, p ≠ 111 → G p = A p) ∧ ∀ i, i ≤ qSN N RM → G 111 i = if i < s then qb (!qAny c (fun j => decide (qnK I j < k) && (qCn I t j && !qMt I N RM rc sz j i)) && !qAny (j + 1) (fun j => decide (qnK I j = k) && (qCn I t j && !qMt I N RM rc sz j i))) else A 111 i) (qSN N RM + 1) l4 (qSN N RM + 1) 0 A (by omega) ⟨fun _ _ => rfl, fun i hi => by rw [if_neg (by omega)]⟩
          have oG : q_Off I G := fun p q hp => by rw [g1 p (fun c => by rw [c] at hp; cases hp)]; exact oA p q hp
          refine ⟨G, ⟨fun p hp => by rw [g1 p hp, hA1 p hp], fun i hi => by rw [g2 i hi, if_pos (by omega)]⟩, ?_⟩
          show kX12_layFits 37 _ _ _ = kX12_layFits 37 _ _ _
          rw [eX12_layFits_37, a79, if_pos (nI_lt hj (by omega)), eX12_layFits_45, q_in_nI (show j < 30 by omega) (by omega), nI_clamp (by omega), a105, n4, if_pos (by rw [ck])]
          simp only [Option.bind_some, Option.toList_some, Option.toList_none, List.nil_append, List.cons_append, q_ck_tt, Bool.and_true, Bool.true_and, if_true, if_false, reduceCtorEq]
          rw [eX12_layFits_55, fX12_doesCount nA hj, eCA, hcn]
          simp only [Option.bind_some, Option.toList_some, Option.toList_none, List.nil_append, List.cons_append, q_ck_tt, Bool.and_true, Bool.true_and, if_true, if_false, reduceCtorEq]
          rw [eX12_layFits_61, if_neg (show ¬ qb true = 0 by decide), eX12_layFits_67]
          refine Eq.trans g3 ?_
          show kX12_layFits 70 _ _ _ = _
          rw [eX12_layFits_70, fX12_singleMany (q_Core_off h oG)]
          simp only [Option.bind_some, Option.toList_some, Option.toList_none, List.nil_append, List.cons_append, q_ck_tt, Bool.and_true, Bool.true_and, if_true, if_false, reduceCtorEq]
          rw [eX12_layFits_76, if_pos (nI_lt (by omega) (by omega)), eX12_layFits_142, nI_1]
      · refine ⟨A, ⟨hA1, hskip (fun i hi => by rw [decide_eq_false ck, Bool.false_and])⟩, ?_⟩
        show kX12_layFits 37 _ _ _ = kX12_layFits 37 _ _ _
        rw [eX12_layFits_37, a79, if_pos (nI_lt hj (by omega)), eX12_layFits_45, q_in_nI (show j < 30 by omega) (by omega), nI_clamp (by omega), a105, n4, if_neg (fun g => ck (nI_inj (by omega) (by omega) g))]
        simp only [Option.bind_some, Option.toList_some, Option.toList_none, List.nil_append, List.cons_append, q_ck_tt, Bool.and_true, Bool.true_and, if_true, if_false, reduceCtorEq]
        rw [eX12_layFits_142, nI_1]
    obtain ⟨A, ⟨a1, a2⟩, a3⟩ := q_inv_for (fun j (A : Nat → Nat → Int32) => kX12_layFits 37 [some (.ref 64), some (.int t), some (.int (nI k)), some (.int (nI j)), none] [] (qm A J e)) (fun j A => (∀ p, p ≠ 111 → A p = M p) ∧ ∀ i, i ≤ qSN N RM → A 111 i = qb (!qAny c (fun j => decide (qnK I j < k) && (qCn I t j && !qMt I N RM rc sz j i)) && !qAny j (fun j => decide (qnK I j = k) && (qCn I t j && !qMt I N RM rc sz j i)))) c hin c 0 M (by omega) ⟨fun _ _ => rfl, fun i hi => by rw [m3, hK i hi, show ∀ p, qAny 0 p = false from fun _ => rfl, Bool.not_false, Bool.and_true]⟩
    have oA : q_Off I A := fun p q hp => by rw [a1 p (fun c => by rw [c] at hp; cases hp)]; exact oM p q hp
    refine ⟨A, ⟨oA, fun i hi => ?_⟩, ?_⟩
    · rw [a2 i hi, ← Bool.not_or]
      congr 2
      generalize hP : (fun j => qCn I t j && !qMt I N RM rc sz j i) = P
      have e1 : ∀ j, (qCn I t j && !qMt I N RM rc sz j i) = P j := fun j => by rw [← hP]
      simp only [e1]
      cases hc1 : qAny c (fun j => decide (qnK I j < k + 1) && P j) with
      | true =>
        obtain ⟨j, hj, hp⟩ := qAny_iff.mp hc1
        rw [Bool.and_eq_true, decide_eq_true_eq] at hp
        rw [Bool.or_eq_true]
        by_cases g : qnK I j = k
        · exact Or.inr (qAny_iff.mpr ⟨j, hj, by rw [decide_eq_true g, hp.2]; rfl⟩)
        · exact Or.inl (qAny_iff.mpr ⟨j, hj, by rw [decide_eq_true (show qnK I j < k by omega), hp.2]; rfl⟩)
      | false =>
        cases hc2 : (qAny c (fun j => decide (qnK I j < k) && P j) || qAny c (fun j => decide (qnK I j = k) && P j)) with
        | false => rfl
        | true =>
          have : qAny c (fun j => decide (qnK I j < k + 1) && P j) = true := by
            rw [Bool.or_eq_true] at hc2
            rcases hc2 with g | g
            · obtain ⟨j, hj, hp⟩ := qAny_iff.mp g
              rw [Bool.and_eq_true, decide_eq_true_eq] at hp
              exact qAny_iff.mpr ⟨j, hj, by rw [decide_eq_true (show qnK I j < k + 1 by omega), hp.2]; rfl⟩
            · obtain ⟨j, hj, hp⟩ := qAny_iff.mp g
              rw [Bool.and_eq_true, decide_eq_true_eq] at hp
              exact qAny_iff.mpr ⟨j, hj, by rw [decide_eq_true (show qnK I j < k + 1 by omega), hp.2]; rfl⟩
          rw [hc1] at this
          cases this
    · show kX12_layFits 25 _ _ _ = kX12_layFits 25 _ _ _
      rw [eX12_layFits_25, if_pos (show nI k < (3 : Int32) from nI_lt (b := 3) hk (by decide)), eX12_layFits_30, m0]
      simp only [Option.bind_some, Option.toList_some, Option.toList_none, List.nil_append, List.cons_append, q_ck_tt, Bool.and_true, Bool.true_and, if_true, if_false, reduceCtorEq]
      rw [eX12_layFits_35]
      refine Eq.trans a3 ?_
      show kX12_layFits 37 _ _ _ = _
      rw [eX12_layFits_37, oA.r 64 (fun _ => rfl), hc79, if_neg (nI_nlt (Nat.le_refl _) (by omega)), eX12_layFits_148, nI_1]
  obtain ⟨K, ⟨k1, k2⟩, k3⟩ := q_inv_for (fun k (K : Nat → Nat → Int32) => kX12_layFits 25 [some (.ref 64), some (.int t), some (.int (nI k)), none, none] [] (qm K J e)) (fun k K => q_Off I K ∧ ∀ i, i ≤ qSN N RM → K 111 i = qb (!qAny c (fun j => decide (qnK I j < k) && (qCn I t j && !qMt I N RM rc sz j i)))) 3 l2 3 0 B (by omega) ⟨oB, fun i hi => by
    rw [b111 i hi, show qAny c (fun j => decide (qnK I j < 0) && (qCn I t j && !qMt I N RM rc sz j i)) = false from ?_]
    · rfl
    · cases hc : qAny c (fun j => decide (qnK I j < 0) && (qCn I t j && !qMt I N RM rc sz j i)) with
      | false => rfl
      | true =>
        obtain ⟨j, hj, hp⟩ := qAny_iff.mp hc
        rw [Bool.and_eq_true, decide_eq_true_eq] at hp
        exact absurd hp.1 (by omega)⟩
  have hfit : ∀ i, i ≤ qSN N RM → K 111 i = qb (qFit I N RM rc sz c t i) := by
    intro i hi
    rw [k2 i hi]
    unfold qFit
    congr 2
    exact qAny_cong (fun j hj => by rw [decide_eq_true (hnj j hj).1, Bool.true_and])
  have CK := q_Core_off h k1
  have l5 : ∀ s, s < qSN N RM + 1 → (fun s (y : Nat) => kX12_layFits 158 [some (.ref 64), none, some (.int (nI y)), some (.int (nI s)), none] [] (qm K J e)) s (fb_ct (qFit I N RM rc sz c t) s) = (fun s (y : Nat) => kX12_layFits 158 [some (.ref 64), none, some (.int (nI y)), some (.int (nI s)), none] [] (qm K J e)) (s + 1) (fb_ct (qFit I N RM rc sz c t) (s + 1)) := by
    intro s hs
    show kX12_layFits 158 _ _ _ = kX12_layFits 158 _ _ _
    rw [fb_ct_succ, eX12_layFits_158, fX12_singleMany CK]
    simp only [Option.bind_some, Option.toList_some, Option.toList_none, List.nil_append, List.cons_append, q_ck_tt, Bool.and_true, Bool.true_and, if_true, if_false, reduceCtorEq]
    rw [eX12_layFits_163, if_neg (nI_nlt (by omega) (by omega)), eX12_layFits_166, q_in_nI (show s < 61 by omega) (by omega), nI_clamp (by omega), hfit s (by omega), fX12_truth]
    simp only [Option.bind_some, Option.toList_some, Option.toList_none, List.nil_append, List.cons_append, q_ck_tt, Bool.and_true, Bool.true_and, if_true, if_false, reduceCtorEq]
    rw [eX12_layFits_176, nI_1]
    cases qFit I N RM rc sz c t s with
    | false => rw [show qb false = nI 0 from rfl, nI_add]; rfl
    | true => rw [show qb true = nI 1 from rfl, nI_add]; rfl
  have q5 := q_for (fun s (y : Nat) => kX12_layFits 158 [some (.ref 64), none, some (.int (nI y)), some (.int (nI s)), none] [] (qm K J e)) (qSN N RM + 1) (fun s => fb_ct (qFit I N RM rc sz c t) s) l5
  refine ⟨K, ?_, k1, hfit⟩
  rw [bX12_layFits, eX12_layFits_0]
  refine Eq.trans q1 ?_
  rw [eX12_layFits_2, fX12_singleMany (q_Core_off h oB)]
  simp only [Option.bind_some, Option.toList_some, Option.toList_none, List.nil_append, List.cons_append, q_ck_tt, Bool.and_true, Bool.true_and, if_true, if_false, reduceCtorEq]
  rw [eX12_layFits_7, if_pos (nI_lt (by omega) (by omega)), eX12_layFits_23]
  refine Eq.trans k3 ?_
  show kX12_layFits 25 _ _ _ = _
  rw [eX12_layFits_25, if_neg (show ¬ nI 3 < (3 : Int32) by decide), eX12_layFits_154]
  refine Eq.trans q5 ?_
  show kX12_layFits 158 _ _ _ = _
  rw [eX12_layFits_158, fX12_singleMany CK]
  simp only [Option.bind_some, Option.toList_some, Option.toList_none, List.nil_append, List.cons_append, q_ck_tt, Bool.and_true, Bool.true_and, if_true, if_false, reduceCtorEq]
  rw [eX12_layFits_163, if_pos (nI_lt (by omega) (by omega)), eX12_layFits_184]
/-- the lab ready, notes as they are -/
theorem q_nl (h : q_Core I D N cl RM rc) (hl : q_Lb I N RM rc) (hn : q_Nt I N RM rc) : ∃ sz c K, mX11_prepared [.ref 1] (qm I J (3, 17, rb, tx, L)) = some (some (.ref 52), qm K J (3, 17, rb, tx, L)) ∧ q_Tb K N RM rc sz ∧ q_Core K D N cl RM rc ∧ q_Fz K sz ∧ q_Lb K N RM rc ∧ q_Nc K N RM rc c ∧ (∀ j, j ≠ 2 → K 52 j = I 52 j) ∧ ∀ p, p ≠ 16 → p ≠ 52 → p ≠ 53 → p ≠ 54 → p ≠ 55 → K p = I p := by
  obtain ⟨sz, hz⟩ : ∃ sz, q_Fz I sz := h.fo
  obtain ⟨K, k0, k1, k2, k3, k4, k5, k6⟩ := q_prep (J := J) (rb := rb) (tx := tx) (L := L) h hz hl
  obtain ⟨c, hc⟩ := q_Nc_of h hn
  refine ⟨sz, c, K, k0, k1, k2, k3, k4, (q_Nc_off hc (fun p h1 h2 j _ => ?_) (fun p h1 h2 => ?_) ?_).1, k5, k6⟩
  · rw [k6 p (by omega) (by omega) (by omega) (by omega) (by omega)]
  · exact k6 p (by omega) (by omega) (by omega) (by omega) (by omega)
  · rw [k6 64 (by decide) (by decide) (by decide) (by decide) (by decide)]
theorem o_fits (h : q_Core I D N cl RM rc) (hl : q_Lb I N RM rc) (hn : q_Nt I N RM rc) (t : Int32) : q_Lab mX11_fits mX12_fits [.int t] I J (3, 17, rb, tx, L) N RM rc := by
  have h60 := qSN_60 h
  obtain ⟨sz, c, K, k0, k1, k2, k3, k4, k5, k6, k7⟩ := q_nl (J := J) (rb := rb) (tx := tx) (L := L) h hl hn
  obtain ⟨X, x0, x1, x2⟩ := fX7_fitting (J := J) (e := (3, 17, rb, tx, L)) k2 k1 k5 t
  obtain ⟨K2, l0, l1, -⟩ := fX12_layFits (J := J) (e := (3, 17, rb, tx, L)) k2 k3 k5 t
  have hct : fb_ct (fun i => X.testBit i) 64 = fb_ct (qFit K N RM rc sz c t) (qSN N RM + 1) := by
    rw [fb_ct_cong (p := fun i => X.testBit i) (q := fun i => decide (i < qSN N RM + 1) && qFit K N RM rc sz c t i) (fun i _ => x2 i)]
    have h1 := q_ct_cut (p := fun i => decide (i < qSN N RM + 1) && qFit K N RM rc sz c t i) (m := qSN N RM + 1) (64 - (qSN N RM + 1)) (fun x a b => by rw [decide_eq_false (by omega), Bool.false_and])
    rw [show qSN N RM + 1 + (64 - (qSN N RM + 1)) = 64 by omega] at h1
    rw [h1]
    exact fb_ct_cong (fun i hi => by rw [decide_eq_true hi, Bool.true_and])
  refine ⟨nI (fb_ct (qFit K N RM rc sz c t) (qSN N RM + 1)), K, K2, ?_, ?_, k7 1004 (by decide) (by decide) (by decide) (by decide) (by decide), q_Lb_off k4 l1, q_lab_fr k6 k7 l1⟩
  · rw [bX11_fits, eX11_fits_0, k0]
    simp only [Option.bind_some, Option.toList_some, Option.toList_none, List.nil_append, List.cons_append, q_ck_tt, Bool.and_true, Bool.true_and, if_true, if_false, reduceCtorEq]
    rw [eX11_fits_12, x0]
    simp only [Option.bind_some, Option.toList_some, Option.toList_none, List.nil_append, List.cons_append, q_ck_tt, Bool.and_true, Bool.true_and, if_true, if_false, reduceCtorEq]
    rw [eX11_fits_16, fJ13_bitCount _ _ _ (show X < 2 ^ 64 by omega), hct]
    simp only [Option.bind_some, Option.toList_some, Option.toList_none, List.nil_append, List.cons_append, q_ck_tt, Bool.and_true, Bool.true_and, if_true, if_false, reduceCtorEq]
    rw [eX11_fits_19]
  · rw [bX12_fits, eX12_fits_0, l0]
    simp only [Option.bind_some, Option.toList_some, Option.toList_none, List.nil_append, List.cons_append, q_ck_tt, Bool.and_true, Bool.true_and, if_true, if_false, reduceCtorEq]
    rw [eX12_fits_5]
theorem o_culprit (h : q_Core I D N cl RM rc) (hl : q_Lb I N RM rc) (hn : q_Nt I N RM rc) (a t : Int32) : q_Lab mX11_culprit mX12_culprit [.int a, .int t] I J (3, 17, rb, tx, L) N RM rc := by
  have h60 := qSN_60 h
  have h10 : ¬ ((1 : Int32) = 0) := by decide
  obtain ⟨sz, c, K, k0, k1, k2, k3, k4, k5, k6, k7⟩ := q_nl (J := J) (rb := rb) (tx := tx) (L := L) h hl hn
  obtain ⟨X, x0, x1, x2⟩ := fX7_fitting (J := J) (e := (3, 17, rb, tx, L)) k2 k1 k5 t
  obtain ⟨K2, l0, l1, l2⟩ := fX12_layFits (J := J) (e := (3, 17, rb, tx, L)) k2 k3 k5 t
  generalize qFit K N RM rc sz c t = fit at x2 l0 l2
  have hcl : mX11_culprit [.ref 1, .int a, .int t] (qm I J (3, 17, rb, tx, L)) = (kX7_fittingAt 22 [none, none, none, none, none, some (.long (lN X)), none, some (.int a), some (.int (nI (qSN N RM))), some (.int (nI 0 - 1))] [] (qm K J (3, 17, rb, tx, L))).bind (fun r => kX11_culprit 17 [some (.ref 1), some (.int a), some (.int t)] (r.1.toList ++ []) r.2) := by
    rw [bX11_culprit, eX11_culprit_0, k0]
    simp only [Option.bind_some, Option.toList_some, Option.toList_none, List.nil_append, List.cons_append, q_ck_tt, Bool.and_true, Bool.true_and, if_true, if_false, reduceCtorEq]
    rw [eX11_culprit_12, bX7_fittingAt, eX7_fittingAt_0, x0]
    simp only [Option.bind_some, Option.toList_some, Option.toList_none, List.nil_append, List.cons_append, q_ck_tt, Bool.and_true, Bool.true_and, if_true, if_false, reduceCtorEq]
    rw [eX7_fittingAt_8, fX0_singleCount k2]
    simp only [Option.bind_some, Option.toList_some, Option.toList_none, List.nil_append, List.cons_append, q_ck_tt, Bool.and_true, Bool.true_and, if_true, if_false, reduceCtorEq]
    rw [eX7_fittingAt_17]
    rfl
  have hlt : ∀ q, q < qSN N RM + 1 → nI q - 1 < nI (qSN N RM) := by
    intro q hq
    cases q with
    | zero => exact q_m1_lt (a := qSN N RM) (by omega)
    | succ s => rw [nI_pred]; exact nI_lt (by omega) (by omega)
  have hinc : ∀ q, nI q - 1 + 1 = nI (q + 1) - 1 := fun q => by rw [Int32.sub_add_cancel, nI_pred]
  have hcnt : fb_ct fit (qSN N RM + 1) ≤ qSN N RM + 1 := fb_ct_le _ _
  have htb : ∀ q, q < qSN N RM + 1 → X.testBit q = fit q := fun q hq => by rw [x2 q, decide_eq_true hq, Bool.true_and]
  have hstep : ∀ q (y : Int32), q < qSN N RM + 1 → kX7_fittingAt 22 [none, none, none, none, none, some (.long (lN X)), none, some (.int y), some (.int (nI (qSN N RM))), some (.int (nI q - 1))] [] (qm K J (3, 17, rb, tx, L)) = if fit q then (if y = 0 then some (some (.int (nI q - 1)), qm K J (3, 17, rb, tx, L)) else kX7_fittingAt 22 [none, none, none, none, none, some (.long (lN X)), none, some (.int (y + (-1))), some (.int (nI (qSN N RM))), some (.int (nI (q + 1) - 1))] [] (qm K J (3, 17, rb, tx, L))) else kX7_fittingAt 22 [none, none, none, none, none, some (.long (lN X)), none, some (.int y), some (.int (nI (qSN N RM))), some (.int (nI (q + 1) - 1))] [] (qm K J (3, 17, rb, tx, L)) := by
    intro q y hq
    have h0 := q_lt0 (X := X) (k := q) x1 (by omega)
    rw [htb q hq] at h0
    rw [eX7_fittingAt_22, if_pos (hlt q hq), eX7_fittingAt_29, Int32.sub_add_cancel]
    cases hf : fit q with
    | false => rw [if_pos (h0.mpr hf), eX7_fittingAt_54, hinc, if_neg (by decide)]
    | true =>
      rw [if_neg (fun g => by rw [h0.mp g] at hf; cases hf), eX7_fittingAt_43, if_pos rfl]
      by_cases g : y = 0
      · rw [if_pos g, if_pos g, eX7_fittingAt_48]
      · rw [if_neg g, if_neg g, eX7_fittingAt_51, eX7_fittingAt_54, hinc]
  have hisin := fX12_isIn0 K2 J (3, 17, rb, tx, L) a (show fb_ct fit (qSN N RM + 1) < 2 ^ 30 by omega)
  cases hq : q_in a (fb_ct fit (qSN N RM + 1)) with
  | false =>
    have hne : ∀ q, q < qSN N RM + 1 → fit q = true → ¬ a - nI (fb_ct fit q) = 0 := by
      intro q hq1 hf g
      have h1 : a = nI (fb_ct fit q) := by
        have := congrArg (fun x => x + nI (fb_ct fit q)) g
        simp only [Int32.sub_add_cancel, Int32.zero_add] at this
        exact this
      have h2 := fb_ct_mono fit (show q + 1 ≤ qSN N RM + 1 by omega)
      rw [fb_ct_succ, hf, if_pos rfl] at h2
      rw [h1, q_in_nI (by omega) (by omega)] at hq
      cases hq
    have hst : ∀ q, q < qSN N RM + 1 → (fun q (y : Int32) => kX7_fittingAt 22 [none, none, none, none, none, some (.long (lN X)), none, some (.int y), some (.int (nI (qSN N RM))), some (.int (nI q - 1))] [] (qm K J (3, 17, rb, tx, L))) q (a - nI (fb_ct fit q)) = (fun q (y : Int32) => kX7_fittingAt 22 [none, none, none, none, none, some (.long (lN X)), none, some (.int y), some (.int (nI (qSN N RM))), some (.int (nI q - 1))] [] (qm K J (3, 17, rb, tx, L))) (q + 1) (a - nI (fb_ct fit (q + 1))) := by
      intro q hq1
      show kX7_fittingAt 22 _ _ _ = kX7_fittingAt 22 _ _ _
      rw [hstep q _ hq1, fb_ct_succ]
      cases hf : fit q with
      | false =>
        rw [if_neg (by decide), if_neg (by decide)]
        rfl
      | true =>
        have hd : a - nI (fb_ct fit q) + (-1) = a - nI (fb_ct fit q + 1) := by
          rw [← Int32.sub_eq_add_neg, Int32.sub_sub, nI_1]
        rw [if_pos rfl, if_neg (hne q hq1 hf), hd, if_pos rfl]
    have hf := q_for (fun q (y : Int32) => kX7_fittingAt 22 [none, none, none, none, none, some (.long (lN X)), none, some (.int y), some (.int (nI (qSN N RM))), some (.int (nI q - 1))] [] (qm K J (3, 17, rb, tx, L))) (qSN N RM + 1) (fun q => a - nI (fb_ct fit q)) hst
    rw [show a - nI (fb_ct fit 0) = a from Int32.sub_zero a] at hf
    have hend : kX7_fittingAt 22 [none, none, none, none, none, some (.long (lN X)), none, some (.int a), some (.int (nI (qSN N RM))), some (.int (nI 0 - 1))] [] (qm K J (3, 17, rb, tx, L)) = some (some (.int (-2)), qm K J (3, 17, rb, tx, L)) := by
      refine Eq.trans hf ?_
      show kX7_fittingAt 22 _ _ _ = _
      rw [nI_pred, eX7_fittingAt_22, if_neg (nI_nlt (Nat.le_refl _) (by omega)), eX7_fittingAt_60]
    refine ⟨-2, K, K2, ?_, ?_, k7 1004 (by decide) (by decide) (by decide) (by decide) (by decide), q_Lb_off k4 l1, q_lab_fr k6 k7 l1⟩
    · rw [hcl, hend]
      simp only [Option.bind_some, Option.toList_some, Option.toList_none, List.nil_append, List.cons_append, q_ck_tt, Bool.and_true, Bool.true_and, if_true, if_false, reduceCtorEq]
      rw [eX11_culprit_17]
    · rw [bX12_culprit, eX12_culprit_0, l0]
      simp only [Option.bind_some, Option.toList_some, Option.toList_none, List.nil_append, List.cons_append, q_ck_tt, Bool.and_true, Bool.true_and, if_true, if_false, reduceCtorEq]
      rw [eX12_culprit_7, hisin, hq]
      simp only [Option.bind_some, Option.toList_some, Option.toList_none, List.nil_append, List.cons_append, q_ck_tt, Bool.and_true, Bool.true_and, if_true, if_false, reduceCtorEq]
      rw [eX12_culprit_12, if_pos qb_f, eX12_culprit_15]
  | true =>
    obtain ⟨m, hm, rfl, -⟩ := q_in_of hq
    obtain ⟨q0, hq0, hf0, hc0⟩ := fb_ct_kth hm
    have hst : ∀ q, q < q0 → (fun q (y : Nat) => kX7_fittingAt 22 [none, none, none, none, none, some (.long (lN X)), none, some (.int (nI y)), some (.int (nI (qSN N RM))), some (.int (nI q - 1))] [] (qm K J (3, 17, rb, tx, L))) q (m - fb_ct fit q) = (fun q (y : Nat) => kX7_fittingAt 22 [none, none, none, none, none, some (.long (lN X)), none, some (.int (nI y)), some (.int (nI (qSN N RM))), some (.int (nI q - 1))] [] (qm K J (3, 17, rb, tx, L))) (q + 1) (m - fb_ct fit (q + 1)) := by
      intro q hq1
      obtain ⟨b1, b2, b3⟩ := q_kth hf0 hc0 hq1
      show kX7_fittingAt 22 _ _ _ = kX7_fittingAt 22 _ _ _
      rw [hstep q _ (by omega)]
      cases hf : fit q with
      | false => rw [if_neg (by decide), b3 hf]
      | true =>
        obtain ⟨b4, b5⟩ := b2 hf
        rw [if_pos rfl, if_neg (nI_ne0 (by omega) (by omega)), nI_dn (by omega), b5, Nat.sub_sub]
    have hf := q_for (fun q (y : Nat) => kX7_fittingAt 22 [none, none, none, none, none, some (.long (lN X)), none, some (.int (nI y)), some (.int (nI (qSN N RM))), some (.int (nI q - 1))] [] (qm K J (3, 17, rb, tx, L))) q0 (fun q => m - fb_ct fit q) hst
    have hend : kX7_fittingAt 22 [none, none, none, none, none, some (.long (lN X)), none, some (.int (nI m)), some (.int (nI (qSN N RM))), some (.int (nI 0 - 1))] [] (qm K J (3, 17, rb, tx, L)) = some (some (.int (nI q0 - 1)), qm K J (3, 17, rb, tx, L)) := by
      refine Eq.trans hf ?_
      show kX7_fittingAt 22 _ _ _ = _
      rw [hstep q0 _ hq0, hf0, if_pos rfl, hc0, Nat.sub_self, if_pos (show nI 0 = 0 from rfl)]
    have hrs : ∀ q, q < q0 → (fun q (y : Nat) => kX12_culprit 23 [some (.ref 64), none, none, some (.int (nI y)), some (.int (nI q))] [] (qm K2 J (3, 17, rb, tx, L))) q (m - fb_ct fit q) = (fun q (y : Nat) => kX12_culprit 23 [some (.ref 64), none, none, some (.int (nI y)), some (.int (nI q))] [] (qm K2 J (3, 17, rb, tx, L))) (q + 1) (m - fb_ct fit (q + 1)) := by
      intro q hq1
      obtain ⟨b1, b2, b3⟩ := q_kth hf0 hc0 hq1
      have h37 : kX12_culprit 37 [some (.ref 64), none, none, some (.int (nI (m - fb_ct fit q))), some (.int (nI q))] [] (qm K2 J (3, 17, rb, tx, L)) = kX12_culprit 23 [some (.ref 64), none, none, some (.int (nI (m - fb_ct fit q) - qb (fit q))), some (.int (nI (q + 1)))] [] (qm K2 J (3, 17, rb, tx, L)) := by
        rw [eX12_culprit_37, q_in_nI (show q < 61 by omega) (by omega), nI_clamp (by omega), l2 q (by omega), fX12_truth]
        simp only [Option.bind_some, Option.toList_some, Option.toList_none, List.nil_append, List.cons_append, q_ck_tt, Bool.and_true, Bool.true_and, if_true, if_false, reduceCtorEq]
        rw [eX12_culprit_48, nI_1]
      show kX12_culprit 23 _ _ _ = kX12_culprit 23 _ _ _
      rw [eX12_culprit_23, q_in_nI (show q < 61 by omega) (by omega), nI_clamp (by omega), l2 q (by omega)]
      simp only [Option.bind_some, Option.toList_some, Option.toList_none, List.nil_append, List.cons_append, q_ck_tt, Bool.and_true, Bool.true_and, if_true, if_false, reduceCtorEq]
      cases hf : fit q with
      | false =>
        rw [if_pos qb_f, h37, hf, b3 hf, show qb false = nI 0 from rfl, nI_sb (by omega), Nat.sub_zero]
      | true =>
        obtain ⟨b4, b5⟩ := b2 hf
        rw [if_neg (show ¬ qb true = 0 by decide), eX12_culprit_33, if_pos (show (0 : Int32) < nI (m - fb_ct fit q) from nI_lt (a := 0) (by omega) (by omega)), h37, hf, b5, show qb true = nI 1 from rfl, nI_sb (by omega), Nat.sub_sub]
    have hrf := q_for (fun q (y : Nat) => kX12_culprit 23 [some (.ref 64), none, none, some (.int (nI y)), some (.int (nI q))] [] (qm K2 J (3, 17, rb, tx, L))) q0 (fun q => m - fb_ct fit q) hrs
    refine ⟨nI q0 - 1, K, K2, ?_, ?_, k7 1004 (by decide) (by decide) (by decide) (by decide) (by decide), q_Lb_off k4 l1, q_lab_fr k6 k7 l1⟩
    · rw [hcl, hend]
      simp only [Option.bind_some, Option.toList_some, Option.toList_none, List.nil_append, List.cons_append, q_ck_tt, Bool.and_true, Bool.true_and, if_true, if_false, reduceCtorEq]
      rw [eX11_culprit_17]
    · rw [bX12_culprit, eX12_culprit_0, l0]
      simp only [Option.bind_some, Option.toList_some, Option.toList_none, List.nil_append, List.cons_append, q_ck_tt, Bool.and_true, Bool.true_and, if_true, if_false, reduceCtorEq]
      rw [eX12_culprit_7, hisin, hq]
      simp only [Option.bind_some, Option.toList_some, Option.toList_none, List.nil_append, List.cons_append, q_ck_tt, Bool.and_true, Bool.true_and, if_true, if_false, reduceCtorEq]
      rw [eX12_culprit_12, qb_t, if_neg h10, eX12_culprit_18]
      refine Eq.trans hrf ?_
      show kX12_culprit 23 _ _ _ = _
      rw [eX12_culprit_23, q_in_nI (show q0 < 61 by omega) (by omega), nI_clamp (by omega), l2 q0 (by omega), hf0, if_neg (show ¬ qb true = 0 by decide), hc0, Nat.sub_self]
      simp only [Option.bind_some, Option.toList_some, Option.toList_none, List.nil_append, List.cons_append, q_ck_tt, Bool.and_true, Bool.true_and, if_true, if_false, reduceCtorEq]
      rw [eX12_culprit_33, if_neg (show ¬ (0 : Int32) < nI 0 by decide), eX12_culprit_56]
end FC
