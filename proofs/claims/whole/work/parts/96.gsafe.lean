/-! ===== mendFirst, safest ===== -/
theorem q_m1_lt {a : Nat} (h : a < 2 ^ 31) : (-1 : Int32) < nI a := by
  rw [Int32.lt_iff_toInt_lt, nI_toInt h]
  have : ((-1 : Int32)).toInt = -1 := by decide
  omega
section MS
variable {I : Nat → Nat → Int32} {J : Nat → Nat → Int64} {e : QP} {rb tx L : Nat} {D N : Nat} {cl : Nat → Nat} {RM : Nat} {rc : Nat → Nat} {sz : Nat} {F : Nat → Int32} {fl : Int32} {k st : Nat} {an wn : Nat → Int32}
theorem qth_tu {s : Nat} (hth : qth N RM rc F s = true) : ∀ x, bt (qTu N RM rc F s 2) x = true → bt (F 2) x = true := by
  intro x hx
  unfold qTu at hx
  by_cases c1 : s < 2 * N
  · rw [if_pos c1, va_miss (by decide), va_miss (by decide)] at hx; exact hx
  · rw [if_neg c1] at hx
    by_cases c2 : s < qSF N RM
    · rw [if_pos c2, va_hit, b_xor] at hx
      unfold qth at hth
      unfold qtg at hx
      simp only [if_neg c1, if_pos c2] at hth hx
      cases hb : bt (F 2) x with
      | true => rfl
      | false =>
        rcases Nat.lt_or_ge (rc (s - 2 * N)) 32 with g | g
        · rw [hb, b_bit g, Bool.false_xor] at hx
          rw [← of_decide_eq_true hx, hb] at hth
          cases hth
        · rw [b_big g] at hth; cases hth
    · rw [if_neg c2, va_miss (by decide), va_miss (by decide)] at hx; exact hx
theorem q_th_ba {s : Nat} (hth : qth N RM rc F s = true) : qba N RM rc F s = false := by unfold qba; rw [hth, Bool.not_true, Bool.and_false]
theorem q_mf_ref (h : q_Core I D N cl RM rc) (hz : q_Fz I sz) (w : Int32) : ∃ K, kX12_mendFirst 11 [some (.ref 64), some (.int w), none, none, none] [] (qm I J e) = kX12_mendFirst 85 [none, some (.int w), some (.int (qBi (qBm (qth N RM rc (I 42)) (qMd I N RM rc (qFa I sz (I 42 2) (I 37 1))) (qSN N RM)))), some (.int (qBc (qBm (qth N RM rc (I 42)) (qMd I N RM rc (qFa I sz (I 42 2) (I 37 1))) (qSN N RM)))), none] [] (qm K J e) ∧ q_Off I K := by
  have h60 := qSN_60 h
  have hN := h.n6
  have hD := h.d4
  obtain ⟨⟨-, -⟩, ⟨z0, ck, -, z1⟩, -⟩ := h.ch
  have hst : ∀ s (y : Int32 × (Int32 × (Nat → Nat → Int32))), s < qSN N RM → (y.1 = qBi (qBm (qth N RM rc (I 42)) (qMd I N RM rc (qFa I sz (I 42 2) (I 37 1))) s) ∧ y.2.1 = qBc (qBm (qth N RM rc (I 42)) (qMd I N RM rc (qFa I sz (I 42 2) (I 37 1))) s) ∧ q_Off I y.2.2) → ∃ y' : Int32 × (Int32 × (Nat → Nat → Int32)), (y'.1 = qBi (qBm (qth N RM rc (I 42)) (qMd I N RM rc (qFa I sz (I 42 2) (I 37 1))) (s + 1)) ∧ y'.2.1 = qBc (qBm (qth N RM rc (I 42)) (qMd I N RM rc (qFa I sz (I 42 2) (I 37 1))) (s + 1)) ∧ q_Off I y'.2.2) ∧ (fun s (y : Int32 × (Int32 × (Nat → Nat → Int32))) => kX12_mendFirst 18 [some (.ref 64), some (.int w), some (.int y.1), some (.int y.2.1), some (.int (nI s))] [] (qm y.2.2 J e)) s y = (fun s (y : Int32 × (Int32 × (Nat → Nat → Int32))) => kX12_mendFirst 18 [some (.ref 64), some (.int w), some (.int y.1), some (.int y.2.1), some (.int (nI s))] [] (qm y.2.2 J e)) (s + 1) y' := by
    intro s y hs hP
    obtain ⟨b, c, K⟩ := y
    obtain ⟨hb, hc, oK⟩ := hP
    dsimp only at hb hc oK
    have hK := q_Core_off h oK
    obtain ⟨A, f1, o1, a1, C1⟩ := hK.fill J e
    have oA := q_Off_trans oK o1
    have hq : q_FQ D N (bt (I 3 11)) (I 42) (A 94) := by
      have := C1.fqA a1
      rw [oA.r 3 (fun _ => rfl), oA.r 42 (fun _ => rfl)] at this
      exact this
    have hth := fX12_isThere (J := J) (e := e) C1.rs hq hs
    have hgo : kX12_mendFirst 18 [some (.ref 64), some (.int w), some (.int b), some (.int c), some (.int (nI s))] [] (qm K J e) = kX12_mendFirst 37 [some (.ref 64), some (.int w), some (.int b), some (.int c), some (.int (nI s))] [.int (qb (qth N RM rc (I 42) s))] (qm A J e) := by
      rw [eX12_mendFirst_18, fX12_singleMany hK]
      simp only [Option.bind_some, Option.toList_some, Option.toList_none, List.nil_append, List.cons_append, q_ck_tt, Bool.and_true, Bool.true_and, if_true, if_false, reduceCtorEq]
      rw [eX12_mendFirst_24, if_pos (nI_lt hs (by omega)), eX12_mendFirst_27, f1]
      simp only [Option.bind_some, Option.toList_some, Option.toList_none, List.nil_append, List.cons_append, q_ck_tt, Bool.and_true, Bool.true_and, if_true, if_false, reduceCtorEq]
      rw [eX12_mendFirst_31, hth]
      simp only [Option.bind_some, Option.toList_some, Option.toList_none, List.nil_append, List.cons_append, q_ck_tt, Bool.and_true, Bool.true_and, if_true, if_false, reduceCtorEq]
    rw [qBm]
    cases hsel : qth N RM rc (I 42) s with
    | false =>
      refine ⟨(b, c, A), ⟨hb, hc, oA⟩, ?_⟩
      show kX12_mendFirst 18 _ _ _ = kX12_mendFirst 18 _ _ _
      rw [hgo, hsel, eX12_mendFirst_37, if_pos qb_f, eX12_mendFirst_40, eX12_mendFirst_79, nI_1]
    | true =>
      rw [if_pos rfl]
      have ht := fX12_turn (J := J) (e := e) C1.rs hq hs
      rw [hsel] at ht hgo
      have q2 := q_FQ_turn h hq hs (q_th_ba hsel)
      rw [hsel] at q2
      have o2 : q_Off A (va_up A 94 (qTr N RM rc (A 94) true s)) := q_Off_va A rfl _
      have oI2 := q_Off_trans oA o2
      have C2 := q_Core_off h oI2
      have q2' : q_FQ D N (bt ((va_up A 94 (qTr N RM rc (A 94) true s)) 3 11)) (qTu N RM rc (I 42) s) ((va_up A 94 (qTr N RM rc (A 94) true s)) 94) := by
        rw [oI2.r 3 (fun _ => rfl), va_hit]; exact q2
      have hck : (va_up A 94 (qTr N RM rc (A 94) true s)) 94 1 = I 37 1 := by
        rw [va_hit, qTr_lo hN (by omega), a1 1 (by omega), oA.r 93 (fun _ => rfl)]; exact z0.symm
      obtain ⟨M, l0, l1, l2, l3, -⟩ := q_lA (J := J) (e := e) (k := 0) C2 (q_Fz_off hz oI2) q2' (by omega) (I 37 1)
      have l0' : mX12_layAnswers [.ref 64, .int 0, .int (I 37 1)] (qm (va_up A 94 (qTr N RM rc (A 94) true s)) J e) = some (none, qm M J e) := l0
      have oM := q_Off_trans oI2 l3
      have CM := q_Core_off h oM
      have eAn : qAn (va_up A 94 (qTr N RM rc (A 94) true s)) N 0 (qTu N RM rc (I 42) s) (qFa (va_up A 94 (qTr N RM rc (A 94) true s)) sz (qTu N RM rc (I 42) s 2) (I 37 1)) = qAn I N 0 (qTu N RM rc (I 42) s) (qFa I sz (I 42 2) (I 37 1)) := by
        rw [qAn_off oI2, qFa_off oI2]
        funext x
        unfold qAn
        refine qB_cong (fun i hi => ?_)
        unfold qRw
        rw [qRa_fl (qFa_sub (qth_tu hsel)).symm]
      have jf : q_Jf M N RM rc (qAn I N 0 (qTu N RM rc (I 42) s) (qFa I sz (I 42 2) (I 37 1))) (fun n => qWa (I 88 n) 0 N n) := by
        refine ⟨fun n hn => ?_, fun r hr => ?_⟩
        · rw [l1 n hn, oI2.r 88 (fun _ => rfl)]
        · rw [l2 r hr, eAn]
      have hg := fX12_goodMany (J := J) (e := e) CM jf
      rw [qGz_off oM, show fb_ct (fun r => qGz I (qAn I N 0 (qTu N RM rc (I 42) s) (qFa I sz (I 42 2) (I 37 1))) (fun n => qWa (I 88 n) 0 N n) (rc r)) RM = qMd I N RM rc (qFa I sz (I 42 2) (I 37 1)) s from rfl] at hg
      have hd := qMd_24 h (qFa I sz (I 42 2) (I 37 1)) s
      have hgo2 : kX12_mendFirst 18 [some (.ref 64), some (.int w), some (.int b), some (.int c), some (.int (nI s))] [] (qm K J e) = kX12_mendFirst 64 [some (.ref 64), some (.int w), some (.int b), some (.int c), some (.int (nI s))] [.int (nI (qMd I N RM rc (qFa I sz (I 42 2) (I 37 1)) s))] (qm M J e) := by
        rw [hgo, eX12_mendFirst_37, if_neg (show ¬ qb true = 0 by decide), eX12_mendFirst_43, ht]
        simp only [Option.bind_some, Option.toList_some, Option.toList_none, List.nil_append, List.cons_append, q_ck_tt, Bool.and_true, Bool.true_and, if_true, if_false, reduceCtorEq]
        rw [eX12_mendFirst_49, hck, l0']
        simp only [Option.bind_some, Option.toList_some, Option.toList_none, List.nil_append, List.cons_append, q_ck_tt, Bool.and_true, Bool.true_and, if_true, if_false, reduceCtorEq]
        rw [eX12_mendFirst_60, hg]
        simp only [Option.bind_some, Option.toList_some, Option.toList_none, List.nil_append, List.cons_append, q_ck_tt, Bool.and_true, Bool.true_and, if_true, if_false, reduceCtorEq]
      have h71 : kX12_mendFirst 71 [some (.ref 64), some (.int w), none, none, some (.int (nI s))] [] (qm M J e) = kX12_mendFirst 18 [some (.ref 64), some (.int w), some (.int (nI s)), some (.int (nI (qMd I N RM rc (qFa I sz (I 42 2) (I 37 1)) s))), some (.int (nI (s + 1)))] [] (qm M J e) := by
        rw [eX12_mendFirst_71, hg]
        simp only [Option.bind_some, Option.toList_some, Option.toList_none, List.nil_append, List.cons_append, q_ck_tt, Bool.and_true, Bool.true_and, if_true, if_false, reduceCtorEq]
        rw [eX12_mendFirst_78, eX12_mendFirst_79, nI_1]
      generalize qMd I N RM rc (qFa I sz (I 42 2) (I 37 1)) s = cs at hd hgo2 h71
      cases hm : qBm (qth N RM rc (I 42)) (qMd I N RM rc (qFa I sz (I 42 2) (I 37 1))) s with
      | none =>
        refine ⟨(nI s, nI cs, M), ⟨rfl, rfl, oM⟩, ?_⟩
        show kX12_mendFirst 18 _ _ _ = kX12_mendFirst 18 _ _ _
        rw [hgo2, eX12_mendFirst_64, hc, hm, if_pos (show qBc none < nI cs from q_m1_lt (by omega)), h71]
      | some y =>
        obtain ⟨i, c0⟩ := y
        obtain ⟨ilt, cle⟩ := qBm_lt (qMd_24 h (qFa I sz (I 42 2) (I 37 1))) s i c0 hm
        dsimp only
        by_cases g : c0 < cs
        · rw [if_pos g]
          refine ⟨(nI s, nI cs, M), ⟨rfl, rfl, oM⟩, ?_⟩
          show kX12_mendFirst 18 _ _ _ = kX12_mendFirst 18 _ _ _
          rw [hgo2, eX12_mendFirst_64, hc, hm, if_pos (show qBc (some (i, c0)) < nI cs from nI_lt g (by omega)), h71]
        · rw [if_neg g]
          refine ⟨(nI i, nI c0, M), ⟨rfl, rfl, oM⟩, ?_⟩
          show kX12_mendFirst 18 _ _ _ = kX12_mendFirst 18 _ _ _
          rw [hgo2, eX12_mendFirst_64, hc, hb, hm, if_neg (show ¬ qBc (some (i, c0)) < nI cs from nI_nlt (by omega) (by omega)), eX12_mendFirst_68, eX12_mendFirst_79, nI_1]
          rfl
  obtain ⟨y, ⟨y1, y2, y3⟩, y4⟩ := q_inv_for (fun s (y : Int32 × (Int32 × (Nat → Nat → Int32))) => kX12_mendFirst 18 [some (.ref 64), some (.int w), some (.int y.1), some (.int y.2.1), some (.int (nI s))] [] (qm y.2.2 J e)) (fun s y => y.1 = qBi (qBm (qth N RM rc (I 42)) (qMd I N RM rc (qFa I sz (I 42 2) (I 37 1))) s) ∧ y.2.1 = qBc (qBm (qth N RM rc (I 42)) (qMd I N RM rc (qFa I sz (I 42 2) (I 37 1))) s) ∧ q_Off I y.2.2) (qSN N RM) hst (qSN N RM) 0 (-1, -1, I) (by omega) ⟨rfl, rfl, q_Off_refl _⟩
  refine ⟨y.2.2, ?_, y3⟩
  rw [eX12_mendFirst_11]
  refine Eq.trans y4 ?_
  show kX12_mendFirst 18 _ _ _ = _
  rw [eX12_mendFirst_18, fX12_singleMany (q_Core_off h y3)]
  simp only [Option.bind_some, Option.toList_some, Option.toList_none, List.nil_append, List.cons_append, q_ck_tt, Bool.and_true, Bool.true_and, if_true, if_false, reduceCtorEq]
  rw [eX12_mendFirst_24, if_neg (nI_nlt (Nat.le_refl _) (by omega)), y1, y2]
theorem o_mendFirst (h : q_Core I D N cl RM rc) (a : Int32) : q_Obs mX11_mendFirst mX12_mendFirst [.int a] I J (3, 17, rb, tx, L) := by
  have h10 : ¬ ((1 : Int32) = 0) := by decide
  have h60 := qSN_60 h
  cases hq : q_in a 2 with
  | false =>
    refine ⟨-1, I, I, ?_, ?_, q_Off_refl _, q_Off_refl _⟩
    · rw [bX11_mendFirst, eX11_mendFirst_0, fX11_isBit, hq]
      simp only [Option.bind_some, Option.toList_some, Option.toList_none, List.nil_append, List.cons_append, q_ck_tt, Bool.and_true, Bool.true_and, if_true, if_false, reduceCtorEq]
      rw [eX11_mendFirst_4, if_pos qb_f, eX11_mendFirst_7]
    · rw [bX12_mendFirst, eX12_mendFirst_0, fX12_isBit, hq]
      simp only [Option.bind_some, Option.toList_some, Option.toList_none, List.nil_append, List.cons_append, q_ck_tt, Bool.and_true, Bool.true_and, if_true, if_false, reduceCtorEq]
      rw [eX12_mendFirst_6, if_pos qb_f, eX12_mendFirst_9]
  | true =>
    obtain ⟨sz, hz⟩ : ∃ sz, q_Fz I sz := h.fo
    obtain ⟨v, hfl⟩ := fX0_floatingAt I J (3, 17, rb, tx, L) hz.1 hz.2.1 hz.2.2.2.2 hz.d1 (I 42 2) (I 37 1)
    have o0 : q_Off I (va_up I 16 v) := q_Off_va I rfl v
    have h0 := q_Core_off h o0
    obtain ⟨K, k0, k1, k2⟩ := fX5_bestMended (J := J) (e := (3, 17, rb, tx, L)) h0 (qFa I sz (I 42 2) (I 37 1))
    have k0' : mX5_bestMended [.ref 48, .ref 3, .ref 42, .int (qB 24 (fun x => bt (I 42 2) x && qFl (I 69) (I 70) sz (I 12) (I 37 1) x))] (qm (va_up I 16 v) J (3, 17, rb, tx, L)) = some (some (.int (qBi (qBm (qth N RM rc ((va_up I 16 v) 42)) (qMd (va_up I 16 v) N RM rc (qFa I sz (I 42 2) (I 37 1))) (qSN N RM)))), qm K J (3, 17, rb, tx, L)) := k0
    have oK := q_Off_trans o0 k1
    have hK := q_Core_off h oK
    obtain ⟨K2, m0, m1⟩ := q_mf_ref (J := J) (e := (3, 17, rb, tx, L)) hK (q_Fz_off hz oK) a
    have e1 : ∀ B : Nat → Nat → Int32, q_Off I B → qMd B N RM rc (qFa I sz (I 42 2) (I 37 1)) = qMd I N RM rc (qFa I sz (I 42 2) (I 37 1)) := fun B o => by
      funext s
      unfold qMd
      rw [qGz_off o, qAn_off o, o.r 42 (fun _ => rfl), o.r 88 (fun _ => rfl)]
    rw [qFa_off oK, oK.r 42 (fun _ => rfl), oK.r 37 (fun _ => rfl), e1 K oK] at m0
    rw [e1 _ o0, show (va_up I 16 v) 42 = I 42 from va_miss (by decide)] at k0' k2
    have hlt := qBm_lt (sel := qth N RM rc (I 42)) (qMd_24 h (qFa I sz (I 42 2) (I 37 1))) (qSN N RM)
    generalize qBm (qth N RM rc (I 42)) (qMd I N RM rc (qFa I sz (I 42 2) (I 37 1))) (qSN N RM) = bm at m0 k0' k2 hlt
    have hc : mX11_mendFirst [.ref 1, .int a] (qm I J (3, 17, rb, tx, L)) = kX11_mendFirst 38 [some (.ref 1), some (.int a), none] [.int (qBi bm)] (qm K J (3, 17, rb, tx, L)) := by
      rw [bX11_mendFirst, eX11_mendFirst_0, fX11_isBit, hq]
      simp only [Option.bind_some, Option.toList_some, Option.toList_none, List.nil_append, List.cons_append, q_ck_tt, Bool.and_true, Bool.true_and, if_true, if_false, reduceCtorEq]
      rw [eX11_mendFirst_4, qb_t, if_neg h10, eX11_mendFirst_9, bX1_floating, eX1_floating_0, hfl]
      simp only [Option.bind_some, Option.toList_some, Option.toList_none, List.nil_append, List.cons_append, q_ck_tt, Bool.and_true, Bool.true_and, if_true, if_false, reduceCtorEq]
      rw [eX1_floating_15]
      simp only [Option.bind_some, Option.toList_some, Option.toList_none, List.nil_append, List.cons_append, q_ck_tt, Bool.and_true, Bool.true_and, if_true, if_false, reduceCtorEq]
      rw [eX11_mendFirst_35, k0']
      simp only [Option.bind_some, Option.toList_some, Option.toList_none, List.nil_append, List.cons_append, q_ck_tt, Bool.and_true, Bool.true_and, if_true, if_false, reduceCtorEq]
    have hr : mX12_mendFirst [.ref 64, .int a] (qm K J (3, 17, rb, tx, L)) = kX12_mendFirst 85 [none, some (.int a), some (.int (qBi bm)), some (.int (qBc bm)), none] [] (qm K2 J (3, 17, rb, tx, L)) := by
      rw [bX12_mendFirst, eX12_mendFirst_0, fX12_isBit, hq]
      simp only [Option.bind_some, Option.toList_some, Option.toList_none, List.nil_append, List.cons_append, q_ck_tt, Bool.and_true, Bool.true_and, if_true, if_false, reduceCtorEq]
      rw [eX12_mendFirst_6, qb_t, if_neg h10, m0]
    by_cases c0 : a = 0
    · refine ⟨qBi bm, K, K2, ?_, ?_, oK, m1⟩
      · rw [hc, eX11_mendFirst_38, if_pos c0, eX11_mendFirst_48, eX11_mendFirst_59]
      · rw [hr, eX12_mendFirst_85, if_pos c0, eX12_mendFirst_89, eX12_mendFirst_94]
    · refine ⟨qBc bm, K, K2, ?_, ?_, oK, m1⟩
      · rw [hc, eX11_mendFirst_38, if_neg c0, eX11_mendFirst_43]
        cases bm with
        | none => rw [if_pos (show qBi none = -1 from rfl), eX11_mendFirst_48, eX11_mendFirst_59]; rfl
        | some y =>
          obtain ⟨i, c⟩ := y
          obtain ⟨h1, h2⟩ := hlt i c rfl
          rw [if_neg (show ¬ qBi (some (i, c)) = -1 from nI_ne1 (by omega)), eX11_mendFirst_52, eX11_mendFirst_59, k2 i c rfl]
          rfl
      · rw [hr, eX12_mendFirst_85, if_neg c0, eX12_mendFirst_93, eX12_mendFirst_94]
end MS
