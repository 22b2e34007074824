/-! ===== confounded, verdict ===== -/
section CV
variable {I : Nat → Nat → Int32} {J : Nat → Nat → Int64} {e : QP} {rb tx L : Nat} {D N : Nat} {cl : Nat → Nat} {RM : Nat} {rc : Nat → Nat} {sz : Nat} {F : Nat → Int32} {st : Nat} {an wn : Nat → Int32}
theorem q_own (h : q_Core I D N cl RM rc) (hj : q_Jc I N st an wn) {n : Nat} (hn : n < N) {x : Nat} (hx : x < 32) : bt (I 10 n &&& (I 48 3 ^^^ (-1))) x = (bt (I 3 11) x && (decide (qNn I x = n) && !qGz I an wn x)) := by
  rw [b_and, b_not _ hx, hj.2.2.2.2 x hx, q_rcv h hn hx]
  unfold qGz
  cases bt (I 3 11) x <;> cases decide (qNn I x = n) <;> cases decide (an x = wn (qNn I x)) <;> rfl
/-- both nets have a bad receiver, and these answer alike -/
def qSh2 (I : Nat → Nat → Int32) (RM : Nat) (rc : Nat → Nat) (an wn : Nat → Int32) (n o : Nat) : Bool := qAny RM (fun r => (decide (qNn I (rc r) = n) && !qGz I an wn (rc r)) && qAny RM (fun s => (decide (qNn I (rc s) = o) && !qGz I an wn (rc s)) && decide (an (rc s) = an (rc r))))
theorem q_sh2 (h : q_Core I D N cl RM rc) (hj : q_Jc I N st an wn) {n o : Nat} (hn : n < N) (ho : o < N) : qAny 24 (fun x => bt (I 10 n &&& (I 48 3 ^^^ (-1))) x && qAny 24 (fun y => bt (I 10 o &&& (I 48 3 ^^^ (-1))) y && decide (an y = an x))) = qSh2 I RM rc an wn n o := by
  unfold qSh2
  refine Eq.trans ?_ (q_any_rc h (fun x => (decide (qNn I x = n) && !qGz I an wn x) && qAny RM (fun s => (decide (qNn I (rc s) = o) && !qGz I an wn (rc s)) && decide (an (rc s) = an x)))).symm
  refine qAny_cong (fun x hx => ?_)
  have h2 : qAny RM (fun s => (decide (qNn I (rc s) = o) && !qGz I an wn (rc s)) && decide (an (rc s) = an x)) = qAny 24 (fun y => bt (I 10 o &&& (I 48 3 ^^^ (-1))) y && decide (an y = an x)) := by
    refine Eq.trans (q_any_rc h (fun y => (decide (qNn I y = o) && !qGz I an wn y) && decide (an y = an x))) (qAny_cong (fun y hy => ?_))
    rw [q_own h hj ho (by omega)]
    simp only [Bool.and_assoc]
  rw [h2, q_own h hj hn (by omega), Bool.and_assoc]
theorem fX5_confoundedWith (h : q_Core I D N cl RM rc) (hj : q_Jc I N st an wn) {n : Nat} (hn : n < N) : mX5_confoundedWith [.ref 48, .ref 3, .ref 42, .int (nI n)] (qm I J e) = some (some (.int (qB N (fun o => !bt (qHn (I 42 3 ||| I 42 4) n 6) o && qSh2 I RM rc an wn n o))), qm I J e) := by
  have hN := h.n6
  have hst : ∀ o, o < N → (fun o (y : Int32) => kX5_confoundedWith 30 [some (.ref 48), some (.ref 3), none, none, some (.int (qHn (I 42 3 ||| I 42 4) n 6 ^^^ (-1))), some (.int (I 10 n &&& (I 48 3 ^^^ (-1)))), some (.int y), some (.int (nI o))] [] (qm I J e)) o (qB o (fun o => !bt (qHn (I 42 3 ||| I 42 4) n 6) o && qSh2 I RM rc an wn n o)) = (fun o (y : Int32) => kX5_confoundedWith 30 [some (.ref 48), some (.ref 3), none, none, some (.int (qHn (I 42 3 ||| I 42 4) n 6 ^^^ (-1))), some (.int (I 10 n &&& (I 48 3 ^^^ (-1)))), some (.int y), some (.int (nI o))] [] (qm I J e)) (o + 1) (qB (o + 1) (fun o => !bt (qHn (I 42 3 ||| I 42 4) n 6) o && qSh2 I RM rc an wn n o)) := by
    intro o ho
    show kX5_confoundedWith 30 _ _ _ = kX5_confoundedWith 30 _ _ _
    rw [qB_succ, eX5_confoundedWith_30, h.i35, if_pos (nI_lt ho (by omega)), eX5_confoundedWith_39, b_tst _ (by omega), b_not _ (by omega)]
    cases hb : bt (qHn (I 42 3 ||| I 42 4) n 6) o with
    | true => rw [Bool.not_true, if_pos qb_f, eX5_confoundedWith_81, nI_1, Bool.false_and, if_neg (by decide), q_or0]
    | false =>
      rw [Bool.not_false, if_neg (show ¬ qb true = 0 by decide), eX5_confoundedWith_49, q_in_nI (show o < 6 by omega) (by omega), nI_clamp (by omega), fX5_shareAnswer hj, q_sh2 h hj hn ho, Bool.true_and]
      simp only [Option.bind_some, Option.toList_some, Option.toList_none, List.nil_append, List.cons_append, q_ck_tt, Bool.and_true, Bool.true_and, if_true, if_false, reduceCtorEq]
      rw [eX5_confoundedWith_69]
      cases qSh2 I RM rc an wn n o with
      | false => rw [if_pos qb_f, eX5_confoundedWith_81, nI_1, if_neg (by decide), q_or0]
      | true => rw [if_neg (show ¬ qb true = 0 by decide), eX5_confoundedWith_72, eX5_confoundedWith_81, nI_1, if_pos rfl]
  have hf := q_for (fun o (y : Int32) => kX5_confoundedWith 30 [some (.ref 48), some (.ref 3), none, none, some (.int (qHn (I 42 3 ||| I 42 4) n 6 ^^^ (-1))), some (.int (I 10 n &&& (I 48 3 ^^^ (-1)))), some (.int y), some (.int (nI o))] [] (qm I J e)) N (fun o => qB o (fun o => !bt (qHn (I 42 3 ||| I 42 4) n 6) o && qSh2 I RM rc an wn n o)) hst
  rw [bX5_confoundedWith, eX5_confoundedWith_0, fX3_hanging_42 I J e h.st (by omega)]
  simp only [Option.bind_some, Option.toList_some, Option.toList_none, List.nil_append, List.cons_append, q_ck_tt, Bool.and_true, Bool.true_and, if_true, if_false, reduceCtorEq]
  rw [eX5_confoundedWith_5, q_in_nI (show n < 6 by omega) (by omega), nI_clamp (by omega)]
  simp only [Option.bind_some, Option.toList_some, Option.toList_none, List.nil_append, List.cons_append, q_ck_tt, Bool.and_true, Bool.true_and, if_true, if_false, reduceCtorEq]
  rw [eX5_confoundedWith_25]
  refine Eq.trans hf ?_
  show kX5_confoundedWith 30 _ _ _ = _
  rw [eX5_confoundedWith_30, h.i35, if_neg (nI_nlt (Nat.le_refl _) (by omega)), eX5_confoundedWith_87]
theorem q_cf_ref (w0 : Int32) (h : q_Core I D N cl RM rc) (hj : q_Jf I N RM rc an wn) {A : Nat → Bool} (hq : q_FQ D N A F (I 94)) {n : Nat} (hn : n < N) : kX12_confounded 22 [some (.ref 64), some (.int w0), some (.int (nI n)), none, none, none] [] (qm I J e) = some (some (.int (qOo (fun r => decide (qNn I (rc r) = n) && !qGz I an wn (rc r)) (fun r s => (!bt (qHn (F 3 ||| F 4) n 6) (qNn I (rc s)) && !qGz I an wn (rc s)) && decide (an (rc s) = an (rc r))) (fun s => qNn I (rc s)) RM RM)), qm I J e) := by
  have hN := h.n6
  have h18 := h.br.2.1
  have htw : mX12_togetherWith [.ref 64, .int (nI n)] (qm I J e) = some (some (.int (qHn (F 3 ||| F 4) n 6)), qm I J e) := by
    rw [q_FR_set hN hq.1 hn]
    exact fX12_togetherWith I J e hN h.m51 hn
  generalize qHn (F 3 ||| F 4) n 6 = hg at htw
  have hst : ∀ r, r < RM → (fun r (y : Int32) => kX12_confounded 27 [some (.ref 64), none, some (.int (nI n)), some (.int y), some (.int (nI r)), none] [] (qm I J e)) r (qOo (fun r => decide (qNn I (rc r) = n) && !qGz I an wn (rc r)) (fun r s => (!bt hg (qNn I (rc s)) && !qGz I an wn (rc s)) && decide (an (rc s) = an (rc r))) (fun s => qNn I (rc s)) RM r) = (fun r (y : Int32) => kX12_confounded 27 [some (.ref 64), none, some (.int (nI n)), some (.int y), some (.int (nI r)), none] [] (qm I J e)) (r + 1) (qOo (fun r => decide (qNn I (rc r) = n) && !qGz I an wn (rc r)) (fun r s => (!bt hg (qNn I (rc s)) && !qGz I an wn (rc s)) && decide (an (rc s) = an (rc r))) (fun s => qNn I (rc s)) RM (r + 1)) := by
    intro r hr
    obtain ⟨n1, n2⟩ := h.nn (h.br.2.2.1 r hr).2.2.1
    show kX12_confounded 27 _ _ _ = kX12_confounded 27 [some (.ref 64), none, some (.int (nI n)), some (.int (if (decide (qNn I (rc r) = n) && !qGz I an wn (rc r)) then qOo (fun r => decide (qNn I (rc r) = n) && !qGz I an wn (rc r)) (fun r s => (!bt hg (qNn I (rc s)) && !qGz I an wn (rc s)) && decide (an (rc s) = an (rc r))) (fun s => qNn I (rc s)) RM r ||| qOr (fun s => (!bt hg (qNn I (rc s)) && !qGz I an wn (rc s)) && decide (an (rc s) = an (rc r))) (fun s => qNn I (rc s)) RM else qOo (fun r => decide (qNn I (rc r) = n) && !qGz I an wn (rc r)) (fun r s => (!bt hg (qNn I (rc s)) && !qGz I an wn (rc s)) && decide (an (rc s) = an (rc r))) (fun s => qNn I (rc s)) RM r)), some (.int (nI (r + 1))), none] [] (qm I J e)
    generalize qOo (fun r => decide (qNn I (rc r) = n) && !qGz I an wn (rc r)) (fun r s => (!bt hg (qNn I (rc s)) && !qGz I an wn (rc s)) && decide (an (rc s) = an (rc r))) (fun s => qNn I (rc s)) RM r = y
    rw [eX12_confounded_27, h.br.1, if_pos (nI_lt hr (by omega)), eX12_confounded_36, fX12_netAt h hr]
    simp only [Option.bind_some, Option.toList_some, Option.toList_none, List.nil_append, List.cons_append, q_ck_tt, Bool.and_true, Bool.true_and, if_true, if_false, reduceCtorEq]
    rw [eX12_confounded_42]
    by_cases c : qNn I (rc r) = n
    · rw [if_pos (by rw [c]), eX12_confounded_46, fX12_isGood h hj hr, decide_eq_true c, Bool.true_and]
      simp only [Option.bind_some, Option.toList_some, Option.toList_none, List.nil_append, List.cons_append, q_ck_tt, Bool.and_true, Bool.true_and, if_true, if_false, reduceCtorEq]
      rw [eX12_confounded_52]
      cases hgd : qGz I an wn (rc r) with
      | true => rw [if_neg (show ¬ qb true = 0 by decide), eX12_confounded_55, eX12_confounded_137, nI_1, Bool.not_true, if_neg (by decide)]
      | false =>
        rw [if_pos qb_f, eX12_confounded_58, Bool.not_false, if_pos rfl]
        have hin : ∀ s, s < RM → (fun s (z : Int32) => kX12_confounded 61 [some (.ref 64), none, some (.int (nI n)), some (.int (y ||| z)), some (.int (nI r)), some (.int (nI s))] [] (qm I J e)) s (qOr (fun s => (!bt hg (qNn I (rc s)) && !qGz I an wn (rc s)) && decide (an (rc s) = an (rc r))) (fun s => qNn I (rc s)) s) = (fun s (z : Int32) => kX12_confounded 61 [some (.ref 64), none, some (.int (nI n)), some (.int (y ||| z)), some (.int (nI r)), some (.int (nI s))] [] (qm I J e)) (s + 1) (qOr (fun s => (!bt hg (qNn I (rc s)) && !qGz I an wn (rc s)) && decide (an (rc s) = an (rc r))) (fun s => qNn I (rc s)) (s + 1)) := by
          intro s hs
          obtain ⟨m1, m2⟩ := h.nn (h.br.2.2.1 s hs).2.2.1
          show kX12_confounded 61 _ _ _ = kX12_confounded 61 [some (.ref 64), none, some (.int (nI n)), some (.int (y ||| (qOr (fun s => (!bt hg (qNn I (rc s)) && !qGz I an wn (rc s)) && decide (an (rc s) = an (rc r))) (fun s => qNn I (rc s)) s ||| (if ((!bt hg (qNn I (rc s)) && !qGz I an wn (rc s)) && decide (an (rc s) = an (rc r))) then (1 : Int32) <<< (nI (qNn I (rc s)) &&& 31) else 0)))), some (.int (nI r)), some (.int (nI (s + 1)))] [] (qm I J e)
          generalize qOr (fun s => (!bt hg (qNn I (rc s)) && !qGz I an wn (rc s)) && decide (an (rc s) = an (rc r))) (fun s => qNn I (rc s)) s = z
          have h119 : ∀ b : Bool, kX12_confounded 119 [some (.ref 64), none, some (.int (nI n)), none, some (.int (nI r)), some (.int (nI s))] [.int (qb b), .int (y ||| z)] (qm I J e) = kX12_confounded 61 [some (.ref 64), none, some (.int (nI n)), some (.int (y ||| (z ||| (if b then (1 : Int32) <<< (nI (qNn I (rc s)) &&& 31) else 0)))), some (.int (nI r)), some (.int (nI (s + 1)))] [] (qm I J e) := by
            intro b
            rw [eX12_confounded_119, fX12_truth]
            simp only [Option.bind_some, Option.toList_some, Option.toList_none, List.nil_append, List.cons_append, q_ck_tt, Bool.and_true, Bool.true_and, if_true, if_false, reduceCtorEq]
            rw [eX12_confounded_122, fX12_netAt h hs]
            simp only [Option.bind_some, Option.toList_some, Option.toList_none, List.nil_append, List.cons_append, q_ck_tt, Bool.and_true, Bool.true_and, if_true, if_false, reduceCtorEq]
            rw [eX12_confounded_128, nI_1, qb_shl _ (by omega), q_or_as]
          have h118 : kX12_confounded 118 [some (.ref 64), none, some (.int (nI n)), none, some (.int (nI r)), some (.int (nI s))] [.int (y ||| z)] (qm I J e) = kX12_confounded 119 [some (.ref 64), none, some (.int (nI n)), none, some (.int (nI r)), some (.int (nI s))] [.int (qb false), .int (y ||| z)] (qm I J e) := by rw [eX12_confounded_118]; rfl
          rw [eX12_confounded_61, h.br.1, if_pos (nI_lt hs (by omega)), eX12_confounded_70, htw]
          simp only [Option.bind_some, Option.toList_some, Option.toList_none, List.nil_append, List.cons_append, q_ck_tt, Bool.and_true, Bool.true_and, if_true, if_false, reduceCtorEq]
          rw [eX12_confounded_76, fX12_netAt h hs]
          simp only [Option.bind_some, Option.toList_some, Option.toList_none, List.nil_append, List.cons_append, q_ck_tt, Bool.and_true, Bool.true_and, if_true, if_false, reduceCtorEq]
          rw [eX12_confounded_82, fX12_has _ _ _ _ (show qNn I (rc s) < 32 by omega)]
          simp only [Option.bind_some, Option.toList_some, Option.toList_none, List.nil_append, List.cons_append, q_ck_tt, Bool.and_true, Bool.true_and, if_true, if_false, reduceCtorEq]
          rw [eX12_confounded_85]
          cases bt hg (qNn I (rc s)) with
          | true => rw [if_neg (show ¬ qb true = 0 by decide), h118, h119, Bool.not_true, Bool.false_and, Bool.false_and]
          | false =>
            rw [if_pos qb_f, eX12_confounded_88, fX12_isGood h hj hs, Bool.not_false, Bool.true_and]
            simp only [Option.bind_some, Option.toList_some, Option.toList_none, List.nil_append, List.cons_append, q_ck_tt, Bool.and_true, Bool.true_and, if_true, if_false, reduceCtorEq]
            rw [eX12_confounded_94]
            cases qGz I an wn (rc s) with
            | true => rw [if_neg (show ¬ qb true = 0 by decide), h118, h119, Bool.not_true, Bool.false_and]
            | false =>
              rw [if_pos qb_f, eX12_confounded_97, q_in_nI (show r < 24 by omega) (by omega), q_in_nI (show s < 24 by omega) (by omega), nI_clamp (show r < 2 ^ 31 by omega), nI_clamp (show s < 2 ^ 31 by omega), hj.2 r hr, hj.2 s hs, Bool.not_false, Bool.true_and]
              simp only [Option.bind_some, Option.toList_some, Option.toList_none, List.nil_append, List.cons_append, q_ck_tt, Bool.and_true, Bool.true_and, if_true, if_false, reduceCtorEq]
              by_cases c2 : an (rc s) = an (rc r)
              · rw [if_pos c2, eX12_confounded_114, decide_eq_true c2]
                exact h119 true
              · rw [if_neg c2, h118, h119, decide_eq_false c2]
        have hf := q_for (fun s (z : Int32) => kX12_confounded 61 [some (.ref 64), none, some (.int (nI n)), some (.int (y ||| z)), some (.int (nI r)), some (.int (nI s))] [] (qm I J e)) RM (fun s => qOr (fun s => (!bt hg (qNn I (rc s)) && !qGz I an wn (rc s)) && decide (an (rc s) = an (rc r))) (fun s => qNn I (rc s)) s) hin
        rw [show qOr (fun s => (!bt hg (qNn I (rc s)) && !qGz I an wn (rc s)) && decide (an (rc s) = an (rc r))) (fun s => qNn I (rc s)) 0 = 0 from rfl, q_or0] at hf
        refine Eq.trans hf ?_
        show kX12_confounded 61 _ _ _ = _
        rw [eX12_confounded_61, h.br.1, if_neg (nI_nlt (Nat.le_refl _) (by omega)), eX12_confounded_137, nI_1]
    · rw [if_neg (fun g => c (nI_inj (by omega) (by omega) g)), eX12_confounded_137, nI_1, decide_eq_false c, Bool.false_and, if_neg (by decide)]
  have hf := q_for (fun r (y : Int32) => kX12_confounded 27 [some (.ref 64), none, some (.int (nI n)), some (.int y), some (.int (nI r)), none] [] (qm I J e)) RM (fun r => qOo (fun r => decide (qNn I (rc r) = n) && !qGz I an wn (rc r)) (fun r s => (!bt hg (qNn I (rc s)) && !qGz I an wn (rc s)) && decide (an (rc s) = an (rc r))) (fun s => qNn I (rc s)) RM r) hst
  rw [eX12_confounded_22]
  refine Eq.trans hf ?_
  show kX12_confounded 27 _ _ _ = _
  rw [eX12_confounded_27, h.br.1, if_neg (nI_nlt (Nat.le_refl _) (by omega)), eX12_confounded_143]
theorem q_cf_eq (h : q_Core I D N cl RM rc) (hg : Int32) (n : Nat) : qOo (fun r => decide (qNn I (rc r) = n) && !qGz I an wn (rc r)) (fun r s => (!bt hg (qNn I (rc s)) && !qGz I an wn (rc s)) && decide (an (rc s) = an (rc r))) (fun s => qNn I (rc s)) RM RM = qB N (fun o => !bt hg o && qSh2 I RM rc an wn n o) := by
  have hN := h.n6
  have hnn : ∀ r, r < RM → qNn I (rc r) < N := fun r hr => (h.nn (h.br.2.2.1 r hr).2.2.1).2
  apply b_ext
  intro v hv
  rw [b_qOo v RM (fun s hs => by have := hnn s hs; omega), b_qB _ (by omega) hv]
  by_cases c : v < N
  · rw [decide_eq_true c, Bool.true_and]
    cases hb : bt hg v with
    | true =>
      rw [Bool.not_true, Bool.false_and]
      cases hc : qAny RM (fun r => (decide (qNn I (rc r) = n) && !qGz I an wn (rc r)) && qAny RM (fun i => ((!bt hg (qNn I (rc i)) && !qGz I an wn (rc i)) && decide (an (rc i) = an (rc r))) && decide (v = qNn I (rc i)))) with
      | false => rfl
      | true =>
        obtain ⟨r, hr, h1⟩ := qAny_iff.mp hc
        rw [Bool.and_eq_true] at h1
        obtain ⟨s, hs, h2⟩ := qAny_iff.mp h1.2
        simp only [Bool.and_eq_true, decide_eq_true_eq, Bool.not_eq_true'] at h2
        rw [← h2.2, hb] at h2
        exact absurd h2.1.1.1 (by decide)
    | false =>
      rw [Bool.not_false, Bool.true_and]
      unfold qSh2
      refine qAny_cong (fun r hr => ?_)
      congr 1
      refine qAny_cong (fun s hs => ?_)
      by_cases c2 : v = qNn I (rc s)
      · rw [← c2, hb, decide_eq_true rfl, Bool.not_false, Bool.and_true]
      · rw [decide_eq_false c2, decide_eq_false (show ¬ qNn I (rc s) = v from fun g => c2 g.symm), Bool.and_false, Bool.false_and, Bool.false_and]
  · rw [decide_eq_false c, Bool.false_and]
    cases hc : qAny RM (fun r => (decide (qNn I (rc r) = n) && !qGz I an wn (rc r)) && qAny RM (fun i => ((!bt hg (qNn I (rc i)) && !qGz I an wn (rc i)) && decide (an (rc i) = an (rc r))) && decide (v = qNn I (rc i)))) with
    | false => rfl
    | true =>
      obtain ⟨r, hr, h1⟩ := qAny_iff.mp hc
      rw [Bool.and_eq_true] at h1
      obtain ⟨s, hs, h2⟩ := qAny_iff.mp h1.2
      rw [Bool.and_eq_true, decide_eq_true_eq] at h2
      exact absurd (hnn s hs) (by omega)
theorem o_confounded (h : q_Core I D N cl RM rc) (a b : Int32) : q_Obs mX11_confounded mX12_confounded [.int a, .int b] I J (3, 17, rb, tx, L) := by
  have h10 : ¬ ((1 : Int32) = 0) := by decide
  have hN := h.n6
  cases hq : q_in a 3 with
  | false =>
    refine ⟨-1, I, I, ?_, ?_, q_Off_refl _, q_Off_refl _⟩
    · rw [bX11_confounded, eX11_confounded_0, fX11_isKind, hq]
      simp only [Option.bind_some, Option.toList_some, Option.toList_none, List.nil_append, List.cons_append, q_ck_tt, Bool.and_true, Bool.true_and, if_true, if_false, reduceCtorEq]
      rw [eX11_confounded_4, if_pos qb_f, eX11_confounded_41, eX11_confounded_42]
    · rw [bX12_confounded, eX12_confounded_0, fX12_isKind, hq]
      simp only [Option.bind_some, Option.toList_some, Option.toList_none, List.nil_append, List.cons_append, q_ck_tt, Bool.and_true, Bool.true_and, if_true, if_false, reduceCtorEq]
      rw [eX12_confounded_4, if_pos qb_f, eX12_confounded_15]
  | true =>
    obtain ⟨k, hk, rfl, -⟩ := q_in_of hq
    cases hqb : q_in b N with
    | false =>
      refine ⟨-1, I, I, ?_, ?_, q_Off_refl _, q_Off_refl _⟩
      · rw [bX11_confounded, eX11_confounded_0, fX11_isKind, hq]
        simp only [Option.bind_some, Option.toList_some, Option.toList_none, List.nil_append, List.cons_append, q_ck_tt, Bool.and_true, Bool.true_and, if_true, if_false, reduceCtorEq]
        rw [eX11_confounded_4, qb_t, if_neg h10, eX11_confounded_7, fX0_hasNet I J _ hN h.i35, hqb]
        simp only [Option.bind_some, Option.toList_some, Option.toList_none, List.nil_append, List.cons_append, q_ck_tt, Bool.and_true, Bool.true_and, if_true, if_false, reduceCtorEq]
        rw [eX11_confounded_15, if_pos qb_f, eX11_confounded_41, eX11_confounded_42]
      · rw [bX12_confounded, eX12_confounded_0, fX12_isKind, hq]
        simp only [Option.bind_some, Option.toList_some, Option.toList_none, List.nil_append, List.cons_append, q_ck_tt, Bool.and_true, Bool.true_and, if_true, if_false, reduceCtorEq]
        rw [eX12_confounded_4, qb_t, if_neg h10, eX12_confounded_7, fX12_isNet I J _ hN h.m51, hqb]
        simp only [Option.bind_some, Option.toList_some, Option.toList_none, List.nil_append, List.cons_append, q_ck_tt, Bool.and_true, Bool.true_and, if_true, if_false, reduceCtorEq]
        rw [eX12_confounded_12, if_pos qb_f, eX12_confounded_15]
    | true =>
      obtain ⟨n, hn, rfl, -⟩ := q_in_of hqb
      obtain ⟨sz, hz⟩ : ∃ sz, q_Fz I sz := h.fo
      obtain ⟨an, wn, K, j0, o1, j1, K2, j2, o2, j3, j4⟩ := q_judge (J := J) (rb := rb) (tx := tx) (L := L) h hz hk
      have hK := q_Core_off h o1
      have hK2 := q_Core_off hK o2
      have h42 : K 42 = I 42 := o1.r 42 (fun _ => rfl)
      refine ⟨qB N (fun o => !bt (qHn (I 42 3 ||| I 42 4) n 6) o && qSh2 K RM rc an wn n o), K, K2, ?_, ?_, o1, o2⟩
      · rw [bX11_confounded, eX11_confounded_0, fX11_isKind, hq]
        simp only [Option.bind_some, Option.toList_some, Option.toList_none, List.nil_append, List.cons_append, q_ck_tt, Bool.and_true, Bool.true_and, if_true, if_false, reduceCtorEq]
        rw [eX11_confounded_4, qb_t, if_neg h10, eX11_confounded_7, fX0_hasNet I J _ hN h.i35, hqb]
        simp only [Option.bind_some, Option.toList_some, Option.toList_none, List.nil_append, List.cons_append, q_ck_tt, Bool.and_true, Bool.true_and, if_true, if_false, reduceCtorEq]
        rw [eX11_confounded_15, qb_t, if_neg h10, eX11_confounded_18, j0]
        simp only [Option.bind_some, Option.toList_some, Option.toList_none, List.nil_append, List.cons_append, q_ck_tt, Bool.and_true, Bool.true_and, if_true, if_false, reduceCtorEq]
        rw [eX11_confounded_23, fX5_confoundedWith hK j1 hn, h42]
        simp only [Option.bind_some, Option.toList_some, Option.toList_none, List.nil_append, List.cons_append, q_ck_tt, Bool.and_true, Bool.true_and, if_true, if_false, reduceCtorEq]
        rw [eX11_confounded_38, eX11_confounded_42]
      · rw [bX12_confounded, eX12_confounded_0, fX12_isKind, hq]
        simp only [Option.bind_some, Option.toList_some, Option.toList_none, List.nil_append, List.cons_append, q_ck_tt, Bool.and_true, Bool.true_and, if_true, if_false, reduceCtorEq]
        rw [eX12_confounded_4, qb_t, if_neg h10, eX12_confounded_7, fX12_isNet K J _ hN hK.m51, hqb]
        simp only [Option.bind_some, Option.toList_some, Option.toList_none, List.nil_append, List.cons_append, q_ck_tt, Bool.and_true, Bool.true_and, if_true, if_false, reduceCtorEq]
        rw [eX12_confounded_12, qb_t, if_neg h10, eX12_confounded_17, j2]
        simp only [Option.bind_some, Option.toList_some, Option.toList_none, List.nil_append, List.cons_append, q_ck_tt, Bool.and_true, Bool.true_and, if_true, if_false, reduceCtorEq]
        rw [q_cf_ref _ hK2 j3 j4 hn, q_cf_eq hK2]
        congr 4
        refine qB_cong (fun o ho => ?_)
        unfold qSh2
        rw [qGz_off o2, qNn_off o2]
end CV
