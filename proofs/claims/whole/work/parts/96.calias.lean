/-! ===== aliased, confounded, worst ===== -/
theorem nI_ne1 {a : Nat} (h : a < 2 ^ 30) : ¬ nI a = -1 := fun c => nI_pos (n := a) (by omega) (by rw [c]; decide)
def qOr (c : Nat → Bool) (s : Nat → Nat) : Nat → Int32
  | 0 => 0
  | n + 1 => qOr c s n ||| (if c n then (1 : Int32) <<< (nI (s n) &&& 31) else 0)
theorem b_qOr {c : Nat → Bool} {s : Nat → Nat} (v : Nat) : ∀ n, (∀ i, i < n → c i = true → s i < 32) → bt (qOr c s n) v = qAny n (fun i => c i && decide (v = s i))
  | 0, _ => b_0 v
  | n + 1, h => by
    show bt (qOr c s n ||| (if c n then (1 : Int32) <<< (nI (s n) &&& 31) else 0)) v = (qAny n (fun i => c i && decide (v = s i)) || (c n && decide (v = s n)))
    rw [b_or, b_qOr v n (fun i hi => h i (by omega))]
    cases hc : c n with
    | false => rw [if_neg (by decide), b_0, Bool.false_and]
    | true => rw [if_pos rfl, b_bit (h n (by omega) hc), Bool.true_and]
theorem q_acc (y : Int32) (a p : Bool) {t : Nat} (ht : t < 32) : (y ||| (if a then (1 : Int32) <<< (nI t &&& 31) else 0)) ||| (qb p <<< (nI t &&& 31)) = y ||| (if (a || p) then (1 : Int32) <<< (nI t &&& 31) else 0) := by
  apply b_ext
  intro i hi
  rw [qb_shl _ ht, b_or, b_or, b_or, b_ib ht, b_ib ht, b_ib ht]
  cases a <;> cases p <;> cases bt y i <;> cases decide (i = t) <;> rfl
theorem q_or_as (a b c : Int32) : (a ||| b) ||| c = a ||| (b ||| c) := by
  apply b_ext
  intro i _
  rw [b_or, b_or, b_or, b_or, Bool.or_assoc]
def qOo (c1 : Nat → Bool) (c2 : Nat → Nat → Bool) (s : Nat → Nat) (m : Nat) : Nat → Int32
  | 0 => 0
  | r + 1 => if c1 r then qOo c1 c2 s m r ||| qOr (c2 r) s m else qOo c1 c2 s m r
theorem b_qOo {c1 : Nat → Bool} {c2 : Nat → Nat → Bool} {s : Nat → Nat} {m : Nat} (v : Nat) : ∀ n, (∀ i, i < m → s i < 32) → bt (qOo c1 c2 s m n) v = qAny n (fun r => c1 r && qAny m (fun i => c2 r i && decide (v = s i)))
  | 0, _ => b_0 v
  | n + 1, h => by
    show bt (if c1 n then qOo c1 c2 s m n ||| qOr (c2 n) s m else qOo c1 c2 s m n) v = (qAny n (fun r => c1 r && qAny m (fun i => c2 r i && decide (v = s i))) || (c1 n && qAny m (fun i => c2 n i && decide (v = s i))))
    cases hc : c1 n with
    | false => rw [if_neg (by decide), b_qOo v n h, Bool.false_and, Bool.or_false]
    | true => rw [if_pos rfl, b_or, b_qOo v n h, b_qOr v m (fun i hi _ => h i hi), Bool.true_and]
section AL
variable {I : Nat → Nat → Int32} {J : Nat → Nat → Int64} {e : QP} {rb tx L : Nat} {D N : Nat} {cl : Nat → Nat} {RM : Nat} {rc : Nat → Nat} {sz : Nat} {F : Nat → Int32} {st : Nat} {an wn : Nat → Int32}
theorem q_any_rc (h : q_Core I D N cl RM rc) (g : Nat → Bool) : qAny RM (fun r => g (rc r)) = qAny 24 (fun x => bt (I 3 11) x && g x) := by
  cases hc : qAny 24 (fun x => bt (I 3 11) x && g x) with
  | true =>
    obtain ⟨x, hx, hg⟩ := qAny_iff.mp hc
    rw [Bool.and_eq_true] at hg
    obtain ⟨r, hr, hrx⟩ := h.rcof hx hg.1
    exact qAny_iff.mpr ⟨r, hr, by rw [hrx]; exact hg.2⟩
  | false =>
    cases hd : qAny RM (fun r => g (rc r)) with
    | false => rfl
    | true =>
      obtain ⟨r, hr, hg⟩ := qAny_iff.mp hd
      obtain ⟨-, r2, r3, -⟩ := h.br.2.2.1 r hr
      have : qAny 24 (fun x => bt (I 3 11) x && g x) = true := qAny_iff.mpr ⟨rc r, r2, by rw [r3, hg]; rfl⟩
      rw [hc] at this
      cases this
theorem q_rcv (h : q_Core I D N cl RM rc) {n : Nat} (hn : n < N) {x : Nat} (hx : x < 32) : bt (I 10 n) x = (bt (I 3 11) x && decide (qNn I x = n)) := by
  have hN := h.n6
  cases hA : bt (I 3 11) x with
  | true =>
    obtain ⟨n1, n2⟩ := h.nn hA
    have hA' := hA
    rw [h.bc.2.2.2.1 x hx, Bool.and_eq_true, Bool.and_eq_true] at hA'
    rw [(h.bc.2.2.1 n hn x hx).2, hA'.1, hA'.2.2, n1, Bool.true_and, Bool.and_true, Bool.true_and]
    by_cases c : qNn I x = n
    · rw [decide_eq_true c, decide_eq_true (by rw [c])]
    · rw [decide_eq_false c, decide_eq_false (fun g => c (nI_inj (by omega) (by omega) g))]
  | false =>
    rw [Bool.false_and]
    cases hb : bt (I 10 n) x with
    | false => rfl
    | true =>
      rw [(h.bc.2.2.1 n hn x hx).2, Bool.and_eq_true, Bool.and_eq_true] at hb
      obtain ⟨b1, b2, b3⟩ := hb
      rw [h.bc.2.2.2.1 x hx, b1, b3, of_decide_eq_true b2, decide_eq_false (nI_ne1 (by omega))] at hA
      cases hA
theorem fX5_isToldToSome (h : q_Core I D N cl RM rc) (hj : q_Jc I N st an wn) (v : Int32) : mX5_isToldToSome [.ref 48, .ref 3, .int v] (qm I J e) = some (some (.int (qb (qAny N (fun n => decide (wn n = v))))), qm I J e) := by
  have hN := h.n6
  rw [bX5_isToldToSome, eX5_isToldToSome_0]
  refine q_any_lp (Fk := fun n => kX5_isToldToSome 2 [some (.ref 48), some (.ref 3), some (.int v), some (.int (nI n))] [] (qm I J e)) (fun n hn => ?_) ?_
  · show kX5_isToldToSome 2 _ _ _ = if _ then _ else kX5_isToldToSome 2 _ _ _
    rw [eX5_isToldToSome_2, h.i35, if_pos (nI_lt hn (by omega)), eX5_isToldToSome_10, fX5_across_49 hj hN hn]
    simp only [Option.bind_some, Option.toList_some, Option.toList_none, List.nil_append, List.cons_append, q_ck_tt, Bool.and_true, Bool.true_and, if_true, if_false, reduceCtorEq]
    rw [eX5_isToldToSome_19]
    by_cases c : wn n = v
    · rw [if_pos c, eX5_isToldToSome_23, if_pos (decide_eq_true c)]
    · rw [if_neg c, eX5_isToldToSome_25, nI_1, if_neg (by rw [decide_eq_false c]; decide)]
  · show kX5_isToldToSome 2 _ _ _ = _
    rw [eX5_isToldToSome_2, h.i35, if_neg (nI_nlt (Nat.le_refl _) (by omega)), eX5_isToldToSome_31]
theorem fX5_isAnswerAmong (hj : q_Jc I N st an wn) (w v : Int32) : mX5_isAnswerAmong [.ref 48, .int w, .int v] (qm I J e) = some (some (.int (qb (qAny 24 (fun x => bt w x && decide (an x = v))))), qm I J e) := by
  rw [bX5_isAnswerAmong, eX5_isAnswerAmong_0]
  refine q_any_lp (Fk := fun n => kX5_isAnswerAmong 2 [some (.ref 48), some (.int w), some (.int v), some (.int (nI n))] [] (qm I J e)) (fun x hx => ?_) ?_
  · show kX5_isAnswerAmong 2 _ _ _ = if _ then _ else kX5_isAnswerAmong 2 _ _ _
    rw [eX5_isAnswerAmong_2, if_pos (show nI x < (24 : Int32) from nI_lt (b := 24) hx (by decide)), eX5_isAnswerAmong_8, b_tst _ (by omega)]
    cases hb : bt w x with
    | false => rw [if_pos qb_f, eX5_isAnswerAmong_27, nI_1, Bool.false_and, if_neg (by decide)]
    | true =>
      rw [if_neg (show ¬ qb true = 0 by decide), eX5_isAnswerAmong_16, fX5_answerAt hj (by omega), Bool.true_and]
      simp only [Option.bind_some, Option.toList_some, Option.toList_none, List.nil_append, List.cons_append, q_ck_tt, Bool.and_true, Bool.true_and, if_true, if_false, reduceCtorEq]
      rw [eX5_isAnswerAmong_21]
      by_cases c : an x = v
      · rw [if_pos c, eX5_isAnswerAmong_25, if_pos (decide_eq_true c)]
      · rw [if_neg c, eX5_isAnswerAmong_27, nI_1, if_neg (by rw [decide_eq_false c]; decide)]
  · show kX5_isAnswerAmong 2 _ _ _ = _
    rw [eX5_isAnswerAmong_2, if_neg (show ¬ nI 24 < (24 : Int32) by decide), eX5_isAnswerAmong_33]
theorem fX5_shareAnswer (hj : q_Jc I N st an wn) (w w' : Int32) : mX5_shareAnswer [.ref 48, .int w, .int w'] (qm I J e) = some (some (.int (qb (qAny 24 (fun x => bt w x && qAny 24 (fun y => bt w' y && decide (an y = an x)))))), qm I J e) := by
  rw [bX5_shareAnswer, eX5_shareAnswer_0]
  refine q_any_lp (Fk := fun n => kX5_shareAnswer 2 [some (.ref 48), some (.int w), some (.int w'), some (.int (nI n))] [] (qm I J e)) (fun x hx => ?_) ?_
  · show kX5_shareAnswer 2 _ _ _ = if _ then _ else kX5_shareAnswer 2 _ _ _
    rw [eX5_shareAnswer_2, if_pos (show nI x < (24 : Int32) from nI_lt (b := 24) hx (by decide)), eX5_shareAnswer_8, b_tst _ (by omega)]
    cases hb : bt w x with
    | false => rw [if_pos qb_f, eX5_shareAnswer_31, nI_1, Bool.false_and, if_neg (by decide)]
    | true =>
      rw [if_neg (show ¬ qb true = 0 by decide), eX5_shareAnswer_16, fX5_answerAt hj (by omega), Bool.true_and]
      simp only [Option.bind_some, Option.toList_some, Option.toList_none, List.nil_append, List.cons_append, q_ck_tt, Bool.and_true, Bool.true_and, if_true, if_false, reduceCtorEq]
      rw [eX5_shareAnswer_23, fX5_isAnswerAmong hj]
      simp only [Option.bind_some, Option.toList_some, Option.toList_none, List.nil_append, List.cons_append, q_ck_tt, Bool.and_true, Bool.true_and, if_true, if_false, reduceCtorEq]
      rw [eX5_shareAnswer_26]
      cases qAny 24 (fun y => bt w' y && decide (an y = an x)) with
      | false => rw [if_pos qb_f, eX5_shareAnswer_31, nI_1, if_neg (by decide)]
      | true => rw [if_neg (show ¬ qb true = 0 by decide), eX5_shareAnswer_29, if_pos rfl]
  · show kX5_shareAnswer 2 _ _ _ = _
    rw [eX5_shareAnswer_2, if_neg (show ¬ nI 24 < (24 : Int32) by decide), eX5_shareAnswer_37]
/-- who is taken for another -/
def qAl (I : Nat → Nat → Int32) (N : Nat) (op : Int32) (an wn : Nat → Int32) (x : Nat) : Bool := !qGz I an wn x && (!bt op x && qAny N (fun n => decide (wn n = an x)))
theorem fX5_aliasedNets (h : q_Core I D N cl RM rc) (hj : q_Jc I N st an wn) : mX5_aliasedNets [.ref 48, .ref 3, .ref 42] (qm I J e) = some (some (.int (qOr (fun x => bt (I 3 11) x && qAl I N (I 42 2) an wn x) (qNn I) 24)), qm I J e) := by
  have hst : ∀ x, x < 24 → (fun x (y : Int32) => kX5_aliasedNets 5 [some (.ref 48), some (.ref 3), some (.ref 42), some (.int y), some (.int (nI x)), none] [] (qm I J e)) x (qOr (fun x => bt (I 3 11) x && qAl I N (I 42 2) an wn x) (qNn I) x) = (fun x (y : Int32) => kX5_aliasedNets 5 [some (.ref 48), some (.ref 3), some (.ref 42), some (.int y), some (.int (nI x)), none] [] (qm I J e)) (x + 1) (qOr (fun x => bt (I 3 11) x && qAl I N (I 42 2) an wn x) (qNn I) (x + 1)) := by
    intro x hx
    show kX5_aliasedNets 5 _ _ _ = kX5_aliasedNets 5 [some (.ref 48), some (.ref 3), some (.ref 42), some (.int (qOr (fun x => bt (I 3 11) x && qAl I N (I 42 2) an wn x) (qNn I) x ||| (if bt (I 3 11) x && qAl I N (I 42 2) an wn x then (1 : Int32) <<< (nI (qNn I x) &&& 31) else 0))), some (.int (nI (x + 1))), none] [] (qm I J e)
    generalize qOr (fun x => bt (I 3 11) x && qAl I N (I 42 2) an wn x) (qNn I) x = y
    have h5 := hj.2.2.2.2 x (by omega)
    rw [eX5_aliasedNets_5, if_pos (show nI x < (24 : Int32) from nI_lt (b := 24) hx (by decide)), eX5_aliasedNets_12, eX5_aliasedNets_34, b_tst _ (by omega), b_and, b_and, b_not _ (by omega), b_not _ (by omega), h5]
    unfold qAl qGz
    cases hA : bt (I 3 11) x with
    | false => rw [Bool.false_and, Bool.false_and, Bool.false_and, if_pos qb_f, eX5_aliasedNets_68, if_neg (by decide), q_or0, nI_1]
    | true =>
      obtain ⟨n1, -⟩ := h.nn hA
      rw [Bool.true_and, Bool.true_and, Bool.true_and]
      cases hg : decide (an x = wn (qNn I x)) with
      | true => rw [Bool.not_true, Bool.false_and, Bool.false_and, if_pos qb_f, eX5_aliasedNets_68, if_neg (by decide), q_or0, nI_1]
      | false =>
        rw [Bool.not_false, Bool.true_and, Bool.true_and]
        cases ho : bt (I 42 2) x with
        | true => rw [Bool.not_true, Bool.false_and, if_pos qb_f, eX5_aliasedNets_68, if_neg (by decide), q_or0, nI_1]
        | false =>
          rw [Bool.not_false, Bool.true_and, if_neg (show ¬ qb true = 0 by decide), eX5_aliasedNets_42, fX5_answerAt hj (by omega)]
          simp only [Option.bind_some, Option.toList_some, Option.toList_none, List.nil_append, List.cons_append, q_ck_tt, Bool.and_true, Bool.true_and, if_true, if_false, reduceCtorEq]
          rw [eX5_aliasedNets_50, fX5_isToldToSome h hj]
          simp only [Option.bind_some, Option.toList_some, Option.toList_none, List.nil_append, List.cons_append, q_ck_tt, Bool.and_true, Bool.true_and, if_true, if_false, reduceCtorEq]
          rw [eX5_aliasedNets_53]
          cases qAny N (fun n => decide (wn n = an x)) with
          | false => rw [if_pos qb_f, eX5_aliasedNets_68, if_neg (by decide), q_or0, nI_1]
          | true =>
            rw [if_neg (show ¬ qb true = 0 by decide), eX5_aliasedNets_56, q_in_nI hx (by omega), nI_clamp (by omega), n1, if_pos rfl]
            simp only [Option.bind_some, Option.toList_some, Option.toList_none, List.nil_append, List.cons_append, q_ck_tt, Bool.and_true, Bool.true_and, if_true, if_false, reduceCtorEq]
            rw [eX5_aliasedNets_68, nI_1]
  have hf := q_for (fun x (y : Int32) => kX5_aliasedNets 5 [some (.ref 48), some (.ref 3), some (.ref 42), some (.int y), some (.int (nI x)), none] [] (qm I J e)) 24 (fun x => qOr (fun x => bt (I 3 11) x && qAl I N (I 42 2) an wn x) (qNn I) x) hst
  rw [bX5_aliasedNets, eX5_aliasedNets_0]
  refine Eq.trans hf ?_
  show kX5_aliasedNets 5 _ _ _ = _
  rw [eX5_aliasedNets_5, if_neg (show ¬ nI 24 < (24 : Int32) by decide), eX5_aliasedNets_74]
theorem fX12_isOpen (h : q_Core I D N cl RM rc) {A : Nat → Bool} (hq : q_FQ D N A F (I 94)) {r : Nat} (hr : r < RM) : mX12_isOpen [.ref 64, .int (nI r)] (qm I J e) = some (some (.int (qb (bt (F 2) (rc r)))), qm I J e) := by
  have h18 := h.br.2.1
  have hD := h.d4
  obtain ⟨r1, r24, rA, -⟩ := h.br.2.2.1 r hr
  have r6 := h.r6 r24 rA
  have hb := (hq.2.2.1 (rc r) (by omega)).1
  rw [decide_eq_true r6, Bool.true_and] at hb
  obtain ⟨-, -, d3, d4⟩ := q_d64 (rc r) (by omega)
  rw [bX12_isOpen, eX12_isOpen_0, nI_clamp (show r < 2 ^ 31 by omega), r1, d3, show (25 : Int32) = nI 25 from rfl, nI_add, q_in_nI (show 25 + rc r / 6 < 65 by omega) (by omega), q_in_nI (show r < 24 by omega) (by omega), nI_clamp (show 25 + rc r / 6 < 2 ^ 31 by omega)]
  simp only [Option.bind_some, Option.toList_some, Option.toList_none, List.nil_append, List.cons_append, q_ck_tt, Bool.and_true, Bool.true_and, if_true, if_false, reduceCtorEq]
  rw [eX12_isOpen_22, q_in_nI (show r < 24 by omega) (by omega), nI_clamp (show r < 2 ^ 31 by omega), r1, d4, fX12_has _ _ _ _ (show rc r % 6 < 32 by omega)]
  simp only [Option.bind_some, Option.toList_some, Option.toList_none, List.nil_append, List.cons_append, q_ck_tt, Bool.and_true, Bool.true_and, if_true, if_false, reduceCtorEq]
  rw [eX12_isOpen_29, hb]
  simp only [Option.bind_some, Option.toList_some, Option.toList_none, List.nil_append, List.cons_append, q_ck_tt, Bool.and_true, Bool.true_and, if_true, if_false, reduceCtorEq, qb_ck]
theorem q_al_ref (w0 : Int32) (h : q_Core I D N cl RM rc) (hj : q_Jf I N RM rc an wn) {A : Nat → Bool} (hq : q_FQ D N A F (I 94)) : kX12_aliased 14 [some (.ref 64), some (.int w0), none, none, none] [] (qm I J e) = some (some (.int (qOr (fun r => qAl I N (F 2) an wn (rc r)) (fun r => qNn I (rc r)) RM)), qm I J e) := by
  have hN := h.n6
  have h18 := h.br.2.1
  have hst : ∀ r, r < RM → (fun r (y : Int32) => kX12_aliased 18 [some (.ref 64), none, some (.int y), some (.int (nI r)), none] [] (qm I J e)) r (qOr (fun r => qAl I N (F 2) an wn (rc r)) (fun r => qNn I (rc r)) r) = (fun r (y : Int32) => kX12_aliased 18 [some (.ref 64), none, some (.int y), some (.int (nI r)), none] [] (qm I J e)) (r + 1) (qOr (fun r => qAl I N (F 2) an wn (rc r)) (fun r => qNn I (rc r)) (r + 1)) := by
    intro r hr
    obtain ⟨n1, n2⟩ := h.nn (h.br.2.2.1 r hr).2.2.1
    show kX12_aliased 18 _ _ _ = kX12_aliased 18 [some (.ref 64), none, some (.int (qOr (fun r => qAl I N (F 2) an wn (rc r)) (fun r => qNn I (rc r)) r ||| (if qAl I N (F 2) an wn (rc r) then (1 : Int32) <<< (nI (qNn I (rc r)) &&& 31) else 0))), some (.int (nI (r + 1))), none] [] (qm I J e)
    generalize qOr (fun r => qAl I N (F 2) an wn (rc r)) (fun r => qNn I (rc r)) r = y
    rw [eX12_aliased_18, h.br.1, if_pos (nI_lt hr (by omega)), eX12_aliased_26, fX12_isGood h hj hr]
    simp only [Option.bind_some, Option.toList_some, Option.toList_none, List.nil_append, List.cons_append, q_ck_tt, Bool.and_true, Bool.true_and, if_true, if_false, reduceCtorEq]
    rw [eX12_aliased_31]
    unfold qAl
    cases hg : qGz I an wn (rc r) with
    | true => rw [if_neg (show ¬ qb true = 0 by decide), eX12_aliased_106, nI_1, Bool.not_true, Bool.false_and, if_neg (by decide), q_or0]
    | false =>
      rw [if_pos qb_f, eX12_aliased_34, fX12_isOpen h hq hr, Bool.not_false, Bool.true_and]
      simp only [Option.bind_some, Option.toList_some, Option.toList_none, List.nil_append, List.cons_append, q_ck_tt, Bool.and_true, Bool.true_and, if_true, if_false, reduceCtorEq]
      rw [eX12_aliased_39]
      cases bt (F 2) (rc r) with
      | true => rw [if_neg (show ¬ qb true = 0 by decide), eX12_aliased_42, eX12_aliased_106, nI_1, Bool.not_true, Bool.false_and, if_neg (by decide), q_or0]
      | false =>
        rw [if_pos qb_f, eX12_aliased_45, Bool.not_false, Bool.true_and]
        have hin : ∀ n, n < N → (fun n (z : Bool) => kX12_aliased 48 [some (.ref 64), none, some (.int (y ||| (if z then (1 : Int32) <<< (nI (qNn I (rc r)) &&& 31) else 0))), some (.int (nI r)), some (.int (nI n))] [] (qm I J e)) n (qAny n (fun n => decide (wn n = an (rc r)))) = (fun n (z : Bool) => kX12_aliased 48 [some (.ref 64), none, some (.int (y ||| (if z then (1 : Int32) <<< (nI (qNn I (rc r)) &&& 31) else 0))), some (.int (nI r)), some (.int (nI n))] [] (qm I J e)) (n + 1) (qAny (n + 1) (fun n => decide (wn n = an (rc r)))) := by
          intro n hn
          show kX12_aliased 48 _ _ _ = kX12_aliased 48 [some (.ref 64), none, some (.int (y ||| (if (qAny n (fun n => decide (wn n = an (rc r))) || decide (wn n = an (rc r))) then (1 : Int32) <<< (nI (qNn I (rc r)) &&& 31) else 0))), some (.int (nI r)), some (.int (nI (n + 1)))] [] (qm I J e)
          have h89 : ∀ (b : Bool) (z : Int32), kX12_aliased 89 [some (.ref 64), none, none, some (.int (nI r)), some (.int (nI n))] [.int (qb b), .int z] (qm I J e) = kX12_aliased 48 [some (.ref 64), none, some (.int (z ||| (qb b <<< (nI (qNn I (rc r)) &&& 31)))), some (.int (nI r)), some (.int (nI (n + 1)))] [] (qm I J e) := by
            intro b z
            rw [eX12_aliased_89, fX12_truth]
            simp only [Option.bind_some, Option.toList_some, Option.toList_none, List.nil_append, List.cons_append, q_ck_tt, Bool.and_true, Bool.true_and, if_true, if_false, reduceCtorEq]
            rw [eX12_aliased_92, fX12_netAt h hr]
            simp only [Option.bind_some, Option.toList_some, Option.toList_none, List.nil_append, List.cons_append, q_ck_tt, Bool.and_true, Bool.true_and, if_true, if_false, reduceCtorEq]
            rw [eX12_aliased_97, nI_1]
          have h88 : ∀ z : Int32, kX12_aliased 88 [some (.ref 64), none, none, some (.int (nI r)), some (.int (nI n))] [.int z] (qm I J e) = kX12_aliased 89 [some (.ref 64), none, none, some (.int (nI r)), some (.int (nI n))] [.int (qb false), .int z] (qm I J e) := fun z => by rw [eX12_aliased_88]; rfl
          rw [eX12_aliased_48, h.m51, if_pos (nI_lt hn (by omega)), eX12_aliased_57, fX12_netAt h hr]
          simp only [Option.bind_some, Option.toList_some, Option.toList_none, List.nil_append, List.cons_append, q_ck_tt, Bool.and_true, Bool.true_and, if_true, if_false, reduceCtorEq]
          rw [eX12_aliased_65]
          by_cases c : n = qNn I (rc r)
          · have hne : decide (wn n = an (rc r)) = false := by
              unfold qGz at hg
              rw [← c] at hg
              exact decide_eq_false (fun g => of_decide_eq_false hg g.symm)
            rw [if_pos (by rw [c]), h88, h89, q_acc _ _ _ (by omega), hne]
          · rw [if_neg (fun g => c (nI_inj (by omega) (by omega) g)), eX12_aliased_68, q_in_nI (show n < 6 by omega) (by omega), q_in_nI (show r < 24 by omega) (by omega), nI_clamp (show n < 2 ^ 31 by omega), nI_clamp (show r < 2 ^ 31 by omega), hj.1 n hn, hj.2 r hr]
            simp only [Option.bind_some, Option.toList_some, Option.toList_none, List.nil_append, List.cons_append, q_ck_tt, Bool.and_true, Bool.true_and, if_true, if_false, reduceCtorEq]
            by_cases c2 : wn n = an (rc r)
            · rw [if_pos c2.symm, eX12_aliased_84, decide_eq_true c2]
              exact (h89 true _).trans (by rw [q_acc _ _ _ (by omega)])
            · rw [if_neg (fun g => c2 g.symm), h88, h89, q_acc _ _ _ (by omega), decide_eq_false c2]
        have hf := q_for (fun n (z : Bool) => kX12_aliased 48 [some (.ref 64), none, some (.int (y ||| (if z then (1 : Int32) <<< (nI (qNn I (rc r)) &&& 31) else 0))), some (.int (nI r)), some (.int (nI n))] [] (qm I J e)) N (fun n => qAny n (fun n => decide (wn n = an (rc r)))) hin
        rw [show (qAny 0 fun n => decide (wn n = an (rc r))) = false from rfl, if_neg (by decide), q_or0] at hf
        refine Eq.trans hf ?_
        show kX12_aliased 48 _ _ _ = _
        rw [eX12_aliased_48, h.m51, if_neg (nI_nlt (Nat.le_refl _) (by omega)), eX12_aliased_106, nI_1]
  have hf := q_for (fun r (y : Int32) => kX12_aliased 18 [some (.ref 64), none, some (.int y), some (.int (nI r)), none] [] (qm I J e)) RM (fun r => qOr (fun r => qAl I N (F 2) an wn (rc r)) (fun r => qNn I (rc r)) r) hst
  rw [eX12_aliased_14]
  refine Eq.trans hf ?_
  show kX12_aliased 18 _ _ _ = _
  rw [eX12_aliased_18, h.br.1, if_neg (nI_nlt (Nat.le_refl _) (by omega)), eX12_aliased_112]
theorem q_al_eq (h : q_Core I D N cl RM rc) (op : Int32) : qOr (fun r => qAl I N op an wn (rc r)) (fun r => qNn I (rc r)) RM = qOr (fun x => bt (I 3 11) x && qAl I N op an wn x) (qNn I) 24 := by
  have hN := h.n6
  apply b_ext
  intro v hv
  rw [b_qOr v RM (fun r hr _ => by have := (h.nn (h.br.2.2.1 r hr).2.2.1).2; omega), b_qOr v 24 (fun x hx hc => by rw [Bool.and_eq_true] at hc; have := (h.nn hc.1).2; omega)]
  refine Eq.trans (q_any_rc h (fun x => qAl I N op an wn x && decide (v = qNn I x))) (qAny_cong (fun x hx => ?_))
  rw [Bool.and_assoc]
theorem o_aliased (h : q_Core I D N cl RM rc) (a : Int32) : q_Obs mX11_aliased mX12_aliased [.int a] I J (3, 17, rb, tx, L) := by
  have h10 : ¬ ((1 : Int32) = 0) := by decide
  cases hq : q_in a 3 with
  | false =>
    refine ⟨-1, I, I, ?_, ?_, q_Off_refl _, q_Off_refl _⟩
    · rw [bX11_aliased, eX11_aliased_0, fX11_isKind, hq]
      simp only [Option.bind_some, Option.toList_some, Option.toList_none, List.nil_append, List.cons_append, q_ck_tt, Bool.and_true, Bool.true_and, if_true, if_false, reduceCtorEq]
      rw [eX11_aliased_4, if_pos qb_f, eX11_aliased_29, eX11_aliased_30]
    · rw [bX12_aliased, eX12_aliased_0, fX12_isKind, hq]
      simp only [Option.bind_some, Option.toList_some, Option.toList_none, List.nil_append, List.cons_append, q_ck_tt, Bool.and_true, Bool.true_and, if_true, if_false, reduceCtorEq]
      rw [eX12_aliased_4, if_pos qb_f, eX12_aliased_7]
  | true =>
    obtain ⟨k, hk, rfl, -⟩ := q_in_of hq
    obtain ⟨sz, hz⟩ : ∃ sz, q_Fz I sz := h.fo
    obtain ⟨an, wn, K, j0, o1, j1, K2, j2, o2, j3, j4⟩ := q_judge (J := J) (rb := rb) (tx := tx) (L := L) h hz hk
    have hK := q_Core_off h o1
    have hK2 := q_Core_off hK o2
    have h42 : K 42 = I 42 := o1.r 42 (fun _ => rfl)
    have hal : ∀ op, qAl K2 N op an wn = qAl K N op an wn := fun op => by funext x; unfold qAl; rw [qGz_off o2]
    refine ⟨qOr (fun r => qAl K N (I 42 2) an wn (rc r)) (fun r => qNn K (rc r)) RM, K, K2, ?_, ?_, o1, o2⟩
    · rw [bX11_aliased, eX11_aliased_0, fX11_isKind, hq]
      simp only [Option.bind_some, Option.toList_some, Option.toList_none, List.nil_append, List.cons_append, q_ck_tt, Bool.and_true, Bool.true_and, if_true, if_false, reduceCtorEq]
      rw [eX11_aliased_4, qb_t, if_neg h10, eX11_aliased_7, j0]
      simp only [Option.bind_some, Option.toList_some, Option.toList_none, List.nil_append, List.cons_append, q_ck_tt, Bool.and_true, Bool.true_and, if_true, if_false, reduceCtorEq]
      rw [eX11_aliased_12, fX5_aliasedNets hK j1, h42, ← q_al_eq hK]
      simp only [Option.bind_some, Option.toList_some, Option.toList_none, List.nil_append, List.cons_append, q_ck_tt, Bool.and_true, Bool.true_and, if_true, if_false, reduceCtorEq]
      rw [eX11_aliased_26, eX11_aliased_30]
    · rw [bX12_aliased, eX12_aliased_0, fX12_isKind, hq]
      simp only [Option.bind_some, Option.toList_some, Option.toList_none, List.nil_append, List.cons_append, q_ck_tt, Bool.and_true, Bool.true_and, if_true, if_false, reduceCtorEq]
      rw [eX12_aliased_4, qb_t, if_neg h10, eX12_aliased_9, j2]
      simp only [Option.bind_some, Option.toList_some, Option.toList_none, List.nil_append, List.cons_append, q_ck_tt, Bool.and_true, Bool.true_and, if_true, if_false, reduceCtorEq]
      rw [q_al_ref _ hK2 j3 j4, hal, qNn_off o2]
/-! worst -/
def qWr (b : Nat → Nat) : Nat → Int32 × Nat
  | 0 => (-1, 0)
  | n + 1 => if (qWr b n).2 < b n then (nI n, b n) else qWr b n
theorem qWr_le {b : Nat → Nat} (hb : ∀ n, b n ≤ 24) : ∀ n, (qWr b n).2 ≤ 24
  | 0 => Nat.zero_le _
  | n + 1 => by
    show (if (qWr b n).2 < b n then (nI n, b n) else qWr b n).2 ≤ 24
    split
    · exact hb n
    · exact qWr_le hb n
def qBd (I : Nat → Nat → Int32) (RM : Nat) (rc : Nat → Nat) (an wn : Nat → Int32) (n : Nat) : Nat := fb_ct (fun r => decide (qNn I (rc r) = n) && !qGz I an wn (rc r)) RM
theorem qBd_24 (h : q_Core I D N cl RM rc) (n : Nat) : qBd I RM rc an wn n ≤ 24 := by
  have := fb_ct_le (fun r => decide (qNn I (rc r) = n) && !qGz I an wn (rc r)) RM
  have := h.br.2.1
  unfold qBd
  omega
theorem fX5_worstNet (h : q_Core I D N cl RM rc) (hj : q_Jc I N st an wn) : mX5_worstNet [.ref 48, .ref 3] (qm I J e) = some (some (.int (qWr (qBd I RM rc an wn) N).1), qm I J e) := by
  have hN := h.n6
  have hst : ∀ n, n < N → (fun n (y : Int32 × Nat) => kX5_worstNet 7 [some (.ref 48), some (.ref 3), some (.int y.1), some (.int (nI y.2)), some (.int (nI n)), none] [] (qm I J e)) n (qWr (qBd I RM rc an wn) n) = (fun n (y : Int32 × Nat) => kX5_worstNet 7 [some (.ref 48), some (.ref 3), some (.int y.1), some (.int (nI y.2)), some (.int (nI n)), none] [] (qm I J e)) (n + 1) (qWr (qBd I RM rc an wn) (n + 1)) := by
    intro n hn
    have hw := qWr_le (qBd_24 (an := an) (wn := wn) h) n
    have hb := qBd_24 (an := an) (wn := wn) h n
    have hcnt : fb_ct (bt (I 10 n &&& (I 48 3 ^^^ (-1)))) 32 = qBd I RM rc an wn n := by
      unfold qBd
      rw [q_cnt_rc h (fun x => decide (qNn I x = n) && !qGz I an wn x), fb_ct_cong (p := bt (I 10 n &&& (I 48 3 ^^^ (-1)))) (q := fun x => bt (I 3 11) x && (decide (qNn I x = n) && !qGz I an wn x)) (fun x hx => by
        rw [b_and, b_not _ hx, hj.2.2.2.2 x hx, q_rcv h hn hx]
        unfold qGz
        cases bt (I 3 11) x <;> cases decide (qNn I x = n) <;> cases decide (an x = wn (qNn I x)) <;> rfl)]
      exact q_ct_cut (m := 24) 8 (fun x x1 x2 => by
        cases hA : bt (I 3 11) x with
        | false => rw [Bool.false_and]
        | true => exact absurd (h.a24 hA) (by omega))
    show kX5_worstNet 7 _ _ _ = kX5_worstNet 7 [some (.ref 48), some (.ref 3), some (.int (if (qWr (qBd I RM rc an wn) n).2 < qBd I RM rc an wn n then (nI n, qBd I RM rc an wn n) else qWr (qBd I RM rc an wn) n).1), some (.int (nI (if (qWr (qBd I RM rc an wn) n).2 < qBd I RM rc an wn n then (nI n, qBd I RM rc an wn n) else qWr (qBd I RM rc an wn) n).2)), some (.int (nI (n + 1))), none] [] (qm I J e)
    generalize qWr (qBd I RM rc an wn) n = y at hw
    rw [eX5_worstNet_7, h.i35, if_pos (nI_lt hn (by omega)), eX5_worstNet_16, q_in_nI (show n < 6 by omega) (by omega), nI_clamp (by omega), fJ6_bitCount, hcnt]
    simp only [Option.bind_some, Option.toList_some, Option.toList_none, List.nil_append, List.cons_append, q_ck_tt, Bool.and_true, Bool.true_and, if_true, if_false, reduceCtorEq]
    rw [eX5_worstNet_33]
    by_cases c : y.2 < qBd I RM rc an wn n
    · rw [if_pos (nI_lt c (by omega)), if_pos c, eX5_worstNet_41, eX5_worstNet_47, nI_1]
    · rw [if_neg (nI_nlt (by omega) (by omega)), if_neg c, eX5_worstNet_47, nI_1]
  have hf := q_for (fun n (y : Int32 × Nat) => kX5_worstNet 7 [some (.ref 48), some (.ref 3), some (.int y.1), some (.int (nI y.2)), some (.int (nI n)), none] [] (qm I J e)) N (fun n => qWr (qBd I RM rc an wn) n) hst
  rw [bX5_worstNet, eX5_worstNet_0]
  refine Eq.trans hf ?_
  show kX5_worstNet 7 _ _ _ = _
  rw [eX5_worstNet_7, h.i35, if_neg (nI_nlt (Nat.le_refl _) (by omega)), eX5_worstNet_53]
theorem q_wo_ref (h : q_Core I D N cl RM rc) (hj : q_Jf I N RM rc an wn) : kX12_worst 5 [some (.ref 64), none, none, none, none, none] [] (qm I J e) = some (some (.int (qWr (qBd I RM rc an wn) N).1), qm I J e) := by
  have hN := h.n6
  have h18 := h.br.2.1
  have hst : ∀ n, n < N → (fun n (y : Int32 × Nat) => kX12_worst 11 [some (.ref 64), some (.int y.1), some (.int (nI y.2)), some (.int (nI n)), none, none] [] (qm I J e)) n (qWr (qBd I RM rc an wn) n) = (fun n (y : Int32 × Nat) => kX12_worst 11 [some (.ref 64), some (.int y.1), some (.int (nI y.2)), some (.int (nI n)), none, none] [] (qm I J e)) (n + 1) (qWr (qBd I RM rc an wn) (n + 1)) := by
    intro n hn
    have hw := qWr_le (qBd_24 (an := an) (wn := wn) h) n
    have hb := qBd_24 (an := an) (wn := wn) h n
    show kX12_worst 11 _ _ _ = kX12_worst 11 [some (.ref 64), some (.int (if (qWr (qBd I RM rc an wn) n).2 < qBd I RM rc an wn n then (nI n, qBd I RM rc an wn n) else qWr (qBd I RM rc an wn) n).1), some (.int (nI (if (qWr (qBd I RM rc an wn) n).2 < qBd I RM rc an wn n then (nI n, qBd I RM rc an wn n) else qWr (qBd I RM rc an wn) n).2)), some (.int (nI (n + 1))), none, none] [] (qm I J e)
    generalize qWr (qBd I RM rc an wn) n = y at hw
    have hin : ∀ r, r < RM → (fun r (z : Nat) => kX12_worst 25 [some (.ref 64), some (.int y.1), some (.int (nI y.2)), some (.int (nI n)), some (.int (nI z)), some (.int (nI r))] [] (qm I J e)) r (fb_ct (fun r => decide (qNn I (rc r) = n) && !qGz I an wn (rc r)) r) = (fun r (z : Nat) => kX12_worst 25 [some (.ref 64), some (.int y.1), some (.int (nI y.2)), some (.int (nI n)), some (.int (nI z)), some (.int (nI r))] [] (qm I J e)) (r + 1) (fb_ct (fun r => decide (qNn I (rc r) = n) && !qGz I an wn (rc r)) (r + 1)) := by
      intro r hr
      obtain ⟨n1, n2⟩ := h.nn (h.br.2.2.1 r hr).2.2.1
      show kX12_worst 25 _ _ _ = kX12_worst 25 _ _ _
      rw [fb_ct_succ]
      generalize fb_ct (fun r => decide (qNn I (rc r) = n) && !qGz I an wn (rc r)) r = z
      have h60 : ∀ b : Bool, kX12_worst 60 [some (.ref 64), some (.int y.1), some (.int (nI y.2)), some (.int (nI n)), none, some (.int (nI r))] [.int (qb b), .int (nI z)] (qm I J e) = kX12_worst 25 [some (.ref 64), some (.int y.1), some (.int (nI y.2)), some (.int (nI n)), some (.int (nI (z + if b = true then 1 else 0))), some (.int (nI (r + 1)))] [] (qm I J e) := by
        intro b
        rw [eX12_worst_60, fX12_truth]
        simp only [Option.bind_some, Option.toList_some, Option.toList_none, List.nil_append, List.cons_append, q_ck_tt, Bool.and_true, Bool.true_and, if_true, if_false, reduceCtorEq]
        rw [eX12_worst_63, nI_1]
        cases b with
        | false => rw [show qb false = nI 0 from rfl, nI_add]; rfl
        | true => rw [show qb true = nI 1 from rfl, nI_add]; rfl
      have h59 : kX12_worst 59 [some (.ref 64), some (.int y.1), some (.int (nI y.2)), some (.int (nI n)), none, some (.int (nI r))] [.int (nI z)] (qm I J e) = kX12_worst 60 [some (.ref 64), some (.int y.1), some (.int (nI y.2)), some (.int (nI n)), none, some (.int (nI r))] [.int (qb false), .int (nI z)] (qm I J e) := by rw [eX12_worst_59]; rfl
      rw [eX12_worst_25, h.br.1, if_pos (nI_lt hr (by omega)), eX12_worst_34, fX12_netAt h hr]
      simp only [Option.bind_some, Option.toList_some, Option.toList_none, List.nil_append, List.cons_append, q_ck_tt, Bool.and_true, Bool.true_and, if_true, if_false, reduceCtorEq]
      rw [eX12_worst_42]
      by_cases c : qNn I (rc r) = n
      · rw [if_pos (by rw [c]), eX12_worst_46, fX12_isGood h hj hr, decide_eq_true c, Bool.true_and]
        simp only [Option.bind_some, Option.toList_some, Option.toList_none, List.nil_append, List.cons_append, q_ck_tt, Bool.and_true, Bool.true_and, if_true, if_false, reduceCtorEq]
        rw [eX12_worst_52]
        cases qGz I an wn (rc r) with
        | true => rw [if_neg (show ¬ qb true = 0 by decide), h59, h60]; rfl
        | false =>
          rw [if_pos qb_f, eX12_worst_55]
          exact h60 true
      · rw [if_neg (fun g => c (nI_inj (by omega) (by omega) g)), h59, h60, decide_eq_false c]
        rfl
    have hf := q_for (fun r (z : Nat) => kX12_worst 25 [some (.ref 64), some (.int y.1), some (.int (nI y.2)), some (.int (nI n)), some (.int (nI z)), some (.int (nI r))] [] (qm I J e)) RM (fun r => fb_ct (fun r => decide (qNn I (rc r) = n) && !qGz I an wn (rc r)) r) hin
    rw [eX12_worst_11, h.m51, if_pos (nI_lt hn (by omega)), eX12_worst_19]
    refine Eq.trans hf ?_
    show kX12_worst 25 _ _ _ = _
    rw [eX12_worst_25, h.br.1, if_neg (nI_nlt (Nat.le_refl _) (by omega)), eX12_worst_72, show fb_ct (fun r => decide (qNn I (rc r) = n) && !qGz I an wn (rc r)) RM = qBd I RM rc an wn n from rfl]
    by_cases c : y.2 < qBd I RM rc an wn n
    · rw [if_pos (nI_lt c (by omega)), if_pos c, eX12_worst_81, eX12_worst_86, nI_1]
    · rw [if_neg (nI_nlt (by omega) (by omega)), if_neg c, eX12_worst_78, eX12_worst_86, nI_1]
  have hf := q_for (fun n (y : Int32 × Nat) => kX12_worst 11 [some (.ref 64), some (.int y.1), some (.int (nI y.2)), some (.int (nI n)), none, none] [] (qm I J e)) N (fun n => qWr (qBd I RM rc an wn) n) hst
  rw [eX12_worst_5]
  refine Eq.trans hf ?_
  show kX12_worst 11 _ _ _ = _
  rw [eX12_worst_11, h.m51, if_neg (nI_nlt (Nat.le_refl _) (by omega)), eX12_worst_92]
theorem o_worst (h : q_Core I D N cl RM rc) : q_Obs mX11_worst mX12_worst [] I J (3, 17, rb, tx, L) := by
  obtain ⟨sz, hz⟩ : ∃ sz, q_Fz I sz := h.fo
  obtain ⟨an, wn, K, j0, o1, j1, K2, j2, o2, j3, -⟩ := q_judge (J := J) (rb := rb) (tx := tx) (L := L) (k := 0) h hz (by omega)
  have hK := q_Core_off h o1
  have hK2 := q_Core_off hK o2
  have j0' : mX11_judged [.ref 1, .int 0] (qm I J (3, 17, rb, tx, L)) = some (some (.ref 48), qm K J (3, 17, rb, tx, L)) := j0
  have j2' : mX12_layNow [.ref 64, .int 0] (qm K J (3, 17, rb, tx, L)) = some (none, qm K2 J (3, 17, rb, tx, L)) := j2
  have hbd : qBd K2 RM rc an wn = qBd K RM rc an wn := by funext n; unfold qBd; rw [qGz_off o2, qNn_off o2]
  refine ⟨(qWr (qBd K RM rc an wn) N).1, K, K2, ?_, ?_, o1, o2⟩
  · rw [bX11_worst, eX11_worst_0, j0']
    simp only [Option.bind_some, Option.toList_some, Option.toList_none, List.nil_append, List.cons_append, q_ck_tt, Bool.and_true, Bool.true_and, if_true, if_false, reduceCtorEq]
    rw [eX11_worst_5, fX5_worstNet hK j1]
    simp only [Option.bind_some, Option.toList_some, Option.toList_none, List.nil_append, List.cons_append, q_ck_tt, Bool.and_true, Bool.true_and, if_true, if_false, reduceCtorEq]
    rw [eX11_worst_12]
  · rw [bX12_worst, eX12_worst_0, j2']
    simp only [Option.bind_some, Option.toList_some, Option.toList_none, List.nil_append, List.cons_append, q_ck_tt, Bool.and_true, Bool.true_and, if_true, if_false, reduceCtorEq]
    rw [q_wo_ref hK2 j3, hbd]
end AL
