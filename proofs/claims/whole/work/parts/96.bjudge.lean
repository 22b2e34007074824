/-! ===== judging: answers, goodness ===== -/
theorem q_any_lp {Fk : Nat → Option QR} {n : Nat} {p : Nat → Bool} {M : QM} (hs : ∀ i, i < n → Fk i = if p i then some (some (.int 1), M) else Fk (i + 1)) (hend : Fk n = some (some (.int 0), M)) : Fk 0 = some (some (.int (qb (qAny n p))), M) := by
  have key : ∀ m i, i + m = n → (∀ j, j < i → p j = false) → Fk i = some (some (.int (qb (qAny n p))), M) := by
    intro m
    induction m with
    | zero =>
      intro i hi hf
      have hin : i = n := by omega
      have : qAny n p = false := by
        cases hc : qAny n p with
        | false => rfl
        | true =>
          obtain ⟨k, k1, k2⟩ := qAny_iff.mp hc
          rw [hf k (by omega)] at k2
          cases k2
      rw [hin, hend, this]
      rfl
    | succ m ih =>
      intro i hi hf
      rw [hs i (by omega)]
      cases hp : p i with
      | true =>
        have : qAny n p = true := qAny_iff.mpr ⟨i, by omega, hp⟩
        rw [this]
        rfl
      | false =>
        refine Eq.trans (if_neg Bool.false_ne_true) (ih (i + 1) (by omega) (fun j hj => ?_))
        by_cases c : j = i
        · rw [c]; exact hp
        · exact hf j (by omega)
  exact key n 0 (by omega) (fun j hj => absurd hj (by omega))
theorem qB_eq {st : Nat} (h : st ≤ 32) (p q : Nat → Bool) : decide (qB st p = qB st q) = !qAny st (fun i => p i ^^ q i) := by
  cases hc : qAny st (fun i => p i ^^ q i) with
  | true =>
    obtain ⟨k, k1, k2⟩ := qAny_iff.mp hc
    refine decide_eq_false (fun c => ?_)
    have h1 := b_qB p h (show k < 32 by omega)
    have h2 := b_qB q h (show k < 32 by omega)
    rw [c, h2, decide_eq_true k1, Bool.true_and, Bool.true_and] at h1
    rw [h1] at k2
    cases hp : p k <;> rw [hp] at k2 <;> cases k2
  | false =>
    refine decide_eq_true (qB_cong (fun k hk => ?_))
    cases hx : (p k ^^ q k) with
    | false => cases hp : p k <;> cases hq : q k <;> rw [hp, hq] at hx <;> first | rfl | cases hx
    | true =>
      have : qAny st (fun i => p i ^^ q i) = true := qAny_iff.mpr ⟨k, hk, hx⟩
      rw [hc] at this
      cases this
/-- a receiver's net -/
def qNn (I : Nat → Nat → Int32) (x : Nat) : Nat := (I 12 x).toNatClampNeg
theorem qNn_off {I I' : Nat → Nat → Int32} (h : q_Off I I') : qNn I' = qNn I := by funext x; unfold qNn; rw [h.r 12 (fun _ => rfl)]
/-- the class has looked; the reference has -/
def q_Jc (K : Nat → Nat → Int32) (N st : Nat) (an wn : Nat → Int32) : Prop := st ≤ 6 ∧ K 48 2 = nI st ∧ (∃ rd : Nat → Int32, (∀ i, i < st → K 50 i = rd i) ∧ ∀ x, an x = qB st (fun i => bt (rd i) x)) ∧ (∃ pt : Nat → Int32, (∀ i, i < st → K 49 i = pt i) ∧ ∀ n, n < N → wn n = qB st (fun i => bt (pt i) n)) ∧ ∀ x, x < 32 → bt (K 48 3) x = (bt (K 3 11) x && decide (an x = wn (qNn K x)))
def q_Jf (K : Nat → Nat → Int32) (N RM : Nat) (rc : Nat → Nat) (an wn : Nat → Int32) : Prop := (∀ n, n < N → K 103 n = wn n) ∧ ∀ r, r < RM → K 102 r = an (rc r)
section JU
variable {I : Nat → Nat → Int32} {J : Nat → Nat → Int64} {e : QP} {rb tx L : Nat} {D N : Nat} {cl : Nat → Nat} {RM : Nat} {rc : Nat → Nat} {sz : Nat} {F : Nat → Int32} {fl : Int32} {k st : Nat} {an wn : Nat → Int32}
theorem q_Core.a24 (h : q_Core I D N cl RM rc) {x : Nat} (hA : bt (I 3 11) x = true) : x < 24 := by
  rcases Nat.lt_or_ge x 24 with c | c
  · exact c
  · rcases Nat.lt_or_ge x 32 with c2 | c2
    · rw [h.bc.2.2.2.1 x c2, decide_eq_false (by omega)] at hA; cases hA
    · rw [b_big c2] at hA; cases hA
theorem q_Core.nn (h : q_Core I D N cl RM rc) {x : Nat} (hA : bt (I 3 11) x = true) : I 12 x = nI (qNn I x) ∧ qNn I x < N := by
  have hx := h.a24 hA
  have hN := h.n6
  rcases h.nt hx (by have := h.r6 hx hA; omega) with c | ⟨n, hn, hn2⟩
  · rw [h.rc0 hx c] at hA; cases hA
  · unfold qNn
    rw [hn2, nI_clamp (by omega)]
    exact ⟨rfl, hn⟩
theorem q_gd (h : q_Core I D N cl RM rc) {x : Nat} (hA : bt (I 3 11) x = true) : ∀ m, m ≤ qSt k N → bt (qGw I N k F fl m) x = !qAny m (fun i => bt (qRw I N k F fl i) x ^^ qWb (I 88 (qNn I x)) k N (qNn I x) i)
  | 0, _ => hA
  | m + 1, hm => by
    have ih := q_gd h hA m (by omega)
    have hx := h.a24 hA
    obtain ⟨n1, n2⟩ := h.nn hA
    have hr : bt (qRa N (I 9) (I 10) (qPa (I 11) k N m) 0 0) x = qWb (I 88 (qNn I x)) k N (qNn I x) m := by
      rw [q_rd_bit h.bn h.bc hx n2 n1, b_0, if_neg (by decide), b_qPa h.n6 n2, (h.bs _ n2).1]
    show bt (qGw I N k F fl m &&& ((qRw I N k F fl m ^^^ (qRa N (I 9) (I 10) (qPa (I 11) k N m) 0 0 &&& I 3 11)) ^^^ (-1))) x = !(qAny m (fun i => bt (qRw I N k F fl i) x ^^ qWb (I 88 (qNn I x)) k N (qNn I x) i) || (bt (qRw I N k F fl m) x ^^ qWb (I 88 (qNn I x)) k N (qNn I x) m))
    rw [b_and, ih, b_not _ (by omega), b_xor, b_and, hr, hA, Bool.and_true, Bool.not_or]
theorem q_gd0 {x : Nat} (hA : bt (I 3 11) x = false) : ∀ m, bt (qGw I N k F fl m) x = false
  | 0 => hA
  | m + 1 => by
    show bt (qGw I N k F fl m &&& _) x = false
    rw [b_and, q_gd0 hA m, Bool.false_and]
theorem q_gd2 (h : q_Core I D N cl RM rc) (x : Nat) : bt (qGw I N k F fl (qSt k N)) x = (bt (I 3 11) x && decide (qAn I N k F fl x = qWa (I 88 (qNn I x)) k N (qNn I x))) := by
  cases hA : bt (I 3 11) x with
  | false => rw [q_gd0 hA, Bool.false_and]
  | true =>
    rw [q_gd h hA _ (Nat.le_refl _), Bool.true_and]
    unfold qAn qWa
    rw [qB_eq (by have := qSt_6 (k := k) h.n6; omega)]
theorem q_Jc_of (h : q_Core I D N cl RM rc) {K : Nat → Nat → Int32} (h2 : K 48 2 = nI (qSt k N)) (h3 : K 48 3 = qGw I N k F fl (qSt k N)) (h49 : ∀ i, i < qSt k N → K 49 i = qPa (I 11) k N i) (h50 : ∀ i, i < qSt k N → K 50 i = qRw I N k F fl i) (h12 : K 12 = I 12) (h311 : K 3 11 = I 3 11) : q_Jc K N (qSt k N) (qAn I N k F fl) (fun n => qWa (I 88 n) k N n) := by
  have h6 := qSt_6 (k := k) h.n6
  refine ⟨h6, h2, ⟨_, h50, fun x => rfl⟩, ⟨_, h49, fun n hn => ?_⟩, fun x hx => ?_⟩
  · dsimp only
    unfold qWa
    refine qB_cong (fun i hi => ?_)
    rw [b_qPa h.n6 hn, (h.bs n hn).1]
  · have : qNn K = qNn I := by funext x; unfold qNn; rw [h12]
    rw [h3, h311, this, q_gd2 h]
theorem q_look42 (h : q_Core I D N cl RM rc) (hk : k < 3) (fl : Int32) : ∃ K, mX5_look [.ref 48, .ref 3, .ref 42, .int (nI k), .int fl] (qm I J e) = some (none, qm K J e) ∧ q_Jc K N (qSt k N) (qAn I N k (I 42) fl) (fun n => qWa (I 88 n) k N n) ∧ (∀ p, p ≠ 48 → p ≠ 49 → p ≠ 50 → K p = I p) ∧ ∀ j, j ≠ 2 → j ≠ 3 → K 48 j = I 48 j := by
  refine ⟨_, fX5_look_42 h hk fl, q_Jc_of (F := I 42) (fl := fl) h ?_ ?_ ?_ ?_ ?_ ?_, ?_, ?_⟩
  · rw [va_miss (by decide), va_miss (by decide), va_hit, va_miss (by decide), va_hit]
  · rw [va_miss (by decide), va_miss (by decide), va_hit, va_hit]
  · intro i hi; rw [va_miss (by decide), va_hit, fa_fill_in hi]
  · intro i hi; rw [va_hit, fa_fill_in hi]
  · rw [va_miss (by decide), va_miss (by decide), va_miss (by decide)]
  · rw [va_miss (by decide), va_miss (by decide), va_miss (by decide)]
  · intro p h1 h2 h3; rw [va_miss h3, va_miss h2, va_miss h1]
  · intro j h1 h2; rw [va_miss (by decide), va_miss (by decide), va_hit, va_miss h2, va_miss h1]
theorem q_judge (h : q_Core I D N cl RM rc) (hz : q_Fz I sz) (hk : k < 3) : ∃ an wn K, mX11_judged [.ref 1, .int (nI k)] (qm I J (3, 17, rb, tx, L)) = some (some (.ref 48), qm K J (3, 17, rb, tx, L)) ∧ q_Off I K ∧ q_Jc K N (qSt k N) an wn ∧ ∃ K2, mX12_layNow [.ref 64, .int (nI k)] (qm K J (3, 17, rb, tx, L)) = some (none, qm K2 J (3, 17, rb, tx, L)) ∧ q_Off K K2 ∧ q_Jf K2 N RM rc an wn ∧ q_FQ D N (bt (I 3 11)) (I 42) (K2 94) := by
  obtain ⟨⟨-, -⟩, ⟨z0, ck, -, z1⟩, -⟩ := h.ch
  obtain ⟨y1, y2, y3, y4, y5⟩ := hz
  have hz : q_Fz I sz := ⟨y1, y2, y3, y4, y5⟩
  obtain ⟨v, hfl⟩ := fX0_floatingAt I J (3, 17, rb, tx, L) y1 y2 y5 hz.d1 (I 42 2) (I 37 1)
  have o0 : q_Off I (va_up I 16 v) := q_Off_va I rfl v
  have h0 := q_Core_off h o0
  obtain ⟨K, k0, k1, k2, -⟩ := q_look42 (J := J) (e := (3, 17, rb, tx, L)) h0 hk (qFa I sz (I 42 2) (I 37 1))
  have o1 : q_Off I K := by
    intro p j hp
    rw [k2 p (fun c => by rw [c] at hp; cases hp) (fun c => by rw [c] at hp; cases hp) (fun c => by rw [c] at hp; cases hp)]
    exact o0 p j hp
  have hK := q_Core_off h o1
  obtain ⟨A, f1, o2, a1, C1⟩ := hK.fill J (3, 17, rb, tx, L)
  have oA := q_Off_trans o1 o2
  have hq : q_FQ D N (bt (I 3 11)) (I 42) (A 94) := by
    have := C1.fqA a1
    rw [oA.r 3 (fun _ => rfl), oA.r 42 (fun _ => rfl)] at this
    exact this
  have hq' : q_FQ D N (bt (A 3 11)) (I 42) (A 94) := by rw [oA.r 3 (fun _ => rfl)]; exact hq
  obtain ⟨K2, l0, l1, l2, l3, l4⟩ := q_lA (J := J) (e := (3, 17, rb, tx, L)) C1 (q_Fz_off hz oA) hq' hk (I 37 1)
  have hck : A 94 1 = I 37 1 := by rw [a1 1 (by omega), oA.r 93 (fun _ => rfl)]; exact z0.symm
  have e1 : ∀ B : Nat → Nat → Int32, q_Off I B → qRw B N k (I 42) (qFa I sz (I 42 2) (I 37 1)) = qRw I N k (I 42) (qFa I sz (I 42 2) (I 37 1)) := fun B oB => by
    funext i
    unfold qRw
    rw [oB.r 9 (fun _ => rfl), oB.r 10 (fun _ => rfl), oB.r 11 (fun _ => rfl)]
  refine ⟨qAn I N k (I 42) (qFa I sz (I 42 2) (I 37 1)), fun n => qWa (I 88 n) k N n, K, ?_, o1, ?_, K2, ?_, q_Off_trans o2 l3, ⟨?_, ?_⟩, ?_⟩
  · have k0' : mX5_look [.ref 48, .ref 3, .ref 42, .int (nI k), .int (qB 24 (fun x => bt (I 42 2) x && qFl (I 69) (I 70) sz (I 12) (I 37 1) x))] (qm (va_up I 16 v) J (3, 17, rb, tx, L)) = some (none, qm K J (3, 17, rb, tx, L)) := k0
    rw [bX11_judged, eX11_judged_0, bX1_floating, eX1_floating_0, hfl]
    simp only [Option.bind_some, Option.toList_some, Option.toList_none, List.nil_append, List.cons_append, q_ck_tt, Bool.and_true, Bool.true_and, if_true, if_false, reduceCtorEq]
    rw [eX1_floating_15]
    simp only [Option.bind_some, Option.toList_some, Option.toList_none, List.nil_append, List.cons_append, q_ck_tt, Bool.and_true, Bool.true_and, if_true, if_false, reduceCtorEq]
    rw [eX11_judged_27, k0']
    simp only [Option.bind_some, Option.toList_some, Option.toList_none, List.nil_append, List.cons_append, q_ck_tt, Bool.and_true, Bool.true_and, if_true, if_false, reduceCtorEq]
    rw [eX11_judged_30]
  · have e2 : qAn (va_up I 16 v) N k ((va_up I 16 v) 42) (qFa I sz (I 42 2) (I 37 1)) = qAn I N k (I 42) (qFa I sz (I 42 2) (I 37 1)) := by
      funext x
      unfold qAn
      rw [show (va_up I 16 v) 42 = I 42 from va_miss (by decide), e1 _ o0]
    rw [e2, show (va_up I 16 v) 88 = I 88 from va_miss (by decide)] at k1
    exact k1
  · rw [bX12_layNow, eX12_layNow_0, f1]
    simp only [Option.bind_some, Option.toList_some, Option.toList_none, List.nil_append, List.cons_append, q_ck_tt, Bool.and_true, Bool.true_and, if_true, if_false, reduceCtorEq]
    rw [eX12_layNow_4, hck, l0]
    simp only [Option.bind_some, Option.toList_some, Option.toList_none, List.nil_append, List.cons_append, q_ck_tt, Bool.and_true, Bool.true_and, if_true, if_false, reduceCtorEq]
    rw [eX12_layNow_15]
  · intro n hn
    rw [l1 n hn, oA.r 88 (fun _ => rfl)]
  · intro r hr
    rw [l2 r hr, qFa_off oA]
    unfold qAn
    rw [e1 A oA]
  · rw [l4]; exact hq
/-! the class -/
theorem fX5_answerAt (hj : q_Jc I N st an wn) {x : Nat} (hx : x < 32) : mX5_answerAt [.ref 48, .int (nI x)] (qm I J e) = some (some (.int (an x)), qm I J e) := by
  obtain ⟨h6, h2, ⟨rd, r1, r2⟩, -, -⟩ := hj
  have hst : ∀ i, i < st → (fun i (y : Int32) => kX5_across 5 [some (.ref 48), some (.ref 50), some (.int (nI x)), some (.int y), some (.int (nI i))] [] (qm I J e)) i (qB i (fun i => bt (rd i) x)) = (fun i (y : Int32) => kX5_across 5 [some (.ref 48), some (.ref 50), some (.int (nI x)), some (.int y), some (.int (nI i))] [] (qm I J e)) (i + 1) (qB (i + 1) (fun i => bt (rd i) x)) := by
    intro i hi
    show kX5_across 5 _ _ _ = kX5_across 5 _ _ _
    rw [eX5_across_48_50_5, h2, if_pos (nI_lt hi (by omega)), eX5_across_48_50_14, q_in_nI (show i < 6 by omega) (by omega), nI_clamp (by omega), r1 i hi, b_tst _ hx, qb_shl _ (by omega), nI_1, qB_succ]
    simp only [Option.bind_some, Option.toList_some, Option.toList_none, List.nil_append, List.cons_append, q_ck_tt, Bool.and_true, Bool.true_and, if_true, if_false, reduceCtorEq]
  have hq := q_for (fun i (y : Int32) => kX5_across 5 [some (.ref 48), some (.ref 50), some (.int (nI x)), some (.int y), some (.int (nI i))] [] (qm I J e)) st (fun i => qB i (fun i => bt (rd i) x)) hst
  have hac : mX5_across [.ref 48, .ref 50, .int (nI x)] (qm I J e) = some (some (.int (an x)), qm I J e) := by
    rw [bX5_across_48_50, eX5_across_48_50_0]
    refine Eq.trans hq ?_
    show kX5_across 5 _ _ _ = _
    rw [eX5_across_48_50_5, h2, if_neg (nI_nlt (Nat.le_refl _) (by omega)), eX5_across_48_50_34, r2]
  rw [bX5_answerAt, eX5_answerAt_0, hac]
  simp only [Option.bind_some, Option.toList_some, Option.toList_none, List.nil_append, List.cons_append, q_ck_tt, Bool.and_true, Bool.true_and, if_true, if_false, reduceCtorEq]
  rw [eX5_answerAt_9]
theorem fX5_across_49 (hj : q_Jc I N st an wn) (hN : N ≤ 6) {n : Nat} (hn : n < N) : mX5_across [.ref 48, .ref 49, .int (nI n)] (qm I J e) = some (some (.int (wn n)), qm I J e) := by
  obtain ⟨h6, h2, -, ⟨pt, p1, p2⟩, -⟩ := hj
  have hst : ∀ i, i < st → (fun i (y : Int32) => kX5_across 5 [some (.ref 48), some (.ref 49), some (.int (nI n)), some (.int y), some (.int (nI i))] [] (qm I J e)) i (qB i (fun i => bt (pt i) n)) = (fun i (y : Int32) => kX5_across 5 [some (.ref 48), some (.ref 49), some (.int (nI n)), some (.int y), some (.int (nI i))] [] (qm I J e)) (i + 1) (qB (i + 1) (fun i => bt (pt i) n)) := by
    intro i hi
    show kX5_across 5 _ _ _ = kX5_across 5 _ _ _
    rw [eX5_across_48_49_5, h2, if_pos (nI_lt hi (by omega)), eX5_across_48_49_14, q_in_nI (show i < 6 by omega) (by omega), nI_clamp (by omega), p1 i hi, b_tst _ (by omega), qb_shl _ (by omega), nI_1, qB_succ]
    simp only [Option.bind_some, Option.toList_some, Option.toList_none, List.nil_append, List.cons_append, q_ck_tt, Bool.and_true, Bool.true_and, if_true, if_false, reduceCtorEq]
  have hq := q_for (fun i (y : Int32) => kX5_across 5 [some (.ref 48), some (.ref 49), some (.int (nI n)), some (.int y), some (.int (nI i))] [] (qm I J e)) st (fun i => qB i (fun i => bt (pt i) n)) hst
  rw [bX5_across_48_49, eX5_across_48_49_0]
  refine Eq.trans hq ?_
  show kX5_across 5 _ _ _ = _
  rw [eX5_across_48_49_5, h2, if_neg (nI_nlt (Nat.le_refl _) (by omega)), eX5_across_48_49_34, p2 n hn]
/-- whether a place answers as it should -/
def qGz (I : Nat → Nat → Int32) (an wn : Nat → Int32) (x : Nat) : Bool := decide (an x = wn (qNn I x))
theorem q_cnt_rc (h : q_Core I D N cl RM rc) (g : Nat → Bool) : fb_ct (fun r => g (rc r)) RM = fb_ct (fun x => bt (I 3 11) x && g x) 24 := by
  obtain ⟨-, -, hrc, hct⟩ := h.br
  rw [← q_ct_enum (en := rc) (m := 24) (fun r hr => ⟨(hrc r (by omega)).2.2.1, (hrc r (by omega)).2.2.2⟩) g 24 (Nat.le_refl _), hct]
theorem fX5_goodCount (h : q_Core I D N cl RM rc) (hj : q_Jc I N st an wn) : mX5_goodCount [.ref 48] (qm I J e) = some (some (.int (nI (fb_ct (fun r => qGz I an wn (rc r)) RM))), qm I J e) := by
  obtain ⟨-, -, -, -, h5⟩ := hj
  have h1 : fb_ct (bt (I 48 3)) 32 = fb_ct (fun r => qGz I an wn (rc r)) RM := by
    rw [q_cnt_rc h, fb_ct_cong (p := bt (I 48 3)) (q := fun x => bt (I 3 11) x && qGz I an wn x) (fun x hx => h5 x hx)]
    exact q_ct_cut (m := 24) 8 (fun x x1 x2 => by
      cases hA : bt (I 3 11) x with
      | false => rw [Bool.false_and]
      | true => exact absurd (h.a24 hA) (by omega))
  rw [bX5_goodCount, eX5_goodCount_0, fJ6_bitCount, h1]
  simp only [Option.bind_some, Option.toList_some, Option.toList_none, List.nil_append, List.cons_append, q_ck_tt, Bool.and_true, Bool.true_and, if_true, if_false, reduceCtorEq]
  rw [eX5_goodCount_7]
/-! the reference -/
theorem fX12_netAt (h : q_Core I D N cl RM rc) {r : Nat} (hr : r < RM) : mX12_netAt [.ref 64, .int (nI r)] (qm I J e) = some (some (.int (nI (qNn I (rc r)))), qm I J e) := by
  obtain ⟨-, h18, hrc, -⟩ := h.br
  obtain ⟨r1, r2, r3, -⟩ := hrc r hr
  have r6 := h.r6 r2 r3
  rw [bX12_netAt, eX12_netAt_0, nI_clamp (show r < 2 ^ 31 by omega), r1, nI_clamp (show rc r < 2 ^ 31 by omega), q_in_nI r2 (by omega), q_in_nI (show r < 24 by omega) (by omega), h.bc.2.1 _ r6, (h.nn r3).1]
  simp only [Option.bind_some, Option.toList_some, Option.toList_none, List.nil_append, List.cons_append, q_ck_tt, Bool.and_true, Bool.true_and, if_true, if_false, reduceCtorEq]
theorem fX12_isGood (h : q_Core I D N cl RM rc) (hj : q_Jf I N RM rc an wn) {r : Nat} (hr : r < RM) : mX12_isGood [.ref 64, .int (nI r)] (qm I J e) = some (some (.int (qb (qGz I an wn (rc r)))), qm I J e) := by
  have hN := h.n6
  have h18 := h.br.2.1
  obtain ⟨-, n2⟩ := h.nn (h.br.2.2.1 r hr).2.2.1
  rw [bX12_isGood, eX12_isGood_0, fX12_netAt h hr, q_in_nI (show r < 24 by omega) (by omega), nI_clamp (by omega), hj.2 r hr]
  simp only [Option.bind_some, Option.toList_some, Option.toList_none, List.nil_append, List.cons_append, q_ck_tt, Bool.and_true, Bool.true_and, if_true, if_false, reduceCtorEq]
  rw [eX12_isGood_15, q_in_nI (show qNn I (rc r) < 6 by omega) (by omega), nI_clamp (by omega), hj.1 _ n2]
  simp only [Option.bind_some, Option.toList_some, Option.toList_none, List.nil_append, List.cons_append, q_ck_tt, Bool.and_true, Bool.true_and, if_true, if_false, reduceCtorEq]
  unfold qGz
  by_cases c : an (rc r) = wn (qNn I (rc r))
  · rw [if_pos c, decide_eq_true c, eX12_isGood_19, eX12_isGood_24]; rfl
  · rw [if_neg c, decide_eq_false c, eX12_isGood_23, eX12_isGood_24]; rfl
theorem fX12_goodMany (h : q_Core I D N cl RM rc) (hj : q_Jf I N RM rc an wn) : mX12_goodMany [.ref 64] (qm I J e) = some (some (.int (nI (fb_ct (fun r => qGz I an wn (rc r)) RM))), qm I J e) := by
  have h18 := h.br.2.1
  have hst : ∀ r, r < RM → (fun r (y : Nat) => kX12_goodMany 4 [some (.ref 64), some (.int (nI y)), some (.int (nI r))] [] (qm I J e)) r (fb_ct (fun r => qGz I an wn (rc r)) r) = (fun r (y : Nat) => kX12_goodMany 4 [some (.ref 64), some (.int (nI y)), some (.int (nI r))] [] (qm I J e)) (r + 1) (fb_ct (fun r => qGz I an wn (rc r)) (r + 1)) := by
    intro r hr
    show kX12_goodMany 4 _ _ _ = kX12_goodMany 4 _ _ _
    rw [eX12_goodMany_4, h.br.1, if_pos (nI_lt hr (by omega)), eX12_goodMany_12, fX12_isGood h hj hr]
    simp only [Option.bind_some, Option.toList_some, Option.toList_none, List.nil_append, List.cons_append, q_ck_tt, Bool.and_true, Bool.true_and, if_true, if_false, reduceCtorEq]
    rw [eX12_goodMany_18, fX12_truth]
    simp only [Option.bind_some, Option.toList_some, Option.toList_none, List.nil_append, List.cons_append, q_ck_tt, Bool.and_true, Bool.true_and, if_true, if_false, reduceCtorEq]
    rw [eX12_goodMany_21, nI_1, fb_ct_succ]
    cases qGz I an wn (rc r) with
    | false => rw [show qb false = nI 0 from rfl, nI_add]; rfl
    | true => rw [show qb true = nI 1 from rfl, nI_add]; rfl
  have hf := q_for (fun r (y : Nat) => kX12_goodMany 4 [some (.ref 64), some (.int (nI y)), some (.int (nI r))] [] (qm I J e)) RM (fun r => fb_ct (fun r => qGz I an wn (rc r)) r) hst
  rw [bX12_goodMany, eX12_goodMany_0]
  refine Eq.trans hf ?_
  show kX12_goodMany 4 _ _ _ = _
  rw [eX12_goodMany_4, h.br.1, if_neg (nI_nlt (Nat.le_refl _) (by omega)), eX12_goodMany_29]
theorem qGz_off {I' : Nat → Nat → Int32} (o : q_Off I I') : qGz I' an wn = qGz I an wn := by funext x; unfold qGz; rw [qNn_off o]
theorem o_good (h : q_Core I D N cl RM rc) (a : Int32) : q_Obs mX11_good mX12_good [.int a] I J (3, 17, rb, tx, L) := by
  have h10 : ¬ ((1 : Int32) = 0) := by decide
  cases hq : q_in a 3 with
  | false =>
    refine ⟨-1, I, I, ?_, ?_, q_Off_refl _, q_Off_refl _⟩
    · rw [bX11_good, eX11_good_0, fX11_isKind, hq]
      simp only [Option.bind_some, Option.toList_some, Option.toList_none, List.nil_append, List.cons_append, q_ck_tt, Bool.and_true, Bool.true_and, if_true, if_false, reduceCtorEq]
      rw [eX11_good_4, if_pos qb_f, eX11_good_18, eX11_good_19]
    · rw [bX12_good, eX12_good_0, fX12_isKind, hq]
      simp only [Option.bind_some, Option.toList_some, Option.toList_none, List.nil_append, List.cons_append, q_ck_tt, Bool.and_true, Bool.true_and, if_true, if_false, reduceCtorEq]
      rw [eX12_good_4, if_pos qb_f, eX12_good_7]
  | true =>
    obtain ⟨k, hk, rfl, -⟩ := q_in_of hq
    obtain ⟨sz, hz⟩ : ∃ sz, q_Fz I sz := h.fo
    obtain ⟨an, wn, K, j0, o1, j1, K2, j2, o2, j3, -⟩ := q_judge (J := J) (rb := rb) (tx := tx) (L := L) h hz hk
    have hK := q_Core_off h o1
    have hK2 := q_Core_off hK o2
    refine ⟨nI (fb_ct (fun r => qGz K an wn (rc r)) RM), K, K2, ?_, ?_, o1, o2⟩
    · rw [bX11_good, eX11_good_0, fX11_isKind, hq]
      simp only [Option.bind_some, Option.toList_some, Option.toList_none, List.nil_append, List.cons_append, q_ck_tt, Bool.and_true, Bool.true_and, if_true, if_false, reduceCtorEq]
      rw [eX11_good_4, qb_t, if_neg h10, eX11_good_7, j0]
      simp only [Option.bind_some, Option.toList_some, Option.toList_none, List.nil_append, List.cons_append, q_ck_tt, Bool.and_true, Bool.true_and, if_true, if_false, reduceCtorEq]
      rw [eX11_good_12, fX5_goodCount hK j1]
      simp only [Option.bind_some, Option.toList_some, Option.toList_none, List.nil_append, List.cons_append, q_ck_tt, Bool.and_true, Bool.true_and, if_true, if_false, reduceCtorEq]
      rw [eX11_good_15, eX11_good_19]
    · rw [bX12_good, eX12_good_0, fX12_isKind, hq]
      simp only [Option.bind_some, Option.toList_some, Option.toList_none, List.nil_append, List.cons_append, q_ck_tt, Bool.and_true, Bool.true_and, if_true, if_false, reduceCtorEq]
      rw [eX12_good_4, qb_t, if_neg h10, eX12_good_9, j2]
      simp only [Option.bind_some, Option.toList_some, Option.toList_none, List.nil_append, List.cons_append, q_ck_tt, Bool.and_true, Bool.true_and, if_true, if_false, reduceCtorEq]
      rw [eX12_good_14, fX12_goodMany hK2 j3, qGz_off o2]
      simp only [Option.bind_some, Option.toList_some, Option.toList_none, List.nil_append, List.cons_append, q_ck_tt, Bool.and_true, Bool.true_and, if_true, if_false, reduceCtorEq]
      rw [eX12_good_18]
theorem o_answer (h : q_Core I D N cl RM rc) (a b c : Int32) : q_Obs mX11_answer mX12_answer [.int a, .int b, .int c] I J (3, 17, rb, tx, L) := by
  have h10 : ¬ ((1 : Int32) = 0) := by decide
  have hD := h.d4
  cases hq : q_in a 3 with
  | false =>
    refine ⟨-1, I, I, ?_, ?_, q_Off_refl _, q_Off_refl _⟩
    · rw [bX11_answer, eX11_answer_0, fX11_isKind, hq]
      simp only [Option.bind_some, Option.toList_some, Option.toList_none, List.nil_append, List.cons_append, q_ck_tt, Bool.and_true, Bool.true_and, if_true, if_false, reduceCtorEq]
      rw [eX11_answer_4, if_pos qb_f, eX11_answer_19]
    · rw [bX12_answer, eX12_answer_0, fX12_isKind, hq]
      simp only [Option.bind_some, Option.toList_some, Option.toList_none, List.nil_append, List.cons_append, q_ck_tt, Bool.and_true, Bool.true_and, if_true, if_false, reduceCtorEq]
      rw [eX12_answer_4, if_pos qb_f, eX12_answer_16]
  | true =>
    obtain ⟨k, hk, rfl, -⟩ := q_in_of hq
    have cK : mX11_answer [.ref 1, .int (nI k), .int b, .int c] (qm I J (3, 17, rb, tx, L)) = kX11_answer 7 [some (.ref 1), some (.int (nI k)), some (.int b), some (.int c)] [] (qm I J (3, 17, rb, tx, L)) := by
      rw [bX11_answer, eX11_answer_0, fX11_isKind, hq]
      simp only [Option.bind_some, Option.toList_some, Option.toList_none, List.nil_append, List.cons_append, q_ck_tt, Bool.and_true, Bool.true_and, if_true, if_false, reduceCtorEq]
      rw [eX11_answer_4, qb_t, if_neg h10]
    have rK : ∀ M : Nat → Nat → Int32, mX12_answer [.ref 64, .int (nI k), .int b, .int c] (qm M J (3, 17, rb, tx, L)) = kX12_answer 7 [some (.ref 64), some (.int (nI k)), some (.int b), some (.int c), none] [] (qm M J (3, 17, rb, tx, L)) := by
      intro M
      rw [bX12_answer, eX12_answer_0, fX12_isKind, hq]
      simp only [Option.bind_some, Option.toList_some, Option.toList_none, List.nil_append, List.cons_append, q_ck_tt, Bool.and_true, Bool.true_and, if_true, if_false, reduceCtorEq]
      rw [eX12_answer_4, qb_t, if_neg h10]
    cases hq3 : q_in b D with
    | false =>
      refine ⟨-1, I, I, ?_, ?_, q_Off_refl _, q_Off_refl _⟩
      · rw [cK, eX11_answer_7, fX0_hasReceiver_n I J _ hD h.i30 hq3]
        simp only [Option.bind_some, Option.toList_some, Option.toList_none, List.nil_append, List.cons_append, q_ck_tt, Bool.and_true, Bool.true_and, if_true, if_false, reduceCtorEq]
        rw [eX11_answer_16, if_pos rfl, eX11_answer_19]
      · rw [rK, eX12_answer_7, fX12_isCell_n I J _ hD h.m50 hq3]
        simp only [Option.bind_some, Option.toList_some, Option.toList_none, List.nil_append, List.cons_append, q_ck_tt, Bool.and_true, Bool.true_and, if_true, if_false, reduceCtorEq]
        rw [eX12_answer_13, if_pos rfl, eX12_answer_16]
    | true =>
      obtain ⟨d, hd, rfl, -⟩ := q_in_of hq3
      obtain ⟨-, -, e3, e4, e5, -, -⟩ := h.bn.2.2 d hd
      cases hq4 : q_in c (cl d) with
      | false =>
        refine ⟨-1, I, I, ?_, ?_, q_Off_refl _, q_Off_refl _⟩
        · rw [cK, eX11_answer_7, fX0_hasReceiver_y I J _ hD h.i30 hd e3 e5, hq4, Bool.false_and]
          simp only [Option.bind_some, Option.toList_some, Option.toList_none, List.nil_append, List.cons_append, q_ck_tt, Bool.and_true, Bool.true_and, if_true, if_false, reduceCtorEq]
          rw [eX11_answer_16, if_pos qb_f, eX11_answer_19]
        · rw [rK, eX12_answer_7, fX12_isCell_y I J _ hD h.m50 hd e4 e5, hq4]
          simp only [Option.bind_some, Option.toList_some, Option.toList_none, List.nil_append, List.cons_append, q_ck_tt, Bool.and_true, Bool.true_and, if_true, if_false, reduceCtorEq]
          rw [eX12_answer_13, if_pos qb_f, eX12_answer_16]
      | true =>
        obtain ⟨j, hj, rfl, hj31⟩ := q_in_of hq4
        have hx : 6 * d + j < 24 := by omega
        have hm : (6 : Int32) * nI d + nI j = nI (6 * d + j) := by rw [show (6 : Int32) = nI 6 from rfl, pk_mul, nI_add]
        cases hb : bt (I 3 11) (6 * d + j) with
        | false =>
          refine ⟨-1, I, I, ?_, ?_, q_Off_refl _, q_Off_refl _⟩
          · rw [cK, eX11_answer_7, fX0_hasReceiver_y I J _ hD h.i30 hd e3 e5, hq4, nI_clamp hj31, hb]
            simp only [Option.bind_some, Option.toList_some, Option.toList_none, List.nil_append, List.cons_append, q_ck_tt, Bool.and_true, Bool.true_and, if_true, if_false, reduceCtorEq]
            rw [eX11_answer_16, if_pos (by rfl), eX11_answer_19]
          · rw [rK, eX12_answer_7, fX12_isCell_y I J _ hD h.m50 hd e4 e5, hq4]
            simp only [Option.bind_some, Option.toList_some, Option.toList_none, List.nil_append, List.cons_append, q_ck_tt, Bool.and_true, Bool.true_and, if_true, if_false, reduceCtorEq]
            rw [eX12_answer_13, qb_t, if_neg h10, eX12_answer_18, hm, fX12_placeOf h hx (-1) (Or.inr ⟨q_rc_n h hb, rfl⟩)]
            simp only [Option.bind_some, Option.toList_some, Option.toList_none, List.nil_append, List.cons_append, q_ck_tt, Bool.and_true, Bool.true_and, if_true, if_false, reduceCtorEq]
            rw [eX12_answer_28, if_pos (by decide), eX12_answer_35]
        | true =>
          obtain ⟨r, hr, hrx⟩ := h.rcof hx hb
          have h18 := h.br.2.1
          obtain ⟨sz, hz⟩ : ∃ sz, q_Fz I sz := h.fo
          obtain ⟨an, wn, K, j0, o1, j1, K2, j2, o2, j3, -⟩ := q_judge (J := J) (rb := rb) (tx := tx) (L := L) h hz hk
          have hK := q_Core_off h o1
          refine ⟨an (6 * d + j), K, K2, ?_, ?_, o1, o2⟩
          · rw [cK, eX11_answer_7, fX0_hasReceiver_y I J _ hD h.i30 hd e3 e5, hq4, nI_clamp hj31, hb]
            simp only [Option.bind_some, Option.toList_some, Option.toList_none, List.nil_append, List.cons_append, q_ck_tt, Bool.and_true, Bool.true_and, if_true, if_false, reduceCtorEq]
            rw [eX11_answer_16, if_neg (show ¬ qb true = 0 by decide), eX11_answer_21, j0]
            simp only [Option.bind_some, Option.toList_some, Option.toList_none, List.nil_append, List.cons_append, q_ck_tt, Bool.and_true, Bool.true_and, if_true, if_false, reduceCtorEq]
            rw [eX11_answer_26, fX11_placeOf]
            simp only [Option.bind_some, Option.toList_some, Option.toList_none, List.nil_append, List.cons_append, q_ck_tt, Bool.and_true, Bool.true_and, if_true, if_false, reduceCtorEq]
            rw [eX11_answer_31, fX5_answerAt j1 (by omega)]
            simp only [Option.bind_some, Option.toList_some, Option.toList_none, List.nil_append, List.cons_append, q_ck_tt, Bool.and_true, Bool.true_and, if_true, if_false, reduceCtorEq]
            rw [eX11_answer_34]
          · rw [rK, eX12_answer_7, fX12_isCell_y K J _ hD hK.m50 hd (by rw [o1.r 85 (fun _ => rfl)]; exact e4) e5, hq4]
            simp only [Option.bind_some, Option.toList_some, Option.toList_none, List.nil_append, List.cons_append, q_ck_tt, Bool.and_true, Bool.true_and, if_true, if_false, reduceCtorEq]
            rw [eX12_answer_13, qb_t, if_neg h10, eX12_answer_18, hm, fX12_placeOf hK hx (nI r) (Or.inl ⟨r, hr, hrx, rfl⟩)]
            simp only [Option.bind_some, Option.toList_some, Option.toList_none, List.nil_append, List.cons_append, q_ck_tt, Bool.and_true, Bool.true_and, if_true, if_false, reduceCtorEq]
            rw [eX12_answer_28, if_neg (nI_pos (by omega)), eX12_answer_37, j2]
            simp only [Option.bind_some, Option.toList_some, Option.toList_none, List.nil_append, List.cons_append, q_ck_tt, Bool.and_true, Bool.true_and, if_true, if_false, reduceCtorEq]
            rw [eX12_answer_42, q_in_nI (show r < 24 by omega) (by omega), nI_clamp (by omega), j3.2 r hr, hrx]
            simp only [Option.bind_some, Option.toList_some, Option.toList_none, List.nil_append, List.cons_append, q_ck_tt, Bool.and_true, Bool.true_and, if_true, if_false, reduceCtorEq]
end JU
