/-! ===== apart, told, least ===== -/
theorem q_all_lp {Fk : Nat → Option QR} {n : Nat} {p : Nat → Bool} {M : QM} (hs : ∀ i, i < n → Fk i = if p i then some (some (.int 0), M) else Fk (i + 1)) (hend : Fk n = some (some (.int 1), M)) : Fk 0 = some (some (.int (qb (!qAny n p))), M) := by
  have key : ∀ m i, i + m = n → (∀ j, j < i → p j = false) → Fk i = some (some (.int (qb (!qAny n p))), M) := by
    intro m
    induction m with
    | zero =>
      intro i hi hf
      have hin : i = n := by omega
      have : qAny n p = false := by
        cases hc : qAny n p with
        | false => rfl
        | true =>
          obtain ⟨k, k1, k2⟩ := qAny_iff.mp hc
          rw [hf k (by omega)] at k2
          cases k2
      rw [hin, hend, this]
      rfl
    | succ m ih =>
      intro i hi hf
      rw [hs i (by omega)]
      cases hp : p i with
      | true =>
        have : qAny n p = true := qAny_iff.mpr ⟨i, by omega, hp⟩
        rw [this]
        rfl
      | false =>
        refine Eq.trans (if_neg Bool.false_ne_true) (ih (i + 1) (by omega) (fun j hj => ?_))
        by_cases c : j = i
        · rw [c]; exact hp
        · exact hf j (by omega)
  exact key n 0 (by omega) (fun j hj => absurd hj (by omega))
/-- a call that looks, and may make the lab ready -/
def q_Lab (f g : List Value → QM → Option QR) (as : List Value) (I : Nat → Nat → Int32) (J : Nat → Nat → Int64) (e : QP) (N RM : Nat) (rc : Nat → Nat) : Prop := ∃ (r : Int32) (I1 I2 : Nat → Nat → Int32), f (.ref 1 :: as) (qm I J e) = some (some (.int r), qm I1 J e) ∧ g (.ref 64 :: as) (qm I1 J e) = some (some (.int r), qm I2 J e) ∧ I1 1004 = I 1004 ∧ q_Lb I2 N RM rc ∧ ∀ p k, q_scr p k = false → p ≠ 53 → ¬ (p = 52 ∧ k = 2) → I2 p k = I p k
section AP
variable {I : Nat → Nat → Int32} {J : Nat → Nat → Int64} {e : QP} {rb tx L : Nat} {D N : Nat} {cl : Nat → Nat} {RM : Nat} {rc : Nat → Nat} {sz : Nat} {F : Nat → Int32} {k : Nat}
theorem q_Off_sy {A B : Nat → Nat → Int32} (o : q_Off A B) : q_Off B A := fun p k hp => (o p k hp).symm
theorem qRq_off {K : Nat → Nat → Int32} (o : q_Off I K) : qRq K N RM rc sz = qRq I N RM rc sz := by
  funext i c
  unfold qRq qPc
  rw [qFa_off o, o.r 9 (fun _ => rfl), o.r 10 (fun _ => rfl), o.r 11 (fun _ => rfl), o.r 3 (fun _ => rfl)]
theorem q_Lb_off {K : Nat → Nat → Int32} (h : q_Lb I N RM rc) (o : q_Off I K) : q_Lb K N RM rc := by
  have h52 : K 52 2 = I 52 2 := o 52 2 rfl
  rcases h with h0 | ⟨h1, h2⟩
  · exact Or.inl (by rw [h52]; exact h0)
  · refine Or.inr ⟨by rw [h52]; exact h1, fun sz hz => ?_⟩
    have := h2 sz (q_Fz_off hz (q_Off_sy o))
    unfold q_Tb at this ⊢
    rw [o.r 53 (fun _ => rfl), qRq_off o]
    exact this
theorem q_lab_fr {K K2 : Nat → Nat → Int32} (h1 : ∀ j, j ≠ 2 → K 52 j = I 52 j) (h2 : ∀ p, p ≠ 16 → p ≠ 52 → p ≠ 53 → p ≠ 54 → p ≠ 55 → K p = I p) (o : q_Off K K2) : ∀ p k, q_scr p k = false → p ≠ 53 → ¬ (p = 52 ∧ k = 2) → K2 p k = I p k := by
  intro p k hp h53 h52
  rw [o p k hp]
  by_cases c : p = 52
  · rw [c]; exact h1 k (fun g => h52 ⟨c, g⟩)
  · rw [h2 p (fun c => by rw [c] at hp; cases hp) c h53 (fun c => by rw [c] at hp; cases hp) (fun c => by rw [c] at hp; cases hp)]
theorem qFi_sub (h : q_Core I D N cl RM rc) {i : Nat} (hi : i ≤ qSN N RM) : ∀ x, bt (qFi N RM rc i 2) x = true → bt (I 3 11) x = true := by
  intro x hx
  cases i with
  | zero => rw [show qFi N RM rc 0 2 = 0 from rfl, b_0] at hx; cases hx
  | succ s =>
    have hx' : bt (qTu N RM rc (fun _ => 0) s 2) x = true := hx
    unfold qTu at hx'
    by_cases c1 : s < 2 * N
    · rw [if_pos c1, va_miss (by decide), va_miss (by decide), b_0] at hx'; cases hx'
    · rw [if_neg c1] at hx'
      by_cases c2 : s < qSF N RM
      · have hr : s - 2 * N < RM := by unfold qSF at c2; omega
        obtain ⟨-, r24, rA, -⟩ := h.br.2.2.1 _ hr
        rw [if_pos c2, va_hit, b_xor, b_0, Bool.false_xor] at hx'
        unfold qtg at hx'
        simp only [if_neg c1, if_pos c2] at hx'
        rw [b_bit (by omega)] at hx'
        rw [of_decide_eq_true hx']
        exact rA
      · rw [if_neg c2, va_miss (by decide), va_miss (by decide), b_0] at hx'; cases hx'
theorem qRq_w (h : q_Core I D N cl RM rc) (hk : k < 3) {i s : Nat} (hi : i ≤ qSN N RM) (hs : s < qSt k N) : qRq I N RM rc sz i (qCol N k s) = qRw I N k (qFi N RM rc i) (qFa I sz (qFi N RM rc i 2) 0) s &&& I 3 11 := by
  unfold qRq qRw
  rw [qPc_col hk hs, qRa_fl (qFa_sub (qFi_sub h hi))]
theorem q_ap_eq (h : q_Core I D N cl RM rc) (hk : k < 3) {i j : Nat} (hi : i ≤ qSN N RM) (hj : j ≤ qSN N RM) : qAny RM (fun r => !decide (qAi I N RM rc sz k i (rc r) = qAi I N RM rc sz k j (rc r))) = qAp I N RM rc sz k i j := by
  have h6 := qSt_6 (k := k) h.n6
  unfold qAp
  cases hc : qAny (qSt k N) (fun s => !decide (qRq I N RM rc sz i (qCol N k s) = qRq I N RM rc sz j (qCol N k s))) with
  | true =>
    obtain ⟨s, hs, h1⟩ := qAny_iff.mp hc
    have h2 : ¬ (qRw I N k (qFi N RM rc i) (qFa I sz (qFi N RM rc i 2) 0) s &&& I 3 11 = qRw I N k (qFi N RM rc j) (qFa I sz (qFi N RM rc j 2) 0) s &&& I 3 11) := by
      rw [← qRq_w h hk hi hs, ← qRq_w h hk hj hs]
      intro g
      rw [decide_eq_true g] at h1
      cases h1
    have h3 : ∃ x, bt (I 3 11) x = true ∧ ¬ bt (qRw I N k (qFi N RM rc i) (qFa I sz (qFi N RM rc i 2) 0) s) x = bt (qRw I N k (qFi N RM rc j) (qFa I sz (qFi N RM rc j 2) 0) s) x := by
      refine Classical.byContradiction (fun g => h2 (b_ext (fun x _ => ?_)))
      rw [b_and, b_and]
      cases hA : bt (I 3 11) x with
      | false => rw [Bool.and_false, Bool.and_false]
      | true =>
        by_cases c : bt (qRw I N k (qFi N RM rc i) (qFa I sz (qFi N RM rc i 2) 0) s) x = bt (qRw I N k (qFi N RM rc j) (qFa I sz (qFi N RM rc j 2) 0) s) x
        · rw [c]
        · exact absurd ⟨x, hA, c⟩ g
    obtain ⟨x, hA, hx⟩ := h3
    obtain ⟨r, hr, hrx⟩ := h.rcof (h.a24 hA) hA
    refine qAny_iff.mpr ⟨r, hr, ?_⟩
    rw [hrx]
    unfold qAi qAn
    rw [qB_eq (by omega), Bool.not_not]
    refine qAny_iff.mpr ⟨s, hs, ?_⟩
    cases hu : bt (qRw I N k (qFi N RM rc i) (qFa I sz (qFi N RM rc i 2) 0) s) x <;> cases hw : bt (qRw I N k (qFi N RM rc j) (qFa I sz (qFi N RM rc j 2) 0) s) x <;> rw [hu, hw] at hx <;> first | rfl | exact absurd rfl hx
  | false =>
    cases hd : qAny RM (fun r => !decide (qAi I N RM rc sz k i (rc r) = qAi I N RM rc sz k j (rc r))) with
    | false => rfl
    | true =>
      obtain ⟨r, hr, h1⟩ := qAny_iff.mp hd
      unfold qAi qAn at h1
      rw [qB_eq (by omega), Bool.not_not] at h1
      obtain ⟨s, hs, h2⟩ := qAny_iff.mp h1
      have hA := (h.br.2.2.1 r hr).2.2.1
      have : qAny (qSt k N) (fun s => !decide (qRq I N RM rc sz i (qCol N k s) = qRq I N RM rc sz j (qCol N k s))) = true := by
        refine qAny_iff.mpr ⟨s, hs, ?_⟩
        rw [qRq_w h hk hi hs, qRq_w h hk hj hs, decide_eq_false (fun g => ?_)]
        · rfl
        · have g2 := congrArg (fun w => bt w (rc r)) g
          simp only [b_and, hA, Bool.and_true] at g2
          rw [g2, Bool.xor_self] at h2
          cases h2
      rw [hc] at this
      cases this
theorem fX12_areApart (h : q_Core I D N cl RM rc) {T : Nat → Nat → Int32} (hT : ∀ i, i ≤ qSN N RM → ∀ r, r < RM → I 104 (24 * i + r) = T i r) {i j : Nat} (hi : i ≤ qSN N RM) (hj : j ≤ qSN N RM) : mX12_areApart [.ref 64, .int (nI i - 1), .int (nI j - 1)] (qm I J e) = some (some (.int (qb (qAny RM (fun r => !decide (T i r = T j r))))), qm I J e) := by
  have h60 := qSN_60 h
  have h18 := h.br.2.1
  have hst : ∀ r, r < RM → (fun r (y : Bool) => kX12_areApart 5 [some (.ref 64), some (.int (nI i - 1)), some (.int (nI j - 1)), some (.int (qb y)), some (.int (nI r))] [] (qm I J e)) r (qAny r (fun r => !decide (T i r = T j r))) = (fun r (y : Bool) => kX12_areApart 5 [some (.ref 64), some (.int (nI i - 1)), some (.int (nI j - 1)), some (.int (qb y)), some (.int (nI r))] [] (qm I J e)) (r + 1) (qAny (r + 1) (fun r => !decide (T i r = T j r))) := by
    intro r hr
    show kX12_areApart 5 _ _ _ = kX12_areApart 5 [some (.ref 64), some (.int (nI i - 1)), some (.int (nI j - 1)), some (.int (qb (qAny r (fun r => !decide (T i r = T j r)) || !decide (T i r = T j r)))), some (.int (nI (r + 1)))] [] (qm I J e)
    have hm : ∀ i, (24 : Int32) * (nI i - 1 + 1) + nI r = nI (24 * i + r) := fun i => by rw [Int32.sub_add_cancel, show (24 : Int32) = nI 24 from rfl, pk_mul, nI_add]
    rw [eX12_areApart_5, h.br.1, if_pos (nI_lt hr (by omega)), eX12_areApart_14]
    cases qAny r (fun r => !decide (T i r = T j r)) with
    | true => rw [if_neg (show ¬ qb true = 0 by decide), eX12_areApart_49, eX12_areApart_54, nI_1, Bool.true_or]; rfl
    | false =>
      rw [if_pos qb_f, eX12_areApart_18, hm, q_in_nI (show 24 * i + r < 1464 by omega) (by omega), nI_clamp (show 24 * i + r < 2 ^ 31 by omega), hT i hi r hr, Bool.false_or]
      simp only [Option.bind_some, Option.toList_some, Option.toList_none, List.nil_append, List.cons_append, q_ck_tt, Bool.and_true, Bool.true_and, if_true, if_false, reduceCtorEq]
      rw [eX12_areApart_39, hm, q_in_nI (show 24 * j + r < 1464 by omega) (by omega), nI_clamp (show 24 * j + r < 2 ^ 31 by omega), hT j hj r hr]
      simp only [Option.bind_some, Option.toList_some, Option.toList_none, List.nil_append, List.cons_append, q_ck_tt, Bool.and_true, Bool.true_and, if_true, if_false, reduceCtorEq]
      by_cases c : T i r = T j r
      · rw [if_pos c, eX12_areApart_53, eX12_areApart_54, nI_1, decide_eq_true c]; rfl
      · rw [if_neg c, eX12_areApart_49, eX12_areApart_54, nI_1, decide_eq_false c]; rfl
  have hf := q_for (fun r (y : Bool) => kX12_areApart 5 [some (.ref 64), some (.int (nI i - 1)), some (.int (nI j - 1)), some (.int (qb y)), some (.int (nI r))] [] (qm I J e)) RM (fun r => qAny r (fun r => !decide (T i r = T j r))) hst
  rw [bX12_areApart, eX12_areApart_0]
  refine Eq.trans hf ?_
  show kX12_areApart 5 _ _ _ = _
  rw [eX12_areApart_5, h.br.1, if_neg (nI_nlt (Nat.le_refl _) (by omega)), eX12_areApart_61]
  simp only [Option.bind_some, Option.toList_some, Option.toList_none, List.nil_append, List.cons_append, q_ck_tt, Bool.and_true, Bool.true_and, if_true, if_false, reduceCtorEq, qb_ck]
/-- both tables ready for a kind -/
theorem q_tabs (h : q_Core I D N cl RM rc) (hl : q_Lb I N RM rc) (hk : k < 3) : ∃ sz K, q_Fz I sz ∧ mX11_prepared [.ref 1] (qm I J (3, 17, rb, tx, L)) = some (some (.ref 52), qm K J (3, 17, rb, tx, L)) ∧ q_Tb K N RM rc sz ∧ q_Core K D N cl RM rc ∧ K 1004 = I 1004 ∧ ∃ K2, mX12_layTable [.ref 64, .int (nI k)] (qm K J (3, 17, rb, tx, L)) = some (none, qm K2 J (3, 17, rb, tx, L)) ∧ q_Core K2 D N cl RM rc ∧ q_Lb K2 N RM rc ∧ (∀ i j, i ≤ qSN N RM → j ≤ qSN N RM → mX12_areApart [.ref 64, .int (nI i - 1), .int (nI j - 1)] (qm K2 J (3, 17, rb, tx, L)) = some (some (.int (qb (qAp K N RM rc sz k i j))), qm K2 J (3, 17, rb, tx, L))) ∧ ∀ p k, q_scr p k = false → p ≠ 53 → ¬ (p = 52 ∧ k = 2) → K2 p k = I p k := by
  obtain ⟨sz, hz⟩ : ∃ sz, q_Fz I sz := h.fo
  obtain ⟨K, k0, k1, k2, k3, k4, k5, k6⟩ := q_prep (J := J) (rb := rb) (tx := tx) (L := L) h hz hl
  obtain ⟨K2, l0, l1, l2, -⟩ := fX12_layTable (J := J) (e := (3, 17, rb, tx, L)) k2 k3 hk
  have c2 := q_Core_off k2 l2
  refine ⟨sz, K, hz, k0, k1, k2, k6 1004 (by decide) (by decide) (by decide) (by decide) (by decide), K2, l0, c2, q_Lb_off k4 l2, fun i j hi hj => ?_, q_lab_fr k5 k6 l2⟩
  rw [fX12_areApart c2 l1 hi hj, q_ap_eq k2 hk hi hj]
theorem q_sn_of (h : q_Core I D N cl RM rc) {a : Int32} (ha : (decide (a = -1) || q_in a (qSN N RM)) = true) : ∃ i, i ≤ qSN N RM ∧ a = nI i - 1 := by
  cases hq : q_in a (qSN N RM) with
  | true =>
    obtain ⟨s, hs, rfl, -⟩ := q_in_of hq
    exact ⟨s + 1, by omega, (nI_pred s).symm⟩
  | false =>
    rw [hq, Bool.or_false] at ha
    exact ⟨0, by omega, of_decide_eq_true ha⟩
theorem fX11_isSingleOrNone (h : q_Core I D N cl RM rc) (a : Int32) : mX11_isSingleOrNone [.ref 1, .int a] (qm I J (3, 17, rb, tx, L)) = some (some (.int (qb (decide (a = -1) || q_in a (qSN N RM)))), qm I J (3, 17, rb, tx, L)) := by
  rw [bX11_isSingleOrNone, eX11_isSingleOrNone_0]
  by_cases c : a = -1
  · rw [if_pos c, eX11_isSingleOrNone_16, eX11_isSingleOrNone_21, decide_eq_true c]; rfl
  · rw [if_neg c, eX11_isSingleOrNone_5, fX0_hasSingle h, decide_eq_false c, Bool.false_or]
    simp only [Option.bind_some, Option.toList_some, Option.toList_none, List.nil_append, List.cons_append, q_ck_tt, Bool.and_true, Bool.true_and, if_true, if_false, reduceCtorEq]
    rw [eX11_isSingleOrNone_13]
    cases q_in a (qSN N RM) with
    | false => rw [if_pos qb_f, eX11_isSingleOrNone_20, eX11_isSingleOrNone_21]; rfl
    | true => rw [if_neg (show ¬ qb true = 0 by decide), eX11_isSingleOrNone_16, eX11_isSingleOrNone_21]; rfl
theorem q_Lab_no {f g : List Value → QM → Option QR} {as : List Value} {r : Int32} (hl : q_Lb I N RM rc) (h1 : f (.ref 1 :: as) (qm I J e) = some (some (.int r), qm I J e)) (h2 : g (.ref 64 :: as) (qm I J e) = some (some (.int r), qm I J e)) : q_Lab f g as I J e N RM rc := ⟨r, I, I, h1, h2, rfl, hl, fun _ _ _ _ _ => rfl⟩
theorem q_ra (h : q_Core I D N cl RM rc) (hq : q_in (nI k) 3 = true) (b c : Int32) : mX12_apart [.ref 64, .int (nI k), .int b, .int c] (qm I J e) = if (decide (b = -1) || q_in b (qSN N RM)) && (decide (c = -1) || q_in c (qSN N RM)) then kX12_apart 36 [some (.ref 64), some (.int (nI k)), some (.int b), some (.int c)] [] (qm I J e) else some (some (.int (-2)), qm I J e) := by
  have h10 : ¬ ((1 : Int32) = 0) := by decide
  have h20 : kX12_apart 20 [some (.ref 64), some (.int (nI k)), some (.int b), some (.int c)] [] (qm I J e) = if (decide (c = -1) || q_in c (qSN N RM)) then kX12_apart 36 [some (.ref 64), some (.int (nI k)), some (.int b), some (.int c)] [] (qm I J e) else some (some (.int (-2)), qm I J e) := by
    rw [eX12_apart_20]
    by_cases g : c = -1
    · rw [if_pos g, decide_eq_true g, Bool.true_or, if_pos rfl]
    · rw [if_neg g, eX12_apart_25, fX12_isSingle h, decide_eq_false g, Bool.false_or]
      simp only [Option.bind_some, Option.toList_some, Option.toList_none, List.nil_append, List.cons_append, q_ck_tt, Bool.and_true, Bool.true_and, if_true, if_false, reduceCtorEq]
      rw [eX12_apart_30]
      cases q_in c (qSN N RM) with
      | false => rw [if_pos qb_f, eX12_apart_33, if_neg (by decide)]
      | true => rw [if_neg (show ¬ qb true = 0 by decide), if_pos rfl]
  rw [bX12_apart, eX12_apart_0, fX12_isKind, hq]
  simp only [Option.bind_some, Option.toList_some, Option.toList_none, List.nil_append, List.cons_append, q_ck_tt, Bool.and_true, Bool.true_and, if_true, if_false, reduceCtorEq]
  rw [eX12_apart_4, qb_t, if_neg h10, eX12_apart_7]
  by_cases g : b = -1
  · rw [if_pos g, h20, decide_eq_true g, Bool.true_or, Bool.true_and]
  · rw [if_neg g, eX12_apart_12, fX12_isSingle h, decide_eq_false g, Bool.false_or]
    simp only [Option.bind_some, Option.toList_some, Option.toList_none, List.nil_append, List.cons_append, q_ck_tt, Bool.and_true, Bool.true_and, if_true, if_false, reduceCtorEq]
    rw [eX12_apart_17]
    cases q_in b (qSN N RM) with
    | false => rw [if_pos qb_f, eX12_apart_33, Bool.false_and, if_neg (by decide)]
    | true => rw [if_neg (show ¬ qb true = 0 by decide), h20, Bool.true_and]
theorem o_apart (h : q_Core I D N cl RM rc) (hl : q_Lb I N RM rc) (a b c : Int32) : q_Lab mX11_apart mX12_apart [.int a, .int b, .int c] I J (3, 17, rb, tx, L) N RM rc := by
  have h10 : ¬ ((1 : Int32) = 0) := by decide
  cases hq : q_in a 3 with
  | false =>
    refine q_Lab_no (r := -2) hl ?_ ?_
    · rw [bX11_apart, eX11_apart_0, fX11_isKind, hq]
      simp only [Option.bind_some, Option.toList_some, Option.toList_none, List.nil_append, List.cons_append, q_ck_tt, Bool.and_true, Bool.true_and, if_true, if_false, reduceCtorEq]
      rw [eX11_apart_4, if_pos qb_f, eX11_apart_23]
    · rw [bX12_apart, eX12_apart_0, fX12_isKind, hq]
      simp only [Option.bind_some, Option.toList_some, Option.toList_none, List.nil_append, List.cons_append, q_ck_tt, Bool.and_true, Bool.true_and, if_true, if_false, reduceCtorEq]
      rw [eX12_apart_4, if_pos qb_f, eX12_apart_33]
  | true =>
    obtain ⟨k, hk, rfl, -⟩ := q_in_of hq
    have cK : mX11_apart [.ref 1, .int (nI k), .int b, .int c] (qm I J (3, 17, rb, tx, L)) = kX11_apart 12 [some (.ref 1), some (.int (nI k)), some (.int b), some (.int c)] [.int (qb (decide (b = -1) || q_in b (qSN N RM)))] (qm I J (3, 17, rb, tx, L)) := by
      rw [bX11_apart, eX11_apart_0, fX11_isKind, hq]
      simp only [Option.bind_some, Option.toList_some, Option.toList_none, List.nil_append, List.cons_append, q_ck_tt, Bool.and_true, Bool.true_and, if_true, if_false, reduceCtorEq]
      rw [eX11_apart_4, qb_t, if_neg h10, eX11_apart_7, fX11_isSingleOrNone h]
      simp only [Option.bind_some, Option.toList_some, Option.toList_none, List.nil_append, List.cons_append, q_ck_tt, Bool.and_true, Bool.true_and, if_true, if_false, reduceCtorEq]
    cases hb : (decide (b = -1) || q_in b (qSN N RM)) with
    | false =>
      refine q_Lab_no (r := -2) hl ?_ ?_
      · rw [cK, hb, eX11_apart_12, if_pos qb_f, eX11_apart_23]
      · rw [q_ra h hq, hb, Bool.false_and, if_neg (by decide)]
    | true =>
      cases hc : (decide (c = -1) || q_in c (qSN N RM)) with
      | false =>
        refine q_Lab_no (r := -2) hl ?_ ?_
        · rw [cK, hb, eX11_apart_12, qb_t, if_neg h10, eX11_apart_15, fX11_isSingleOrNone h, hc]
          simp only [Option.bind_some, Option.toList_some, Option.toList_none, List.nil_append, List.cons_append, q_ck_tt, Bool.and_true, Bool.true_and, if_true, if_false, reduceCtorEq]
          rw [eX11_apart_20, if_pos qb_f, eX11_apart_23]
        · rw [q_ra h hq, hb, hc, Bool.true_and, if_neg (by decide)]
      | true =>
        obtain ⟨i, hi, ei⟩ := q_sn_of h hb
        obtain ⟨j, hj, ej⟩ := q_sn_of h hc
        obtain ⟨sz, K, hz, k0, k1, k2, ks, K2, l0, c2, lb, ap, fr⟩ := q_tabs (J := J) (rb := rb) (tx := tx) (L := L) h hl hk
        have hp := fX6_parts (J := J) (e := (3, 17, rb, tx, L)) k2 k1 hk hi hj
        have ha := ap i j hi hj
        rw [← ei, ← ej] at hp ha
        refine ⟨qb (qAp K N RM rc sz k i j), K, K2, ?_, ?_, ks, lb, fr⟩
        · rw [cK, hb, eX11_apart_12, qb_t, if_neg h10, eX11_apart_15, fX11_isSingleOrNone h, hc]
          simp only [Option.bind_some, Option.toList_some, Option.toList_none, List.nil_append, List.cons_append, q_ck_tt, Bool.and_true, Bool.true_and, if_true, if_false, reduceCtorEq]
          rw [eX11_apart_20, qb_t, if_neg h10, eX11_apart_26, k0]
          simp only [Option.bind_some, Option.toList_some, Option.toList_none, List.nil_append, List.cons_append, q_ck_tt, Bool.and_true, Bool.true_and, if_true, if_false, reduceCtorEq]
          rw [eX11_apart_30, hp]
          simp only [Option.bind_some, Option.toList_some, Option.toList_none, List.nil_append, List.cons_append, q_ck_tt, Bool.and_true, Bool.true_and, if_true, if_false, reduceCtorEq]
          rw [eX11_apart_40]
          cases qAp K N RM rc sz k i j with
          | false => rw [if_pos qb_f, eX11_apart_47, eX11_apart_48]; rfl
          | true => rw [if_neg (show ¬ qb true = 0 by decide), eX11_apart_43, eX11_apart_48]; rfl
        · rw [q_ra k2 hq, hb, hc, Bool.true_and, if_pos rfl, eX12_apart_36, l0]
          simp only [Option.bind_some, Option.toList_some, Option.toList_none, List.nil_append, List.cons_append, q_ck_tt, Bool.and_true, Bool.true_and, if_true, if_false, reduceCtorEq]
          rw [eX12_apart_41, ha]
          simp only [Option.bind_some, Option.toList_some, Option.toList_none, List.nil_append, List.cons_append, q_ck_tt, Bool.and_true, Bool.true_and, if_true, if_false, reduceCtorEq]
          rw [eX12_apart_47, fX12_truth]
          simp only [Option.bind_some, Option.toList_some, Option.toList_none, List.nil_append, List.cons_append, q_ck_tt, Bool.and_true, Bool.true_and, if_true, if_false, reduceCtorEq]
          rw [eX12_apart_50]
/-! told -/
theorem fX6_countFromNone (h : q_Core I D N cl RM rc) (ht : q_Tb I N RM rc sz) (hk : k < 3) : mX6_countFromNone [.ref 52, .ref 3, .int (nI k)] (qm I J e) = some (some (.int (nI (fb_ct (fun s => qAp I N RM rc sz k (s + 1) 0) (qSN N RM)))), qm I J e) := by
  have h60 := qSN_60 h
  have hst : ∀ s, s < qSN N RM → (fun s (y : Nat) => kX6_countFromNone 11 [some (.ref 52), some (.ref 3), some (.int (nI k)), some (.int (nI y)), some (.int (nI (qSN N RM))), some (.int (nI s))] [] (qm I J e)) s (fb_ct (fun s => qAp I N RM rc sz k (s + 1) 0) s) = (fun s (y : Nat) => kX6_countFromNone 11 [some (.ref 52), some (.ref 3), some (.int (nI k)), some (.int (nI y)), some (.int (nI (qSN N RM))), some (.int (nI s))] [] (qm I J e)) (s + 1) (fb_ct (fun s => qAp I N RM rc sz k (s + 1) 0) (s + 1)) := by
    intro s hs
    show kX6_countFromNone 11 _ _ _ = kX6_countFromNone 11 _ _ _
    have hp := fX6_parts (J := J) (e := e) h ht hk (show s + 1 ≤ qSN N RM by omega) (show 0 ≤ qSN N RM by omega)
    rw [nI_pred, show nI 0 - 1 = -1 from rfl] at hp
    rw [fb_ct_succ, eX6_countFromNone_11, if_pos (nI_lt hs (by omega)), eX6_countFromNone_18, hp]
    simp only [Option.bind_some, Option.toList_some, Option.toList_none, List.nil_append, List.cons_append, q_ck_tt, Bool.and_true, Bool.true_and, if_true, if_false, reduceCtorEq]
    rw [eX6_countFromNone_27]
    cases qAp I N RM rc sz k (s + 1) 0 with
    | false => rw [if_pos qb_f, eX6_countFromNone_33, nI_1]; rfl
    | true => rw [if_neg (show ¬ qb true = 0 by decide), eX6_countFromNone_30, eX6_countFromNone_33, nI_1, nI_1]; rfl
  have hf := q_for (fun s (y : Nat) => kX6_countFromNone 11 [some (.ref 52), some (.ref 3), some (.int (nI k)), some (.int (nI y)), some (.int (nI (qSN N RM))), some (.int (nI s))] [] (qm I J e)) (qSN N RM) (fun s => fb_ct (fun s => qAp I N RM rc sz k (s + 1) 0) s) hst
  rw [bX6_countFromNone, eX6_countFromNone_0, fX0_singleCount h]
  simp only [Option.bind_some, Option.toList_some, Option.toList_none, List.nil_append, List.cons_append, q_ck_tt, Bool.and_true, Bool.true_and, if_true, if_false, reduceCtorEq]
  rw [eX6_countFromNone_6]
  refine Eq.trans hf ?_
  show kX6_countFromNone 11 _ _ _ = _
  rw [eX6_countFromNone_11, if_neg (nI_nlt (Nat.le_refl _) (by omega)), eX6_countFromNone_39]
def qAa (I : Nat → Nat → Int32) (N RM : Nat) (rc : Nat → Nat) (sz k s : Nat) : Bool := !qAny (qSN N RM + 1) (fun j => !decide (j = s + 1) && !qAp I N RM rc sz k (s + 1) j)
theorem fX6_partsFromAll (h : q_Core I D N cl RM rc) (ht : q_Tb I N RM rc sz) (hk : k < 3) {s : Nat} (hs : s < qSN N RM) : mX6_partsFromAll [.ref 52, .ref 3, .int (nI k), .int (nI s), .int (nI (qSN N RM))] (qm I J e) = some (some (.int (qb (qAa I N RM rc sz k s))), qm I J e) := by
  have h60 := qSN_60 h
  rw [bX6_partsFromAll, eX6_partsFromAll_0]
  refine q_all_lp (Fk := fun j => kX6_partsFromAll 3 [some (.ref 52), some (.ref 3), some (.int (nI k)), some (.int (nI s)), some (.int (nI (qSN N RM))), some (.int (nI j - 1))] [] (qm I J e)) (fun j hj => ?_) ?_
  · show kX6_partsFromAll 3 _ _ _ = if _ then _ else kX6_partsFromAll 3 _ _ _
    have hlt : nI j - 1 < nI (qSN N RM) := by
      cases j with
      | zero => exact q_m1_lt (a := qSN N RM) (by omega)
      | succ s => rw [nI_pred]; exact nI_lt (by omega) (by omega)
    have hp := fX6_parts (J := J) (e := e) h ht hk (show s + 1 ≤ qSN N RM by omega) (show j ≤ qSN N RM by omega)
    rw [nI_pred] at hp
    have hinc : nI j - 1 + 1 = nI (j + 1) - 1 := by rw [Int32.sub_add_cancel, nI_pred]
    rw [eX6_partsFromAll_3, if_pos hlt, eX6_partsFromAll_10]
    by_cases c : j = s + 1
    · rw [if_pos (by rw [c, nI_pred]), eX6_partsFromAll_30, hinc, decide_eq_true c, Bool.not_true, Bool.false_and, if_neg (by decide)]
    · have hne : ¬ nI j - 1 = nI s := fun g => c (nI_inj (by omega) (by omega) (by
        have := congrArg (fun x => x + 1) g
        simp only [Int32.sub_add_cancel, nI_1] at this
        exact this))
      rw [if_neg hne, eX6_partsFromAll_16, hp, decide_eq_false c, Bool.not_false, Bool.true_and]
      simp only [Option.bind_some, Option.toList_some, Option.toList_none, List.nil_append, List.cons_append, q_ck_tt, Bool.and_true, Bool.true_and, if_true, if_false, reduceCtorEq]
      rw [eX6_partsFromAll_25]
      cases qAp I N RM rc sz k (s + 1) j with
      | false => rw [if_pos qb_f, eX6_partsFromAll_28, if_pos (show (!false) = true from rfl)]
      | true => rw [if_neg (show ¬ qb true = 0 by decide), eX6_partsFromAll_30, hinc, if_neg (by decide)]
  · show kX6_partsFromAll 3 _ _ _ = _
    rw [nI_pred, eX6_partsFromAll_3, if_neg (nI_nlt (Nat.le_refl _) (by omega)), eX6_partsFromAll_36]
theorem fX6_countFromAll (h : q_Core I D N cl RM rc) (ht : q_Tb I N RM rc sz) (hk : k < 3) : mX6_countFromAll [.ref 52, .ref 3, .int (nI k)] (qm I J e) = some (some (.int (nI (fb_ct (qAa I N RM rc sz k) (qSN N RM)))), qm I J e) := by
  have h60 := qSN_60 h
  have hst : ∀ s, s < qSN N RM → (fun s (y : Nat) => kX6_countFromAll 11 [some (.ref 52), some (.ref 3), some (.int (nI k)), some (.int (nI y)), some (.int (nI (qSN N RM))), some (.int (nI s))] [] (qm I J e)) s (fb_ct (qAa I N RM rc sz k) s) = (fun s (y : Nat) => kX6_countFromAll 11 [some (.ref 52), some (.ref 3), some (.int (nI k)), some (.int (nI y)), some (.int (nI (qSN N RM))), some (.int (nI s))] [] (qm I J e)) (s + 1) (fb_ct (qAa I N RM rc sz k) (s + 1)) := by
    intro s hs
    show kX6_countFromAll 11 _ _ _ = kX6_countFromAll 11 _ _ _
    rw [fb_ct_succ, eX6_countFromAll_11, if_pos (nI_lt hs (by omega)), eX6_countFromAll_18, fX6_partsFromAll h ht hk hs]
    simp only [Option.bind_some, Option.toList_some, Option.toList_none, List.nil_append, List.cons_append, q_ck_tt, Bool.and_true, Bool.true_and, if_true, if_false, reduceCtorEq]
    rw [eX6_countFromAll_28]
    cases qAa I N RM rc sz k s with
    | false => rw [if_pos qb_f, eX6_countFromAll_34, nI_1]; rfl
    | true => rw [if_neg (show ¬ qb true = 0 by decide), eX6_countFromAll_31, eX6_countFromAll_34, nI_1, nI_1]; rfl
  have hf := q_for (fun s (y : Nat) => kX6_countFromAll 11 [some (.ref 52), some (.ref 3), some (.int (nI k)), some (.int (nI y)), some (.int (nI (qSN N RM))), some (.int (nI s))] [] (qm I J e)) (qSN N RM) (fun s => fb_ct (qAa I N RM rc sz k) s) hst
  rw [bX6_countFromAll, eX6_countFromAll_0, fX0_singleCount h]
  simp only [Option.bind_some, Option.toList_some, Option.toList_none, List.nil_append, List.cons_append, q_ck_tt, Bool.and_true, Bool.true_and, if_true, if_false, reduceCtorEq]
  rw [eX6_countFromAll_6]
  refine Eq.trans hf ?_
  show kX6_countFromAll 11 _ _ _ = _
  rw [eX6_countFromAll_11, if_neg (nI_nlt (Nat.le_refl _) (by omega)), eX6_countFromAll_40]
theorem q_td_ref {K : Nat → Nat → Int32} (h : q_Core I D N cl RM rc) (w0 : Int32) (b : Bool) (ap : ∀ i j, i ≤ qSN N RM → j ≤ qSN N RM → mX12_areApart [.ref 64, .int (nI i - 1), .int (nI j - 1)] (qm I J e) = some (some (.int (qb (qAp K N RM rc sz k i j))), qm I J e)) : kX12_told 23 [some (.ref 64), some (.int w0), some (.int (qb b)), none, none, none, none] [] (qm I J e) = some (some (.int (nI (fb_ct (if b then qAa K N RM rc sz k else fun s => qAp K N RM rc sz k (s + 1) 0) (qSN N RM)))), qm I J e) := by
  have h60 := qSN_60 h
  have hst : ∀ s, s < qSN N RM → (fun s (y : Nat) => kX12_told 28 [some (.ref 64), none, some (.int (qb b)), some (.int (nI y)), some (.int (nI s)), none, none] [] (qm I J e)) s (fb_ct (if b then qAa K N RM rc sz k else fun s => qAp K N RM rc sz k (s + 1) 0) s) = (fun s (y : Nat) => kX12_told 28 [some (.ref 64), none, some (.int (qb b)), some (.int (nI y)), some (.int (nI s)), none, none] [] (qm I J e)) (s + 1) (fb_ct (if b then qAa K N RM rc sz k else fun s => qAp K N RM rc sz k (s + 1) 0) (s + 1)) := by
    intro s hs
    show kX12_told 28 _ _ _ = kX12_told 28 _ _ _
    have a0 := ap (s + 1) 0 (by omega) (by omega)
    rw [nI_pred, show nI 0 - 1 = -1 from rfl] at a0
    rw [fb_ct_succ]
    generalize fb_ct (if b then qAa K N RM rc sz k else fun s => qAp K N RM rc sz k (s + 1) 0) s = y
    have hend : ∀ v : Bool, kX12_told 99 [some (.ref 64), none, some (.int (qb b)), some (.int (nI y)), some (.int (nI s)), some (.int (qb v)), none] [] (qm I J e) = kX12_told 28 [some (.ref 64), none, some (.int (qb b)), some (.int (nI (y + if v = true then 1 else 0))), some (.int (nI (s + 1))), none, none] [] (qm I J e) := by
      intro v
      rw [eX12_told_99, fX12_truth]
      simp only [Option.bind_some, Option.toList_some, Option.toList_none, List.nil_append, List.cons_append, q_ck_tt, Bool.and_true, Bool.true_and, if_true, if_false, reduceCtorEq]
      rw [eX12_told_105, nI_1]
      cases v with
      | false => rw [show qb false = nI 0 from rfl, nI_add]; rfl
      | true => rw [show qb true = nI 1 from rfl, nI_add]; rfl
    rw [eX12_told_28, fX12_singleMany h]
    simp only [Option.bind_some, Option.toList_some, Option.toList_none, List.nil_append, List.cons_append, q_ck_tt, Bool.and_true, Bool.true_and, if_true, if_false, reduceCtorEq]
    rw [eX12_told_34, if_pos (nI_lt hs (by omega)), eX12_told_37, a0]
    simp only [Option.bind_some, Option.toList_some, Option.toList_none, List.nil_append, List.cons_append, q_ck_tt, Bool.and_true, Bool.true_and, if_true, if_false, reduceCtorEq]
    rw [eX12_told_44]
    cases b with
    | false =>
      rw [if_neg Bool.false_ne_true, eX12_told_49, fX12_singleMany h]
      simp only [Option.bind_some, Option.toList_some, Option.toList_none, List.nil_append, List.cons_append, q_ck_tt, Bool.and_true, Bool.true_and, if_true, if_false, reduceCtorEq]
      rw [eX12_told_55, if_pos (show (0 : Int32) < nI (qSN N RM) from nI_lt (a := 0) (by omega) (by omega)), eX12_told_58, if_neg (show ¬ qb false = 1 by decide)]
      exact hend _
    | true =>
      rw [if_pos rfl]
      have hin : ∀ t, t < qSN N RM → (fun t (z : Bool) => kX12_told 49 [some (.ref 64), none, some (.int (qb true)), some (.int (nI y)), some (.int (nI s)), some (.int (qb z)), some (.int (nI t))] [] (qm I J e)) t (qAp K N RM rc sz k (s + 1) 0 && !qAny t (fun t => !decide (t = s) && !qAp K N RM rc sz k (s + 1) (t + 1))) = (fun t (z : Bool) => kX12_told 49 [some (.ref 64), none, some (.int (qb true)), some (.int (nI y)), some (.int (nI s)), some (.int (qb z)), some (.int (nI t))] [] (qm I J e)) (t + 1) (qAp K N RM rc sz k (s + 1) 0 && !qAny (t + 1) (fun t => !decide (t = s) && !qAp K N RM rc sz k (s + 1) (t + 1))) := by
        intro t ht
        show kX12_told 49 _ _ _ = kX12_told 49 [some (.ref 64), none, some (.int (qb true)), some (.int (nI y)), some (.int (nI s)), some (.int (qb (qAp K N RM rc sz k (s + 1) 0 && !(qAny t (fun t => !decide (t = s) && !qAp K N RM rc sz k (s + 1) (t + 1)) || (!decide (t = s) && !qAp K N RM rc sz k (s + 1) (t + 1)))))), some (.int (nI (t + 1)))] [] (qm I J e)
        have a1 := ap (s + 1) (t + 1) (by omega) (by omega)
        rw [nI_pred, nI_pred] at a1
        have hz : (qAp K N RM rc sz k (s + 1) 0 && !(qAny t (fun t => !decide (t = s) && !qAp K N RM rc sz k (s + 1) (t + 1)) || (!decide (t = s) && !qAp K N RM rc sz k (s + 1) (t + 1)))) = ((qAp K N RM rc sz k (s + 1) 0 && !qAny t (fun t => !decide (t = s) && !qAp K N RM rc sz k (s + 1) (t + 1))) && (decide (t = s) || qAp K N RM rc sz k (s + 1) (t + 1))) := by
          cases qAp K N RM rc sz k (s + 1) 0 <;> cases qAny t (fun t => !decide (t = s) && !qAp K N RM rc sz k (s + 1) (t + 1)) <;> cases decide (t = s) <;> cases qAp K N RM rc sz k (s + 1) (t + 1) <;> rfl
        rw [hz]
        generalize (qAp K N RM rc sz k (s + 1) 0 && !qAny t (fun t => !decide (t = s) && !qAp K N RM rc sz k (s + 1) (t + 1))) = z
        rw [eX12_told_49, fX12_singleMany h]
        simp only [Option.bind_some, Option.toList_some, Option.toList_none, List.nil_append, List.cons_append, q_ck_tt, Bool.and_true, Bool.true_and, if_true, if_false, reduceCtorEq]
        rw [eX12_told_55, if_pos (nI_lt ht (by omega)), eX12_told_58, if_pos (show qb true = 1 from rfl), eX12_told_63]
        cases z with
        | false => rw [if_pos qb_f, eX12_told_90, eX12_told_91, nI_1, Bool.false_and]; rfl
        | true =>
          rw [if_neg (show ¬ qb true = 0 by decide), eX12_told_68, Bool.true_and]
          by_cases c : t = s
          · rw [if_pos (by rw [c]), eX12_told_86, eX12_told_91, nI_1, decide_eq_true c, Bool.true_or]; rfl
          · rw [if_neg (fun g => c (nI_inj (by omega) (by omega) g)), eX12_told_75, a1, decide_eq_false c, Bool.false_or]
            simp only [Option.bind_some, Option.toList_some, Option.toList_none, List.nil_append, List.cons_append, q_ck_tt, Bool.and_true, Bool.true_and, if_true, if_false, reduceCtorEq]
            rw [eX12_told_83]
            cases qAp K N RM rc sz k (s + 1) (t + 1) with
            | false => rw [if_pos qb_f, eX12_told_90, eX12_told_91, nI_1]; rfl
            | true => rw [if_neg (show ¬ qb true = 0 by decide), eX12_told_86, eX12_told_91, nI_1]; rfl
      have hf := q_for (fun t (z : Bool) => kX12_told 49 [some (.ref 64), none, some (.int (qb true)), some (.int (nI y)), some (.int (nI s)), some (.int (qb z)), some (.int (nI t))] [] (qm I J e)) (qSN N RM) (fun t => qAp K N RM rc sz k (s + 1) 0 && !qAny t (fun t => !decide (t = s) && !qAp K N RM rc sz k (s + 1) (t + 1))) hin
      rw [show qAny 0 (fun t => !decide (t = s) && !qAp K N RM rc sz k (s + 1) (t + 1)) = false from rfl, Bool.not_false, Bool.and_true] at hf
      have hall : (qAp K N RM rc sz k (s + 1) 0 && !qAny (qSN N RM) (fun t => !decide (t = s) && !qAp K N RM rc sz k (s + 1) (t + 1))) = qAa K N RM rc sz k s := by
        unfold qAa
        rw [← Bool.not_not (qAp K N RM rc sz k (s + 1) 0), ← Bool.not_or]
        congr 1
        cases hc : qAny (qSN N RM + 1) (fun j => !decide (j = s + 1) && !qAp K N RM rc sz k (s + 1) j) with
        | true =>
          obtain ⟨j, hj, h1⟩ := qAny_iff.mp hc
          cases j with
          | zero =>
            rw [Bool.and_eq_true] at h1
            rw [h1.2, Bool.true_or]
          | succ t =>
            have : qAny (qSN N RM) (fun t => !decide (t = s) && !qAp K N RM rc sz k (s + 1) (t + 1)) = true := qAny_iff.mpr ⟨t, by omega, by
              rw [← h1]
              by_cases c : t = s
              · rw [decide_eq_true c, decide_eq_true (by omega)]
              · rw [decide_eq_false c, decide_eq_false (by omega)]⟩
            rw [this, Bool.or_true]
        | false =>
          cases hd : ((!qAp K N RM rc sz k (s + 1) 0) || qAny (qSN N RM) (fun t => !decide (t = s) && !qAp K N RM rc sz k (s + 1) (t + 1))) with
          | false => rfl
          | true =>
            have : qAny (qSN N RM + 1) (fun j => !decide (j = s + 1) && !qAp K N RM rc sz k (s + 1) j) = true := by
              rw [Bool.or_eq_true] at hd
              rcases hd with h1 | h1
              · exact qAny_iff.mpr ⟨0, by omega, by rw [h1, decide_eq_false (by omega)]; rfl⟩
              · obtain ⟨t, ht, h2⟩ := qAny_iff.mp h1
                refine qAny_iff.mpr ⟨t + 1, by omega, ?_⟩
                rw [← h2]
                by_cases c : t = s
                · rw [decide_eq_true c, decide_eq_true (by omega)]
                · rw [decide_eq_false c, decide_eq_false (by omega)]
            rw [hc] at this
            cases this
      refine Eq.trans hf ?_
      show kX12_told 49 _ _ _ = _
      rw [hall, eX12_told_49, fX12_singleMany h]
      simp only [Option.bind_some, Option.toList_some, Option.toList_none, List.nil_append, List.cons_append, q_ck_tt, Bool.and_true, Bool.true_and, if_true, if_false, reduceCtorEq]
      rw [eX12_told_55, if_neg (nI_nlt (Nat.le_refl _) (by omega))]
      exact hend _
  have hf := q_for (fun s (y : Nat) => kX12_told 28 [some (.ref 64), none, some (.int (qb b)), some (.int (nI y)), some (.int (nI s)), none, none] [] (qm I J e)) (qSN N RM) (fun s => fb_ct (if b then qAa K N RM rc sz k else fun s => qAp K N RM rc sz k (s + 1) 0) s) hst
  rw [eX12_told_23]
  refine Eq.trans hf ?_
  show kX12_told 28 _ _ _ = _
  rw [eX12_told_28, fX12_singleMany h]
  simp only [Option.bind_some, Option.toList_some, Option.toList_none, List.nil_append, List.cons_append, q_ck_tt, Bool.and_true, Bool.true_and, if_true, if_false, reduceCtorEq]
  rw [eX12_told_34, if_neg (nI_nlt (Nat.le_refl _) (by omega)), eX12_told_113]
theorem o_told (h : q_Core I D N cl RM rc) (hl : q_Lb I N RM rc) (a c : Int32) : q_Lab mX11_told mX12_told [.int a, .int c] I J (3, 17, rb, tx, L) N RM rc := by
  have h10 : ¬ ((1 : Int32) = 0) := by decide
  cases hq : q_in a 3 with
  | false =>
    refine q_Lab_no (r := -1) hl ?_ ?_
    · rw [bX11_told, eX11_told_0, fX11_isKind, hq]
      simp only [Option.bind_some, Option.toList_some, Option.toList_none, List.nil_append, List.cons_append, q_ck_tt, Bool.and_true, Bool.true_and, if_true, if_false, reduceCtorEq]
      rw [eX11_told_4, if_pos qb_f, eX11_told_14]
    · rw [bX12_told, eX12_told_0, fX12_isKind, hq]
      simp only [Option.bind_some, Option.toList_some, Option.toList_none, List.nil_append, List.cons_append, q_ck_tt, Bool.and_true, Bool.true_and, if_true, if_false, reduceCtorEq]
      rw [eX12_told_4, if_pos qb_f, eX12_told_16]
  | true =>
    obtain ⟨k, hk, rfl, -⟩ := q_in_of hq
    cases hc : q_in c 2 with
    | false =>
      refine q_Lab_no (r := -1) hl ?_ ?_
      · rw [bX11_told, eX11_told_0, fX11_isKind, hq]
        simp only [Option.bind_some, Option.toList_some, Option.toList_none, List.nil_append, List.cons_append, q_ck_tt, Bool.and_true, Bool.true_and, if_true, if_false, reduceCtorEq]
        rw [eX11_told_4, qb_t, if_neg h10, eX11_told_7, fX11_isBit, hc]
        simp only [Option.bind_some, Option.toList_some, Option.toList_none, List.nil_append, List.cons_append, q_ck_tt, Bool.and_true, Bool.true_and, if_true, if_false, reduceCtorEq]
        rw [eX11_told_11, if_pos qb_f, eX11_told_14]
      · rw [bX12_told, eX12_told_0, fX12_isKind, hq]
        simp only [Option.bind_some, Option.toList_some, Option.toList_none, List.nil_append, List.cons_append, q_ck_tt, Bool.and_true, Bool.true_and, if_true, if_false, reduceCtorEq]
        rw [eX12_told_4, qb_t, if_neg h10, eX12_told_7, fX12_isBit, hc]
        simp only [Option.bind_some, Option.toList_some, Option.toList_none, List.nil_append, List.cons_append, q_ck_tt, Bool.and_true, Bool.true_and, if_true, if_false, reduceCtorEq]
        rw [eX12_told_13, if_pos qb_f, eX12_told_16]
    | true =>
      have hbit : ∃ b : Bool, c = qb b := by
        obtain ⟨j, hj, rfl, -⟩ := q_in_of hc
        have : j = 0 ∨ j = 1 := by omega
        rcases this with rfl | rfl
        · exact ⟨false, rfl⟩
        · exact ⟨true, rfl⟩
      obtain ⟨b, rfl⟩ := hbit
      obtain ⟨sz, K, hz, k0, k1, k2, ks, K2, l0, c2, lb, ap, fr⟩ := q_tabs (J := J) (rb := rb) (tx := tx) (L := L) h hl hk
      refine ⟨nI (fb_ct (if b then qAa K N RM rc sz k else fun s => qAp K N RM rc sz k (s + 1) 0) (qSN N RM)), K, K2, ?_, ?_, ks, lb, fr⟩
      · rw [bX11_told, eX11_told_0, fX11_isKind, hq]
        simp only [Option.bind_some, Option.toList_some, Option.toList_none, List.nil_append, List.cons_append, q_ck_tt, Bool.and_true, Bool.true_and, if_true, if_false, reduceCtorEq]
        rw [eX11_told_4, qb_t, if_neg h10, eX11_told_7, fX11_isBit, hc]
        simp only [Option.bind_some, Option.toList_some, Option.toList_none, List.nil_append, List.cons_append, q_ck_tt, Bool.and_true, Bool.true_and, if_true, if_false, reduceCtorEq]
        rw [eX11_told_11, qb_t, if_neg h10, eX11_told_16]
        cases b with
        | false =>
          rw [if_pos qb_f, eX11_told_20, k0]
          simp only [Option.bind_some, Option.toList_some, Option.toList_none, List.nil_append, List.cons_append, q_ck_tt, Bool.and_true, Bool.true_and, if_true, if_false, reduceCtorEq]
          rw [eX11_told_24, fX6_countFromNone k2 k1 hk]
          simp only [Option.bind_some, Option.toList_some, Option.toList_none, List.nil_append, List.cons_append, q_ck_tt, Bool.and_true, Bool.true_and, if_true, if_false, reduceCtorEq]
          rw [eX11_told_32, eX11_told_47v1] <;> try rfl
        | true =>
          rw [if_neg (show ¬ qb true = 0 by decide), eX11_told_35, k0]
          simp only [Option.bind_some, Option.toList_some, Option.toList_none, List.nil_append, List.cons_append, q_ck_tt, Bool.and_true, Bool.true_and, if_true, if_false, reduceCtorEq]
          rw [eX11_told_39, fX6_countFromAll k2 k1 hk]
          simp only [Option.bind_some, Option.toList_some, Option.toList_none, List.nil_append, List.cons_append, q_ck_tt, Bool.and_true, Bool.true_and, if_true, if_false, reduceCtorEq]
          rw [eX11_told_47] <;> try rfl
      · rw [bX12_told, eX12_told_0, fX12_isKind, hq]
        simp only [Option.bind_some, Option.toList_some, Option.toList_none, List.nil_append, List.cons_append, q_ck_tt, Bool.and_true, Bool.true_and, if_true, if_false, reduceCtorEq]
        rw [eX12_told_4, qb_t, if_neg h10, eX12_told_7, fX12_isBit, hc]
        simp only [Option.bind_some, Option.toList_some, Option.toList_none, List.nil_append, List.cons_append, q_ck_tt, Bool.and_true, Bool.true_and, if_true, if_false, reduceCtorEq]
        rw [eX12_told_13, qb_t, if_neg h10, eX12_told_18, l0]
        simp only [Option.bind_some, Option.toList_some, Option.toList_none, List.nil_append, List.cons_append, q_ck_tt, Bool.and_true, Bool.true_and, if_true, if_false, reduceCtorEq]
        rw [q_td_ref c2 _ b ap]
end AP
