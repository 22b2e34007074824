/-! ===== which fault it was: what fits ===== -/
def qnK (I : Nat → Nat → Int32) (j : Nat) : Nat := (I 57 j).toNatClampNeg
def qnS (I : Nat → Nat → Int32) (j : Nat) : Nat := (I 58 j).toNatClampNeg
def qnR (I : Nat → Nat → Int32) (j : Nat) : Nat := (I 107 j).toNatClampNeg
def qnB (I : Nat → Nat → Int32) (j : Nat) : Bool := decide (I 110 j = 1)
/-- a note counts; a case is as it says -/
def qCn (I : Nat → Nat → Int32) (t : Int32) (j : Nat) : Bool := !decide (t < I 108 j) && (decide (I 109 j < 0) || decide (t < I 109 j))
def qMt (I : Nat → Nat → Int32) (N RM : Nat) (rc : Nat → Nat) (sz j i : Nat) : Bool := bt (qAi I N RM rc sz (qnK I j) i (rc (qnR I j))) (qnS I j) == qnB I j
def qFit (I : Nat → Nat → Int32) (N RM : Nat) (rc : Nat → Nat) (sz c : Nat) (t : Int32) (i : Nat) : Bool := !qAny c (fun j => qCn I t j && !qMt I N RM rc sz j i)
/-- a word of cases -/
def q_Xf (X n : Nat) (p : Nat → Bool) : Prop := X < 2 ^ 62 ∧ ∀ i, X.testBit i = (decide (i < n) && p i)
section FT
variable {I : Nat → Nat → Int32} {J : Nat → Nat → Int64} {e : QP} {rb tx L : Nat} {D N : Nat} {cl : Nat → Nat} {RM : Nat} {rc : Nat → Nat} {sz : Nat} {k c : Nat}
/-- notes, with how many -/
def q_Nc (I : Nat → Nat → Int32) (N RM : Nat) (rc : Nat → Nat) (c : Nat) : Prop := c ≤ 30 ∧ I 56 6 = nI c ∧ I 64 79 = nI c ∧ ∀ j, j < c → qnK I j < 3 ∧ qnS I j < qSt (qnK I j) N ∧ I 57 j = nI (qnK I j) ∧ I 105 j = nI (qnK I j) ∧ I 58 j = nI (qnS I j) ∧ I 106 j = nI (qnS I j) ∧ qnR I j < RM ∧ I 59 j = nI (rc (qnR I j)) ∧ I 107 j = nI (qnR I j) ∧ I 60 j = qb (qnB I j) ∧ I 110 j = qb (qnB I j) ∧ I 61 j = I 108 j ∧ I 62 j = I 109 j ∧ (I 109 j = -1 ∨ ∃ t : Nat, t ≤ 100000 ∧ I 109 j = nI t)
theorem q_Nc_of (h : q_Core I D N cl RM rc) (hn : q_Nt I N RM rc) : ∃ c, q_Nc I N RM rc c := by
  have hN := h.n6
  have h18 := h.br.2.1
  obtain ⟨c, hc, h1, h2, h3⟩ := hn
  refine ⟨c, hc, h1, h2, fun j hj => ?_⟩
  obtain ⟨⟨k, s, hk, hs, a1, a2, a3, a4⟩, ⟨r, hr, b1, b2⟩, ⟨c1, b, c2⟩, d1, d2, d3⟩ := h3 j hj
  have h6 := qSt_6 (k := k) hN
  have eK : qnK I j = k := by unfold qnK; rw [a1, nI_clamp (by omega)]
  have eS : qnS I j = s := by unfold qnS; rw [a3, nI_clamp (by omega)]
  have eR : qnR I j = r := by unfold qnR; rw [b2, nI_clamp (by omega)]
  have eB : qnB I j = b := by unfold qnB; rw [c2]; cases b <;> rfl
  rw [eK, eS, eR, eB]
  exact ⟨hk, hs, a1, a2, a3, a4, hr, b1, b2, by rw [c1, c2], c2, d1, d2, d3⟩
theorem fX7_countsAt (hn : q_Nc I N RM rc c) {j : Nat} (hj : j < c) (t : Int32) : mX7_countsAt [.ref 56, .int (nI j), .int t] (qm I J e) = some (some (.int (qb (qCn I t j))), qm I J e) := by
  obtain ⟨hc, -, -, h3⟩ := hn
  obtain ⟨-, -, -, -, -, -, -, -, -, -, -, e1, e2, e3⟩ := h3 j hj
  rw [bX7_countsAt, eX7_countsAt_0, q_in_nI (show j < 30 by omega) (by omega), nI_clamp (by omega), e1]
  simp only [Option.bind_some, Option.toList_some, Option.toList_none, List.nil_append, List.cons_append, q_ck_tt, Bool.and_true, Bool.true_and, if_true, if_false, reduceCtorEq]
  unfold qCn
  by_cases c1 : t < I 108 j
  · rw [if_pos c1, eX7_countsAt_34, eX7_countsAt_35, decide_eq_true c1]; rfl
  · rw [if_neg c1, eX7_countsAt_10, q_in_nI (show j < 30 by omega) (by omega), nI_clamp (by omega), e2, decide_eq_false c1, Bool.not_false, Bool.true_and]
    simp only [Option.bind_some, Option.toList_some, Option.toList_none, List.nil_append, List.cons_append, q_ck_tt, Bool.and_true, Bool.true_and, if_true, if_false, reduceCtorEq]
    rcases e3 with g | ⟨u, hu, g⟩
    · rw [g, if_pos rfl, eX7_countsAt_30, eX7_countsAt_35, decide_eq_true (show (-1 : Int32) < 0 by decide), Bool.true_or]; rfl
    · rw [g, if_neg (nI_ne1 (by omega)), eX7_countsAt_20, q_in_nI (show j < 30 by omega) (by omega), nI_clamp (show j < 2 ^ 31 by omega), e2, g, decide_eq_false (nI_pos (show u < 2 ^ 31 by omega)), Bool.false_or]
      simp only [Option.bind_some, Option.toList_some, Option.toList_none, List.nil_append, List.cons_append, q_ck_tt, Bool.and_true, Bool.true_and, if_true, if_false, reduceCtorEq]
      by_cases c2 : t < nI u
      · rw [if_pos c2, eX7_countsAt_30, eX7_countsAt_35, decide_eq_true c2]; rfl
      · rw [if_neg c2, eX7_countsAt_34, eX7_countsAt_35, decide_eq_false c2]; rfl
theorem fX12_doesCount (hn : q_Nc I N RM rc c) {j : Nat} (hj : j < c) (t : Int32) : mX12_doesCount [.ref 64, .int (nI j), .int t] (qm I J e) = some (some (.int (qb (qCn I t j))), qm I J e) := by
  obtain ⟨hc, -, -, h3⟩ := hn
  rw [bX12_doesCount, eX12_doesCount_0, q_in_nI (show j < 30 by omega) (by omega), nI_clamp (by omega)]
  simp only [Option.bind_some, Option.toList_some, Option.toList_none, List.nil_append, List.cons_append, q_ck_tt, Bool.and_true, Bool.true_and, if_true, if_false, reduceCtorEq]
  unfold qCn
  by_cases c1 : t < I 108 j
  · rw [if_pos c1, eX12_doesCount_33, eX12_doesCount_34, decide_eq_true c1]; rfl
  · rw [if_neg c1, eX12_doesCount_10, q_in_nI (show j < 30 by omega) (by omega), nI_clamp (by omega), decide_eq_false c1, Bool.not_false, Bool.true_and]
    simp only [Option.bind_some, Option.toList_some, Option.toList_none, List.nil_append, List.cons_append, q_ck_tt, Bool.and_true, Bool.true_and, if_true, if_false, reduceCtorEq]
    by_cases c3 : I 109 j < 0
    · rw [if_pos c3, eX12_doesCount_29, eX12_doesCount_34, decide_eq_true c3, Bool.true_or]; rfl
    · rw [if_neg c3, eX12_doesCount_19, q_in_nI (show j < 30 by omega) (by omega), nI_clamp (show j < 2 ^ 31 by omega), decide_eq_false c3, Bool.false_or]
      simp only [Option.bind_some, Option.toList_some, Option.toList_none, List.nil_append, List.cons_append, q_ck_tt, Bool.and_true, Bool.true_and, if_true, if_false, reduceCtorEq]
      by_cases c2 : t < I 109 j
      · rw [if_pos c2, eX12_doesCount_29, eX12_doesCount_34, decide_eq_true c2]; rfl
      · rw [if_neg c2, eX12_doesCount_33, eX12_doesCount_34, decide_eq_false c2]; rfl
theorem qRq_bit (h : q_Core I D N cl RM rc) (hk : k < 3) {i s r : Nat} (hi : i ≤ qSN N RM) (hs : s < qSt k N) (hr : r < RM) : bt (qRq I N RM rc sz i (qCol N k s)) (rc r) = bt (qAi I N RM rc sz k i (rc r)) s := by
  have h6 := qSt_6 (k := k) h.n6
  have hA := (h.br.2.2.1 r hr).2.2.1
  rw [qRq_w h hk hi hs, b_and, hA, Bool.and_true]
  unfold qAi qAn
  rw [b_qB _ (by omega) (by omega), decide_eq_true hs, Bool.true_and]
theorem q_l1s {k : Nat} (hk : k < 62) : (1 : Int64) <<< ((nI k).toInt64 &&& 63) = lN (2 ^ k) := by
  rw [show (1 : Int64) = lN 1 from rfl, wb_shl 1 (by omega), Nat.one_mul]
theorem q_ltst {X k : Nat} (hX : X < 2 ^ 62) (hk : k < 62) : (lN X >>> ((nI k).toInt64 &&& 63)) &&& 1 = lN (if X.testBit k then 1 else 0) := by
  have hD : (((nI k).toInt64 &&& 63).toBitVec.smod 64).toNat = k := by
    rw [wb_c k (by omega), wb_tb, wb_sm k (by omega), BitVec.toNat_ofNat, Nat.mod_eq_of_lt (by omega)]
  rw [pf_shr hD hX, show (1 : Int64) = lN (2 ^ 1 - 1) from rfl, fb_maskL]
  congr 1
  rw [Nat.testBit_eq_decide_div_mod_eq]
  by_cases g : X / 2 ^ k % 2 = 1
  · rw [decide_eq_true g, if_pos rfl]; exact g
  · rw [decide_eq_false g, if_neg (by decide)]; omega
theorem q_lt0 {X k : Nat} (hX : X < 2 ^ 62) (hk : k < 62) : (lg_cmp ((lN X >>> ((nI k).toInt64 &&& 63)) &&& 1) 0 = 0) ↔ X.testBit k = false := by
  rw [q_lc, q_ltst hX hk]
  cases X.testBit k with
  | false => exact ⟨fun _ => rfl, fun _ => rfl⟩
  | true => exact ⟨fun g => absurd g (by decide), fun g => by cases g⟩
theorem fX7_fittingOne (h : q_Core I D N cl RM rc) (ht : q_Tb I N RM rc sz) (hn : q_Nc I N RM rc c) {j : Nat} (hj : j < c) : ∃ Y, mX7_fittingOne [.ref 56, .ref 3, .ref 52, .int (nI j)] (qm I J e) = some (some (.long (lN Y)), qm I J e) ∧ q_Xf Y (qSN N RM + 1) (qMt I N RM rc sz j) := by
  have hN := h.n6
  have h60 := qSN_60 h
  obtain ⟨hc, -, -, h3⟩ := hn
  obtain ⟨a1, a2, a3, -, a5, -, a7, a8, -, a10, -⟩ := h3 j hj
  obtain ⟨-, r24, -, -⟩ := h.br.2.2.1 _ a7
  obtain ⟨l1, l2⟩ := qCol_lt hN a1 a2
  have hst : ∀ i (Y : Nat), i < qSN N RM + 1 → q_Xf Y i (qMt I N RM rc sz j) → ∃ Y' : Nat, q_Xf Y' (i + 1) (qMt I N RM rc sz j) ∧ (fun i (Y : Nat) => kX7_fittingOne 31 [some (.ref 56), none, some (.ref 52), some (.int (nI j)), some (.long (lN Y)), none, some (.int (nI (qSN N RM))), some (.int (nI (qCol N (qnK I j) (qnS I j)))), some (.int (nI i - 1))] [] (qm I J e)) i Y = (fun i (Y : Nat) => kX7_fittingOne 31 [some (.ref 56), none, some (.ref 52), some (.int (nI j)), some (.long (lN Y)), none, some (.int (nI (qSN N RM))), some (.int (nI (qCol N (qnK I j) (qnS I j)))), some (.int (nI i - 1))] [] (qm I J e)) (i + 1) Y' := by
    intro i Y hi ⟨hY1, hY2⟩
    have hlt : nI i - 1 < nI (qSN N RM) := by
      cases i with
      | zero => exact q_m1_lt (a := qSN N RM) (by omega)
      | succ s => rw [nI_pred]; exact nI_lt (by omega) (by omega)
    have hinc : nI i - 1 + 1 = nI (i + 1) - 1 := by rw [Int32.sub_add_cancel, nI_pred]
    have hgo : kX7_fittingOne 31 [some (.ref 56), none, some (.ref 52), some (.int (nI j)), some (.long (lN Y)), none, some (.int (nI (qSN N RM))), some (.int (nI (qCol N (qnK I j) (qnS I j)))), some (.int (nI i - 1))] [] (qm I J e) = if qMt I N RM rc sz j i then kX7_fittingOne 64 [some (.ref 56), none, some (.ref 52), some (.int (nI j)), some (.long (lN Y)), none, some (.int (nI (qSN N RM))), some (.int (nI (qCol N (qnK I j) (qnS I j)))), some (.int (nI i - 1))] [] (qm I J e) else kX7_fittingOne 75 [some (.ref 56), none, some (.ref 52), some (.int (nI j)), some (.long (lN Y)), none, some (.int (nI (qSN N RM))), some (.int (nI (qCol N (qnK I j) (qnS I j)))), some (.int (nI i - 1))] [] (qm I J e) := by
      rw [eX7_fittingOne_31, if_pos hlt, eX7_fittingOne_38, fX6_readsIn h ht (show i ≤ qSN N RM by omega) l1]
      simp only [Option.bind_some, Option.toList_some, Option.toList_none, List.nil_append, List.cons_append, q_ck_tt, Bool.and_true, Bool.true_and, if_true, if_false, reduceCtorEq]
      rw [eX7_fittingOne_46, q_in_nI (show j < 30 by omega) (by omega), nI_clamp (by omega), a8, a10, b_tst _ (by omega), qRq_bit h a1 (by omega) a2 a7]
      simp only [Option.bind_some, Option.toList_some, Option.toList_none, List.nil_append, List.cons_append, q_ck_tt, Bool.and_true, Bool.true_and, if_true, if_false, reduceCtorEq]
      unfold qMt
      cases bt (qAi I N RM rc sz (qnK I j) i (rc (qnR I j))) (qnS I j) <;> cases qnB I j
      · rw [if_pos rfl, if_pos (by decide)]
      · rw [if_neg (by decide), if_neg (by decide)]
      · rw [if_neg (by decide), if_neg (by decide)]
      · rw [if_pos rfl, if_pos (by decide)]
    cases hm : qMt I N RM rc sz j i with
    | true =>
      refine ⟨Y ||| 2 ^ i, ⟨Nat.or_lt_two_pow hY1 (Nat.pow_lt_pow_right (by omega) (by omega)), fun q => ?_⟩, ?_⟩
      · rw [fb_bit_set, hY2 q]
        by_cases g : q = i
        · rw [g, hm, decide_eq_true rfl, decide_eq_true (show i < i + 1 by omega), Bool.or_true]; rfl
        · rw [decide_eq_false g, Bool.or_false]
          by_cases g2 : q < i
          · rw [decide_eq_true g2, decide_eq_true (by omega)]
          · rw [decide_eq_false g2, decide_eq_false (by omega)]
      · show kX7_fittingOne 31 _ _ _ = kX7_fittingOne 31 _ _ _
        rw [hgo, hm, if_pos rfl, eX7_fittingOne_64, Int32.sub_add_cancel, q_l1s (by omega), fb_orL, eX7_fittingOne_75, hinc]
    | false =>
      refine ⟨Y, ⟨hY1, fun q => ?_⟩, ?_⟩
      · rw [hY2 q]
        by_cases g : q = i
        · rw [g, hm, Bool.and_false, Bool.and_false]
        · by_cases g2 : q < i
          · rw [decide_eq_true g2, decide_eq_true (by omega)]
          · rw [decide_eq_false g2, decide_eq_false (by omega)]
      · show kX7_fittingOne 31 _ _ _ = kX7_fittingOne 31 _ _ _
        rw [hgo, hm, if_neg (by decide), eX7_fittingOne_75, hinc]
  obtain ⟨Y, y1, y2⟩ := q_inv_for (fun i (Y : Nat) => kX7_fittingOne 31 [some (.ref 56), none, some (.ref 52), some (.int (nI j)), some (.long (lN Y)), none, some (.int (nI (qSN N RM))), some (.int (nI (qCol N (qnK I j) (qnS I j)))), some (.int (nI i - 1))] [] (qm I J e)) (fun i Y => q_Xf Y i (qMt I N RM rc sz j)) (qSN N RM + 1) hst (qSN N RM + 1) 0 0 (by omega) ⟨by omega, fun q => by rw [Nat.zero_testBit, decide_eq_false (by omega), Bool.false_and]⟩
  refine ⟨Y, ?_, y1⟩
  rw [bX7_fittingOne, eX7_fittingOne_0, fX0_singleCount h]
  simp only [Option.bind_some, Option.toList_some, Option.toList_none, List.nil_append, List.cons_append, q_ck_tt, Bool.and_true, Bool.true_and, if_true, if_false, reduceCtorEq]
  rw [eX7_fittingOne_7, q_in_nI (show j < 30 by omega) (by omega), nI_clamp (by omega), a3, a5, fX6_columnOf h a1]
  simp only [Option.bind_some, Option.toList_some, Option.toList_none, List.nil_append, List.cons_append, q_ck_tt, Bool.and_true, Bool.true_and, if_true, if_false, reduceCtorEq]
  rw [eX7_fittingOne_26]
  refine Eq.trans y2 ?_
  show kX7_fittingOne 31 _ _ _ = _
  rw [nI_pred, eX7_fittingOne_31, if_neg (nI_nlt (Nat.le_refl _) (by omega)), eX7_fittingOne_81]
theorem fX7_fitting (h : q_Core I D N cl RM rc) (ht : q_Tb I N RM rc sz) (hn : q_Nc I N RM rc c) (t : Int32) : ∃ X, mX7_fitting [.ref 56, .ref 3, .ref 52, .int t] (qm I J e) = some (some (.long (lN X)), qm I J e) ∧ q_Xf X (qSN N RM + 1) (qFit I N RM rc sz c t) := by
  have h60 := qSN_60 h
  have hn' := hn
  obtain ⟨hc, h1, -, h3⟩ := hn'
  have hst : ∀ j (X : Nat), j < c → q_Xf X (qSN N RM + 1) (qFit I N RM rc sz j t) → ∃ X' : Nat, q_Xf X' (qSN N RM + 1) (qFit I N RM rc sz (j + 1) t) ∧ (fun j (X : Nat) => kX7_fitting 15 [some (.ref 56), some (.ref 3), some (.ref 52), some (.int t), some (.long (lN X)), none, some (.int (nI j))] [] (qm I J e)) j X = (fun j (X : Nat) => kX7_fitting 15 [some (.ref 56), some (.ref 3), some (.ref 52), some (.int t), some (.long (lN X)), none, some (.int (nI j))] [] (qm I J e)) (j + 1) X' := by
    intro j X hj ⟨hX1, hX2⟩
    have hfs : ∀ i, qFit I N RM rc sz (j + 1) t i = (qFit I N RM rc sz j t i && !(qCn I t j && !qMt I N RM rc sz j i)) := fun i => by
      unfold qFit
      show (!(qAny j (fun j => qCn I t j && !qMt I N RM rc sz j i) || (qCn I t j && !qMt I N RM rc sz j i))) = _
      rw [Bool.not_or]
    cases hcn : qCn I t j with
    | false =>
      refine ⟨X, ⟨hX1, fun i => by rw [hX2 i, hfs i, hcn, Bool.false_and, Bool.not_false, Bool.and_true]⟩, ?_⟩
      show kX7_fitting 15 _ _ _ = kX7_fitting 15 _ _ _
      rw [eX7_fitting_15, h1, if_pos (nI_lt hj (by omega)), eX7_fitting_24, fX7_countsAt hn hj, hcn]
      simp only [Option.bind_some, Option.toList_some, Option.toList_none, List.nil_append, List.cons_append, q_ck_tt, Bool.and_true, Bool.true_and, if_true, if_false, reduceCtorEq]
      rw [eX7_fitting_31, if_pos qb_f, eX7_fitting_47, nI_1]
    | true =>
      obtain ⟨Y, y0, y1, y2⟩ := fX7_fittingOne (J := J) (e := e) h ht hn hj
      refine ⟨X &&& Y, ⟨Nat.lt_of_le_of_lt Nat.and_le_left hX1, fun i => ?_⟩, ?_⟩
      · rw [Nat.testBit_and, hX2 i, y2 i, hfs i, hcn, Bool.true_and, Bool.not_not]
        cases decide (i < qSN N RM + 1) <;> cases qFit I N RM rc sz j t i <;> rfl
      · show kX7_fitting 15 _ _ _ = kX7_fitting 15 _ _ _
        rw [eX7_fitting_15, h1, if_pos (nI_lt hj (by omega)), eX7_fitting_24, fX7_countsAt hn hj, hcn]
        simp only [Option.bind_some, Option.toList_some, Option.toList_none, List.nil_append, List.cons_append, q_ck_tt, Bool.and_true, Bool.true_and, if_true, if_false, reduceCtorEq]
        rw [eX7_fitting_31, if_neg (show ¬ qb true = 0 by decide), eX7_fitting_34, y0]
        simp only [Option.bind_some, Option.toList_some, Option.toList_none, List.nil_append, List.cons_append, q_ck_tt, Bool.and_true, Bool.true_and, if_true, if_false, reduceCtorEq]
        rw [eX7_fitting_44, eX7_fitting_47, nI_1, fb_andL]
  have hp1 : 1 ≤ 2 ^ (qSN N RM + 1) := Nat.one_le_two_pow
  have hp2 : 2 ^ (qSN N RM + 1) ≤ 2 ^ 61 := Nat.pow_le_pow_right (by omega) (by omega)
  obtain ⟨X, x1, x2⟩ := q_inv_for (fun j (X : Nat) => kX7_fitting 15 [some (.ref 56), some (.ref 3), some (.ref 52), some (.int t), some (.long (lN X)), none, some (.int (nI j))] [] (qm I J e)) (fun j X => q_Xf X (qSN N RM + 1) (qFit I N RM rc sz j t)) c hst c 0 (2 ^ (qSN N RM + 1) - 1) (by omega) ⟨by omega, fun i => by
    rw [Nat.testBit_two_pow_sub_one]
    show _ = (decide (i < qSN N RM + 1) && !qAny 0 _)
    rw [show ∀ p, qAny 0 p = false from fun _ => rfl, Bool.not_false, Bool.and_true]⟩
  refine ⟨X, ?_, x1⟩
  have hw : (1 : Int64) <<< ((nI (qSN N RM) + 1).toInt64 &&& 63) - 1 = lN (2 ^ (qSN N RM + 1) - 1) := by
    rw [nI_1, q_l1s (by omega), show (1 : Int64) = lN 1 from rfl, lN_sb hp1]
  rw [bX7_fitting, eX7_fitting_0, fX0_singleCount h]
  simp only [Option.bind_some, Option.toList_some, Option.toList_none, List.nil_append, List.cons_append, q_ck_tt, Bool.and_true, Bool.true_and, if_true, if_false, reduceCtorEq]
  rw [eX7_fitting_5, hw]
  refine Eq.trans x2 ?_
  show kX7_fitting 15 _ _ _ = _
  rw [eX7_fitting_15, h1, if_neg (nI_nlt (Nat.le_refl _) (by omega)), eX7_fitting_53]
end FT
