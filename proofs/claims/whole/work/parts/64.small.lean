/-! ===== small methods of both ===== -/
theorem q_cpn (v k : Nat) (f g : Nat → Int32) (I : Nat → Nat → Int32) (i : Nat) (hg : I v = fa_fill f g i) : q_up I v i (f i) = va_up I v (fa_fill f g (i + 1)) := by
  rw [q_up_va, hg]
  rw [← fa_fill_succ]
  rfl
section SM
variable (I : Nat → Nat → Int32) (J : Nat → Nat → Int64) (e : QP)
theorem fX12_fill : mX12_fill [.ref 64] (qm I J e) = some (none, qm (va_up I 94 (fa_fill (I 93) (I 94) 65)) J e) := by
  have hst : ∀ n, n < 65 → (fun n (I' : Nat → Nat → Int32) => kX12_fill 2 [some (.ref 64), some (.int (nI n))] [] (qm I' J e)) n (va_up I 94 (fa_fill (I 93) (I 94) n)) = (fun n (I' : Nat → Nat → Int32) => kX12_fill 2 [some (.ref 64), some (.int (nI n))] [] (qm I' J e)) (n + 1) (va_up I 94 (fa_fill (I 93) (I 94) (n + 1))) := by
    intro n hn
    show kX12_fill 2 _ _ _ = kX12_fill 2 _ _ _
    rw [eX12_fill_2, show (65 : Int32) = nI 65 from rfl, if_pos (nI_lt hn (by omega)), eX12_fill_8, q_in_nI hn (by omega), nI_clamp (by omega), nI_1, q_up_up]
    simp only [Option.bind_some, Option.toList_some, Option.toList_none, List.nil_append, List.cons_append, q_ck_tt, Bool.and_true, Bool.true_and, if_true, if_false, reduceCtorEq]
    rw [← fa_fill_succ]
    rfl
  have hf := q_for (fun n (I' : Nat → Nat → Int32) => kX12_fill 2 [some (.ref 64), some (.int (nI n))] [] (qm I' J e)) 65 (fun n => va_up I 94 (fa_fill (I 93) (I 94) n)) hst
  rw [fa_fill_0, va_up_eq rfl] at hf
  rw [bX12_fill, eX12_fill_0]
  refine Eq.trans hf ?_
  show kX12_fill 2 _ _ _ = _
  rw [eX12_fill_2, show (65 : Int32) = nI 65 from rfl, if_neg (nI_nlt (Nat.le_refl _) (by omega)), eX12_fill_26]
theorem fX12_keepAir : mX12_keepAir [.ref 64] (qm I J e) = some (none, qm (va_up I 93 (fa_fill (I 94) (I 93) 65)) J e) := by
  have hst : ∀ n, n < 65 → (fun n (I' : Nat → Nat → Int32) => kX12_keepAir 2 [some (.ref 64), some (.int (nI n))] [] (qm I' J e)) n (va_up I 93 (fa_fill (I 94) (I 93) n)) = (fun n (I' : Nat → Nat → Int32) => kX12_keepAir 2 [some (.ref 64), some (.int (nI n))] [] (qm I' J e)) (n + 1) (va_up I 93 (fa_fill (I 94) (I 93) (n + 1))) := by
    intro n hn
    show kX12_keepAir 2 _ _ _ = kX12_keepAir 2 _ _ _
    rw [eX12_keepAir_2, show (65 : Int32) = nI 65 from rfl, if_pos (nI_lt hn (by omega)), eX12_keepAir_8, q_in_nI hn (by omega), nI_clamp (by omega), nI_1, q_up_up]
    simp only [Option.bind_some, Option.toList_some, Option.toList_none, List.nil_append, List.cons_append, q_ck_tt, Bool.and_true, Bool.true_and, if_true, if_false, reduceCtorEq]
    rw [← fa_fill_succ]
    rfl
  have hf := q_for (fun n (I' : Nat → Nat → Int32) => kX12_keepAir 2 [some (.ref 64), some (.int (nI n))] [] (qm I' J e)) 65 (fun n => va_up I 93 (fa_fill (I 94) (I 93) n)) hst
  rw [fa_fill_0, va_up_eq rfl] at hf
  rw [bX12_keepAir, eX12_keepAir_0]
  refine Eq.trans hf ?_
  show kX12_keepAir 2 _ _ _ = _
  rw [eX12_keepAir_2, show (65 : Int32) = nI 65 from rfl, if_neg (nI_nlt (Nat.le_refl _) (by omega)), eX12_keepAir_26]
theorem fX12_isDevice {D : Nat} (hD : D ≤ 4) (hI : I 64 50 = nI D) (a : Int32) : mX12_isDevice [.ref 64, .int a] (qm I J e) = some (some (.int (qb (q_in a D))), qm I J e) := by
  simp only [bX12_isDevice, eX12_isDevice_0, eX12_isDevice_11, hI, fX12_isIn0 I J e a (show D < 2 ^ 30 by omega), Option.bind_some, Option.toList_some, Option.toList_none, List.nil_append, List.cons_append, q_ck_tt, Bool.and_true, Bool.true_and, if_true, if_false, reduceCtorEq, qb_ck]
theorem fX12_isNet {N : Nat} (hN : N ≤ 6) (hI : I 64 51 = nI N) (a : Int32) : mX12_isNet [.ref 64, .int a] (qm I J e) = some (some (.int (qb (q_in a N))), qm I J e) := by
  simp only [bX12_isNet, eX12_isNet_0, eX12_isNet_11, hI, fX12_isIn0 I J e a (show N < 2 ^ 30 by omega), Option.bind_some, Option.toList_some, Option.toList_none, List.nil_append, List.cons_append, q_ck_tt, Bool.and_true, Bool.true_and, if_true, if_false, reduceCtorEq, qb_ck]
theorem fX12_isCell_n {D : Nat} (hD : D ≤ 4) (hI : I 64 50 = nI D) {a : Int32} (ha : q_in a D = false) (c : Int32) : mX12_isCell [.ref 64, .int a, .int c] (qm I J e) = some (some (.int 0), qm I J e) := by
  simp only [bX12_isCell, eX12_isCell_0, eX12_isCell_5, eX12_isCell_28, eX12_isCell_8, eX12_isCell_29, eX12_isCell_21, eX12_isCell_24, fX12_isDevice I J e hD hI, ha, Option.bind_some, Option.toList_some, Option.toList_none, List.nil_append, List.cons_append, q_ck_tt, Bool.and_true, Bool.true_and, if_true, if_false, reduceCtorEq, qb_f]
  simp [q_ck]
theorem fX12_isCell_y {D d k : Nat} (hD : D ≤ 4) (hI : I 64 50 = nI D) (hd : d < D) (hk : I 85 d = nI k) (hk6 : k ≤ 6) (c : Int32) : mX12_isCell [.ref 64, .int (nI d), .int c] (qm I J e) = some (some (.int (qb (q_in c k))), qm I J e) := by
  have h1 : q_in (nI d) D = true := q_in_nI hd (by omega)
  have h2 : q_in (nI d) 4 = true := q_in_nI (by omega) (by omega)
  simp only [bX12_isCell, eX12_isCell_0, eX12_isCell_5, eX12_isCell_28, eX12_isCell_8, eX12_isCell_29, eX12_isCell_21, eX12_isCell_24, fX12_isDevice I J e hD hI, h1, h2, Option.bind_some, Option.toList_some, Option.toList_none, List.nil_append, List.cons_append, q_ck_tt, Bool.and_true, Bool.true_and, if_true, if_false, reduceCtorEq, qb_t, nI_clamp (show d < 2 ^ 31 by omega), hk, fX12_isIn0 I J e c (show k < 2 ^ 30 by omega)]
  cases q_in c k <;> simp [q_ck, qb]
/-- how many bits a data register has -/
def qDb (o id c : Int32) : Int32 := if o = 0 then c else if o = 2 then c else if o = 1 then (if id < 0 then 1 else 8) else 1
theorem fX12_dataBits {d : Nat} (hd : d < 4) : mX12_dataBits [.ref 64, .int (nI d)] (qm I J e) = some (some (.int (qDb (I 94 (3 + d)) (I 84 d) (I 85 d))), qm I J e) := by
  rw [bX12_dataBits, eX12_dataBits_0, show (3 : Int32) = nI 3 from rfl, nI_add, q_in_nI (by omega) (by omega), nI_clamp (by omega)]
  unfold qDb
  simp only [Option.bind_some, Option.toList_some, Option.toList_none, List.nil_append, List.cons_append, q_ck_tt, Bool.and_true, Bool.true_and, if_true, if_false, reduceCtorEq]
  by_cases h0 : I 94 (3 + d) = 0
  · rw [if_pos h0, if_pos h0, eX12_dataBits_18, q_in_nI hd (by omega), nI_clamp (by omega)]
    simp only [Option.bind_some, Option.toList_some, Option.toList_none, List.nil_append, List.cons_append, q_ck_tt, Bool.and_true, Bool.true_and, if_true, if_false, reduceCtorEq]
    rw [eX12_dataBits_47]
  · rw [if_neg h0, if_neg h0, eX12_dataBits_13]
    by_cases h2 : I 94 (3 + d) = 2
    · rw [if_pos h2, if_pos h2, eX12_dataBits_18, q_in_nI hd (by omega), nI_clamp (by omega)]
      simp only [Option.bind_some, Option.toList_some, Option.toList_none, List.nil_append, List.cons_append, q_ck_tt, Bool.and_true, Bool.true_and, if_true, if_false, reduceCtorEq]
      rw [eX12_dataBits_47]
    · rw [if_neg h2, if_neg h2, eX12_dataBits_27]
      by_cases h1 : I 94 (3 + d) = 1
      · rw [if_pos h1, if_pos h1, eX12_dataBits_32, q_in_nI hd (by omega), nI_clamp (by omega)]
        simp only [Option.bind_some, Option.toList_some, Option.toList_none, List.nil_append, List.cons_append, q_ck_tt, Bool.and_true, Bool.true_and, if_true, if_false, reduceCtorEq]
        by_cases hi : I 84 d < 0
        · rw [if_pos hi, if_pos hi, eX12_dataBits_46, eX12_dataBits_47]
        · rw [if_neg hi, if_neg hi, eX12_dataBits_41, eX12_dataBits_47]
      · rw [if_neg h1, if_neg h1, eX12_dataBits_46, eX12_dataBits_47]
/-- the order at rest -/
def qRs (id ir : Int32) : Int32 := if id < 0 then ((1 : Int32) <<< (ir &&& 31)) - 1 else 1
theorem fX12_restOrder {d : Nat} (hd : d < 4) : mX12_restOrder [.ref 64, .int (nI d)] (qm I J e) = some (some (.int (qRs (I 84 d) (I 83 d))), qm I J e) := by
  rw [bX12_restOrder, eX12_restOrder_0, q_in_nI hd (by omega), nI_clamp (by omega)]
  unfold qRs
  simp only [Option.bind_some, Option.toList_some, Option.toList_none, List.nil_append, List.cons_append, q_ck_tt, Bool.and_true, Bool.true_and, if_true, if_false, reduceCtorEq]
  by_cases h0 : I 84 d < 0
  · rw [if_pos h0, if_pos h0, eX12_restOrder_13, q_in_nI hd (by omega), nI_clamp (by omega)]
    simp only [Option.bind_some, Option.toList_some, Option.toList_none, List.nil_append, List.cons_append, q_ck_tt, Bool.and_true, Bool.true_and, if_true, if_false, reduceCtorEq]
    rw [eX12_restOrder_23]
  · rw [if_neg h0, if_neg h0, eX12_restOrder_9, eX12_restOrder_23]
theorem nI_qb (k : Nat) (b : Bool) : nI k + qb b = nI (k + (if b then 1 else 0)) := by
  cases b with
  | true => exact nI_1 k
  | false => show nI k + nI 0 = _; rw [nI_add]; rfl
theorem fX12_manyOf {D : Nat} (hD : D ≤ 4) (hI : I 64 50 = nI D) (n : Nat) (w : Int32) : mX12_manyOf [.ref 64, .int (nI n), .int w] (qm I J e) = some (some (.int (nI (fb_ct (fun x => decide (I 86 x = nI n) && decide (I 87 x = w)) (6 * D)))), qm I J e) := by
  rw [bX12_manyOf, eX12_manyOf_0]
  refine Eq.trans (q_for (fun x (y : Nat) => kX12_manyOf 5 [some (.ref 64), some (.int (nI n)), some (.int w), some (.int (nI y)), some (.int (nI x))] [] (qm I J e)) (6 * D) (fun k => fb_ct (fun x => decide (I 86 x = nI n) && decide (I 87 x = w)) k) (fun x hx => ?_)) ?_
  · show kX12_manyOf 5 _ _ _ = kX12_manyOf 5 _ _ _
    have hst : ∀ b : Bool, b = (decide (I 86 x = nI n) && decide (I 87 x = w)) → kX12_manyOf 45 [some (.ref 64), some (.int (nI n)), some (.int w), none, some (.int (nI x))] [.int (qb b), .int (nI (fb_ct (fun x => decide (I 86 x = nI n) && decide (I 87 x = w)) x))] (qm I J e) = kX12_manyOf 5 [some (.ref 64), some (.int (nI n)), some (.int w), some (.int (nI (fb_ct (fun x => decide (I 86 x = nI n) && decide (I 87 x = w)) (x + 1)))), some (.int (nI (x + 1)))] [] (qm I J e) := by
      intro b hb
      rw [eX12_manyOf_45, fX12_truth]
      simp only [Option.bind_some, Option.toList_some, Option.toList_none, List.nil_append, List.cons_append, q_ck_tt, Bool.and_true, Bool.true_and, if_true, if_false, reduceCtorEq]
      rw [eX12_manyOf_48, nI_qb, nI_1, fb_ct_succ, hb]
    rw [eX12_manyOf_5, hI, show (6 : Int32) = nI 6 from rfl, pk_mul, if_pos (nI_lt hx (by omega)), eX12_manyOf_17, q_in_nI (by omega) (by omega), nI_clamp (by omega)]
    simp only [Option.bind_some, Option.toList_some, Option.toList_none, List.nil_append, List.cons_append, q_ck_tt, Bool.and_true, Bool.true_and, if_true, if_false, reduceCtorEq]
    by_cases h1 : I 86 x = nI n
    · rw [if_pos h1, eX12_manyOf_29, q_in_nI (by omega) (by omega), nI_clamp (by omega)]
      simp only [Option.bind_some, Option.toList_some, Option.toList_none, List.nil_append, List.cons_append, q_ck_tt, Bool.and_true, Bool.true_and, if_true, if_false, reduceCtorEq]
      by_cases h2 : I 87 x = w
      · rw [if_pos h2, eX12_manyOf_40]; exact hst true (by rw [decide_eq_true h1, decide_eq_true h2]; rfl)
      · rw [if_neg h2, eX12_manyOf_44]; exact hst false (by rw [decide_eq_false h2, Bool.and_false])
    · rw [if_neg h1, eX12_manyOf_44]; exact hst false (by rw [decide_eq_false h1, Bool.false_and])
  · show kX12_manyOf 5 _ _ _ = _
    rw [eX12_manyOf_5, hI, show (6 : Int32) = nI 6 from rfl, pk_mul, if_neg (nI_nlt (Nat.le_refl _) (by omega)), eX12_manyOf_56]
/-! the class -/
theorem fX0_hasDevice {D : Nat} (hD : D ≤ 4) (hI : I 3 0 = nI D) (a : Int32) : mX0_hasDevice [.ref 3, .int a] (qm I J e) = some (some (.int (qb (q_in a D))), qm I J e) := by
  rw [q_inP a (show D < 2 ^ 30 by omega)]
  simp only [bX0_hasDevice, eX0_hasDevice_0, eX0_hasDevice_16, eX0_hasDevice_4, eX0_hasDevice_17, eX0_hasDevice_12, hI]
  by_cases h1 : a < 0 <;> by_cases h2 : a < nI D <;> simp [h1, h2, q_ck, qb]
theorem fX0_hasNet {N : Nat} (hN : N ≤ 6) (hI : I 3 5 = nI N) (a : Int32) : mX0_hasNet [.ref 3, .int a] (qm I J e) = some (some (.int (qb (q_in a N))), qm I J e) := by
  rw [q_inP a (show N < 2 ^ 30 by omega)]
  simp only [bX0_hasNet, eX0_hasNet_0, eX0_hasNet_16, eX0_hasNet_4, eX0_hasNet_17, eX0_hasNet_12, hI]
  by_cases h1 : a < 0 <;> by_cases h2 : a < nI N <;> simp [h1, h2, q_ck, qb]
theorem fX0_hasCell_n {D : Nat} (hD : D ≤ 4) (hI : I 3 0 = nI D) {a : Int32} (ha : q_in a D = false) (c : Int32) : mX0_hasCell [.ref 3, .int a, .int c] (qm I J e) = some (some (.int 0), qm I J e) := by
  simp only [bX0_hasCell, eX0_hasCell_0, eX0_hasCell_5, eX0_hasCell_26, eX0_hasCell_8, eX0_hasCell_27, eX0_hasCell_12, eX0_hasCell_22, fX0_hasDevice I J e hD hI, ha, Option.bind_some, Option.toList_some, Option.toList_none, List.nil_append, List.cons_append, q_ck_tt, Bool.and_true, Bool.true_and, if_true, if_false, reduceCtorEq, qb_f]
  simp [q_ck]
theorem fX0_hasCell_y {D d k : Nat} (hD : D ≤ 4) (hI : I 3 0 = nI D) (hd : d < D) (hk : I 7 d = nI k) (hk6 : k ≤ 6) (c : Int32) : mX0_hasCell [.ref 3, .int (nI d), .int c] (qm I J e) = some (some (.int (qb (q_in c k))), qm I J e) := by
  have h1 : q_in (nI d) D = true := q_in_nI hd (by omega)
  have h2 : q_in (nI d) 4 = true := q_in_nI (by omega) (by omega)
  rw [q_inP c (show k < 2 ^ 30 by omega)]
  simp only [bX0_hasCell, eX0_hasCell_0, eX0_hasCell_5, eX0_hasCell_26, eX0_hasCell_8, eX0_hasCell_27, eX0_hasCell_12, eX0_hasCell_22, fX0_hasDevice I J e hD hI, h1, h2, Option.bind_some, Option.toList_some, Option.toList_none, List.nil_append, List.cons_append, q_ck_tt, Bool.and_true, Bool.true_and, if_true, if_false, reduceCtorEq, qb_t, nI_clamp (show d < 2 ^ 31 by omega), hk]
  by_cases g1 : c < 0 <;> by_cases g2 : c < nI k <;> simp [g1, g2, q_ck, qb]
theorem fX0_isReceiver {x : Nat} (hx : x < 32) : mX0_isReceiver [.ref 3, .int (nI x)] (qm I J e) = some (some (.int (qb (bt (I 3 11) x))), qm I J e) := by
  simp only [bX0_isReceiver_3, eX0_isReceiver_3_0, eX0_isReceiver_3_15, eX0_isReceiver_3_11, eX0_isReceiver_3_16, b_tst0 _ hx]
  cases bt (I 3 11) x <;> simp [q_ck, qb]
theorem fX0_hasReceiver_n {D : Nat} (hD : D ≤ 4) (hI : I 3 0 = nI D) {a : Int32} (ha : q_in a D = false) (c : Int32) : mX0_hasReceiver [.ref 3, .int a, .int c] (qm I J e) = some (some (.int 0), qm I J e) := by
  simp only [bX0_hasReceiver, eX0_hasReceiver_0, eX0_hasReceiver_6, eX0_hasReceiver_25, eX0_hasReceiver_9, eX0_hasReceiver_26, eX0_hasReceiver_15, eX0_hasReceiver_18, eX0_hasReceiver_21, fX0_hasCell_n I J e hD hI ha, Option.bind_some, Option.toList_some, Option.toList_none, List.nil_append, List.cons_append, q_ck_tt, Bool.and_true, Bool.true_and, if_true, if_false, reduceCtorEq]
  simp [q_ck]
theorem fX0_hasReceiver_y {D d k : Nat} (hD : D ≤ 4) (hI : I 3 0 = nI D) (hd : d < D) (hk : I 7 d = nI k) (hk6 : k ≤ 6) (c : Int32) : mX0_hasReceiver [.ref 3, .int (nI d), .int c] (qm I J e) = some (some (.int (qb (q_in c k && bt (I 3 11) (6 * d + c.toNatClampNeg)))), qm I J e) := by
  simp only [bX0_hasReceiver, eX0_hasReceiver_0, eX0_hasReceiver_6, eX0_hasReceiver_25, eX0_hasReceiver_9, eX0_hasReceiver_26, eX0_hasReceiver_15, eX0_hasReceiver_18, eX0_hasReceiver_21, fX0_hasCell_y I J e hD hI hd hk hk6, Option.bind_some, Option.toList_some, Option.toList_none, List.nil_append, List.cons_append, q_ck_tt, Bool.and_true, Bool.true_and, if_true, if_false, reduceCtorEq]
  cases hq : q_in c k with
  | false => simp [q_ck, qb]
  | true =>
    obtain ⟨j, hj, rfl, hj2⟩ := q_in_of hq
    have h10 : ¬ ((1 : Int32) = 0) := by decide
    simp only [eX0_hasReceiver_0, eX0_hasReceiver_6, eX0_hasReceiver_25, eX0_hasReceiver_9, eX0_hasReceiver_26, eX0_hasReceiver_15, eX0_hasReceiver_18, eX0_hasReceiver_21, qb_t, if_neg h10, fX11_placeOf, Option.bind_some, Option.toList_some, Option.toList_none, List.nil_append, List.cons_append, q_ck_tt, Bool.and_true, Bool.true_and, if_true, if_false, reduceCtorEq, fX0_isReceiver I J e (show 6 * d + j < 32 by omega), nI_clamp hj2]
    cases bt (I 3 11) (6 * d + j) <;> simp [q_ck, qb]
theorem fX1_hasCellsAsData {d : Nat} (hd : d < 4) : mX1_hasCellsAsData [.ref 37, .int (nI d)] (qm I J e) = some (some (.int (qb (decide (I 38 d = 0) || decide (I 38 d = 2)))), qm I J e) := by
  have h4 : q_in (nI d) 4 = true := q_in_nI (by omega) (by omega)
  simp only [bX1_hasCellsAsData, eX1_hasCellsAsData_0, eX1_hasCellsAsData_19, eX1_hasCellsAsData_9, eX1_hasCellsAsData_24, eX1_hasCellsAsData_23, h4, nI_clamp (show d < 2 ^ 31 by omega), Option.bind_some, Option.toList_some, Option.toList_none, List.nil_append, List.cons_append, q_ck_tt, Bool.and_true, Bool.true_and, if_true, if_false, reduceCtorEq]
  by_cases h0 : I 38 d = 0 <;> by_cases h2 : I 38 d = 2 <;> simp [h0, h2, q_ck, qb]
theorem fX1_tellsWho {d : Nat} (hd : d < 4) : mX1_tellsWho [.ref 37, .ref 3, .int (nI d)] (qm I J e) = some (some (.int (qb (decide (I 38 d = 1) && !decide (I 6 d = -1)))), qm I J e) := by
  have h4 : q_in (nI d) 4 = true := q_in_nI (by omega) (by omega)
  simp only [bX1_tellsWho, eX1_tellsWho_0, eX1_tellsWho_10, eX1_tellsWho_24, eX1_tellsWho_20, eX1_tellsWho_25, h4, nI_clamp (show d < 2 ^ 31 by omega), Option.bind_some, Option.toList_some, Option.toList_none, List.nil_append, List.cons_append, q_ck_tt, Bool.and_true, Bool.true_and, if_true, if_false, reduceCtorEq]
  by_cases h0 : I 38 d = 1 <;> by_cases h2 : I 6 d = -1 <;> simp [h0, h2, q_ck, qb]
theorem q_idn {x : Int32} (hid : x = -1 ∨ ∃ k : Nat, k < 128 ∧ x = nI k) : x = -1 ↔ x < 0 := by
  rcases hid with h | ⟨k, hk, h⟩
  · rw [h]; decide
  · rw [h]
    refine ⟨fun g => ?_, fun g => absurd g (nI_pos (by omega))⟩
    have := congrArg Int32.toInt g
    rw [nI_toInt (by omega)] at this
    have h3 : ((-1) : Int32).toInt = -1 := by decide
    rw [h3] at this; omega
theorem fX1_dataBits {d : Nat} (hd : d < 4) (hid : I 6 d = -1 ∨ ∃ k : Nat, k < 128 ∧ I 6 d = nI k) : mX1_dataBits [.ref 37, .ref 3, .int (nI d)] (qm I J e) = some (some (.int (qDb (I 38 d) (I 6 d) (I 7 d))), qm I J e) := by
  have h4 : q_in (nI d) 4 = true := q_in_nI (by omega) (by omega)
  have hn := q_idn hid
  have h10 : ¬ ((1 : Int32) = 0) := by decide
  unfold qDb
  rw [bX1_dataBits, eX1_dataBits_0, fX1_hasCellsAsData I J e hd]
  simp only [Option.bind_some, Option.toList_some, Option.toList_none, List.nil_append, List.cons_append, q_ck_tt, Bool.and_true, Bool.true_and, if_true, if_false, reduceCtorEq]
  rw [eX1_dataBits_5]
  by_cases h0 : I 38 d = 0
  · rw [decide_eq_true h0, Bool.true_or, qb_t, if_neg h10, if_pos h0, eX1_dataBits_8, h4, nI_clamp (by omega)]
    simp only [Option.bind_some, Option.toList_some, Option.toList_none, List.nil_append, List.cons_append, q_ck_tt, Bool.and_true, Bool.true_and, if_true, if_false, reduceCtorEq]
    rw [eX1_dataBits_32]
  · by_cases h2 : I 38 d = 2
    · rw [decide_eq_true h2, Bool.or_true, qb_t, if_neg h10, if_neg h0, if_pos h2, eX1_dataBits_8, h4, nI_clamp (by omega)]
      simp only [Option.bind_some, Option.toList_some, Option.toList_none, List.nil_append, List.cons_append, q_ck_tt, Bool.and_true, Bool.true_and, if_true, if_false, reduceCtorEq]
      rw [eX1_dataBits_32]
    · rw [decide_eq_false h0, decide_eq_false h2, Bool.or_false, if_pos qb_f, if_neg h0, if_neg h2, eX1_dataBits_17, fX1_tellsWho I J e hd]
      simp only [Option.bind_some, Option.toList_some, Option.toList_none, List.nil_append, List.cons_append, q_ck_tt, Bool.and_true, Bool.true_and, if_true, if_false, reduceCtorEq]
      rw [eX1_dataBits_23]
      by_cases h1 : I 38 d = 1
      · by_cases hi : I 6 d < 0
        · rw [decide_eq_true h1, decide_eq_true (hn.mpr hi), if_pos (show qb (true && !true) = 0 from rfl), if_pos h1, if_pos hi, eX1_dataBits_31, eX1_dataBits_32]
        · rw [decide_eq_true h1, decide_eq_false (fun c => hi (hn.mp c)), if_neg (show ¬ qb (true && !false) = 0 from h10), if_pos h1, if_neg hi, eX1_dataBits_26, eX1_dataBits_32]
      · rw [decide_eq_false h1, Bool.false_and, if_pos qb_f, if_neg h1, eX1_dataBits_31, eX1_dataBits_32]
theorem fX1_restingOrder {d : Nat} (hd : d < 4) (hid : I 6 d = -1 ∨ ∃ k : Nat, k < 128 ∧ I 6 d = nI k) : mX1_restingOrder [.ref 3, .int (nI d)] (qm I J e) = some (some (.int (qRs (I 6 d) (I 5 d))), qm I J e) := by
  have h4 : q_in (nI d) 4 = true := q_in_nI (by omega) (by omega)
  have hn := q_idn hid
  unfold qRs
  rw [bX1_restingOrder_3, eX1_restingOrder_3_0, h4, nI_clamp (by omega)]
  simp only [Option.bind_some, Option.toList_some, Option.toList_none, List.nil_append, List.cons_append, q_ck_tt, Bool.and_true, Bool.true_and, if_true, if_false, reduceCtorEq]
  by_cases hi : I 6 d < 0
  · rw [if_pos (hn.mpr hi), if_pos hi, eX1_restingOrder_3_14, h4, nI_clamp (by omega)]
    simp only [Option.bind_some, Option.toList_some, Option.toList_none, List.nil_append, List.cons_append, q_ck_tt, Bool.and_true, Bool.true_and, if_true, if_false, reduceCtorEq]
    rw [eX1_restingOrder_3_24]
  · rw [if_neg (fun c => hi (hn.mp c)), if_neg hi, eX1_restingOrder_3_10, eX1_restingOrder_3_24]
end SM
