/-! ===== the class: what is safe, what is read, what drives ===== -/
def qKs (sf : Nat → Int32) (b : Int32) : Nat → Int32
  | 0 => b
  | n + 1 => if sf n = 0 then qKs sf b n &&& (((1 : Int32) <<< (nI n &&& 31)) ^^^ (-1)) else if sf n = 1 then qKs sf b n ||| ((1 : Int32) <<< (nI n &&& 31)) else qKs sf b n
theorem b_qKs {sf : Nat → Int32} {b : Int32} : ∀ {n : Nat}, n ≤ 32 → ∀ {v : Nat}, v < 32 → bt (qKs sf b n) v = if v < n then (if sf v = 0 then false else if sf v = 1 then true else bt b v) else bt b v := by
  intro n
  induction n with
  | zero => intro _ v _; rw [if_neg (by omega)]; rfl
  | succ n ih =>
    intro hn v hv
    have h := ih (by omega) hv
    have e1 : qKs sf b (n + 1) = if sf n = 0 then qKs sf b n &&& (((1 : Int32) <<< (nI n &&& 31)) ^^^ (-1)) else if sf n = 1 then qKs sf b n ||| ((1 : Int32) <<< (nI n &&& 31)) else qKs sf b n := rfl
    rw [e1]
    by_cases hvn : v = n
    · subst hvn
      rw [if_neg (show ¬ v < v by omega)] at h
      rw [if_pos (show v < v + 1 by omega)]
      by_cases h0 : sf v = 0
      · rw [if_pos h0, if_pos h0, b_and, b_not _ hv, b_one (by omega) hv]; simp
      · rw [if_neg h0, if_neg h0]
        by_cases h1 : sf v = 1
        · rw [if_pos h1, if_pos h1, b_or, b_one (by omega) hv]; simp
        · rw [if_neg h1, if_neg h1, h]
    · have hc : bt (if sf n = 0 then qKs sf b n &&& (((1 : Int32) <<< (nI n &&& 31)) ^^^ (-1)) else if sf n = 1 then qKs sf b n ||| ((1 : Int32) <<< (nI n &&& 31)) else qKs sf b n) v = bt (qKs sf b n) v := by
        split
        · rw [b_and, b_not _ hv, b_one (by omega) hv, decide_eq_false hvn]; simp
        · split
          · rw [b_or, b_one (by omega) hv, decide_eq_false hvn]; simp
          · rfl
      rw [hc, h]
      by_cases hl : v < n
      · rw [if_pos hl, if_pos (show v < n + 1 by omega)]
      · rw [if_neg hl, if_neg (show ¬ v < n + 1 by omega)]
def qRo (lv : Int32) (dr rc : Nat → Int32) : Nat → Int32
  | 0 => 0
  | n + 1 => if bt lv n then qRo lv dr rc n ||| (dr n ||| rc n) else qRo lv dr rc n
theorem b_qRo {lv : Int32} {dr rc : Nat → Int32} {v : Nat} : ∀ n, bt (qRo lv dr rc n) v = qAny n (fun n => bt lv n && (bt (dr n) v || bt (rc n) v)) := by
  intro n
  induction n with
  | zero => exact b_0 v
  | succ n ih =>
    show bt (if bt lv n then _ else _) v = (qAny n _ || (bt lv n && (bt (dr n) v || bt (rc n) v)))
    cases hb : bt lv n with
    | true => rw [if_pos rfl, b_or, b_or, ih]; rfl
    | false => rw [if_neg Bool.false_ne_true, ih]; simp
def qRa (N : Nat) (dr rc : Nat → Int32) (lv op fl : Int32) : Int32 := (qRo lv dr rc N &&& (op ^^^ (-1))) ||| (fl &&& op)
theorem b_qRa {N : Nat} {dr rc : Nat → Int32} {lv op fl : Int32} {v : Nat} (hv : v < 32) : bt (qRa N dr rc lv op fl) v = if bt op v then bt fl v else qAny N (fun n => bt lv n && (bt (dr n) v || bt (rc n) v)) := by
  unfold qRa
  rw [b_or, b_and, b_not _ hv, b_and, b_qRo]
  cases bt op v <;> simp
def qUs (sf dr : Nat → Int32) : Nat → Int32
  | 0 => 0
  | n + 1 => if sf n = 1 then qUs sf dr n ||| dr n else qUs sf dr n
theorem b_qUs {sf dr : Nat → Int32} {v : Nat} : ∀ n, bt (qUs sf dr n) v = qAny n (fun n => decide (sf n = 1) && bt (dr n) v) := by
  intro n
  induction n with
  | zero => exact b_0 v
  | succ n ih =>
    show bt (if sf n = 1 then _ else _) v = (qAny n _ || (decide (sf n = 1) && bt (dr n) v))
    by_cases hb : sf n = 1
    · rw [if_pos hb, b_or, ih, decide_eq_true hb]; rfl
    · rw [if_neg hb, ih, decide_eq_false hb]; simp
def qUd (od lt : Nat → Int32) (u : Int32) : Nat → Int32
  | 0 => u
  | d + 1 => if od d = 0 then (qUd od lt u d &&& (((63 : Int32) <<< (nI (6 * d) &&& 31)) ^^^ (-1))) ||| (lt d <<< (nI (6 * d) &&& 31)) else qUd od lt u d
theorem b_63 : ∀ i, i < 32 → bt 63 i = decide (i < 6) := by decide +kernel
theorem b_qUd {od lt : Nat → Int32} {u : Int32} : ∀ {n : Nat}, n ≤ 4 → (∀ d, d < n → ∀ i, 6 ≤ i → bt (lt d) i = false) → ∀ {v : Nat}, v < 32 → bt (qUd od lt u n) v = if v < 6 * n ∧ od (v / 6) = 0 then bt (lt (v / 6)) (v % 6) else bt u v := by
  intro n
  induction n with
  | zero => intro _ _ v _; rw [if_neg (by omega)]; rfl
  | succ n ih =>
    intro hn hl v hv
    have h := ih (by omega) (fun d hd => hl d (by omega)) hv
    have e1 : qUd od lt u (n + 1) = if od n = 0 then (qUd od lt u n &&& (((63 : Int32) <<< (nI (6 * n) &&& 31)) ^^^ (-1))) ||| (lt n <<< (nI (6 * n) &&& 31)) else qUd od lt u n := rfl
    rw [e1]
    by_cases hin : 6 * n ≤ v ∧ v < 6 * n + 6
    · have hd : v / 6 = n := by omega
      have hm : v % 6 = v - 6 * n := by omega
      rw [hd] at h ⊢
      rw [if_neg (by omega)] at h
      by_cases h0 : od n = 0
      · rw [if_pos h0, if_pos ⟨by omega, h0⟩, b_or, b_and, b_not _ hv, b_shl (6 * n) (by omega) _ hv, b_shl (6 * n) (by omega) _ hv, b_63 _ (by omega), decide_eq_true hin.1, decide_eq_true (show v - 6 * n < 6 by omega), hm]
        simp
      · rw [if_neg h0, if_neg (fun c => h0 c.2), h]
    · have hc : bt (if od n = 0 then (qUd od lt u n &&& (((63 : Int32) <<< (nI (6 * n) &&& 31)) ^^^ (-1))) ||| (lt n <<< (nI (6 * n) &&& 31)) else qUd od lt u n) v = bt (qUd od lt u n) v := by
        split
        · rw [b_or, b_and, b_not _ hv, b_shl (6 * n) (by omega) _ hv, b_shl (6 * n) (by omega) _ hv, b_63 _ (by omega)]
          by_cases hle : 6 * n ≤ v
          · rw [decide_eq_true hle, decide_eq_false (show ¬ v - 6 * n < 6 by omega), hl n (by omega) (v - 6 * n) (by omega)]; simp
          · rw [decide_eq_false hle]; simp
        · rfl
      rw [hc, h]
      by_cases hl2 : v < 6 * n
      · by_cases h0 : od (v / 6) = 0
        · rw [if_pos ⟨hl2, h0⟩, if_pos ⟨by omega, h0⟩]
        · rw [if_neg (fun c => h0 c.2), if_neg (fun c => h0 c.2)]
      · rw [if_neg (by omega), if_neg (by omega)]
def qDu (D N : Nat) (sf dr od lt : Nat → Int32) : Int32 := qUd od lt (qUs sf dr N) D
section CB
variable (I : Nat → Nat → Int32) (J : Nat → Nat → Int64) (e : QP)
theorem fX11_placeOf (d c : Nat) : mX11_placeOf [.int (nI d), .int (nI c)] (qm I J e) = some (some (.int (nI (6 * d + c))), qm I J e) := by
  simp only [bX11_placeOf, eX11_placeOf_0]
  rw [show (6 : Int32) = nI 6 from rfl, pk_mul, nI_add, Nat.mul_comm]
theorem fX0_keptSafe {N : Nat} (hN : N ≤ 6) (hI : I 3 5 = nI N) (b : Int32) : mX0_keptSafe [.ref 3, .int b] (qm I J e) = some (some (.int (qKs (I 11) b N)), qm I J e) := by
  rw [bX0_keptSafe, eX0_keptSafe_0]
  refine Eq.trans (q_for (fun n (y : Int32) => kX0_keptSafe 4 [some (.ref 3), none, some (.int y), some (.int (nI n))] [] (qm I J e)) N (fun n => qKs (I 11) b n) (fun n hn => ?_)) ?_
  · show kX0_keptSafe 4 _ _ _ = kX0_keptSafe 4 [_, _, some (.int (if _ then _ else _)), _] _ _
    rw [eX0_keptSafe_4, hI, if_pos (nI_lt hn (by omega)), eX0_keptSafe_12, q_in_nI (by omega) (by omega), nI_clamp (by omega)]
    simp only [Option.bind_some, Option.toList_some, Option.toList_none, List.nil_append, List.cons_append, q_ck_tt, Bool.and_true, Bool.true_and, if_true, if_false, reduceCtorEq]
    by_cases h0 : I 11 n = 0
    · rw [if_pos h0, if_pos h0, eX0_keptSafe_21, eX0_keptSafe_48, nI_1]
    · rw [if_neg h0, if_neg h0, eX0_keptSafe_32, q_in_nI (by omega) (by omega), nI_clamp (by omega)]
      simp only [Option.bind_some, Option.toList_some, Option.toList_none, List.nil_append, List.cons_append, q_ck_tt, Bool.and_true, Bool.true_and, if_true, if_false, reduceCtorEq]
      by_cases h1 : I 11 n = 1
      · rw [if_pos h1, if_pos h1, eX0_keptSafe_42, eX0_keptSafe_48, nI_1]
      · rw [if_neg h1, if_neg h1, eX0_keptSafe_48, nI_1]
  · show kX0_keptSafe 4 _ _ _ = _
    rw [eX0_keptSafe_4, hI, if_neg (nI_nlt (Nat.le_refl N) (by omega)), eX0_keptSafe_54]
theorem fX0_unsafeAt {N : Nat} (hN : N ≤ 6) (hI : I 3 5 = nI N) (b : Int32) : mX0_unsafeAt [.ref 3, .int b] (qm I J e) = some (some (.int (qKs (I 11) b N ^^^ b)), qm I J e) := by
  simp only [bX0_unsafeAt, eX0_unsafeAt_0, eX0_unsafeAt_5, fX0_keptSafe I J e hN hI, Option.bind_some, Option.toList_some, Option.toList_none, List.nil_append, List.cons_append, q_ck_tt, Bool.and_true, Bool.true_and, if_true, if_false, reduceCtorEq]
theorem fX0_readsAt {N : Nat} (hN : N ≤ 6) (hI : I 3 5 = nI N) (lv op fl : Int32) : mX0_readsAt [.ref 3, .int lv, .int op, .int fl] (qm I J e) = some (some (.int (qRa N (I 9) (I 10) lv op fl)), qm I J e) := by
  rw [bX0_readsAt, eX0_readsAt_0]
  refine Eq.trans (q_for (fun n (y : Int32) => kX0_readsAt 6 [some (.ref 3), some (.int lv), some (.int op), some (.int fl), some (.int y), some (.int (nI n))] [] (qm I J e)) N (fun n => qRo lv (I 9) (I 10) n) (fun n hn => ?_)) ?_
  · show kX0_readsAt 6 _ _ _ = kX0_readsAt 6 [_, _, _, _, some (.int (if _ then _ else _)), _] _ _
    rw [eX0_readsAt_6, hI, if_pos (nI_lt hn (by omega)), eX0_readsAt_15]
    cases hb : bt lv n with
    | false => rw [if_pos ((b_tst0 _ (by omega)).mpr hb), if_neg Bool.false_ne_true, eX0_readsAt_44, nI_1]
    | true =>
      rw [if_neg (fun c => by rw [(b_tst0 _ (by omega)).mp c] at hb; cases hb), if_pos rfl, eX0_readsAt_24, q_in_nI (by omega) (by omega), nI_clamp (by omega)]
      simp only [Option.bind_some, Option.toList_some, Option.toList_none, List.nil_append, List.cons_append, q_ck_tt, Bool.and_true, Bool.true_and, if_true, if_false, reduceCtorEq]
      rw [eX0_readsAt_44, nI_1]
  · show kX0_readsAt 6 _ _ _ = _
    rw [eX0_readsAt_6, hI, if_neg (nI_nlt (Nat.le_refl N) (by omega)), eX0_readsAt_50]
    rfl
theorem fX0_receiversAt {N : Nat} (hN : N ≤ 6) (hI : I 3 5 = nI N) (lv : Int32) : mX0_receiversAt [.ref 3, .int lv] (qm I J e) = some (some (.int (qRa N (I 9) (I 10) lv 0 0 &&& I 3 11)), qm I J e) := by
  simp only [bX0_receiversAt, eX0_receiversAt_0, eX0_receiversAt_7, fX0_readsAt I J e hN hI, Option.bind_some, Option.toList_some, Option.toList_none, List.nil_append, List.cons_append, q_ck_tt, Bool.and_true, Bool.true_and, if_true, if_false, reduceCtorEq]
theorem fX1_driversUp {D N : Nat} (hN : N ≤ 6) (hI : I 3 5 = nI N) (hD : D ≤ 4) (hId : I 3 0 = nI D) : mX1_driversUp [.ref 37, .ref 3] (qm I J e) = some (some (.int (qDu D N (I 11) (I 9) (I 38) (I 41))), qm I J e) := by
  rw [bX1_driversUp, eX1_driversUp_0]
  refine Eq.trans (q_for (fun n (y : Int32) => kX1_driversUp 4 [some (.ref 37), some (.ref 3), some (.int y), some (.int (nI n)), none] [] (qm I J e)) N (fun n => qUs (I 11) (I 9) n) (fun n hn => ?_)) ?_
  · show kX1_driversUp 4 _ _ _ = kX1_driversUp 4 [_, _, some (.int (if _ then _ else _)), _, _] _ _
    rw [eX1_driversUp_4, hI, if_pos (nI_lt hn (by omega)), eX1_driversUp_12, q_in_nI (by omega) (by omega), nI_clamp (by omega)]
    simp only [Option.bind_some, Option.toList_some, Option.toList_none, List.nil_append, List.cons_append, q_ck_tt, Bool.and_true, Bool.true_and, if_true, if_false, reduceCtorEq]
    by_cases h1 : I 11 n = 1
    · rw [if_pos h1, if_pos h1, eX1_driversUp_22, q_in_nI (by omega) (by omega), nI_clamp (by omega)]
      simp only [Option.bind_some, Option.toList_some, Option.toList_none, List.nil_append, List.cons_append, q_ck_tt, Bool.and_true, Bool.true_and, if_true, if_false, reduceCtorEq]
      rw [eX1_driversUp_31, nI_1]
    · rw [if_neg h1, if_neg h1, eX1_driversUp_31, nI_1]
  · show kX1_driversUp 4 _ _ _ = _
    rw [eX1_driversUp_4, hI, if_neg (nI_nlt (Nat.le_refl N) (by omega)), eX1_driversUp_37]
    refine Eq.trans (q_for (fun d (y : Int32) => kX1_driversUp 39 [some (.ref 37), some (.ref 3), some (.int y), some (.int (nI d)), none] [] (qm I J e)) D (fun d => qUd (I 38) (I 41) (qUs (I 11) (I 9) N) d) (fun d hd => ?_)) ?_
    · show kX1_driversUp 39 _ _ _ = kX1_driversUp 39 [_, _, some (.int (if _ then _ else _)), _, _] _ _
      rw [eX1_driversUp_39, hId, if_pos (nI_lt hd (by omega)), eX1_driversUp_47, q_in_nI (by omega) (by omega), nI_clamp (by omega)]
      simp only [Option.bind_some, Option.toList_some, Option.toList_none, List.nil_append, List.cons_append, q_ck_tt, Bool.and_true, Bool.true_and, if_true, if_false, reduceCtorEq]
      by_cases h1 : I 38 d = 0
      · rw [if_pos h1, if_pos h1, eX1_driversUp_56, show (0 : Int32) = nI 0 from rfl, fX11_placeOf]
        simp only [Option.bind_some, Option.toList_some, Option.toList_none, List.nil_append, List.cons_append, q_ck_tt, Bool.and_true, Bool.true_and, if_true, if_false, reduceCtorEq]
        rw [eX1_driversUp_61, q_in_nI (by omega) (by omega), nI_clamp (by omega)]
        simp only [Option.bind_some, Option.toList_some, Option.toList_none, List.nil_append, List.cons_append, q_ck_tt, Bool.and_true, Bool.true_and, if_true, if_false, reduceCtorEq]
        rw [eX1_driversUp_81, eX1_driversUp_83, nI_1, Nat.add_zero]
      · rw [if_neg h1, if_neg h1, eX1_driversUp_83, nI_1]
    · show kX1_driversUp 39 _ _ _ = _
      rw [eX1_driversUp_39, hId, if_neg (nI_nlt (Nat.le_refl D) (by omega)), eX1_driversUp_89]
      rfl
theorem fX1_driven {D N : Nat} (hN : N ≤ 6) (hI : I 3 5 = nI N) (hD : D ≤ 4) (hId : I 3 0 = nI D) : mX1_driven [.ref 37, .ref 3] (qm I J e) = some (some (.int (qB N (fun n => decide ((I 9 n &&& (qDu D N (I 11) (I 9) (I 38) (I 41) ^^^ (-1))) = 0)))), qm I J e) := by
  rw [bX1_driven, eX1_driven_0, fX1_driversUp I J e hN hI hD hId]
  simp only [Option.bind_some, Option.toList_some, Option.toList_none, List.nil_append, List.cons_append, q_ck_tt, Bool.and_true, Bool.true_and, if_true, if_false, reduceCtorEq, eX1_driven_5]
  refine Eq.trans (q_for (fun n (y : Int32) => kX1_driven 11 [none, some (.ref 3), some (.int (qDu D N (I 11) (I 9) (I 38) (I 41))), some (.int y), some (.int (nI n))] [] (qm I J e)) N (fun n => qB n (fun n => decide ((I 9 n &&& (qDu D N (I 11) (I 9) (I 38) (I 41) ^^^ (-1))) = 0))) (fun n hn => ?_)) ?_
  · show kX1_driven 11 _ _ _ = kX1_driven 11 _ _ _
    rw [eX1_driven_11, hI, if_pos (nI_lt hn (by omega)), eX1_driven_20, q_in_nI (by omega) (by omega), nI_clamp (by omega), qB_succ]
    simp only [Option.bind_some, Option.toList_some, Option.toList_none, List.nil_append, List.cons_append, q_ck_tt, Bool.and_true, Bool.true_and, if_true, if_false, reduceCtorEq]
    by_cases h1 : (I 9 n &&& (qDu D N (I 11) (I 9) (I 38) (I 41) ^^^ (-1))) = 0
    · rw [if_pos h1, decide_eq_true h1, if_pos rfl, eX1_driven_34, eX1_driven_41, nI_1]
    · rw [if_neg h1, decide_eq_false h1, if_neg Bool.false_ne_true, q_or0, eX1_driven_41, nI_1]
  · show kX1_driven 11 _ _ _ = _
    rw [eX1_driven_11, hI, if_neg (nI_nlt (Nat.le_refl N) (by omega)), eX1_driven_47]
theorem fX1_fighting {D N : Nat} (hN : N ≤ 6) (hI : I 3 5 = nI N) (hD : D ≤ 4) (hId : I 3 0 = nI D) : mX1_fighting [.ref 37, .ref 3] (qm I J e) = some (some (.int (qB N (fun n => !decide ((I 9 n &&& (qDu D N (I 11) (I 9) (I 38) (I 41) ^^^ (-1))) = 0) && !decide ((I 9 n &&& qDu D N (I 11) (I 9) (I 38) (I 41)) = 0)))), qm I J e) := by
  rw [bX1_fighting, eX1_fighting_0, fX1_driversUp I J e hN hI hD hId]
  simp only [Option.bind_some, Option.toList_some, Option.toList_none, List.nil_append, List.cons_append, q_ck_tt, Bool.and_true, Bool.true_and, if_true, if_false, reduceCtorEq, eX1_fighting_5]
  refine Eq.trans (q_for (fun n (y : Int32) => kX1_fighting 11 [none, some (.ref 3), some (.int (qDu D N (I 11) (I 9) (I 38) (I 41))), some (.int y), some (.int (nI n))] [] (qm I J e)) N (fun n => qB n (fun n => !decide ((I 9 n &&& (qDu D N (I 11) (I 9) (I 38) (I 41) ^^^ (-1))) = 0) && !decide ((I 9 n &&& qDu D N (I 11) (I 9) (I 38) (I 41)) = 0))) (fun n hn => ?_)) ?_
  · show kX1_fighting 11 _ _ _ = kX1_fighting 11 _ _ _
    rw [eX1_fighting_11, hI, if_pos (nI_lt hn (by omega)), eX1_fighting_20, q_in_nI (by omega) (by omega), nI_clamp (by omega), qB_succ]
    simp only [Option.bind_some, Option.toList_some, Option.toList_none, List.nil_append, List.cons_append, q_ck_tt, Bool.and_true, Bool.true_and, if_true, if_false, reduceCtorEq]
    by_cases h1 : (I 9 n &&& (qDu D N (I 11) (I 9) (I 38) (I 41) ^^^ (-1))) = 0
    · rw [if_pos h1, decide_eq_true h1, if_neg (by simp), q_or0, eX1_fighting_53, nI_1]
    · rw [if_neg h1, decide_eq_false h1, eX1_fighting_34, q_in_nI (by omega) (by omega), nI_clamp (by omega)]
      simp only [Option.bind_some, Option.toList_some, Option.toList_none, List.nil_append, List.cons_append, q_ck_tt, Bool.and_true, Bool.true_and, if_true, if_false, reduceCtorEq]
      by_cases h2 : (I 9 n &&& qDu D N (I 11) (I 9) (I 38) (I 41)) = 0
      · rw [if_pos h2, decide_eq_true h2, if_neg (by simp), q_or0, eX1_fighting_53, nI_1]
      · rw [if_neg h2, decide_eq_false h2, if_pos (show (!false && !false) = true from rfl), eX1_fighting_46, eX1_fighting_53, nI_1]
  · show kX1_fighting 11 _ _ _ = _
    rw [eX1_fighting_11, hI, if_neg (nI_nlt (Nat.le_refl N) (by omega)), eX1_fighting_59]
/-- whether an open cell reads 1 -/
def qFl (S A : Nat → Int32) (sz : Nat) (nt : Nat → Int32) (ck : Int32) (x : Nat) : Bool := decide ((0 : Int32) < (qEs S A (qAs x (nt x) ck) sz).getD 0 0)
theorem fX0_floatingAt {sz : Nat} (hsz : sz ≤ 300) (hI : I 14 2 = nI sz) {S A : Nat → Int32} (hF : q_Fm (I 15) S A sz) (h1 : qdep S sz ≤ 1) (op ck : Int32) : ∃ v, mX0_floatingAt [.ref 3, .int op, .int ck] (qm I J e) = some (some (.int (qB 24 (fun x => bt op x && qFl S A sz (I 12) ck x))), qm (va_up I 16 v) J e) := by
  have hl : ∀ (k x : Nat) (v : Nat → Int32), x + k = 24 → ∃ v', kX0_floatingAt 5 [some (.ref 3), some (.int op), some (.int ck), some (.int (qB x (fun x => bt op x && qFl S A sz (I 12) ck x))), some (.int (nI x))] [] (qm (va_up I 16 v) J e) = some (some (.int (qB 24 (fun x => bt op x && qFl S A sz (I 12) ck x))), qm (va_up I 16 v') J e) := by
    intro k
    induction k with
    | zero =>
      intro x v hx
      have hx : x = 24 := by omega
      subst hx
      exact ⟨v, by rw [eX0_floatingAt_5, show (24 : Int32) = nI 24 from rfl, if_neg (nI_nlt (Nat.le_refl 24) (by omega)), eX0_floatingAt_61]⟩
    | succ k ih =>
      intro x v hx
      rw [eX0_floatingAt_5, show (24 : Int32) = nI 24 from rfl, if_pos (nI_lt (by omega) (by omega)), eX0_floatingAt_12]
      by_cases h0 : (op >>> (nI x &&& 31)) = 0
      · refine ⟨v, ?_⟩
        rw [if_pos h0, eX0_floatingAt_61]
        have hz := (b_shr0 op (by omega)).mp h0
        congr 4
        apply b_ext
        intro i hi
        rw [b_qB _ (by omega) hi, b_qB _ (by omega) hi]
        by_cases hix : i < x
        · rw [decide_eq_true hix, decide_eq_true (by omega)]
        · rw [decide_eq_false hix, hz i (by omega)]; simp
      · rw [if_neg h0, eX0_floatingAt_19]
        cases hb : bt op x with
        | false =>
          obtain ⟨v', h2⟩ := ih (x + 1) v (by omega)
          refine ⟨v', ?_⟩
          rw [if_pos ((b_tst0 _ (by omega)).mpr hb), eX0_floatingAt_55, nI_1, ← h2, qB_succ, hb, Bool.false_and, if_neg Bool.false_ne_true, q_or0]
        | true =>
          rw [if_neg (fun c => by rw [(b_tst0 _ (by omega)).mp c] at hb; cases hb), eX0_floatingAt_28, q_in_nI (by omega) (by omega), nI_clamp (by omega)]
          obtain ⟨w, hw⟩ := fX4_value (va_up I 16 v) J e hsz hI (S := S) (A := A) hF h1 (x := x) (by omega) (I 12 x) ck
          rw [show (va_up I 16 v) 12 x = I 12 x from rfl, hw, va_up_up]
          simp only [Option.bind_some, Option.toList_some, Option.toList_none, List.nil_append, List.cons_append, q_ck_tt, Bool.and_true, Bool.true_and, if_true, if_false, reduceCtorEq]
          obtain ⟨v', h2⟩ := ih (x + 1) w (by omega)
          refine ⟨v', ?_⟩
          rw [eX0_floatingAt_45, ← h2, qB_succ, hb, Bool.true_and]
          by_cases hp : (0 : Int32) < (qEs S A (qAs x (I 12 x) ck) sz).getD 0 0
          · rw [if_pos hp, eX0_floatingAt_48, eX0_floatingAt_55, nI_1, show qFl S A sz (I 12) ck x = true from decide_eq_true hp, if_pos rfl]
          · rw [if_neg hp, eX0_floatingAt_55, nI_1, show qFl S A sz (I 12) ck x = false from decide_eq_false hp, if_neg Bool.false_ne_true, q_or0]
  obtain ⟨v', h⟩ := hl 24 0 (I 16) (by omega)
  rw [va_up_eq rfl] at h
  exact ⟨v', by rw [bX0_floatingAt, eX0_floatingAt_0]; exact h⟩
end CB
