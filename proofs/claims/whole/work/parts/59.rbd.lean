/-! ===== the reference: what drives, what is read ===== -/
theorem q_d6 : ∀ x, x < 24 → nI x / 6 = nI (x / 6) ∧ nI x % 6 = nI (x % 6) := by decide +kernel
theorem qFo_cong {low : Bool} {x : Int32} {dr dr' : Nat → Int32} : ∀ k, (∀ o, o < k → dr o = dr' o) → qFo low x dr k = qFo low x dr' k := by
  intro k
  induction k with
  | zero => intro _; rfl
  | succ k ih =>
    intro h
    show (if bt x k then (if low then qFo low x dr k &&& dr k else qFo low x dr k ||| dr k) else qFo low x dr k) = (if bt x k then (if low then qFo low x dr' k &&& dr' k else qFo low x dr' k ||| dr' k) else qFo low x dr' k)
    rw [ih (fun o ho => h o (by omega)), h k (by omega)]
theorem qdr_cong {f d d' : Nat → Int32} {n : Nat} (h : d n = d' n) : qdr f d n = qdr f d' n := by unfold qdr; rw [h]
theorem qLvI_cong {N : Nat} {f d d' : Nat → Int32} (h : ∀ n, n < N → d n = d' n) (n : Nat) : qLvI N f d n = qLvI N f d' n := by
  unfold qLvI
  exact qFo_cong N (fun o ho => qdr_cong (h o ho))
/-- what a driver has -/
def qdh (f sf : Nat → Int32) (x n : Nat) : Bool := if f (3 + x / 6) = 0 then bt (f (15 + x / 6)) (x % 6) else decide (sf n = 1)
def qf2 (a b : Bool) : Int32 := if a then (if b then 3 else 2) else (if b then 1 else 0)
def qdo (nt rv : Nat → Int32) (n x : Nat) : Bool := decide (nt x = nI n) && decide (rv x = 0)
section RB
variable (I : Nat → Nat → Int32) (J : Nat → Nat → Int64) (e : QP)
theorem fX12_isDriverOf {x n : Nat} (hx : x < 24) : mX12_isDriverOf [.ref 64, .int (nI x), .int (nI n)] (qm I J e) = some (some (.int (qb (qdo (I 86) (I 87) n x))), qm I J e) := by
  rw [bX12_isDriverOf, eX12_isDriverOf_0, q_in_nI hx (by omega), nI_clamp (by omega)]
  simp only [Option.bind_some, Option.toList_some, Option.toList_none, List.nil_append, List.cons_append, q_ck_tt, Bool.and_true, Bool.true_and, if_true, if_false, reduceCtorEq]
  unfold qdo
  by_cases h1 : I 86 x = nI n
  · rw [if_pos h1, decide_eq_true h1, eX12_isDriverOf_10, q_in_nI hx (by omega), nI_clamp (by omega)]
    simp only [Option.bind_some, Option.toList_some, Option.toList_none, List.nil_append, List.cons_append, q_ck_tt, Bool.and_true, Bool.true_and, if_true, if_false, reduceCtorEq]
    by_cases h2 : I 87 x = 0
    · rw [if_pos h2, decide_eq_true h2, eX12_isDriverOf_19, eX12_isDriverOf_24]; rfl
    · rw [if_neg h2, decide_eq_false h2, eX12_isDriverOf_23, eX12_isDriverOf_24]; rfl
  · rw [if_neg h1, decide_eq_false h1, eX12_isDriverOf_23, eX12_isDriverOf_24]; rfl
theorem fX12_driverHas {x n : Nat} (hx : x < 24) (hn : n < 6) (hnt : I 86 x = nI n) (hs : I 88 n = -1 ∨ I 88 n = 0 ∨ I 88 n = 1) : mX12_driverHas [.ref 64, .int (nI x)] (qm I J e) = some (some (.int (qb (qdh (I 94) (I 88) x n))), qm I J e) := by
  obtain ⟨d1, d2⟩ := q_d6 x hx
  rw [bX12_driverHas, eX12_driverHas_0, d1, show (3 : Int32) = nI 3 from rfl, nI_add, q_in_nI (by omega) (by omega), nI_clamp (by omega)]
  simp only [Option.bind_some, Option.toList_some, Option.toList_none, List.nil_append, List.cons_append, q_ck_tt, Bool.and_true, Bool.true_and, if_true, if_false, reduceCtorEq]
  unfold qdh
  by_cases h1 : I 94 (3 + x / 6) = 0
  · rw [if_pos h1, if_pos h1, eX12_driverHas_16, d2, show (15 : Int32) = nI 15 from rfl, nI_add, q_in_nI (by omega) (by omega), nI_clamp (by omega), b_tst _ (by omega)]
    simp only [Option.bind_some, Option.toList_some, Option.toList_none, List.nil_append, List.cons_append, q_ck_tt, Bool.and_true, Bool.true_and, if_true, if_false, reduceCtorEq]
    rw [eX12_driverHas_50]
  · rw [if_neg h1, if_neg h1, eX12_driverHas_35, q_in_nI hx (by omega), nI_clamp (by omega), hnt, q_in_nI hn (by omega), nI_clamp (by omega), fX12_greater]
    simp only [Option.bind_some, Option.toList_some, Option.toList_none, List.nil_append, List.cons_append, q_ck_tt, Bool.and_true, Bool.true_and, if_true, if_false, reduceCtorEq]
    rw [eX12_driverHas_50v1]
    rcases hs with h | h | h <;> rw [h] <;> rfl
theorem fX12_isFighting {D N n : Nat} (hD : D ≤ 4) (hId : I 64 50 = nI D) (hN : N ≤ 6) (hn : n < N) (hs : I 88 n = -1 ∨ I 88 n = 0 ∨ I 88 n = 1) : mX12_isFighting [.ref 64, .int (nI n)] (qm I J e) = some (some (.int (qb (qAny (6 * D) (fun x => qdo (I 86) (I 87) n x && qdh (I 94) (I 88) x n) && qAny (6 * D) (fun x => qdo (I 86) (I 87) n x && !qdh (I 94) (I 88) x n)))), qm I J e) := by
  rw [bX12_isFighting, eX12_isFighting_0]
  have hq : ∀ a b : Bool, qf2 a b = 3 ↔ (a && b) = true := by decide
  refine Eq.trans (q_for (fun x (y : Int32) => kX12_isFighting 4 [some (.ref 64), some (.int (nI n)), some (.int y), some (.int (nI x))] [] (qm I J e)) (6 * D) (fun k => qf2 (qAny k (fun x => qdo (I 86) (I 87) n x && qdh (I 94) (I 88) x n)) (qAny k (fun x => qdo (I 86) (I 87) n x && !qdh (I 94) (I 88) x n))) (fun x hx => ?_)) ?_
  · show kX12_isFighting 4 _ _ _ = kX12_isFighting 4 [_, _, some (.int (qf2 (qAny x _ || (qdo (I 86) (I 87) n x && qdh (I 94) (I 88) x n)) (qAny x _ || (qdo (I 86) (I 87) n x && !qdh (I 94) (I 88) x n)))), _] _ _
    rw [eX12_isFighting_4, hId, show (6 : Int32) = nI 6 from rfl, pk_mul, if_pos (nI_lt hx (by omega)), eX12_isFighting_15, fX12_isDriverOf I J e (by omega)]
    simp only [Option.bind_some, Option.toList_some, Option.toList_none, List.nil_append, List.cons_append, q_ck_tt, Bool.and_true, Bool.true_and, if_true, if_false, reduceCtorEq]
    rw [eX12_isFighting_21]
    cases hd : qdo (I 86) (I 87) n x with
    | false => rw [if_pos qb_f, eX12_isFighting_34, nI_1]; simp only [Bool.false_and, Bool.or_false]
    | true =>
      have hnt : I 86 x = nI n := by unfold qdo at hd; rw [Bool.and_eq_true] at hd; exact of_decide_eq_true hd.1
      rw [if_neg (by decide), eX12_isFighting_24, fX12_driverHas I J e (by omega) (by omega) hnt hs]
      simp only [Option.bind_some, Option.toList_some, Option.toList_none, List.nil_append, List.cons_append, q_ck_tt, Bool.and_true, Bool.true_and, if_true, if_false, reduceCtorEq]
      rw [eX12_isFighting_31, eX12_isFighting_34, nI_1]
      generalize qAny x (fun x => qdo (I 86) (I 87) n x && qdh (I 94) (I 88) x n) = a
      generalize qAny x (fun x => qdo (I 86) (I 87) n x && !qdh (I 94) (I 88) x n) = b
      have hz : ∀ a b v : Bool, qf2 a b ||| ((1 : Int32) <<< (qb v &&& 31)) = qf2 (a || v) (b || !v) := by decide
      rw [hz]
  · show kX12_isFighting 4 _ _ _ = _
    rw [eX12_isFighting_4, hId, show (6 : Int32) = nI 6 from rfl, pk_mul, if_neg (nI_nlt (Nat.le_refl _) (by omega)), eX12_isFighting_40]
    generalize qAny (6 * D) (fun x => qdo (I 86) (I 87) n x && qdh (I 94) (I 88) x n) = a
    generalize qAny (6 * D) (fun x => qdo (I 86) (I 87) n x && !qdh (I 94) (I 88) x n) = b
    cases hab : (a && b) with
    | true => rw [if_pos ((hq a b).mpr hab), eX12_isFighting_45, eX12_isFighting_50]; rfl
    | false => rw [if_neg (fun c => by rw [(hq a b).mp c] at hab; cases hab), eX12_isFighting_49, eX12_isFighting_50]; rfl
theorem fX12_layDriven {D N : Nat} (hD : D ≤ 4) (hId : I 64 50 = nI D) (hN : N ≤ 6) (hI : I 64 51 = nI N) (hs : ∀ n, n < N → I 88 n = -1 ∨ I 88 n = 0 ∨ I 88 n = 1) : ∃ d' l', mX12_layDriven [.ref 64] (qm I J e) = some (none, qm (va_up (va_up I 99 d') 100 l') J e) ∧
    ∀ n, n < N → d' n = qdr (I 94) (fun n => qb (!qAny (6 * D) (fun x => qdo (I 86) (I 87) n x && !qdh (I 94) (I 88) x n))) n ∧ l' n = qLvI N (I 94) (fun n => qb (!qAny (6 * D) (fun x => qdo (I 86) (I 87) n x && !qdh (I 94) (I 88) x n))) n := by
  generalize hdd : (fun n => qb (!qAny (6 * D) (fun x => qdo (I 86) (I 87) n x && !qdh (I 94) (I 88) x n))) = dd
  have hin : ∀ (n : Nat) (g : Nat → Int32), n < N → kX12_layDriven 19 [some (.ref 64), some (.int (nI n)), some (.int (nI 0))] [] (qm (va_up I 99 (va_up g n 1)) J e) = kX12_layDriven 2 [some (.ref 64), some (.int (nI (n + 1))), none] [] (qm (va_up I 99 (va_up g n (dd n))) J e) := by
    intro n g hn
    refine Eq.trans (q_for (fun x (y : Bool) => kX12_layDriven 19 [some (.ref 64), some (.int (nI n)), some (.int (nI x))] [] (qm (va_up I 99 (va_up g n (qb (!y)))) J e)) (6 * D) (fun k => qAny k (fun x => qdo (I 86) (I 87) n x && !qdh (I 94) (I 88) x n)) (fun x hx => ?_)) ?_
    · show kX12_layDriven 19 _ _ _ = kX12_layDriven 19 _ _ (qm (va_up I 99 (va_up g n (qb (!(qAny x _ || (qdo (I 86) (I 87) n x && !qdh (I 94) (I 88) x n)))))) J e)
      generalize qAny x (fun x => qdo (I 86) (I 87) n x && !qdh (I 94) (I 88) x n) = b
      generalize hG : va_up I 99 (va_up g n (qb (!b))) = G
      have g1 : G 64 50 = nI D := by rw [← hG]; exact hId
      have g86 : G 86 = I 86 := by rw [← hG]; rfl
      have g87 : G 87 = I 87 := by rw [← hG]; rfl
      have g88 : G 88 = I 88 := by rw [← hG]; rfl
      have g94 : G 94 = I 94 := by rw [← hG]; rfl
      have g99 : G 99 n = qb (!b) := by rw [← hG]; show va_up g n (qb (!b)) n = _; rw [va_up_at, if_pos rfl]
      rw [eX12_layDriven_19, g1, show (6 : Int32) = nI 6 from rfl, pk_mul, if_pos (nI_lt hx (by omega)), eX12_layDriven_30, fX12_isDriverOf G J e (by omega), g86, g87]
      simp only [Option.bind_some, Option.toList_some, Option.toList_none, List.nil_append, List.cons_append, q_ck_tt, Bool.and_true, Bool.true_and, if_true, if_false, reduceCtorEq]
      rw [eX12_layDriven_36]
      cases hd : qdo (I 86) (I 87) n x with
      | false => rw [if_pos qb_f, eX12_layDriven_53, nI_1, ← hG]; simp only [Bool.false_and, Bool.or_false]
      | true =>
        have hnt : G 86 x = nI n := by unfold qdo at hd; rw [Bool.and_eq_true] at hd; rw [g86]; exact of_decide_eq_true hd.1
        rw [if_neg (by decide), eX12_layDriven_39, q_in_nI (by omega) (by omega), nI_clamp (by omega), fX12_driverHas G J e (by omega) (by omega) hnt (by rw [g88]; exact hs n hn), g88, g94, g99]
        simp only [Option.bind_some, Option.toList_some, Option.toList_none, List.nil_append, List.cons_append, q_ck_tt, Bool.and_true, Bool.true_and, if_true, if_false, reduceCtorEq]
        rw [eX12_layDriven_51, q_in_nI (by omega) (by omega), nI_clamp (by omega)]
        simp only [Option.bind_some, Option.toList_some, Option.toList_none, List.nil_append, List.cons_append, q_ck_tt, Bool.and_true, Bool.true_and, if_true, if_false, reduceCtorEq]
        rw [eX12_layDriven_53, nI_1, ← hG, q_up_up, va_up_up]
        congr 4
        cases b <;> cases qdh (I 94) (I 88) x n <;> rfl
    · show kX12_layDriven 19 _ _ _ = _
      rw [eX12_layDriven_19, show (va_up I 99 _) 64 50 = nI D from hId, show (6 : Int32) = nI 6 from rfl, pk_mul, if_neg (nI_nlt (Nat.le_refl _) (by omega)), eX12_layDriven_59, nI_1, ← hdd]
  have hout : kX12_layDriven 2 [some (.ref 64), some (.int (nI 0)), none] [] (qm I J e) = kX12_layDriven 2 [some (.ref 64), some (.int (nI N)), none] [] (qm (va_up I 99 (fa_fill dd (I 99) N)) J e) := by
    have hf := q_for (fun n (I' : Nat → Nat → Int32) => kX12_layDriven 2 [some (.ref 64), some (.int (nI n)), none] [] (qm I' J e)) N (fun n => va_up I 99 (fa_fill dd (I 99) n)) (fun n hn => ?_)
    · rw [fa_fill_0, va_up_eq rfl] at hf
      exact hf
    · show kX12_layDriven 2 _ _ _ = kX12_layDriven 2 _ _ _
      rw [eX12_layDriven_2, show (va_up I 99 _) 64 51 = nI N from hI, if_pos (nI_lt hn (by omega)), eX12_layDriven_10, q_in_nI (by omega) (by omega), nI_clamp (by omega), q_up_up]
      simp only [Option.bind_some, Option.toList_some, Option.toList_none, List.nil_append, List.cons_append, q_ck_tt, Bool.and_true, Bool.true_and, if_true, if_false, reduceCtorEq]
      refine Eq.trans (hin n _ hn) ?_
      rw [← fa_fill_succ]
      rfl
  have h2 : mX12_layLevels [.ref 64] (qm (va_up I 99 (fa_fill dd (I 99) N)) J e) = some (none, qm (va_up (va_up (va_up I 99 (fa_fill dd (I 99) N)) 99 (fa_fill (qdr (I 94) (fa_fill dd (I 99) N)) (fa_fill dd (I 99) N) N)) 100 (fa_fill (qLvI N (I 94) (fa_fill dd (I 99) N)) (I 100) N)) J e) := fX12_layLevels (va_up I 99 (fa_fill dd (I 99) N)) J e hN hI
  refine ⟨fa_fill (qdr (I 94) (fa_fill dd (I 99) N)) (fa_fill dd (I 99) N) N, fa_fill (qLvI N (I 94) (fa_fill dd (I 99) N)) (I 100) N, ?_, ?_⟩
  · rw [bX12_layDriven, eX12_layDriven_0]
    refine Eq.trans hout ?_
    rw [eX12_layDriven_2, show (va_up I 99 (fa_fill dd (I 99) N)) 64 51 = nI N from hI, if_neg (nI_nlt (Nat.le_refl _) (by omega)), eX12_layDriven_65, h2, va_up_up]
    simp only [Option.bind_some, Option.toList_some, Option.toList_none, List.nil_append, List.cons_append, q_ck_tt, Bool.and_true, Bool.true_and, if_true, if_false, reduceCtorEq]
    rw [eX12_layDriven_69]
  · intro n hn
    rw [fa_fill_in hn, fa_fill_in hn]
    exact ⟨qdr_cong (fa_fill_in hn), qLvI_cong (fun o ho => fa_fill_in ho) n⟩
/-- what a cell reads, the levels being laid -/
def qRd1 (f lv nt : Nat → Int32) (fl : Nat → Bool) (x n : Nat) : Int32 := if bt (f (25 + x / 6)) (x % 6) then qb (fl x) else lv n
theorem fX12_readsAt {sz : Nat} (hsz : sz ≤ 300) (hI : I 64 18 = nI sz) (hn : I 64 27 = -1) (hf : I 64 25 = 0 ∧ sz = 0 ∨ I 64 25 = 1 ∧ qdep (I 69) sz = 1) {C : Nat → Int32} (hF : q_Fm C (I 69) (I 70) sz) {x n : Nat} (hx : x < 24) (hnt : I 86 x = nI n) (hn6 : n < 6) (ck : Int32) : ∃ a v, mX12_readsAt [.ref 64, .int (nI x), .int ck] (qm I J e) = some (some (.int (qRd1 (I 94) (I 100) (I 86) (qFl (I 69) (I 70) sz (I 86) ck) x n)), qm (va_up (va_up I 73 a) 72 v) J e) := by
  obtain ⟨d1, d2⟩ := q_d6 x hx
  unfold qRd1
  rw [bX12_readsAt, eX12_readsAt_0, q_in_nI hx (by omega), nI_clamp (by omega), hnt, if_neg (nI_pos (by omega)), eX12_readsAt_11, d1, d2, show (25 : Int32) = nI 25 from rfl, nI_add, q_in_nI (by omega) (by omega), nI_clamp (by omega), fX12_has I J e _ (by omega)]
  simp only [Option.bind_some, Option.toList_some, Option.toList_none, List.nil_append, List.cons_append, q_ck_tt, Bool.and_true, Bool.true_and, if_true, if_false, reduceCtorEq]
  rw [eX12_readsAt_30]
  cases hb : bt (I 94 (25 + x / 6)) (x % 6) with
  | false =>
    refine ⟨I 73, I 72, ?_⟩
    rw [if_pos qb_f, eX12_readsAt_49, q_in_nI hx (by omega), nI_clamp (by omega), hnt, q_in_nI hn6 (by omega), nI_clamp (by omega)]
    simp only [Option.bind_some, Option.toList_some, Option.toList_none, List.nil_append, List.cons_append, q_ck_tt, Bool.and_true, Bool.true_and, if_true, if_false, reduceCtorEq]
    rw [eX12_readsAt_60, va_up_eq (f := I) (p := 73) rfl, va_up_eq (f := I) (p := 72) rfl]
  | true =>
    have e6 : 6 * (x / 6) + x % 6 = x := by omega
    obtain ⟨a, v, h⟩ := fX12_floatsAt I J e hsz hI hn hf hF (d := x / 6) (c := x % 6) (by omega) (by omega) ck
    refine ⟨a, v, ?_⟩
    rw [if_neg (by decide), eX12_readsAt_33, d1, d2, h]
    simp only [Option.bind_some, Option.toList_some, Option.toList_none, List.nil_append, List.cons_append, q_ck_tt, Bool.and_true, Bool.true_and, if_true, if_false, reduceCtorEq]
    rw [eX12_readsAt_46, eX12_readsAt_60, e6]
    rfl
end RB
