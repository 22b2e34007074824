/-! ===== a clock: the class ===== -/
theorem fa_same {α : Type} {f g : Nat → α} {n : Nat} (h : f n = g n) : fa_fill f g (n + 1) = fa_fill f g n := by
  funext k
  unfold fa_fill
  by_cases h1 : k < n
  · rw [if_pos h1, if_pos (by omega)]
  · by_cases h2 : k = n
    · rw [if_pos (by omega), if_neg h1, h2, h]
    · rw [if_neg (by omega), if_neg h1]
theorem fa_next (f g : Nat → Int32) (n : Nat) : va_up (fa_fill f g n) n (f n) = fa_fill f g (n + 1) := fa_fill_succ f g n
theorem fa_next' {f g : Nat → Int32} {n : Nat} {x : Int32} (h : x = f n) : va_up (fa_fill f g n) n x = fa_fill f g (n + 1) := by rw [h]; exact fa_fill_succ f g n
theorem q_m2 {α : Type} (I : Nat → α) {p q : Nat} (h : p ≠ q) (a b a' b' : α) : va_up (va_up (va_up (va_up I p a) q b) p a') q b' = va_up (va_up I p a') q b' := by
  rw [va_up_comm (va_up I p a) (p := q) (q := p) (fun c => h c.symm), va_up_up, va_up_up]
/-- what is carried into a register, and what it becomes -/
def qSh (bits row : Nat → Int32) (t : Int32) : Nat → Int32
  | 0 => t
  | d + 1 => if bits d = 0 then qSh bits row t d else row d &&& 1
def qShr (bits row : Nat → Int32) (t : Int32) (d : Nat) : Int32 := if bits d = 0 then row d else (row d >>> ((1 : Int32) &&& 31)) ||| (qSh bits row t d <<< ((bits d - 1) &&& 31))
def qCap (rd : Int32) (od id cl : Nat → Int32) (d : Nat) : Int32 := if od d = 0 ∨ od d = 2 then (rd >>> (nI (6 * d) &&& 31)) &&& (((1 : Int32) <<< (cl d &&& 31)) - 1) else if od d = 1 ∧ ¬ id d < 0 then 2 * id d + 1 else 0
def qSd (s : Int32) : Int32 := (s * 137 + 71) % 1000
section TC
variable {I : Nat → Nat → Int32} {J : Nat → Nat → Int64} {e : QP}
theorem fX1_setOrder {d : Nat} (hd : d < 4) (v : Int32) : mX1_setOrder [.ref 37, .int (nI d), .int v] (qm I J e) = some (none, qm (va_up (va_up I 38 (va_up (I 38) d v)) 40 (va_up (I 40) d (if I 38 d = v then I 40 d else 0))) J e) := by
  have h4 : q_in (nI d) 4 = true := q_in_nI (by omega) (by omega)
  rw [bX1_setOrder, eX1_setOrder_0, h4, nI_clamp (by omega)]
  simp only [Option.bind_some, Option.toList_some, Option.toList_none, List.nil_append, List.cons_append, q_ck_tt, Bool.and_true, Bool.true_and, if_true, if_false, reduceCtorEq]
  by_cases h : I 38 d = v
  · rw [if_pos h, if_pos h, eX1_setOrder_24, va_up_eq (f := I 38) h, va_up_eq (f := I 40) (p := d) rfl, va_up_eq (f := I) (p := 38) rfl, va_up_eq (f := I) (p := 40) rfl]
  · rw [if_neg h, if_neg h, eX1_setOrder_10, h4, nI_clamp (by omega)]
    simp only [Option.bind_some, Option.toList_some, Option.toList_none, List.nil_append, List.cons_append, q_ck_tt, Bool.and_true, Bool.true_and, if_true, if_false, reduceCtorEq]
    rw [eX1_setOrder_24]
    rfl
theorem fX1_rest {D : Nat} (hD : D ≤ 4) (hI : I 3 0 = nI D) (hid : ∀ d, d < D → I 6 d = -1 ∨ ∃ k : Nat, k < 128 ∧ I 6 d = nI k) : mX1_rest [.ref 37, .ref 3] (qm I J e) = some (none, qm (va_up (va_up I 38 (fa_fill (fun d => qRs (I 6 d) (I 5 d)) (I 38) D)) 40 (fa_fill (fun d => if I 38 d = qRs (I 6 d) (I 5 d) then I 40 d else 0) (I 40) D)) J e) := by
  have hst : ∀ n, n < D → (fun n (M : Nat → Nat → Int32) => kX1_rest 2 [some (.ref 37), some (.ref 3), some (.int (nI n))] [] (qm M J e)) n (va_up (va_up I 38 (fa_fill (fun d => qRs (I 6 d) (I 5 d)) (I 38) n)) 40 (fa_fill (fun d => if I 38 d = qRs (I 6 d) (I 5 d) then I 40 d else 0) (I 40) n)) = (fun n (M : Nat → Nat → Int32) => kX1_rest 2 [some (.ref 37), some (.ref 3), some (.int (nI n))] [] (qm M J e)) (n + 1) (va_up (va_up I 38 (fa_fill (fun d => qRs (I 6 d) (I 5 d)) (I 38) (n + 1))) 40 (fa_fill (fun d => if I 38 d = qRs (I 6 d) (I 5 d) then I 40 d else 0) (I 40) (n + 1))) := by
    intro n hn
    show kX1_rest 2 _ _ _ = kX1_rest 2 _ _ _
    have hM : (va_up (va_up I 38 (fa_fill (fun d => qRs (I 6 d) (I 5 d)) (I 38) n)) 40 (fa_fill (fun d => if I 38 d = qRs (I 6 d) (I 5 d) then I 40 d else 0) (I 40) n)) 3 0 = nI D := hI
    have hro : ∀ M : Nat → Nat → Int32, M 6 = I 6 → M 5 = I 5 → mX1_restingOrder [.ref 3, .int (nI n)] (qm M J e) = some (some (.int (qRs (I 6 n) (I 5 n))), qm M J e) := by
      intro M h6 h5
      rw [fX1_restingOrder M J e (show n < 4 by omega) (by rw [h6]; exact hid n hn), h6, h5]
    rw [eX1_rest_2, hM, if_pos (nI_lt hn (by omega)), eX1_rest_10, hro _ (by rfl) (by rfl)]
    simp only [Option.bind_some, Option.toList_some, Option.toList_none, List.nil_append, List.cons_append, q_ck_tt, Bool.and_true, Bool.true_and, if_true, if_false, reduceCtorEq]
    rw [eX1_rest_17, fX1_setOrder (show n < 4 by omega)]
    simp only [Option.bind_some, Option.toList_some, Option.toList_none, List.nil_append, List.cons_append, q_ck_tt, Bool.and_true, Bool.true_and, if_true, if_false, reduceCtorEq]
    rw [eX1_rest_20, nI_1, q_m2 I (by decide)]
    congr 3
    · congr 1
      exact fa_next' rfl
    · refine fa_next' ?_
      show (if fa_fill (fun d => qRs (I 6 d) (I 5 d)) (I 38) n n = qRs (I 6 n) (I 5 n) then fa_fill (fun d => if I 38 d = qRs (I 6 d) (I 5 d) then I 40 d else 0) (I 40) n n else 0) = _
      rw [fa_fill_out (Nat.le_refl _), fa_fill_out (Nat.le_refl _)]
  have hf := q_for (fun n (M : Nat → Nat → Int32) => kX1_rest 2 [some (.ref 37), some (.ref 3), some (.int (nI n))] [] (qm M J e)) D (fun n => va_up (va_up I 38 (fa_fill (fun d => qRs (I 6 d) (I 5 d)) (I 38) n)) 40 (fa_fill (fun d => if I 38 d = qRs (I 6 d) (I 5 d) then I 40 d else 0) (I 40) n)) hst
  rw [fa_fill_0, fa_fill_0, va_up_eq (f := I) (p := 38) rfl, va_up_eq (f := I) (p := 40) rfl] at hf
  rw [bX1_rest, eX1_rest_0]
  refine Eq.trans hf ?_
  show kX1_rest 2 _ _ _ = _
  have hM : (va_up (va_up I 38 (fa_fill (fun d => qRs (I 6 d) (I 5 d)) (I 38) D)) 40 (fa_fill (fun d => if I 38 d = qRs (I 6 d) (I 5 d) then I 40 d else 0) (I 40) D)) 3 0 = nI D := hI
  rw [eX1_rest_2, hM, if_neg (nI_nlt (Nat.le_refl _) (by omega)), eX1_rest_26]
theorem fX1_giveOrders {D : Nat} (hD : D ≤ 4) (hI : I 3 0 = nI D) : mX1_giveOrders [.ref 37, .ref 3] (qm I J e) = some (none, qm (va_up (va_up I 38 (fa_fill (I 39) (I 38) D)) 40 (fa_fill (fun d => if I 38 d = I 39 d then I 40 d else 0) (I 40) D)) J e) := by
  have hst : ∀ n, n < D → (fun n (M : Nat → Nat → Int32) => kX1_giveOrders 2 [some (.ref 37), some (.ref 3), some (.int (nI n))] [] (qm M J e)) n (va_up (va_up I 38 (fa_fill (I 39) (I 38) n)) 40 (fa_fill (fun d => if I 38 d = I 39 d then I 40 d else 0) (I 40) n)) = (fun n (M : Nat → Nat → Int32) => kX1_giveOrders 2 [some (.ref 37), some (.ref 3), some (.int (nI n))] [] (qm M J e)) (n + 1) (va_up (va_up I 38 (fa_fill (I 39) (I 38) (n + 1))) 40 (fa_fill (fun d => if I 38 d = I 39 d then I 40 d else 0) (I 40) (n + 1))) := by
    intro n hn
    show kX1_giveOrders 2 _ _ _ = kX1_giveOrders 2 _ _ _
    have hM : (va_up (va_up I 38 (fa_fill (I 39) (I 38) n)) 40 (fa_fill (fun d => if I 38 d = I 39 d then I 40 d else 0) (I 40) n)) 3 0 = nI D := hI
    rw [eX1_giveOrders_2, hM, if_pos (nI_lt hn (by omega)), eX1_giveOrders_10, q_in_nI (show n < 4 by omega) (by omega), nI_clamp (by omega), fX1_setOrder (show n < 4 by omega)]
    simp only [Option.bind_some, Option.toList_some, Option.toList_none, List.nil_append, List.cons_append, q_ck_tt, Bool.and_true, Bool.true_and, if_true, if_false, reduceCtorEq]
    rw [eX1_giveOrders_21, nI_1, q_m2 I (by decide)]
    congr 3
    · congr 1
      exact fa_next' rfl
    · refine fa_next' ?_
      show (if fa_fill (I 39) (I 38) n n = I 39 n then fa_fill (fun d => if I 38 d = I 39 d then I 40 d else 0) (I 40) n n else 0) = _
      rw [fa_fill_out (Nat.le_refl _), fa_fill_out (Nat.le_refl _)]
  have hf := q_for (fun n (M : Nat → Nat → Int32) => kX1_giveOrders 2 [some (.ref 37), some (.ref 3), some (.int (nI n))] [] (qm M J e)) D (fun n => va_up (va_up I 38 (fa_fill (I 39) (I 38) n)) 40 (fa_fill (fun d => if I 38 d = I 39 d then I 40 d else 0) (I 40) n)) hst
  rw [fa_fill_0, fa_fill_0, va_up_eq (f := I) (p := 38) rfl, va_up_eq (f := I) (p := 40) rfl] at hf
  rw [bX1_giveOrders, eX1_giveOrders_0]
  refine Eq.trans hf ?_
  show kX1_giveOrders 2 _ _ _ = _
  have hM : (va_up (va_up I 38 (fa_fill (I 39) (I 38) D)) 40 (fa_fill (fun d => if I 38 d = I 39 d then I 40 d else 0) (I 40) D)) 3 0 = nI D := hI
  rw [eX1_giveOrders_2, hM, if_neg (nI_nlt (Nat.le_refl _) (by omega)), eX1_giveOrders_27]
theorem fX1_captureOrders {D : Nat} (hD : D ≤ 4) (hI : I 3 0 = nI D) : mX1_captureOrders [.ref 37, .ref 3] (qm I J e) = some (none, qm (va_up I 39 (fa_fill (fun _ => 1) (I 39) D)) J e) := by
  have hst : ∀ n, n < D → (fun n (M : Nat → Nat → Int32) => kX1_captureOrders 2 [some (.ref 37), some (.ref 3), some (.int (nI n))] [] (qm M J e)) n (va_up I 39 (fa_fill (fun _ => 1) (I 39) n)) = (fun n (M : Nat → Nat → Int32) => kX1_captureOrders 2 [some (.ref 37), some (.ref 3), some (.int (nI n))] [] (qm M J e)) (n + 1) (va_up I 39 (fa_fill (fun _ => 1) (I 39) (n + 1))) := by
    intro n hn
    show kX1_captureOrders 2 _ _ _ = kX1_captureOrders 2 _ _ _
    have hM : (va_up I 39 (fa_fill (fun _ => 1) (I 39) n)) 3 0 = nI D := hI
    rw [eX1_captureOrders_2, hM, if_pos (nI_lt hn (by omega)), eX1_captureOrders_10, q_in_nI (show n < 4 by omega) (by omega), nI_clamp (by omega), nI_1, q_up_up]
    simp only [Option.bind_some, Option.toList_some, Option.toList_none, List.nil_append, List.cons_append, q_ck_tt, Bool.and_true, Bool.true_and, if_true, if_false, reduceCtorEq]
    rw [fa_next' (f := fun _ => 1) rfl]
  have hf := q_for (fun n (M : Nat → Nat → Int32) => kX1_captureOrders 2 [some (.ref 37), some (.ref 3), some (.int (nI n))] [] (qm M J e)) D (fun n => va_up I 39 (fa_fill (fun _ => 1) (I 39) n)) hst
  rw [fa_fill_0, va_up_eq (f := I) (p := 39) rfl] at hf
  rw [bX1_captureOrders, eX1_captureOrders_0]
  refine Eq.trans hf ?_
  show kX1_captureOrders 2 _ _ _ = _
  have hM : (va_up I 39 (fa_fill (fun _ => 1) (I 39) D)) 3 0 = nI D := hI
  rw [eX1_captureOrders_2, hM, if_neg (nI_nlt (Nat.le_refl _) (by omega)), eX1_captureOrders_23]
theorem fX1_giveData {D : Nat} (hD : D ≤ 4) (hI : I 3 0 = nI D) : mX1_giveData [.ref 37, .ref 3] (qm I J e) = some (none, qm (va_up I 41 (fa_fill (fun d => if I 38 d = 0 then I 40 d else I 41 d) (I 41) D)) J e) := by
  have hst : ∀ n, n < D → (fun n (M : Nat → Nat → Int32) => kX1_giveData 2 [some (.ref 37), some (.ref 3), some (.int (nI n))] [] (qm M J e)) n (va_up I 41 (fa_fill (fun d => if I 38 d = 0 then I 40 d else I 41 d) (I 41) n)) = (fun n (M : Nat → Nat → Int32) => kX1_giveData 2 [some (.ref 37), some (.ref 3), some (.int (nI n))] [] (qm M J e)) (n + 1) (va_up I 41 (fa_fill (fun d => if I 38 d = 0 then I 40 d else I 41 d) (I 41) (n + 1))) := by
    intro n hn
    show kX1_giveData 2 _ _ _ = kX1_giveData 2 _ _ _
    have hM : (va_up I 41 (fa_fill (fun d => if I 38 d = 0 then I 40 d else I 41 d) (I 41) n)) 3 0 = nI D := hI
    have hO : (va_up I 41 (fa_fill (fun d => if I 38 d = 0 then I 40 d else I 41 d) (I 41) n)) 38 n = I 38 n := rfl
    have hT : (va_up I 41 (fa_fill (fun d => if I 38 d = 0 then I 40 d else I 41 d) (I 41) n)) 40 n = I 40 n := rfl
    rw [eX1_giveData_2, hM, if_pos (nI_lt hn (by omega)), eX1_giveData_10, q_in_nI (show n < 4 by omega) (by omega), nI_clamp (by omega), hO]
    simp only [Option.bind_some, Option.toList_some, Option.toList_none, List.nil_append, List.cons_append, q_ck_tt, Bool.and_true, Bool.true_and, if_true, if_false, reduceCtorEq]
    by_cases h0 : I 38 n = 0
    · rw [if_pos h0, eX1_giveData_19, q_in_nI (show n < 4 by omega) (by omega), nI_clamp (by omega), hT]
      simp only [Option.bind_some, Option.toList_some, Option.toList_none, List.nil_append, List.cons_append, q_ck_tt, Bool.and_true, Bool.true_and, if_true, if_false, reduceCtorEq]
      rw [eX1_giveData_31, nI_1, q_up_up, fa_next' (f := fun d => if I 38 d = 0 then I 40 d else I 41 d) (by rw [if_pos h0])]
    · rw [if_neg h0, eX1_giveData_31, nI_1, fa_same (f := fun d => if I 38 d = 0 then I 40 d else I 41 d) (by rw [if_neg h0])]
  have hf := q_for (fun n (M : Nat → Nat → Int32) => kX1_giveData 2 [some (.ref 37), some (.ref 3), some (.int (nI n))] [] (qm M J e)) D (fun n => va_up I 41 (fa_fill (fun d => if I 38 d = 0 then I 40 d else I 41 d) (I 41) n)) hst
  rw [fa_fill_0, va_up_eq (f := I) (p := 41) rfl] at hf
  rw [bX1_giveData, eX1_giveData_0]
  refine Eq.trans hf ?_
  show kX1_giveData 2 _ _ _ = _
  have hM : (va_up I 41 (fa_fill (fun d => if I 38 d = 0 then I 40 d else I 41 d) (I 41) D)) 3 0 = nI D := hI
  rw [eX1_giveData_2, hM, if_neg (nI_nlt (Nat.le_refl _) (by omega)), eX1_giveData_37]
theorem fX1_shiftOrders {D : Nat} (hD : D ≤ 4) (hI : I 3 0 = nI D) (hb : ∀ d, d < D → I 5 d ≠ 0) (t : Int32) : mX1_shiftOrders [.ref 37, .ref 3, .int t] (qm I J e) = some (some (.int (qSh (I 5) (I 39) t D)), qm (va_up I 39 (fa_fill (qShr (I 5) (I 39) t) (I 39) D)) J e) := by
  have hst : ∀ n, n < D → (fun n (y : Int32 × (Nat → Nat → Int32)) => kX1_shiftOrders 5 [some (.ref 37), some (.ref 3), none, some (.int y.1), some (.int (nI n)), none] [] (qm y.2 J e)) n (qSh (I 5) (I 39) t n, va_up I 39 (fa_fill (qShr (I 5) (I 39) t) (I 39) n)) = (fun n (y : Int32 × (Nat → Nat → Int32)) => kX1_shiftOrders 5 [some (.ref 37), some (.ref 3), none, some (.int y.1), some (.int (nI n)), none] [] (qm y.2 J e)) (n + 1) (qSh (I 5) (I 39) t (n + 1), va_up I 39 (fa_fill (qShr (I 5) (I 39) t) (I 39) (n + 1))) := by
    intro n hn
    show kX1_shiftOrders 5 _ _ _ = kX1_shiftOrders 5 _ _ _
    dsimp only
    have hM : (va_up I 39 (fa_fill (qShr (I 5) (I 39) t) (I 39) n)) 3 0 = nI D := hI
    have hO : (va_up I 39 (fa_fill (qShr (I 5) (I 39) t) (I 39) n)) 39 n = I 39 n := fa_fill_out (Nat.le_refl _)
    have hB : (va_up I 39 (fa_fill (qShr (I 5) (I 39) t) (I 39) n)) 5 n = I 5 n := rfl
    have h4 : q_in (nI n) 4 = true := q_in_nI (by omega) (by omega)
    rw [eX1_shiftOrders_5, hM, if_pos (nI_lt hn (by omega)), eX1_shiftOrders_14, h4, nI_clamp (by omega), hO]
    simp only [Option.bind_some, Option.toList_some, Option.toList_none, List.nil_append, List.cons_append, q_ck_tt, Bool.and_true, Bool.true_and, if_true, if_false, reduceCtorEq]
    rw [eX1_shiftOrders_38, h4, nI_clamp (by omega), hB]
    simp only [Option.bind_some, Option.toList_some, Option.toList_none, List.nil_append, List.cons_append, q_ck_tt, Bool.and_true, Bool.true_and, if_true, if_false, reduceCtorEq]
    rw [eX1_shiftOrders_56, nI_1, q_up_up, fa_next' (f := qShr (I 5) (I 39) t) (by unfold qShr; rw [if_neg (hb n hn)])]
    have : qSh (I 5) (I 39) t (n + 1) = I 39 n &&& 1 := by show (if I 5 n = 0 then _ else _) = _; rw [if_neg (hb n hn)]
    rw [this]
  have hf := q_for (fun n (y : Int32 × (Nat → Nat → Int32)) => kX1_shiftOrders 5 [some (.ref 37), some (.ref 3), none, some (.int y.1), some (.int (nI n)), none] [] (qm y.2 J e)) D (fun n => (qSh (I 5) (I 39) t n, va_up I 39 (fa_fill (qShr (I 5) (I 39) t) (I 39) n))) hst
  rw [fa_fill_0, va_up_eq (f := I) (p := 39) rfl] at hf
  rw [bX1_shiftOrders, eX1_shiftOrders_0]
  refine Eq.trans hf ?_
  show kX1_shiftOrders 5 _ _ _ = _
  dsimp only
  have hM : (va_up I 39 (fa_fill (qShr (I 5) (I 39) t) (I 39) D)) 3 0 = nI D := hI
  rw [eX1_shiftOrders_5, hM, if_neg (nI_nlt (Nat.le_refl _) (by omega)), eX1_shiftOrders_62]
theorem fX1_shiftData {D : Nat} (hD : D ≤ 4) (hI : I 3 0 = nI D) (hid : ∀ d, d < D → I 6 d = -1 ∨ ∃ k : Nat, k < 128 ∧ I 6 d = nI k) (hb : ∀ d, d < D → ((0 : Int32) < qDb (I 38 d) (I 6 d) (I 7 d) ↔ ¬ qDb (I 38 d) (I 6 d) (I 7 d) = 0)) (t : Int32) : mX1_shiftData [.ref 37, .ref 3, .int t] (qm I J e) = some (some (.int (qSh (fun d => qDb (I 38 d) (I 6 d) (I 7 d)) (I 40) t D)), qm (va_up I 40 (fa_fill (qShr (fun d => qDb (I 38 d) (I 6 d) (I 7 d)) (I 40) t) (I 40) D)) J e) := by
  generalize hB : (fun d => qDb (I 38 d) (I 6 d) (I 7 d)) = B
  have hB' : ∀ d, qDb (I 38 d) (I 6 d) (I 7 d) = B d := fun d => by rw [← hB]
  have hst : ∀ n, n < D → (fun n (y : Int32 × (Nat → Nat → Int32)) => kX1_shiftData 5 [some (.ref 37), some (.ref 3), none, some (.int y.1), some (.int (nI n)), none, none] [] (qm y.2 J e)) n (qSh B (I 40) t n, va_up I 40 (fa_fill (qShr B (I 40) t) (I 40) n)) = (fun n (y : Int32 × (Nat → Nat → Int32)) => kX1_shiftData 5 [some (.ref 37), some (.ref 3), none, some (.int y.1), some (.int (nI n)), none, none] [] (qm y.2 J e)) (n + 1) (qSh B (I 40) t (n + 1), va_up I 40 (fa_fill (qShr B (I 40) t) (I 40) (n + 1))) := by
    intro n hn
    show kX1_shiftData 5 _ _ _ = kX1_shiftData 5 _ _ _
    dsimp only
    have hM : (va_up I 40 (fa_fill (qShr B (I 40) t) (I 40) n)) 3 0 = nI D := hI
    have hO : (va_up I 40 (fa_fill (qShr B (I 40) t) (I 40) n)) 40 n = I 40 n := fa_fill_out (Nat.le_refl _)
    have hdb : ∀ M : Nat → Nat → Int32, M 6 = I 6 → M 7 = I 7 → M 38 = I 38 → mX1_dataBits [.ref 37, .ref 3, .int (nI n)] (qm M J e) = some (some (.int (B n)), qm M J e) := by
      intro M h6 h7 h38
      rw [fX1_dataBits M J e (show n < 4 by omega) (by rw [h6]; exact hid n hn), h6, h7, h38, hB']
    have h4 : q_in (nI n) 4 = true := q_in_nI (by omega) (by omega)
    have hbn := hb n hn
    rw [hB'] at hbn
    rw [eX1_shiftData_5, hM, if_pos (nI_lt hn (by omega)), eX1_shiftData_14, hdb _ (by rfl) (by rfl) (by rfl)]
    simp only [Option.bind_some, Option.toList_some, Option.toList_none, List.nil_append, List.cons_append, q_ck_tt, Bool.and_true, Bool.true_and, if_true, if_false, reduceCtorEq]
    rw [eX1_shiftData_21]
    by_cases h0 : B n = 0
    · rw [if_neg (fun c => hbn.mp c h0), eX1_shiftData_65, nI_1, fa_same (f := qShr B (I 40) t) (by unfold qShr; rw [if_pos h0])]
      have : qSh B (I 40) t (n + 1) = qSh B (I 40) t n := by show (if B n = 0 then _ else _) = _; rw [if_pos h0]
      rw [this]
    · rw [if_pos (hbn.mpr h0), eX1_shiftData_28, h4, nI_clamp (by omega), hO]
      simp only [Option.bind_some, Option.toList_some, Option.toList_none, List.nil_append, List.cons_append, q_ck_tt, Bool.and_true, Bool.true_and, if_true, if_false, reduceCtorEq]
      rw [eX1_shiftData_52, h4, nI_clamp (by omega)]
      simp only [Option.bind_some, Option.toList_some, Option.toList_none, List.nil_append, List.cons_append, q_ck_tt, Bool.and_true, Bool.true_and, if_true, if_false, reduceCtorEq]
      rw [eX1_shiftData_65, nI_1, q_up_up, fa_next' (f := qShr B (I 40) t) (by unfold qShr; rw [if_neg h0])]
      have : qSh B (I 40) t (n + 1) = I 40 n &&& 1 := by show (if B n = 0 then _ else _) = _; rw [if_neg h0]
      rw [this]
  have hf := q_for (fun n (y : Int32 × (Nat → Nat → Int32)) => kX1_shiftData 5 [some (.ref 37), some (.ref 3), none, some (.int y.1), some (.int (nI n)), none, none] [] (qm y.2 J e)) D (fun n => (qSh B (I 40) t n, va_up I 40 (fa_fill (qShr B (I 40) t) (I 40) n))) hst
  rw [fa_fill_0, va_up_eq (f := I) (p := 40) rfl] at hf
  rw [bX1_shiftData, eX1_shiftData_0]
  refine Eq.trans hf ?_
  show kX1_shiftData 5 _ _ _ = _
  dsimp only
  have hM : (va_up I 40 (fa_fill (qShr B (I 40) t) (I 40) D)) 3 0 = nI D := hI
  rw [eX1_shiftData_5, hM, if_neg (nI_nlt (Nat.le_refl _) (by omega)), eX1_shiftData_71]
end TC
