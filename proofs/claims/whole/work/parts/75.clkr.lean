/-! ===== a clock: the reference's loops ===== -/
section KR
variable {I : Nat → Nat → Int32} {J : Nat → Nat → Int64} {e : QP} {D : Nat}
theorem fX12_setOrder {d : Nat} (hd : d < 4) (v : Int32) : mX12_setOrder [.ref 64, .int (nI d), .int v] (qm I J e) = some (none, qm (va_up I 94 (va_up (va_up (I 94) (11 + d) (if I 94 (3 + d) = v then I 94 (11 + d) else 0)) (3 + d) v)) J e) := by
  have k3 : (3 : Int32) + nI d = nI (3 + d) := by rw [show (3 : Int32) = nI 3 from rfl, nI_add]
  have k11 : (11 : Int32) + nI d = nI (11 + d) := by rw [show (11 : Int32) = nI 11 from rfl, nI_add]
  rw [bX12_setOrder, eX12_setOrder_0, k3, q_in_nI (show 3 + d < 65 by omega) (by omega), nI_clamp (by omega)]
  simp only [Option.bind_some, Option.toList_some, Option.toList_none, List.nil_append, List.cons_append, q_ck_tt, Bool.and_true, Bool.true_and, if_true, if_false, reduceCtorEq]
  by_cases h : I 94 (3 + d) = v
  · rw [if_pos h, if_pos h, eX12_setOrder_22, k3, q_in_nI (show 3 + d < 65 by omega) (by omega), nI_clamp (by omega), va_up_eq (f := I 94) (p := 11 + d) rfl]
    rfl
  · rw [if_neg h, if_neg h, eX12_setOrder_12, k11, q_in_nI (show 11 + d < 65 by omega) (by omega), nI_clamp (by omega)]
    simp only [Option.bind_some, Option.toList_some, Option.toList_none, List.nil_append, List.cons_append, q_ck_tt, Bool.and_true, Bool.true_and, if_true, if_false, reduceCtorEq]
    rw [eX12_setOrder_22, k3, q_in_nI (show 3 + d < 65 by omega) (by omega), nI_clamp (by omega), q_up_va, q_up_va, va_up_up]
    rfl
/-- both runs at once: orders and data -/
def qod (f F G : Nat → Int32) (n : Nat) : Nat → Int32 := qblk 11 (qblk 3 f F n) G n
theorem qod_next {f F G : Nat → Int32} {n : Nat} (hn : n < 4) {x y : Int32} (hx : x = F n) (hy : y = G n) : va_up (va_up (qod f F G n) (11 + n) y) (3 + n) x = qod f F G (n + 1) := by
  funext k
  rw [va_up_at, va_up_at]
  unfold qod qblk
  by_cases h1 : k = 3 + n
  · rw [if_pos h1, if_neg (by omega), if_pos (by omega), hx, show k - 3 = n by omega]
  · rw [if_neg h1]
    by_cases h2 : k = 11 + n
    · rw [if_pos h2, if_pos (by omega), hy, show k - 11 = n by omega]
    · rw [if_neg h2]
      by_cases h3 : 11 ≤ k ∧ k < 11 + n
      · rw [if_pos h3, if_pos (show 11 ≤ k ∧ k < 11 + (n + 1) by omega)]
      · rw [if_neg h3, if_neg (show ¬ (11 ≤ k ∧ k < 11 + (n + 1)) by omega)]
        by_cases h4 : 3 ≤ k ∧ k < 3 + n
        · rw [if_pos h4, if_pos (show 3 ≤ k ∧ k < 3 + (n + 1) by omega)]
        · rw [if_neg h4, if_neg (show ¬ (3 ≤ k ∧ k < 3 + (n + 1)) by omega)]
theorem qod_0 (f F G : Nat → Int32) : qod f F G 0 = f := by unfold qod; rw [qblk_0, qblk_0]
theorem qod_3 {f F G : Nat → Int32} {n d : Nat} (h : n ≤ d) (hd : d < 4) (hn : n ≤ 4) : qod f F G n (3 + d) = f (3 + d) ∧ qod f F G n (11 + d) = f (11 + d) ∧ qod f F G n (7 + d) = f (7 + d) := by
  unfold qod qblk
  refine ⟨?_, ?_, ?_⟩
  · rw [if_neg (by omega), if_neg (by omega)]
  · rw [if_neg (by omega), if_neg (by omega)]
  · rw [if_neg (by omega), if_neg (by omega)]
/-- the loop over devices, by what is done there -/
noncomputable def q_Lp (J : Nat → Nat → Int64) (e : QP) (tm s o : Int32) (n : Nat) (M : Nat → Nat → Int32) : Option QR := kX12_goClock 50 [some (.ref 64), some (.int tm), none, some (.int s), some (.int o), some (.int (nI n))] [] (qm M J e)
theorem q_lp_0 (hD : D ≤ 4) (hI : I 64 50 = nI D) (tm o : Int32) : q_Lp J e tm 0 o 0 I = q_Lp J e tm 0 o D (va_up I 94 (qod (I 94) (fun d => qRs (I 84 d) (I 83 d)) (fun d => if I 94 (3 + d) = qRs (I 84 d) (I 83 d) then I 94 (11 + d) else 0) D)) := by
  have hst : ∀ n, n < D → q_Lp J e tm 0 o n (va_up I 94 (qod (I 94) (fun d => qRs (I 84 d) (I 83 d)) (fun d => if I 94 (3 + d) = qRs (I 84 d) (I 83 d) then I 94 (11 + d) else 0) n)) = q_Lp J e tm 0 o (n + 1) (va_up I 94 (qod (I 94) (fun d => qRs (I 84 d) (I 83 d)) (fun d => if I 94 (3 + d) = qRs (I 84 d) (I 83 d) then I 94 (11 + d) else 0) (n + 1))) := by
    intro n hn
    have hq := qod_3 (f := I 94) (F := fun d => qRs (I 84 d) (I 83 d)) (G := fun d => if I 94 (3 + d) = qRs (I 84 d) (I 83 d) then I 94 (11 + d) else 0) (Nat.le_refl n) (by omega) (by omega)
    have hnx := qod_next (f := I 94) (F := fun d => qRs (I 84 d) (I 83 d)) (G := fun d => if I 94 (3 + d) = qRs (I 84 d) (I 83 d) then I 94 (11 + d) else 0) (n := n) (by omega) rfl rfl
    generalize hR : qod (I 94) (fun d => qRs (I 84 d) (I 83 d)) (fun d => if I 94 (3 + d) = qRs (I 84 d) (I 83 d) then I 94 (11 + d) else 0) n = R at hq hnx
    have hM : (va_up I 94 R) 64 50 = nI D := hI
    have hro : mX12_restOrder [.ref 64, .int (nI n)] (qm (va_up I 94 R) J e) = some (some (.int (qRs (I 84 n) (I 83 n))), qm (va_up I 94 R) J e) := fX12_restOrder _ J e (show n < 4 by omega)
    unfold q_Lp
    rw [eX12_goClock_50, hM, if_pos (nI_lt hn (by omega)), eX12_goClock_59, if_pos rfl, eX12_goClock_63, hro]
    simp only [Option.bind_some, Option.toList_some, Option.toList_none, List.nil_append, List.cons_append, q_ck_tt, Bool.and_true, Bool.true_and, if_true, if_false, reduceCtorEq]
    rw [eX12_goClock_72, fX12_setOrder (show n < 4 by omega)]
    simp only [Option.bind_some, Option.toList_some, Option.toList_none, List.nil_append, List.cons_append, q_ck_tt, Bool.and_true, Bool.true_and, if_true, if_false, reduceCtorEq]
    rw [eX12_goClock_75, if_neg (by decide), eX12_goClock_113, if_neg (by decide), eX12_goClock_130, if_neg (by decide), eX12_goClock_152, nI_1, va_up_up]
    have h94 : (va_up I 94 R) 94 = R := rfl
    rw [h94, hq.1, hq.2.1, hnx]
  have hf := q_for (q_Lp J e tm 0 o) D (fun n => va_up I 94 (qod (I 94) (fun d => qRs (I 84 d) (I 83 d)) (fun d => if I 94 (3 + d) = qRs (I 84 d) (I 83 d) then I 94 (11 + d) else 0) n)) hst
  rw [qod_0, va_up_eq (f := I) (p := 94) rfl] at hf
  exact hf
theorem q_lp_15 (hD : D ≤ 4) (hI : I 64 50 = nI D) (tm o : Int32) : q_Lp J e tm 15 o 0 I = q_Lp J e tm 15 o D (va_up I 94 (qod (I 94) (fun d => I 94 (7 + d)) (fun d => if I 94 (3 + d) = I 94 (7 + d) then I 94 (11 + d) else 0) D)) := by
  have hst : ∀ n, n < D → q_Lp J e tm 15 o n (va_up I 94 (qod (I 94) (fun d => I 94 (7 + d)) (fun d => if I 94 (3 + d) = I 94 (7 + d) then I 94 (11 + d) else 0) n)) = q_Lp J e tm 15 o (n + 1) (va_up I 94 (qod (I 94) (fun d => I 94 (7 + d)) (fun d => if I 94 (3 + d) = I 94 (7 + d) then I 94 (11 + d) else 0) (n + 1))) := by
    intro n hn
    have hq := qod_3 (f := I 94) (F := fun d => I 94 (7 + d)) (G := fun d => if I 94 (3 + d) = I 94 (7 + d) then I 94 (11 + d) else 0) (Nat.le_refl n) (by omega) (by omega)
    have hnx := qod_next (f := I 94) (F := fun d => I 94 (7 + d)) (G := fun d => if I 94 (3 + d) = I 94 (7 + d) then I 94 (11 + d) else 0) (n := n) (by omega) rfl rfl
    generalize hR : qod (I 94) (fun d => I 94 (7 + d)) (fun d => if I 94 (3 + d) = I 94 (7 + d) then I 94 (11 + d) else 0) n = R at hq hnx
    have hM : (va_up I 94 R) 64 50 = nI D := hI
    have h94 : (va_up I 94 R) 94 = R := rfl
    have k7 : (7 : Int32) + nI n = nI (7 + n) := by rw [show (7 : Int32) = nI 7 from rfl, nI_add]
    unfold q_Lp
    rw [eX12_goClock_50, hM, if_pos (nI_lt hn (by omega)), eX12_goClock_59, if_neg (by decide), eX12_goClock_75, if_neg (by decide), eX12_goClock_113, if_neg (by decide), eX12_goClock_130, if_pos rfl, eX12_goClock_136, k7, q_in_nI (show 7 + n < 65 by omega) (by omega), nI_clamp (by omega), fX12_setOrder (show n < 4 by omega)]
    simp only [Option.bind_some, Option.toList_some, Option.toList_none, List.nil_append, List.cons_append, q_ck_tt, Bool.and_true, Bool.true_and, if_true, if_false, reduceCtorEq]
    rw [eX12_goClock_152, nI_1, va_up_up, h94, hq.1, hq.2.1, hq.2.2, hnx]
  have hf := q_for (q_Lp J e tm 15 o) D (fun n => va_up I 94 (qod (I 94) (fun d => I 94 (7 + d)) (fun d => if I 94 (3 + d) = I 94 (7 + d) then I 94 (11 + d) else 0) n)) hst
  rw [qod_0, va_up_eq (f := I) (p := 94) rfl] at hf
  exact hf
theorem q_lp_10 (hD : D ≤ 4) (hI : I 64 50 = nI D) (tm o : Int32) : q_Lp J e tm 10 o 0 I = q_Lp J e tm 10 o D (va_up I 94 (qblk 7 (I 94) (fun _ => 1) D)) := by
  have hst : ∀ n, n < D → q_Lp J e tm 10 o n (va_up I 94 (qblk 7 (I 94) (fun _ => 1) n)) = q_Lp J e tm 10 o (n + 1) (va_up I 94 (qblk 7 (I 94) (fun _ => 1) (n + 1))) := by
    intro n hn
    have hM : (va_up I 94 (qblk 7 (I 94) (fun _ => 1) n)) 64 50 = nI D := hI
    have k7 : (7 : Int32) + nI n = nI (7 + n) := by rw [show (7 : Int32) = nI 7 from rfl, nI_add]
    unfold q_Lp
    rw [eX12_goClock_50, hM, if_pos (nI_lt hn (by omega)), eX12_goClock_59, if_neg (by decide), eX12_goClock_75, if_neg (by decide), eX12_goClock_113, if_pos rfl, eX12_goClock_119, k7, q_in_nI (show 7 + n < 65 by omega) (by omega), nI_clamp (by omega)]
    simp only [Option.bind_some, Option.toList_some, Option.toList_none, List.nil_append, List.cons_append, q_ck_tt, Bool.and_true, Bool.true_and, if_true, if_false, reduceCtorEq]
    rw [eX12_goClock_130, if_neg (by decide), eX12_goClock_152, nI_1, q_up_up, qblk_next (g := fun _ => 1) rfl]
  have hf := q_for (q_Lp J e tm 10 o) D (fun n => va_up I 94 (qblk 7 (I 94) (fun _ => 1) n)) hst
  rw [qblk_0, va_up_eq (f := I) (p := 94) rfl] at hf
  exact hf
theorem q_lp_8 (hD : D ≤ 4) (hI : I 64 50 = nI D) (tm o : Int32) : q_Lp J e tm 8 o 0 I = q_Lp J e tm 8 o D (va_up I 94 (qblk 15 (I 94) (fun d => if I 94 (3 + d) = 0 then I 94 (11 + d) else I 94 (15 + d)) D)) := by
  have hst : ∀ n, n < D → q_Lp J e tm 8 o n (va_up I 94 (qblk 15 (I 94) (fun d => if I 94 (3 + d) = 0 then I 94 (11 + d) else I 94 (15 + d)) n)) = q_Lp J e tm 8 o (n + 1) (va_up I 94 (qblk 15 (I 94) (fun d => if I 94 (3 + d) = 0 then I 94 (11 + d) else I 94 (15 + d)) (n + 1))) := by
    intro n hn
    have hM : (va_up I 94 (qblk 15 (I 94) (fun d => if I 94 (3 + d) = 0 then I 94 (11 + d) else I 94 (15 + d)) n)) 64 50 = nI D := hI
    have h3 : (va_up I 94 (qblk 15 (I 94) (fun d => if I 94 (3 + d) = 0 then I 94 (11 + d) else I 94 (15 + d)) n)) 94 (3 + n) = I 94 (3 + n) := by
      rw [va_up_at, if_pos rfl]
      exact qblk_out (by omega)
    have h11 : (va_up I 94 (qblk 15 (I 94) (fun d => if I 94 (3 + d) = 0 then I 94 (11 + d) else I 94 (15 + d)) n)) 94 (11 + n) = I 94 (11 + n) := by
      rw [va_up_at, if_pos rfl]
      exact qblk_out (by omega)
    have k3 : (3 : Int32) + nI n = nI (3 + n) := by rw [show (3 : Int32) = nI 3 from rfl, nI_add]
    have k11 : (11 : Int32) + nI n = nI (11 + n) := by rw [show (11 : Int32) = nI 11 from rfl, nI_add]
    have k15 : (15 : Int32) + nI n = nI (15 + n) := by rw [show (15 : Int32) = nI 15 from rfl, nI_add]
    unfold q_Lp
    rw [eX12_goClock_50, hM, if_pos (nI_lt hn (by omega)), eX12_goClock_59, if_neg (by decide), eX12_goClock_75, if_pos rfl, eX12_goClock_81, k3, q_in_nI (show 3 + n < 65 by omega) (by omega), nI_clamp (by omega), h3]
    simp only [Option.bind_some, Option.toList_some, Option.toList_none, List.nil_append, List.cons_append, q_ck_tt, Bool.and_true, Bool.true_and, if_true, if_false, reduceCtorEq]
    by_cases c : I 94 (3 + n) = 0
    · rw [if_pos c, eX12_goClock_93, k15, k11, q_in_nI (show 15 + n < 65 by omega) (by omega), q_in_nI (show 11 + n < 65 by omega) (by omega), nI_clamp (show 15 + n < 2 ^ 31 by omega), nI_clamp (show 11 + n < 2 ^ 31 by omega), h11]
      simp only [Option.bind_some, Option.toList_some, Option.toList_none, List.nil_append, List.cons_append, q_ck_tt, Bool.and_true, Bool.true_and, if_true, if_false, reduceCtorEq]
      rw [eX12_goClock_113, if_neg (by decide), eX12_goClock_130, if_neg (by decide), eX12_goClock_152, nI_1, q_up_up, qblk_next (g := fun d => if I 94 (3 + d) = 0 then I 94 (11 + d) else I 94 (15 + d)) (by rw [if_pos c])]
    · rw [if_neg c, eX12_goClock_113, if_neg (by decide), eX12_goClock_130, if_neg (by decide), eX12_goClock_152, nI_1, qblk_same (g := fun d => if I 94 (3 + d) = 0 then I 94 (11 + d) else I 94 (15 + d)) (by rw [if_neg c])]
  have hf := q_for (q_Lp J e tm 8 o) D (fun n => va_up I 94 (qblk 15 (I 94) (fun d => if I 94 (3 + d) = 0 then I 94 (11 + d) else I 94 (15 + d)) n)) hst
  rw [qblk_0, va_up_eq (f := I) (p := 94) rfl] at hf
  exact hf
theorem q_lp_x (hD : D ≤ 4) (hI : I 64 50 = nI D) (tm o : Int32) {s : Int32} (c0 : ¬ s = 0) (c8 : ¬ s = 8) (c10 : ¬ s = 10) (c15 : ¬ s = 15) : q_Lp J e tm s o 0 I = q_Lp J e tm s o D I := by
  refine q_for (q_Lp J e tm s o) D (fun _ => I) (fun n hn => ?_)
  show q_Lp J e tm s o n I = q_Lp J e tm s o (n + 1) I
  unfold q_Lp
  rw [eX12_goClock_50, hI, if_pos (nI_lt hn (by omega)), eX12_goClock_59, if_neg c0, eX12_goClock_75, if_neg c8, eX12_goClock_113, if_neg c10, eX12_goClock_130, if_neg c15, eX12_goClock_152, nI_1]
theorem q_lp_end (hD : D ≤ 4) (hI : I 64 50 = nI D) (b : Bool) {s : Nat} (hs : s < 16) (o : Int32) : q_Lp J e (qb b) (nI s) o D I = some (some (.int o), qm (va_up I 94 (va_up (va_up (I 94) 0 (nI (qnx s b))) 1 (I 94 1 + 1))) J e) := by
  unfold q_Lp
  rw [eX12_goClock_50, hI, if_neg (nI_nlt (Nat.le_refl _) (by omega)), eX12_goClock_158, fX12_nextState I J e hs]
  simp only [Option.bind_some, Option.toList_some, Option.toList_none, List.nil_append, List.cons_append, q_ck_tt, Bool.and_true, Bool.true_and, if_true, if_false, reduceCtorEq]
  rw [eX12_goClock_168, show q_in 0 65 = true from rfl, show Int32.toNatClampNeg 0 = 0 from rfl]
  simp only [Option.bind_some, Option.toList_some, Option.toList_none, List.nil_append, List.cons_append, q_ck_tt, Bool.and_true, Bool.true_and, if_true, if_false, reduceCtorEq, q_up_va, va_up_up]
  rfl
/-- shifts -/
theorem fX12_shiftsD (hD : D ≤ 4) (hI : I 64 50 = nI D) (t : Int32) : mX12_shifts [.ref 64, .int 1, .int t] (qm I J e) = some (some (.int (qSh (fun d => qDb (I 94 (3 + d)) (I 84 d) (I 85 d)) (fun d => I 94 (11 + d)) t D)), qm (va_up I 94 (qblk 11 (I 94) (qShr (fun d => qDb (I 94 (3 + d)) (I 84 d) (I 85 d)) (fun d => I 94 (11 + d)) t) D)) J e) := by
  generalize hB : (fun d => qDb (I 94 (3 + d)) (I 84 d) (I 85 d)) = B
  have hB' : ∀ d, qDb (I 94 (3 + d)) (I 84 d) (I 85 d) = B d := fun d => by rw [← hB]
  generalize hR : (fun d => I 94 (11 + d)) = R
  have hR' : ∀ d, I 94 (11 + d) = R d := fun d => by rw [← hR]
  have h10 : ¬ ((1 : Int32) = 0) := by decide
  have hst : ∀ n, n < D → (fun n (y : Int32 × (Nat → Nat → Int32)) => kX12_shifts 5 [some (.ref 64), some (.int 1), none, some (.int y.1), some (.int (nI n)), none, none, none] [] (qm y.2 J e)) n (qSh B R t n, va_up I 94 (qblk 11 (I 94) (qShr B R t) n)) = (fun n (y : Int32 × (Nat → Nat → Int32)) => kX12_shifts 5 [some (.ref 64), some (.int 1), none, some (.int y.1), some (.int (nI n)), none, none, none] [] (qm y.2 J e)) (n + 1) (qSh B R t (n + 1), va_up I 94 (qblk 11 (I 94) (qShr B R t) (n + 1))) := by
    intro n hn
    show kX12_shifts 5 _ _ _ = kX12_shifts 5 _ _ _
    dsimp only
    have hM : (va_up I 94 (qblk 11 (I 94) (qShr B R t) n)) 64 50 = nI D := hI
    have h11 : (va_up I 94 (qblk 11 (I 94) (qShr B R t) n)) 94 (11 + n) = R n := by
      rw [← hR' n, va_up_at, if_pos rfl]
      exact qblk_out (by omega)
    have h3 : (va_up I 94 (qblk 11 (I 94) (qShr B R t) n)) 94 (3 + n) = I 94 (3 + n) := by
      rw [va_up_at, if_pos rfl]
      exact qblk_out (by omega)
    have hdb : mX12_dataBits [.ref 64, .int (nI n)] (qm (va_up I 94 (qblk 11 (I 94) (qShr B R t) n)) J e) = some (some (.int (B n)), qm (va_up I 94 (qblk 11 (I 94) (qShr B R t) n)) J e) := by
      rw [fX12_dataBits _ J e (show n < 4 by omega), h3, ← hB' n]
      rfl
    have k11 : (11 : Int32) + nI n = nI (11 + n) := by rw [show (11 : Int32) = nI 11 from rfl, nI_add]
    rw [eX12_shifts_5, hM, if_pos (nI_lt hn (by omega)), eX12_shifts_14, if_neg h10, eX12_shifts_18, hdb]
    simp only [Option.bind_some, Option.toList_some, Option.toList_none, List.nil_append, List.cons_append, q_ck_tt, Bool.and_true, Bool.true_and, if_true, if_false, reduceCtorEq]
    rw [eX12_shifts_24, eX12_shifts_34]
    by_cases h0 : B n = 0
    · rw [if_pos h0, eX12_shifts_41, eX12_shifts_97, nI_1, qblk_same (g := qShr B R t) (by unfold qShr; rw [if_pos h0, hR'])]
      have : qSh B R t (n + 1) = qSh B R t n := by show (if B n = 0 then _ else _) = _; rw [if_pos h0]
      rw [this]
    · rw [if_neg h0, eX12_shifts_44, if_neg h10, eX12_shifts_48, eX12_shifts_55, k11, q_in_nI (show 11 + n < 65 by omega) (by omega), nI_clamp (by omega), h11]
      simp only [Option.bind_some, Option.toList_some, Option.toList_none, List.nil_append, List.cons_append, q_ck_tt, Bool.and_true, Bool.true_and, if_true, if_false, reduceCtorEq]
      rw [eX12_shifts_78, q_in_nI (show 11 + n < 65 by omega) (by omega), nI_clamp (by omega), h11]
      simp only [Option.bind_some, Option.toList_some, Option.toList_none, List.nil_append, List.cons_append, q_ck_tt, Bool.and_true, Bool.true_and, if_true, if_false, reduceCtorEq]
      rw [eX12_shifts_97, nI_1, q_up_up, qblk_next (g := qShr B R t) (by unfold qShr; rw [if_neg h0])]
      have : qSh B R t (n + 1) = R n &&& 1 := by show (if B n = 0 then _ else _) = _; rw [if_neg h0]
      rw [this]
  have hf := q_for (fun n (y : Int32 × (Nat → Nat → Int32)) => kX12_shifts 5 [some (.ref 64), some (.int 1), none, some (.int y.1), some (.int (nI n)), none, none, none] [] (qm y.2 J e)) D (fun n => (qSh B R t n, va_up I 94 (qblk 11 (I 94) (qShr B R t) n))) hst
  rw [qblk_0, va_up_eq (f := I) (p := 94) rfl] at hf
  rw [bX12_shifts, eX12_shifts_0]
  refine Eq.trans hf ?_
  show kX12_shifts 5 _ _ _ = _
  dsimp only
  have hM : (va_up I 94 (qblk 11 (I 94) (qShr B R t) D)) 64 50 = nI D := hI
  rw [eX12_shifts_5, hM, if_neg (nI_nlt (Nat.le_refl _) (by omega)), eX12_shifts_103]
theorem fX12_shiftsO (hD : D ≤ 4) (hI : I 64 50 = nI D) (t : Int32) : mX12_shifts [.ref 64, .int 0, .int t] (qm I J e) = some (some (.int (qSh (I 83) (fun d => I 94 (7 + d)) t D)), qm (va_up I 94 (qblk 7 (I 94) (qShr (I 83) (fun d => I 94 (7 + d)) t) D)) J e) := by
  generalize hR : (fun d => I 94 (7 + d)) = R
  have hR' : ∀ d, I 94 (7 + d) = R d := fun d => by rw [← hR]
  have hst : ∀ n, n < D → (fun n (y : Int32 × (Nat → Nat → Int32)) => kX12_shifts 5 [some (.ref 64), some (.int 0), none, some (.int y.1), some (.int (nI n)), none, none, none] [] (qm y.2 J e)) n (qSh (I 83) R t n, va_up I 94 (qblk 7 (I 94) (qShr (I 83) R t) n)) = (fun n (y : Int32 × (Nat → Nat → Int32)) => kX12_shifts 5 [some (.ref 64), some (.int 0), none, some (.int y.1), some (.int (nI n)), none, none, none] [] (qm y.2 J e)) (n + 1) (qSh (I 83) R t (n + 1), va_up I 94 (qblk 7 (I 94) (qShr (I 83) R t) (n + 1))) := by
    intro n hn
    show kX12_shifts 5 _ _ _ = kX12_shifts 5 _ _ _
    dsimp only
    have hM : (va_up I 94 (qblk 7 (I 94) (qShr (I 83) R t) n)) 64 50 = nI D := hI
    have h7 : (va_up I 94 (qblk 7 (I 94) (qShr (I 83) R t) n)) 94 (7 + n) = R n := by
      rw [← hR' n, va_up_at, if_pos rfl]
      exact qblk_out (by omega)
    have h83 : (va_up I 94 (qblk 7 (I 94) (qShr (I 83) R t) n)) 83 n = I 83 n := rfl
    have k7 : (7 : Int32) + nI n = nI (7 + n) := by rw [show (7 : Int32) = nI 7 from rfl, nI_add]
    rw [eX12_shifts_5, hM, if_pos (nI_lt hn (by omega)), eX12_shifts_14, if_pos rfl, eX12_shifts_27, q_in_nI (show n < 4 by omega) (by omega), nI_clamp (by omega), h83]
    simp only [Option.bind_some, Option.toList_some, Option.toList_none, List.nil_append, List.cons_append, q_ck_tt, Bool.and_true, Bool.true_and, if_true, if_false, reduceCtorEq]
    rw [eX12_shifts_34]
    by_cases h0 : I 83 n = 0
    · rw [if_pos h0, eX12_shifts_41, eX12_shifts_97, nI_1, qblk_same (g := qShr (I 83) R t) (by unfold qShr; rw [if_pos h0, hR'])]
      have : qSh (I 83) R t (n + 1) = qSh (I 83) R t n := by show (if I 83 n = 0 then _ else _) = _; rw [if_pos h0]
      rw [this]
    · rw [if_neg h0, eX12_shifts_44, if_pos rfl, eX12_shifts_53, eX12_shifts_55, k7, q_in_nI (show 7 + n < 65 by omega) (by omega), nI_clamp (by omega), h7]
      simp only [Option.bind_some, Option.toList_some, Option.toList_none, List.nil_append, List.cons_append, q_ck_tt, Bool.and_true, Bool.true_and, if_true, if_false, reduceCtorEq]
      rw [eX12_shifts_78, q_in_nI (show 7 + n < 65 by omega) (by omega), nI_clamp (by omega), h7]
      simp only [Option.bind_some, Option.toList_some, Option.toList_none, List.nil_append, List.cons_append, q_ck_tt, Bool.and_true, Bool.true_and, if_true, if_false, reduceCtorEq]
      rw [eX12_shifts_97, nI_1, q_up_up, qblk_next (g := qShr (I 83) R t) (by unfold qShr; rw [if_neg h0])]
      have : qSh (I 83) R t (n + 1) = R n &&& 1 := by show (if I 83 n = 0 then _ else _) = _; rw [if_neg h0]
      rw [this]
  have hf := q_for (fun n (y : Int32 × (Nat → Nat → Int32)) => kX12_shifts 5 [some (.ref 64), some (.int 0), none, some (.int y.1), some (.int (nI n)), none, none, none] [] (qm y.2 J e)) D (fun n => (qSh (I 83) R t n, va_up I 94 (qblk 7 (I 94) (qShr (I 83) R t) n))) hst
  rw [qblk_0, va_up_eq (f := I) (p := 94) rfl] at hf
  rw [bX12_shifts, eX12_shifts_0]
  refine Eq.trans hf ?_
  show kX12_shifts 5 _ _ _ = _
  dsimp only
  have hM : (va_up I 94 (qblk 7 (I 94) (qShr (I 83) R t) D)) 64 50 = nI D := hI
  rw [eX12_shifts_5, hM, if_neg (nI_nlt (Nat.le_refl _) (by omega)), eX12_shifts_103]
end KR
