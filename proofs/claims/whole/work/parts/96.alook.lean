/-! ===== a code's answers ===== -/
theorem q_up_sx {α : Type} (f : Nat → Nat → α) {p q r : Nat} (h : q ≠ p) (h' : r ≠ p) (A B C : Nat → α) (k : Nat) (v : α) : q_up (va_up (va_up (va_up f p A) q B) r C) p k v = va_up (va_up (va_up f p (va_up A k v)) q B) r C := by
  rw [q_up_va, va_miss (fun c => h' c.symm), va_miss (fun c => h c.symm), va_hit, va_up_comm _ (fun c => h' c), va_up_comm _ (fun c => h c), va_up_up]
/-- what all places read in a step -/
def qRw (I : Nat → Nat → Int32) (N k : Nat) (F : Nat → Int32) (fl : Int32) (i : Nat) : Int32 := qRa N (I 9) (I 10) (qLev F (qPa (I 11) k N i)) (F 2) fl
def qGw (I : Nat → Nat → Int32) (N k : Nat) (F : Nat → Int32) (fl : Int32) : Nat → Int32
  | 0 => I 3 11
  | i + 1 => qGw I N k F fl i &&& ((qRw I N k F fl i ^^^ (qRa N (I 9) (I 10) (qPa (I 11) k N i) 0 0 &&& I 3 11)) ^^^ (-1))
def qAn (I : Nat → Nat → Int32) (N k : Nat) (F : Nat → Int32) (fl : Int32) (x : Nat) : Int32 := qB (qSt k N) (fun i => bt (qRw I N k F fl i) x)
section LK
variable {I : Nat → Nat → Int32} {J : Nat → Nat → Int64} {e : QP} {rb tx L : Nat} {D N : Nat} {cl : Nat → Nat} {RM : Nat} {rc : Nat → Nat} {sz : Nat} {F : Nat → Int32}
theorem fX5_look_42 (h : q_Core I D N cl RM rc) {k : Nat} (hk : k < 3) (fl : Int32) : mX5_look [.ref 48, .ref 3, .ref 42, .int (nI k), .int fl] (qm I J e) = some (none, qm (va_up (va_up (va_up I 48 (va_up (va_up (I 48) 2 (nI (qSt k N))) 3 (qGw I N k (I 42) fl (qSt k N)))) 49 (fa_fill (qPa (I 11) k N) (I 49) (qSt k N))) 50 (fa_fill (qRw I N k (I 42) fl) (I 50) (qSt k N))) J e) := by
  have hN := h.n6
  have h6 := qSt_6 (k := k) hN
  have kp : ∀ (p : Nat) (A B C : Nat → Int32), p ≠ 48 → p ≠ 49 → p ≠ 50 → (va_up (va_up (va_up I 48 A) 49 B) 50 C) p = I p := fun p A B C h1 h2 h3 => by rw [va_miss h3, va_miss h2, va_miss h1]
  have kS : ∀ A B C : Nat → Int32, q_Sta (va_up (va_up (va_up I 48 A) 49 B) 50 C) := fun A B C => h.st
  have k35 : ∀ A B C : Nat → Int32, (va_up (va_up (va_up I 48 A) 49 B) 50 C) 3 5 = nI N := fun A B C => h.i35
  have k48 : ∀ A B C : Nat → Int32, (va_up (va_up (va_up I 48 A) 49 B) 50 C) 48 = A := fun A B C => by rw [va_miss (by decide), va_miss (by decide), va_hit]
  have k49 : ∀ A B C : Nat → Int32, (va_up (va_up (va_up I 48 A) 49 B) 50 C) 49 = B := fun A B C => by rw [va_miss (by decide), va_hit]
  generalize hst0 : qSt k N = st at h6
  have hst : ∀ i, i < st → (fun i (y : Int32 × ((Nat → Int32) × (Nat → Int32))) => kX5_look 25 [some (.ref 48), some (.ref 3), some (.ref 42), some (.int (nI k)), some (.int fl), some (.int (nI i))] [] (qm (va_up (va_up (va_up I 48 (va_up (va_up (I 48) 2 (nI st)) 3 y.1)) 49 y.2.1) 50 y.2.2) J e)) i (qGw I N k (I 42) fl i, fa_fill (qPa (I 11) k N) (I 49) i, fa_fill (qRw I N k (I 42) fl) (I 50) i) = (fun i (y : Int32 × ((Nat → Int32) × (Nat → Int32))) => kX5_look 25 [some (.ref 48), some (.ref 3), some (.ref 42), some (.int (nI k)), some (.int fl), some (.int (nI i))] [] (qm (va_up (va_up (va_up I 48 (va_up (va_up (I 48) 2 (nI st)) 3 y.1)) 49 y.2.1) 50 y.2.2) J e)) (i + 1) (qGw I N k (I 42) fl (i + 1), fa_fill (qPa (I 11) k N) (I 49) (i + 1), fa_fill (qRw I N k (I 42) fl) (I 50) (i + 1)) := by
    intro i hi
    show kX5_look 25 _ _ _ = kX5_look 25 _ _ _
    dsimp only
    have p1 := fun A B C => fX2_pattern (va_up (va_up (va_up I 48 A) 49 B) 50 C) J e (kS A B C) hN (k35 A B C) hk (show i < qSt k N by omega)
    have p2 := fun A B C => fX3_levels_42 (va_up (va_up (va_up I 48 A) 49 B) 50 C) J e (kS A B C)
    have p3 := fun A B C => fX0_readsAt (va_up (va_up (va_up I 48 A) 49 B) 50 C) J e hN (k35 A B C)
    have p4 := fun A B C => fX0_receiversAt (va_up (va_up (va_up I 48 A) 49 B) 50 C) J e hN (k35 A B C)
    rw [eX5_look_48_3_42_25, k48, va_miss (show (2 : Nat) ≠ 3 by decide), va_hit, if_pos (nI_lt hi (by omega)), eX5_look_48_3_42_34, p1, kp 11 _ _ _ (by decide) (by decide) (by decide)]
    simp only [Option.bind_some, Option.toList_some, Option.toList_none, List.nil_append, List.cons_append, q_ck_tt, Bool.and_true, Bool.true_and, if_true, if_false, reduceCtorEq]
    rw [eX5_look_48_3_42_47, q_in_nI (show i < 6 by omega) (by omega), nI_clamp (by omega), q_up_sw _ (by decide), fa_next' (f := qPa (I 11) k N) rfl, k49, fa_fill_in (show i < i + 1 by omega), p2, kp 42 _ _ _ (by decide) (by decide) (by decide)]
    simp only [Option.bind_some, Option.toList_some, Option.toList_none, List.nil_append, List.cons_append, q_ck_tt, Bool.and_true, Bool.true_and, if_true, if_false, reduceCtorEq]
    rw [eX5_look_48_3_42_66, p3, kp 9 _ _ _ (by decide) (by decide) (by decide), kp 10 _ _ _ (by decide) (by decide) (by decide), kp 42 _ _ _ (by decide) (by decide) (by decide)]
    simp only [Option.bind_some, Option.toList_some, Option.toList_none, List.nil_append, List.cons_append, q_ck_tt, Bool.and_true, Bool.true_and, if_true, if_false, reduceCtorEq]
    rw [show qRa N (I 9) (I 10) (qLev (I 42) (qPa (I 11) k N i)) (I 42 2) fl = qRw I N k (I 42) fl i from rfl, eX5_look_48_3_42_75, q_in_nI (show i < 6 by omega) (by omega), nI_clamp (by omega), q_up_up, fa_next' (f := qRw I N k (I 42) fl) rfl, k49, fa_fill_in (show i < i + 1 by omega), p4, kp 9 _ _ _ (by decide) (by decide) (by decide), kp 10 _ _ _ (by decide) (by decide) (by decide), kp 3 _ _ _ (by decide) (by decide) (by decide), va_hit, fa_fill_in (show i < i + 1 by omega), k48, va_hit]
    simp only [Option.bind_some, Option.toList_some, Option.toList_none, List.nil_append, List.cons_append, q_ck_tt, Bool.and_true, Bool.true_and, if_true, if_false, reduceCtorEq]
    rw [eX5_look_48_3_42_99, q_up_sx _ (by decide) (by decide), va_up_up, nI_1]
    rfl
  have hq := q_for (fun i (y : Int32 × ((Nat → Int32) × (Nat → Int32))) => kX5_look 25 [some (.ref 48), some (.ref 3), some (.ref 42), some (.int (nI k)), some (.int fl), some (.int (nI i))] [] (qm (va_up (va_up (va_up I 48 (va_up (va_up (I 48) 2 (nI st)) 3 y.1)) 49 y.2.1) 50 y.2.2) J e)) st (fun i => (qGw I N k (I 42) fl i, fa_fill (qPa (I 11) k N) (I 49) i, fa_fill (qRw I N k (I 42) fl) (I 50) i)) hst
  dsimp only at hq
  rw [fa_fill_0, fa_fill_0, va_up_eq (f := va_up I 48 (va_up (va_up (I 48) 2 (nI st)) 3 (qGw I N k (I 42) fl 0))) (p := 49) (by rw [va_miss (by decide)]), va_up_eq (f := va_up I 48 (va_up (va_up (I 48) 2 (nI st)) 3 (qGw I N k (I 42) fl 0))) (p := 50) (by rw [va_miss (by decide)])] at hq
  rw [bX5_look_48_3_42, eX5_look_48_3_42_0, fX2_stepCount I J e h.st hN h.i35 hk, hst0]
  simp only [Option.bind_some, Option.toList_some, Option.toList_none, List.nil_append, List.cons_append, q_ck_tt, Bool.and_true, Bool.true_and, if_true, if_false, reduceCtorEq]
  rw [eX5_look_48_3_42_6, if_neg (show ¬ (6 : Int32) < nI st from nI_nlt (a := 6) (by omega) (by omega)), q_up_va I, q_up_up]
  refine Eq.trans hq ?_
  rw [eX5_look_48_3_42_25, k48, va_miss (show (2 : Nat) ≠ 3 by decide), va_hit, if_neg (nI_nlt (Nat.le_refl _) (by omega)), eX5_look_48_3_42_112]
theorem fX5_look_51 (h : q_Core I D N cl RM rc) {k : Nat} (hk : k < 3) (fl : Int32) : mX5_look [.ref 48, .ref 3, .ref 51, .int (nI k), .int fl] (qm I J e) = some (none, qm (va_up (va_up (va_up I 48 (va_up (va_up (I 48) 2 (nI (qSt k N))) 3 (qGw I N k (I 51) fl (qSt k N)))) 49 (fa_fill (qPa (I 11) k N) (I 49) (qSt k N))) 50 (fa_fill (qRw I N k (I 51) fl) (I 50) (qSt k N))) J e) := by
  have hN := h.n6
  have h6 := qSt_6 (k := k) hN
  have kp : ∀ (p : Nat) (A B C : Nat → Int32), p ≠ 48 → p ≠ 49 → p ≠ 50 → (va_up (va_up (va_up I 48 A) 49 B) 50 C) p = I p := fun p A B C h1 h2 h3 => by rw [va_miss h3, va_miss h2, va_miss h1]
  have kS : ∀ A B C : Nat → Int32, q_Sta (va_up (va_up (va_up I 48 A) 49 B) 50 C) := fun A B C => h.st
  have k35 : ∀ A B C : Nat → Int32, (va_up (va_up (va_up I 48 A) 49 B) 50 C) 3 5 = nI N := fun A B C => h.i35
  have k48 : ∀ A B C : Nat → Int32, (va_up (va_up (va_up I 48 A) 49 B) 50 C) 48 = A := fun A B C => by rw [va_miss (by decide), va_miss (by decide), va_hit]
  have k49 : ∀ A B C : Nat → Int32, (va_up (va_up (va_up I 48 A) 49 B) 50 C) 49 = B := fun A B C => by rw [va_miss (by decide), va_hit]
  generalize hst0 : qSt k N = st at h6
  have hst : ∀ i, i < st → (fun i (y : Int32 × ((Nat → Int32) × (Nat → Int32))) => kX5_look 25 [some (.ref 48), some (.ref 3), some (.ref 51), some (.int (nI k)), some (.int fl), some (.int (nI i))] [] (qm (va_up (va_up (va_up I 48 (va_up (va_up (I 48) 2 (nI st)) 3 y.1)) 49 y.2.1) 50 y.2.2) J e)) i (qGw I N k (I 51) fl i, fa_fill (qPa (I 11) k N) (I 49) i, fa_fill (qRw I N k (I 51) fl) (I 50) i) = (fun i (y : Int32 × ((Nat → Int32) × (Nat → Int32))) => kX5_look 25 [some (.ref 48), some (.ref 3), some (.ref 51), some (.int (nI k)), some (.int fl), some (.int (nI i))] [] (qm (va_up (va_up (va_up I 48 (va_up (va_up (I 48) 2 (nI st)) 3 y.1)) 49 y.2.1) 50 y.2.2) J e)) (i + 1) (qGw I N k (I 51) fl (i + 1), fa_fill (qPa (I 11) k N) (I 49) (i + 1), fa_fill (qRw I N k (I 51) fl) (I 50) (i + 1)) := by
    intro i hi
    show kX5_look 25 _ _ _ = kX5_look 25 _ _ _
    dsimp only
    have p1 := fun A B C => fX2_pattern (va_up (va_up (va_up I 48 A) 49 B) 50 C) J e (kS A B C) hN (k35 A B C) hk (show i < qSt k N by omega)
    have p2 := fun A B C => fX3_levels_51 (va_up (va_up (va_up I 48 A) 49 B) 50 C) J e (kS A B C)
    have p3 := fun A B C => fX0_readsAt (va_up (va_up (va_up I 48 A) 49 B) 50 C) J e hN (k35 A B C)
    have p4 := fun A B C => fX0_receiversAt (va_up (va_up (va_up I 48 A) 49 B) 50 C) J e hN (k35 A B C)
    rw [eX5_look_48_3_51_25, k48, va_miss (show (2 : Nat) ≠ 3 by decide), va_hit, if_pos (nI_lt hi (by omega)), eX5_look_48_3_51_34, p1, kp 11 _ _ _ (by decide) (by decide) (by decide)]
    simp only [Option.bind_some, Option.toList_some, Option.toList_none, List.nil_append, List.cons_append, q_ck_tt, Bool.and_true, Bool.true_and, if_true, if_false, reduceCtorEq]
    rw [eX5_look_48_3_51_47, q_in_nI (show i < 6 by omega) (by omega), nI_clamp (by omega), q_up_sw _ (by decide), fa_next' (f := qPa (I 11) k N) rfl, k49, fa_fill_in (show i < i + 1 by omega), p2, kp 51 _ _ _ (by decide) (by decide) (by decide)]
    simp only [Option.bind_some, Option.toList_some, Option.toList_none, List.nil_append, List.cons_append, q_ck_tt, Bool.and_true, Bool.true_and, if_true, if_false, reduceCtorEq]
    rw [eX5_look_48_3_51_66, p3, kp 9 _ _ _ (by decide) (by decide) (by decide), kp 10 _ _ _ (by decide) (by decide) (by decide), kp 51 _ _ _ (by decide) (by decide) (by decide)]
    simp only [Option.bind_some, Option.toList_some, Option.toList_none, List.nil_append, List.cons_append, q_ck_tt, Bool.and_true, Bool.true_and, if_true, if_false, reduceCtorEq]
    rw [show qRa N (I 9) (I 10) (qLev (I 51) (qPa (I 11) k N i)) (I 51 2) fl = qRw I N k (I 51) fl i from rfl, eX5_look_48_3_51_75, q_in_nI (show i < 6 by omega) (by omega), nI_clamp (by omega), q_up_up, fa_next' (f := qRw I N k (I 51) fl) rfl, k49, fa_fill_in (show i < i + 1 by omega), p4, kp 9 _ _ _ (by decide) (by decide) (by decide), kp 10 _ _ _ (by decide) (by decide) (by decide), kp 3 _ _ _ (by decide) (by decide) (by decide), va_hit, fa_fill_in (show i < i + 1 by omega), k48, va_hit]
    simp only [Option.bind_some, Option.toList_some, Option.toList_none, List.nil_append, List.cons_append, q_ck_tt, Bool.and_true, Bool.true_and, if_true, if_false, reduceCtorEq]
    rw [eX5_look_48_3_51_99, q_up_sx _ (by decide) (by decide), va_up_up, nI_1]
    rfl
  have hq := q_for (fun i (y : Int32 × ((Nat → Int32) × (Nat → Int32))) => kX5_look 25 [some (.ref 48), some (.ref 3), some (.ref 51), some (.int (nI k)), some (.int fl), some (.int (nI i))] [] (qm (va_up (va_up (va_up I 48 (va_up (va_up (I 48) 2 (nI st)) 3 y.1)) 49 y.2.1) 50 y.2.2) J e)) st (fun i => (qGw I N k (I 51) fl i, fa_fill (qPa (I 11) k N) (I 49) i, fa_fill (qRw I N k (I 51) fl) (I 50) i)) hst
  dsimp only at hq
  rw [fa_fill_0, fa_fill_0, va_up_eq (f := va_up I 48 (va_up (va_up (I 48) 2 (nI st)) 3 (qGw I N k (I 51) fl 0))) (p := 49) (by rw [va_miss (by decide)]), va_up_eq (f := va_up I 48 (va_up (va_up (I 48) 2 (nI st)) 3 (qGw I N k (I 51) fl 0))) (p := 50) (by rw [va_miss (by decide)])] at hq
  rw [bX5_look_48_3_51, eX5_look_48_3_51_0, fX2_stepCount I J e h.st hN h.i35 hk, hst0]
  simp only [Option.bind_some, Option.toList_some, Option.toList_none, List.nil_append, List.cons_append, q_ck_tt, Bool.and_true, Bool.true_and, if_true, if_false, reduceCtorEq]
  rw [eX5_look_48_3_51_6, if_neg (show ¬ (6 : Int32) < nI st from nI_nlt (a := 6) (by omega) (by omega)), q_up_va I, q_up_up]
  refine Eq.trans hq ?_
  rw [eX5_look_48_3_51_25, k48, va_miss (show (2 : Nat) ≠ 3 by decide), va_hit, if_neg (nI_nlt (Nat.le_refl _) (by omega)), eX5_look_48_3_51_112]
theorem b_qPa {k i n : Nat} (hN : N ≤ 6) (hn : n < N) (sf : Nat → Int32) : bt (qPa sf k N i) n = qWb (sf n) k N n i := by
  unfold qPa
  rw [b_qB _ (by omega) (by omega), decide_eq_true hn, Bool.true_and]
theorem b_qWa {k i n : Nat} (hN : N ≤ 6) (hi : i < qSt k N) (s : Int32) : bt (qWa s k N n) i = qWb s k N n i := by
  have := qSt_6 (k := k) hN
  unfold qWa
  rw [b_qB _ (by omega) (by omega), decide_eq_true hi, Bool.true_and]
theorem fX12_layAnswers (hr : q_Rs I D N RM rc) (hs : ∀ n, n < N → I 88 n = -1 ∨ I 88 n = 0 ∨ I 88 n = 1) (hq : q_FR N F (I 94)) (h11 : ∀ n, n < N → I 11 n = I 88 n) {k : Nat} (hk : k < 3) (ck : Int32) {fl : Int32}
    (hR : ∀ K : Nat → Nat → Int32, (∀ p, p ≠ 72 → p ≠ 73 → p ≠ 99 → p ≠ 100 → p ≠ 102 → p ≠ 103 → K p = I p) → ∀ lv, (∀ n, n < N → K 100 n = qb (bt lv n)) → ∀ r, r < RM → ∃ a v, mX12_readsAt [.ref 64, .int (nI (rc r)), .int ck] (qm K J e) = some (some (.int (qb (bt (qRa N (I 9) (I 10) lv (F 2) fl) (rc r)))), qm (va_up (va_up K 73 a) 72 v) J e)) :
    ∃ I', mX12_layAnswers [.ref 64, .int (nI k), .int ck] (qm I J e) = some (none, qm I' J e) ∧ (∀ n, n < N → I' 103 n = qWa (I 88 n) k N n) ∧ (∀ r, r < RM → I' 102 r = qAn I N k F fl (rc r)) ∧ ∀ p, p ≠ 72 → p ≠ 73 → p ≠ 99 → p ≠ 100 → p ≠ 102 → p ≠ 103 → I' p = I p := by
  have hN := hr.n6
  have h18 := hr.2.2.1
  have h6 := qSt_6 (k := k) hN
  -- what is wanted
  have l1 : ∀ n, n < N → (fun n (y : Nat → Int32) => kX12_layAnswers 9 [some (.ref 64), some (.int (nI k)), some (.int ck), some (.int (nI (qSt k N))), some (.int (nI n)), none] [] (qm (va_up I 103 y) J e)) n (fa_fill (fun n => qWa (I 88 n) k N n) (I 103) n) = (fun n (y : Nat → Int32) => kX12_layAnswers 9 [some (.ref 64), some (.int (nI k)), some (.int ck), some (.int (nI (qSt k N))), some (.int (nI n)), none] [] (qm (va_up I 103 y) J e)) (n + 1) (fa_fill (fun n => qWa (I 88 n) k N n) (I 103) (n + 1)) := by
    intro n hn
    show kX12_layAnswers 9 _ _ _ = kX12_layAnswers 9 _ _ _
    have w := fun A => fX12_wanted (va_up I 103 A) J e hN (show (va_up I 103 A) 64 51 = nI N from hr.m51) hk hn (hs n hn)
    rw [eX12_layAnswers_9, show ∀ A, (va_up I 103 A) 64 51 = nI N from fun A => hr.m51, if_pos (nI_lt hn (by omega)), eX12_layAnswers_18, w, show ∀ A, (va_up I 103 A) 88 = I 88 from fun A => va_miss (by decide)]
    simp only [Option.bind_some, Option.toList_some, Option.toList_none, List.nil_append, List.cons_append, q_ck_tt, Bool.and_true, Bool.true_and, if_true, if_false, reduceCtorEq]
    rw [eX12_layAnswers_31, q_in_nI (show n < 6 by omega) (by omega), nI_clamp (by omega), q_up_up, fa_next' (f := fun n => qWa (I 88 n) k N n) rfl, nI_1]
    simp only [Option.bind_some, Option.toList_some, Option.toList_none, List.nil_append, List.cons_append, q_ck_tt, Bool.and_true, Bool.true_and, if_true, if_false, reduceCtorEq]
  have q1 := q_for (fun n (y : Nat → Int32) => kX12_layAnswers 9 [some (.ref 64), some (.int (nI k)), some (.int ck), some (.int (nI (qSt k N))), some (.int (nI n)), none] [] (qm (va_up I 103 y) J e)) N (fun n => fa_fill (fun n => qWa (I 88 n) k N n) (I 103) n) l1
  rw [fa_fill_0, va_up_eq (f := I) (p := 103) rfl] at q1
  have hB : ∀ n, n < N → (va_up I 103 (fa_fill (fun n => qWa (I 88 n) k N n) (I 103) N)) 103 n = qWa (I 88 n) k N n := fun n hn => by rw [va_hit, fa_fill_in hn]
  have hBp : ∀ p, p ≠ 103 → (va_up I 103 (fa_fill (fun n => qWa (I 88 n) k N n) (I 103) N)) p = I p := fun p hp => va_miss hp
  generalize va_up I 103 (fa_fill (fun n => qWa (I 88 n) k N n) (I 103) N) = B at q1 hB hBp
  -- nothing answered yet
  have l2 : ∀ r, r < RM → (fun r (y : Nat → Int32) => kX12_layAnswers 41 [some (.ref 64), none, some (.int ck), some (.int (nI (qSt k N))), some (.int (nI r)), none] [] (qm (va_up B 102 y) J e)) r (fa_fill (fun _ => 0) (B 102) r) = (fun r (y : Nat → Int32) => kX12_layAnswers 41 [some (.ref 64), none, some (.int ck), some (.int (nI (qSt k N))), some (.int (nI r)), none] [] (qm (va_up B 102 y) J e)) (r + 1) (fa_fill (fun _ => 0) (B 102) (r + 1)) := by
    intro r hr2
    show kX12_layAnswers 41 _ _ _ = kX12_layAnswers 41 _ _ _
    rw [eX12_layAnswers_41, va_miss (by decide), hBp 64 (by decide), hr.2.1, if_pos (nI_lt hr2 (by omega)), eX12_layAnswers_50, q_in_nI (show r < 24 by omega) (by omega), nI_clamp (by omega), q_up_up, fa_next' (f := fun _ => 0) rfl, nI_1]
    simp only [Option.bind_some, Option.toList_some, Option.toList_none, List.nil_append, List.cons_append, q_ck_tt, Bool.and_true, Bool.true_and, if_true, if_false, reduceCtorEq]
  have q2 := q_for (fun r (y : Nat → Int32) => kX12_layAnswers 41 [some (.ref 64), none, some (.int ck), some (.int (nI (qSt k N))), some (.int (nI r)), none] [] (qm (va_up B 102 y) J e)) RM (fun r => fa_fill (fun _ => 0) (B 102) r) l2
  rw [fa_fill_0, va_up_id] at q2
  -- the steps
  have l3 : ∀ i (K : Nat → Nat → Int32), i < qSt k N → ((∀ n, n < N → K 103 n = qWa (I 88 n) k N n) ∧ (∀ r, r < RM → K 102 r = qB i (fun i => bt (qRw I N k F fl i) (rc r))) ∧ ∀ p, p ≠ 72 → p ≠ 73 → p ≠ 99 → p ≠ 100 → p ≠ 102 → p ≠ 103 → K p = I p) → ∃ K' : Nat → Nat → Int32, ((∀ n, n < N → K' 103 n = qWa (I 88 n) k N n) ∧ (∀ r, r < RM → K' 102 r = qB (i + 1) (fun i => bt (qRw I N k F fl i) (rc r))) ∧ ∀ p, p ≠ 72 → p ≠ 73 → p ≠ 99 → p ≠ 100 → p ≠ 102 → p ≠ 103 → K' p = I p) ∧ (fun i (K : Nat → Nat → Int32) => kX12_layAnswers 67 [some (.ref 64), none, some (.int ck), some (.int (nI (qSt k N))), some (.int (nI i)), none] [] (qm K J e)) i K = (fun i (K : Nat → Nat → Int32) => kX12_layAnswers 67 [some (.ref 64), none, some (.int ck), some (.int (nI (qSt k N))), some (.int (nI i)), none] [] (qm K J e)) (i + 1) K' := by
    intro i K hi ⟨hK1, hK2, hK3⟩
    have m51 : K 64 51 = nI N := by rw [hK3 64 (by decide) (by decide) (by decide) (by decide) (by decide) (by decide)]; exact hr.m51
    have m57 : K 64 57 = nI RM := by rw [hK3 64 (by decide) (by decide) (by decide) (by decide) (by decide) (by decide)]; exact hr.2.1
    have l4 : ∀ n, n < N → (fun n (y : Nat → Int32) => kX12_layAnswers 76 [some (.ref 64), none, some (.int ck), some (.int (nI (qSt k N))), some (.int (nI i)), some (.int (nI n))] [] (qm (va_up K 99 y) J e)) n (fa_fill (fun n => qb (bt (qPa (I 11) k N i) n)) (K 99) n) = (fun n (y : Nat → Int32) => kX12_layAnswers 76 [some (.ref 64), none, some (.int ck), some (.int (nI (qSt k N))), some (.int (nI i)), some (.int (nI n))] [] (qm (va_up K 99 y) J e)) (n + 1) (fa_fill (fun n => qb (bt (qPa (I 11) k N i) n)) (K 99) (n + 1)) := by
      intro n hn
      show kX12_layAnswers 76 _ _ _ = kX12_layAnswers 76 _ _ _
      rw [eX12_layAnswers_76, va_miss (show (64 : Nat) ≠ 99 by decide), m51, if_pos (nI_lt hn (by omega)), eX12_layAnswers_85, q_in_nI (show n < 6 by omega) (by omega), nI_clamp (by omega), va_miss (show (103 : Nat) ≠ 99 by decide), hK1 n hn, b_tst _ (by omega), b_qWa hN hi, q_up_up, fa_next' (f := fun n => qb (bt (qPa (I 11) k N i) n)) (by rw [b_qPa hN hn, h11 n hn]), nI_1]
      simp only [Option.bind_some, Option.toList_some, Option.toList_none, List.nil_append, List.cons_append, q_ck_tt, Bool.and_true, Bool.true_and, if_true, if_false, reduceCtorEq]
    have q4 := q_for (fun n (y : Nat → Int32) => kX12_layAnswers 76 [some (.ref 64), none, some (.int ck), some (.int (nI (qSt k N))), some (.int (nI i)), some (.int (nI n))] [] (qm (va_up K 99 y) J e)) N (fun n => fa_fill (fun n => qb (bt (qPa (I 11) k N i) n)) (K 99) n) l4
    rw [fa_fill_0, va_up_id] at q4
    have hG : ∀ n, n < N → (va_up K 99 (fa_fill (fun n => qb (bt (qPa (I 11) k N i) n)) (K 99) N)) 99 n = qb (bt (qPa (I 11) k N i) n) := fun n hn => by rw [va_hit, fa_fill_in hn]
    have hGp : ∀ p, p ≠ 99 → (va_up K 99 (fa_fill (fun n => qb (bt (qPa (I 11) k N i) n)) (K 99) N)) p = K p := fun p hp => va_miss hp
    generalize va_up K 99 (fa_fill (fun n => qb (bt (qPa (I 11) k N i) n)) (K 99) N) = G at q4 hG hGp
    have hll := fX12_layLevels G J e hN (by rw [hGp 64 (by decide)]; exact m51)
    have g94 : G 94 = I 94 := by rw [hGp 94 (by decide), hK3 94 (by decide) (by decide) (by decide) (by decide) (by decide) (by decide)]
    have hlv : ∀ n, n < N → (va_up (va_up G 99 (fa_fill (qdr (G 94) (G 99)) (G 99) N)) 100 (fa_fill (qLvI N (G 94) (G 99)) (G 100) N)) 100 n = qb (bt (qLev F (qPa (I 11) k N i)) n) := by
      intro n hn
      rw [va_hit, fa_fill_in hn, g94]
      exact q_FR_lev hN hq hG hn
    have hHp : ∀ p, p ≠ 99 → p ≠ 100 → (va_up (va_up G 99 (fa_fill (qdr (G 94) (G 99)) (G 99) N)) 100 (fa_fill (qLvI N (G 94) (G 99)) (G 100) N)) p = K p := fun p h1 h2 => by rw [va_miss h2, va_miss h1, hGp p h1]
    generalize va_up (va_up G 99 (fa_fill (qdr (G 94) (G 99)) (G 99) N)) 100 (fa_fill (qLvI N (G 94) (G 99)) (G 100) N) = H at hll hlv hHp
    -- the receivers
    have l5 : ∀ r (A : Nat → Nat → Int32), r < RM → ((∀ s, s < RM → A 102 s = qB (if s < r then i + 1 else i) (fun i => bt (qRw I N k F fl i) (rc s))) ∧ (∀ p, p ≠ 72 → p ≠ 73 → p ≠ 102 → A p = H p)) → ∃ A' : Nat → Nat → Int32, ((∀ s, s < RM → A' 102 s = qB (if s < r + 1 then i + 1 else i) (fun i => bt (qRw I N k F fl i) (rc s))) ∧ (∀ p, p ≠ 72 → p ≠ 73 → p ≠ 102 → A' p = H p)) ∧ (fun r (A : Nat → Nat → Int32) => kX12_layAnswers 117 [some (.ref 64), none, some (.int ck), some (.int (nI (qSt k N))), some (.int (nI i)), some (.int (nI r))] [] (qm A J e)) r A = (fun r (A : Nat → Nat → Int32) => kX12_layAnswers 117 [some (.ref 64), none, some (.int ck), some (.int (nI (qSt k N))), some (.int (nI i)), some (.int (nI r))] [] (qm A J e)) (r + 1) A' := by
      intro r A hr2 ⟨hA1, hA2⟩
      have aI : ∀ p, p ≠ 72 → p ≠ 73 → p ≠ 99 → p ≠ 100 → p ≠ 102 → p ≠ 103 → A p = I p := fun p h1 h2 h3 h4 h5 h6 => by rw [hA2 p h1 h2 h5, hHp p h3 h4, hK3 p h1 h2 h3 h4 h5 h6]
      obtain ⟨a, v, hrd⟩ := hR A aI (qLev F (qPa (I 11) k N i)) (fun n hn => by rw [hA2 100 (by decide) (by decide) (by decide)]; exact hlv n hn) r hr2
      refine ⟨va_up (va_up (va_up A 73 a) 72 v) 102 (va_up (A 102) r (qB (i + 1) (fun i => bt (qRw I N k F fl i) (rc r)))), ⟨fun s hs2 => ?_, fun p h1 h2 h3 => ?_⟩, ?_⟩
      · rw [va_hit]
        by_cases c : s = r
        · rw [c, va_hit, if_pos (by omega)]
        · rw [va_miss c, hA1 s hs2]
          by_cases c2 : s < r
          · rw [if_pos c2, if_pos (by omega)]
          · rw [if_neg c2, if_neg (by omega)]
      · rw [va_miss h3, va_miss h1, va_miss h2, hA2 p h1 h2 h3]
      · show kX12_layAnswers 117 _ _ _ = kX12_layAnswers 117 _ _ _
        have a57 : A 64 57 = nI RM := by rw [hA2 64 (by decide) (by decide) (by decide), hHp 64 (by decide) (by decide)]; exact m57
        have a92 : A 92 r = nI (rc r) := by rw [aI 92 (by decide) (by decide) (by decide) (by decide) (by decide) (by decide)]; exact (hr.2.2.2 r hr2).1
        rw [eX12_layAnswers_117, a57, if_pos (nI_lt hr2 (by omega)), eX12_layAnswers_126, q_in_nI (show r < 24 by omega) (by omega), nI_clamp (by omega), a92, hrd, hA1 r hr2, if_neg (by omega)]
        simp only [Option.bind_some, Option.toList_some, Option.toList_none, List.nil_append, List.cons_append, q_ck_tt, Bool.and_true, Bool.true_and, if_true, if_false, reduceCtorEq]
        rw [eX12_layAnswers_146, q_in_nI (show r < 24 by omega) (by omega), nI_clamp (by omega), qb_shl _ (by omega), q_up_va, va_miss (show (102 : Nat) ≠ 72 by decide), va_miss (show (102 : Nat) ≠ 73 by decide), nI_1, qB_succ]
        simp only [Option.bind_some, Option.toList_some, Option.toList_none, List.nil_append, List.cons_append, q_ck_tt, Bool.and_true, Bool.true_and, if_true, if_false, reduceCtorEq]
        rfl
    obtain ⟨A', ⟨a1, a2⟩, a3⟩ := q_inv_for (fun r (A : Nat → Nat → Int32) => kX12_layAnswers 117 [some (.ref 64), none, some (.int ck), some (.int (nI (qSt k N))), some (.int (nI i)), some (.int (nI r))] [] (qm A J e)) (fun r A => (∀ s, s < RM → A 102 s = qB (if s < r then i + 1 else i) (fun i => bt (qRw I N k F fl i) (rc s))) ∧ (∀ p, p ≠ 72 → p ≠ 73 → p ≠ 102 → A p = H p)) RM l5 RM 0 H (by omega) ⟨fun s hs2 => by rw [if_neg (by omega), hHp 102 (by decide) (by decide)]; exact hK2 s hs2, fun _ _ _ _ => rfl⟩
    refine ⟨A', ⟨fun n hn => ?_, fun r hr2 => ?_, fun p h1 h2 h3 h4 h5 h6 => ?_⟩, ?_⟩
    · rw [a2 103 (by decide) (by decide) (by decide), hHp 103 (by decide) (by decide)]; exact hK1 n hn
    · rw [a1 r hr2, if_pos hr2]
    · rw [a2 p h1 h2 h5, hHp p h3 h4, hK3 p h1 h2 h3 h4 h5 h6]
    · show kX12_layAnswers 67 _ _ _ = kX12_layAnswers 67 _ _ _
      rw [eX12_layAnswers_67, if_pos (nI_lt hi (by omega)), eX12_layAnswers_73]
      refine Eq.trans q4 ?_
      rw [eX12_layAnswers_76, hGp 64 (by decide), m51, if_neg (nI_nlt (Nat.le_refl _) (by omega)), eX12_layAnswers_110, hll]
      simp only [Option.bind_some, Option.toList_some, Option.toList_none, List.nil_append, List.cons_append, q_ck_tt, Bool.and_true, Bool.true_and, if_true, if_false, reduceCtorEq]
      rw [eX12_layAnswers_114]
      refine Eq.trans a3 ?_
      rw [eX12_layAnswers_117, a2 64 (by decide) (by decide) (by decide), hHp 64 (by decide) (by decide), m57, if_neg (nI_nlt (Nat.le_refl _) (by omega)), eX12_layAnswers_157, nI_1]
  obtain ⟨K', ⟨k1, k2, k3⟩, k4⟩ := q_inv_for (fun i (K : Nat → Nat → Int32) => kX12_layAnswers 67 [some (.ref 64), none, some (.int ck), some (.int (nI (qSt k N))), some (.int (nI i)), none] [] (qm K J e)) (fun i K => (∀ n, n < N → K 103 n = qWa (I 88 n) k N n) ∧ (∀ r, r < RM → K 102 r = qB i (fun i => bt (qRw I N k F fl i) (rc r))) ∧ ∀ p, p ≠ 72 → p ≠ 73 → p ≠ 99 → p ≠ 100 → p ≠ 102 → p ≠ 103 → K p = I p) (qSt k N) l3 (qSt k N) 0 (va_up B 102 (fa_fill (fun _ => 0) (B 102) RM)) (by omega) ⟨fun n hn => by rw [va_miss (by decide)]; exact hB n hn, fun r hr2 => by rw [va_hit, fa_fill_in hr2]; rfl, fun p h1 h2 h3 h4 h5 h6 => by rw [va_miss h5, hBp p h6]⟩
  refine ⟨K', ?_, k1, k2, k3⟩
  rw [bX12_layAnswers, eX12_layAnswers_0, fX12_stepsOf I J e hN hr.m51 hk]
  simp only [Option.bind_some, Option.toList_some, Option.toList_none, List.nil_append, List.cons_append, q_ck_tt, Bool.and_true, Bool.true_and, if_true, if_false, reduceCtorEq]
  rw [eX12_layAnswers_5]
  refine Eq.trans q1 ?_
  rw [eX12_layAnswers_9, hBp 64 (by decide), hr.m51, if_neg (nI_nlt (Nat.le_refl _) (by omega)), eX12_layAnswers_38]
  refine Eq.trans q2 ?_
  rw [eX12_layAnswers_41, va_miss (by decide), hBp 64 (by decide), hr.2.1, if_neg (nI_nlt (Nat.le_refl _) (by omega)), eX12_layAnswers_64]
  refine Eq.trans k4 ?_
  rw [eX12_layAnswers_67, if_neg (nI_nlt (Nat.le_refl _) (by omega)), eX12_layAnswers_163]
theorem q_lA (h : q_Core I D N cl RM rc) (hz : q_Fz I sz) (hq : q_FQ D N (bt (I 3 11)) F (I 94)) {k : Nat} (hk : k < 3) (ck : Int32) : ∃ I', mX12_layAnswers [.ref 64, .int (nI k), .int ck] (qm I J e) = some (none, qm I' J e) ∧ (∀ n, n < N → I' 103 n = qWa (I 88 n) k N n) ∧ (∀ r, r < RM → I' 102 r = qAn I N k F (qFa I sz (F 2) ck) (rc r)) ∧ q_Off I I' ∧ I' 94 = I 94 := by
  have oK : ∀ K : Nat → Nat → Int32, (∀ p, p ≠ 72 → p ≠ 73 → p ≠ 99 → p ≠ 100 → p ≠ 102 → p ≠ 103 → K p = I p) → q_Off I K := by
    intro K hK p k hp
    rw [hK p (fun c => by rw [c] at hp; cases hp) (fun c => by rw [c] at hp; cases hp) (fun c => by rw [c] at hp; cases hp) (fun c => by rw [c] at hp; cases hp) (fun c => by rw [c] at hp; cases hp) (fun c => by rw [c] at hp; cases hp)]
  obtain ⟨I', a1, a2, a3, a4⟩ := fX12_layAnswers (J := J) (e := e) (fl := qFa I sz (F 2) ck) h.rs h.sf hq.1 (fun n hn => (h.bs n hn).1) hk ck (by
    intro K hK lv hl r hr
    have o := oK K hK
    have g := q_read (J := J) (e := e) (q_Core_off h o) (q_Fz_off hz o) (op := F 2) (lv := lv) (by rw [hK 3 (by decide) (by decide) (by decide) (by decide) (by decide) (by decide), hK 94 (by decide) (by decide) (by decide) (by decide) (by decide) (by decide)]; exact hq.2.2.1) hl (h.rs.2.2.2 r hr).2.2 ck
    rw [hK 9 (by decide) (by decide) (by decide) (by decide) (by decide) (by decide), hK 10 (by decide) (by decide) (by decide) (by decide) (by decide) (by decide), qFa_off o] at g
    exact g)
  exact ⟨I', a1, a2, a3, oK I' a4, a4 94 (by decide) (by decide) (by decide) (by decide) (by decide) (by decide)⟩
end LK
