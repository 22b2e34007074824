/-! ===== in how many ways ===== -/
def qCw (f C : Nat → Nat) (r x : Nat) : Nat := if f x = r - 1 then C x else 0
def qCi (f : Nat → Nat) (r : Nat) (C : Nat → Nat) : Nat → (Nat → Nat)
  | 0 => C
  | i + 1 => if f i = r then va_up (qCi f r C i) i (qCw f (qCi f r C i) r (qnx i false) + qCw f (qCi f r C i) r (qnx i true)) else qCi f r C i
def qCo (f : Nat → Nat) (C : Nat → Nat) : Nat → (Nat → Nat)
  | 0 => C
  | n + 1 => qCi f (n + 1) (qCo f C n) 16
def qVi (W : Nat → Nat) : Nat → (Nat → Nat)
  | 0 => fun _ => 0
  | i + 1 => va_up (va_up (qVi W i) (qnx i false) (qVi W i (qnx i false) + W i)) (qnx i true) ((va_up (qVi W i) (qnx i false) (qVi W i (qnx i false) + W i)) (qnx i true) + W i)
def qVo (s : Nat) : Nat → (Nat → Nat)
  | 0 => fun k => if k = s then 1 else 0
  | n + 1 => qVi (qVo s n) 16
theorem qWc : ∀ t, t < 16 → ∀ s, s < 16 → qCo (qMz true t) (va_up (fun _ => 0) t 1) (qMz true t s) s = qVo s (qMz true t s) t := by decide +kernel
section WC
variable {I : Nat → Nat → Int32} {J : Nat → Nat → Int64} {e : QP} {rb tx L : Nat}
theorem fX10_waysThrough {f C : Nat → Nat} {r x : Nat} (hr : 1 ≤ r) (hr2 : r ≤ 16) (hx : x < 16) (hf : f x < 16) (h35 : I 35 x = nI (f x)) (h36 : I 36 x = nI (C x)) : mX10_waysThrough [.ref 34, .int (nI x), .int (nI r)] (qm I J e) = some (some (.int (nI (qCw f C r x))), qm I J e) := by
  rw [bX10_waysThrough, eX10_waysThrough_0, q_in_nI hx (by omega), nI_clamp (by omega), h35, nI_1s hr]
  simp only [Option.bind_some, Option.toList_some, Option.toList_none, List.nil_append, List.cons_append, q_ck_tt, Bool.and_true, Bool.true_and, if_true, if_false, reduceCtorEq]
  unfold qCw
  by_cases c : f x = r - 1
  · rw [if_pos (by rw [c]), if_pos c, eX10_waysThrough_12, q_in_nI hx (by omega), nI_clamp (by omega), h36]
    simp only [Option.bind_some, Option.toList_some, Option.toList_none, List.nil_append, List.cons_append, q_ck_tt, Bool.and_true, Bool.true_and, if_true, if_false, reduceCtorEq]
    rw [eX10_waysThrough_22]
  · rw [if_neg (fun g => c (nI_inj (by omega) (by omega) g)), if_neg c, eX10_waysThrough_21, eX10_waysThrough_22]
    rfl
theorem q_cw_in {M : Nat → Nat → Int32} (hS : q_Sta M) {f : Nat → Nat} (hf : ∀ k, k < 16 → f k < 16) (h35 : ∀ k, k < 16 → M 35 k = nI (f k)) {r s : Nat} (hr : 1 ≤ r) (hr2 : r < 16) (C : Nat → Nat) (g : Nat → Int32) : kX10_countWays 39 [some (.ref 34), some (.int (nI s)), none, some (.int (nI r)), none] [] (qm (va_up M 36 (q16 C g)) J e) = kX10_countWays 23 [some (.ref 34), some (.int (nI s)), none, some (.int (nI (r + 1))), none] [] (qm (va_up M 36 (q16 (qCi f r C 16) g)) J e) := by
  have hst : ∀ i, i < 16 → (fun i (y : Nat → Nat) => kX10_countWays 42 [some (.ref 34), some (.int (nI s)), none, some (.int (nI r)), some (.int (nI i))] [] (qm (va_up M 36 (q16 y g)) J e)) i (qCi f r C i) = (fun i (y : Nat → Nat) => kX10_countWays 42 [some (.ref 34), some (.int (nI s)), none, some (.int (nI r)), some (.int (nI i))] [] (qm (va_up M 36 (q16 y g)) J e)) (i + 1) (qCi f r C (i + 1)) := by
    intro i hi
    show kX10_countWays 42 _ _ _ = kX10_countWays 42 _ _ (qm (va_up M 36 (q16 (if f i = r then va_up (qCi f r C i) i (qCw f (qCi f r C i) r (qnx i false) + qCw f (qCi f r C i) r (qnx i true)) else qCi f r C i) g)) J e)
    generalize qCi f r C i = Y
    have hfi := hf i hi
    have k35 : ∀ G k, k < 16 → (va_up M 36 G) 35 k = nI (f k) := fun G k hk => by rw [va_miss (by decide)]; exact h35 k hk
    have n0 : ∀ G, mX10_next [.int (nI i), .int 0] (qm (va_up M 36 G) J e) = some (some (.int (nI (qnx i false))), qm (va_up M 36 G) J e) := fun G => fX10_next (va_up M 36 G) J e hS hi false
    have n1 : ∀ G, mX10_next [.int (nI i), .int 1] (qm (va_up M 36 G) J e) = some (some (.int (nI (qnx i true))), qm (va_up M 36 G) J e) := fun G => fX10_next (va_up M 36 G) J e hS hi true
    have l0 := (qnx_t i hi false).1
    have l1 := (qnx_t i hi true).1
    have w : ∀ x, x < 16 → mX10_waysThrough [.ref 34, .int (nI x), .int (nI r)] (qm (va_up M 36 (q16 Y g)) J e) = some (some (.int (nI (qCw f Y r x))), qm (va_up M 36 (q16 Y g)) J e) := fun x hx => fX10_waysThrough hr (by omega) hx (hf x hx) (k35 _ x hx) (by rw [va_hit, q16_in hx])
    rw [eX10_countWays_42, if_pos (show nI i < (16 : Int32) from nI_lt (b := 16) hi (by decide)), eX10_countWays_49, q_in_nI hi (by omega), nI_clamp (by omega), k35 _ i hi]
    simp only [Option.bind_some, Option.toList_some, Option.toList_none, List.nil_append, List.cons_append, q_ck_tt, Bool.and_true, Bool.true_and, if_true, if_false, reduceCtorEq]
    by_cases c : f i = r
    · rw [if_pos (by rw [c]), if_pos c, eX10_countWays_60, n0]
      simp only [Option.bind_some, Option.toList_some, Option.toList_none, List.nil_append, List.cons_append, q_ck_tt, Bool.and_true, Bool.true_and, if_true, if_false, reduceCtorEq]
      rw [eX10_countWays_73, w _ l0]
      simp only [Option.bind_some, Option.toList_some, Option.toList_none, List.nil_append, List.cons_append, q_ck_tt, Bool.and_true, Bool.true_and, if_true, if_false, reduceCtorEq]
      rw [eX10_countWays_77, n1]
      simp only [Option.bind_some, Option.toList_some, Option.toList_none, List.nil_append, List.cons_append, q_ck_tt, Bool.and_true, Bool.true_and, if_true, if_false, reduceCtorEq]
      rw [eX10_countWays_84, w _ l1]
      simp only [Option.bind_some, Option.toList_some, Option.toList_none, List.nil_append, List.cons_append, q_ck_tt, Bool.and_true, Bool.true_and, if_true, if_false, reduceCtorEq]
      rw [eX10_countWays_88, q_in_nI hi (by omega), nI_clamp (by omega), nI_add, q_up_up, q16_up hi]
      simp only [Option.bind_some, Option.toList_some, Option.toList_none, List.nil_append, List.cons_append, q_ck_tt, Bool.and_true, Bool.true_and, if_true, if_false, reduceCtorEq]
      rw [eX10_countWays_90, nI_1]
    · rw [if_neg (fun g => c (nI_inj (by omega) (by omega) g)), if_neg c, eX10_countWays_90, nI_1]
  have hq := q_for (fun i (y : Nat → Nat) => kX10_countWays 42 [some (.ref 34), some (.int (nI s)), none, some (.int (nI r)), some (.int (nI i))] [] (qm (va_up M 36 (q16 y g)) J e)) 16 (fun i => qCi f r C i) hst
  rw [eX10_countWays_39]
  refine Eq.trans hq ?_
  show kX10_countWays 42 _ _ _ = _
  rw [eX10_countWays_42, if_neg (show ¬ nI 16 < (16 : Int32) by decide), eX10_countWays_96, nI_1]
theorem fX10_countWays (hS : q_Sta I) {t s : Nat} (ht : t < 16) (hs : s < 16) : ∃ I', mX10_countWays [.ref 34, .int (nI s), .int (nI t)] (qm I J e) = some (some (.int (nI (qCo (qMz true t) (va_up (fun _ => 0) t 1) (qMz true t s) s))), qm I' J e) ∧ ∀ p, p ≠ 35 → p ≠ 36 → I' p = I p := by
  have hme := fX10_measure (J := J) (e := e) hS true ht
  have hwk := q_Wk_of ht
  generalize qMz true t = f at hme hwk
  have hf : ∀ k, k < 16 → f k < 16 := fun k hk => (hwk k hk).1
  have hfs := hf s hs
  have h35 : ∀ k, k < 16 → (va_up I 35 (q16 f (I 35))) 35 k = nI (f k) := fun k hk => by rw [va_hit, q16_in hk]
  have hSM : q_Sta (va_up I 35 (q16 f (I 35))) := hS
  have hP : ∀ p, p ≠ 35 → (va_up I 35 (q16 f (I 35))) p = I p := fun p hp => va_miss hp
  have hm1 : mX10_measure [.ref 34, .int (nI t), .int 1] (qm I J e) = some (none, qm (va_up I 35 (q16 f (I 35))) J e) := hme
  generalize va_up I 35 (q16 f (I 35)) = M at hm1 h35 hSM hP
  have hst : ∀ n, n < f s → (fun n (y : Nat → Nat) => kX10_countWays 23 [some (.ref 34), some (.int (nI s)), none, some (.int (nI (n + 1))), none] [] (qm (va_up M 36 (q16 y (M 36))) J e)) n (qCo f (va_up (fun _ => 0) t 1) n) = (fun n (y : Nat → Nat) => kX10_countWays 23 [some (.ref 34), some (.int (nI s)), none, some (.int (nI (n + 1))), none] [] (qm (va_up M 36 (q16 y (M 36))) J e)) (n + 1) (qCo f (va_up (fun _ => 0) t 1) (n + 1)) := by
    intro n hn
    show kX10_countWays 23 _ _ _ = kX10_countWays 23 _ _ (qm (va_up M 36 (q16 (qCi f (n + 1) (qCo f (va_up (fun _ => 0) t 1) n) 16) (M 36))) J e)
    rw [eX10_countWays_23, q_in_nI hs (by omega), nI_clamp (by omega), va_miss (by decide), h35 s hs, if_neg (nI_nlt (by omega) (by omega))]
    simp only [Option.bind_some, Option.toList_some, Option.toList_none, List.nil_append, List.cons_append, q_ck_tt, Bool.and_true, Bool.true_and, if_true, if_false, reduceCtorEq]
    rw [eX10_countWays_33, if_pos (show nI (n + 1) < (16 : Int32) from nI_lt (b := 16) (by omega) (by decide)), q_cw_in hSM hf h35 (by omega) (by omega)]
  have hq := q_for (fun n (y : Nat → Nat) => kX10_countWays 23 [some (.ref 34), some (.int (nI s)), none, some (.int (nI (n + 1))), none] [] (qm (va_up M 36 (q16 y (M 36))) J e)) (f s) (fun n => qCo f (va_up (fun _ => 0) t 1) n) hst
  refine ⟨va_up M 36 (q16 (qCo f (va_up (fun _ => 0) t 1) (f s)) (M 36)), ?_, fun p h1 h2 => by rw [va_miss h2, hP p h1]⟩
  have hrow : va_up (fa_fill (fun _ => (0 : Int32)) (M 36) 16) t 1 = q16 (va_up (fun _ => 0) t 1) (M 36) := q16_up (f := fun _ => 0) (v := 1) ht
  have hrow2 : q16 (qCo f (va_up (fun _ => 0) t 1) (f s)) (M 36) s = nI (qCo f (va_up (fun _ => 0) t 1) (f s) s) := q16_in hs
  rw [bX10_countWays, eX10_countWays_0, hm1]
  simp only [Option.bind_some, Option.toList_some, Option.toList_none, List.nil_append, List.cons_append, q_ck_tt, Bool.and_true, Bool.true_and, if_true, if_false, reduceCtorEq]
  rw [eX10_countWays_6, fJ7_fill_36]
  simp only [Option.bind_some, Option.toList_some, Option.toList_none, List.nil_append, List.cons_append, q_ck_tt, Bool.and_true, Bool.true_and, if_true, if_false, reduceCtorEq]
  rw [eX10_countWays_14, q_in_nI ht (by omega), nI_clamp (by omega), q_up_up, hrow]
  simp only [Option.bind_some, Option.toList_some, Option.toList_none, List.nil_append, List.cons_append, q_ck_tt, Bool.and_true, Bool.true_and, if_true, if_false, reduceCtorEq]
  refine Eq.trans hq ?_
  show kX10_countWays 23 _ _ _ = _
  rw [eX10_countWays_23, q_in_nI hs (by omega), nI_clamp (by omega), va_miss (by decide), h35 s hs, if_pos (nI_lt (by omega) (by omega))]
  simp only [Option.bind_some, Option.toList_some, Option.toList_none, List.nil_append, List.cons_append, q_ck_tt, Bool.and_true, Bool.true_and, if_true, if_false, reduceCtorEq]
  rw [eX10_countWays_102, q_in_nI hs (by omega), nI_clamp (by omega), va_hit, hrow2]
  simp only [Option.bind_some, Option.toList_some, Option.toList_none, List.nil_append, List.cons_append, q_ck_tt, Bool.and_true, Bool.true_and, if_true, if_false, reduceCtorEq]
theorem q_wr_in {M : Nat → Nat → Int32} {t s n : Nat} (W : Nat → Nat) (g : Nat → Int32) : ∃ G, kX12_walks 66 [some (.ref 64), some (.int (nI s)), some (.int (nI t)), some (.int (nI n)), none, none] [] (qm (va_up M 97 (q16 W g)) J e) = kX12_walks 51 [some (.ref 64), some (.int (nI s)), some (.int (nI t)), some (.int (nI (n + 1))), none, none] [] (qm (va_up (va_up M 97 (q16 (qVi W 16) g)) 98 G) J e) := by
  have hM98 : (va_up M 97 (q16 W g)) 98 = M 98 := va_miss (by decide)
  have z1 : ∀ i, i < 16 → (fun i (y : Nat → Int32) => kX12_walks 69 [some (.ref 64), some (.int (nI s)), some (.int (nI t)), some (.int (nI n)), some (.int (nI i)), none] [] (qm (va_up (va_up M 97 (q16 W g)) 98 y) J e)) i (fa_fill (fun _ => 0) (M 98) i) = (fun i (y : Nat → Int32) => kX12_walks 69 [some (.ref 64), some (.int (nI s)), some (.int (nI t)), some (.int (nI n)), some (.int (nI i)), none] [] (qm (va_up (va_up M 97 (q16 W g)) 98 y) J e)) (i + 1) (fa_fill (fun _ => 0) (M 98) (i + 1)) := by
    intro i hi
    show kX12_walks 69 _ _ _ = kX12_walks 69 _ _ _
    rw [eX12_walks_69, if_pos (show nI i < (16 : Int32) from nI_lt (b := 16) hi (by decide)), eX12_walks_76, q_in_nI hi (by omega), nI_clamp (by omega), q_up_up, fa_next' (f := fun _ => 0) rfl, nI_1]
    simp only [Option.bind_some, Option.toList_some, Option.toList_none, List.nil_append, List.cons_append, q_ck_tt, Bool.and_true, Bool.true_and, if_true, if_false, reduceCtorEq]
  have q1 := q_for (fun i (y : Nat → Int32) => kX12_walks 69 [some (.ref 64), some (.int (nI s)), some (.int (nI t)), some (.int (nI n)), some (.int (nI i)), none] [] (qm (va_up (va_up M 97 (q16 W g)) 98 y) J e)) 16 (fun i => fa_fill (fun _ => 0) (M 98) i) z1
  have hz0 : fa_fill (fun _ => (0 : Int32)) (M 98) 16 = q16 (qVi W 0) (M 98) := rfl
  have z2 : ∀ i, i < 16 → (fun i (y : Nat → Nat) => kX12_walks 93 [some (.ref 64), some (.int (nI s)), some (.int (nI t)), some (.int (nI n)), some (.int (nI i)), none] [] (qm (va_up (va_up M 97 (q16 W g)) 98 (q16 y (M 98))) J e)) i (qVi W i) = (fun i (y : Nat → Nat) => kX12_walks 93 [some (.ref 64), some (.int (nI s)), some (.int (nI t)), some (.int (nI n)), some (.int (nI i)), none] [] (qm (va_up (va_up M 97 (q16 W g)) 98 (q16 y (M 98))) J e)) (i + 1) (qVi W (i + 1)) := by
    intro i hi
    show kX12_walks 93 _ _ _ = kX12_walks 93 _ _ (qm (va_up (va_up M 97 (q16 W g)) 98 (q16 (va_up (va_up (qVi W i) (qnx i false) (qVi W i (qnx i false) + W i)) (qnx i true) ((va_up (qVi W i) (qnx i false) (qVi W i (qnx i false) + W i)) (qnx i true) + W i)) (M 98))) J e)
    generalize qVi W i = Y
    have l0 := (qnx_t i hi false).1
    have l1 := (qnx_t i hi true).1
    have r97 : ∀ G, (va_up (va_up M 97 (q16 W g)) 98 G) 97 i = nI (W i) := fun G => by rw [va_miss (by decide), va_hit, q16_in hi]
    have n0 : ∀ G, mX12_nextState [.int (nI i), .int 0] (qm G J e) = some (some (.int (nI (qnx i false))), qm G J e) := fun G => fX12_nextState _ J e hi false
    have n1 : ∀ G, mX12_nextState [.int (nI i), .int 1] (qm G J e) = some (some (.int (nI (qnx i true))), qm G J e) := fun G => fX12_nextState _ J e hi true
    rw [eX12_walks_93, if_pos (show nI i < (16 : Int32) from nI_lt (b := 16) hi (by decide)), eX12_walks_100, eX12_walks_103, if_pos (show (0 : Int32) < 2 by decide), eX12_walks_109, n0]
    simp only [Option.bind_some, Option.toList_some, Option.toList_none, List.nil_append, List.cons_append, q_ck_tt, Bool.and_true, Bool.true_and, if_true, if_false, reduceCtorEq]
    rw [eX12_walks_120, q_in_nI l0 (by omega), q_in_nI hi (by omega), nI_clamp (show qnx i false < 2 ^ 31 by omega), nI_clamp (show i < 2 ^ 31 by omega), r97, va_hit, q16_in l0, nI_add, q_up_up, q16_up l0]
    simp only [Option.bind_some, Option.toList_some, Option.toList_none, List.nil_append, List.cons_append, q_ck_tt, Bool.and_true, Bool.true_and, if_true, if_false, reduceCtorEq]
    rw [show (0 : Int32) + 1 = 1 from rfl, eX12_walks_103, if_pos (show (1 : Int32) < 2 by decide), eX12_walks_109, n1]
    simp only [Option.bind_some, Option.toList_some, Option.toList_none, List.nil_append, List.cons_append, q_ck_tt, Bool.and_true, Bool.true_and, if_true, if_false, reduceCtorEq]
    rw [eX12_walks_120, q_in_nI l1 (by omega), q_in_nI hi (by omega), nI_clamp (show qnx i true < 2 ^ 31 by omega), nI_clamp (show i < 2 ^ 31 by omega), r97, va_hit, q16_in l1, nI_add, q_up_up, q16_up l1]
    simp only [Option.bind_some, Option.toList_some, Option.toList_none, List.nil_append, List.cons_append, q_ck_tt, Bool.and_true, Bool.true_and, if_true, if_false, reduceCtorEq]
    rw [show (1 : Int32) + 1 = 2 from rfl, eX12_walks_103, if_neg (show ¬ (2 : Int32) < 2 by decide), eX12_walks_137, nI_1]
  have q2 := q_for (fun i (y : Nat → Nat) => kX12_walks 93 [some (.ref 64), some (.int (nI s)), some (.int (nI t)), some (.int (nI n)), some (.int (nI i)), none] [] (qm (va_up (va_up M 97 (q16 W g)) 98 (q16 y (M 98))) J e)) 16 (fun i => qVi W i) z2
  generalize qVi W 16 = V at q2
  have z3 : ∀ i, i < 16 → (fun i (y : Nat → Int32) => kX12_walks 146 [some (.ref 64), some (.int (nI s)), some (.int (nI t)), some (.int (nI n)), some (.int (nI i)), none] [] (qm (va_up (va_up M 97 y) 98 (q16 V (M 98))) J e)) i (fa_fill (fun k => nI (V k)) (q16 W g) i) = (fun i (y : Nat → Int32) => kX12_walks 146 [some (.ref 64), some (.int (nI s)), some (.int (nI t)), some (.int (nI n)), some (.int (nI i)), none] [] (qm (va_up (va_up M 97 y) 98 (q16 V (M 98))) J e)) (i + 1) (fa_fill (fun k => nI (V k)) (q16 W g) (i + 1)) := by
    intro i hi
    show kX12_walks 146 _ _ _ = kX12_walks 146 _ _ _
    rw [eX12_walks_146, if_pos (show nI i < (16 : Int32) from nI_lt (b := 16) hi (by decide)), eX12_walks_153, q_in_nI hi (by omega), nI_clamp (by omega), va_hit, q16_in hi, q_up_sw _ (by decide), fa_next' (f := fun k => nI (V k)) rfl, nI_1]
    simp only [Option.bind_some, Option.toList_some, Option.toList_none, List.nil_append, List.cons_append, q_ck_tt, Bool.and_true, Bool.true_and, if_true, if_false, reduceCtorEq]
  have q3 := q_for (fun i (y : Nat → Int32) => kX12_walks 146 [some (.ref 64), some (.int (nI s)), some (.int (nI t)), some (.int (nI n)), some (.int (nI i)), none] [] (qm (va_up (va_up M 97 y) 98 (q16 V (M 98))) J e)) 16 (fun i => fa_fill (fun k => nI (V k)) (q16 W g) i) z3
  have hz3 : fa_fill (fun k => nI (V k)) (q16 W g) 16 = q16 V g := by
    funext k
    unfold q16
    by_cases hk : k < 16
    · rw [fa_fill_in hk, fa_fill_in hk]
    · rw [fa_fill_out (by omega), fa_fill_out (by omega), fa_fill_out (by omega)]
  refine ⟨q16 V (M 98), ?_⟩
  rw [eX12_walks_66]
  rw [fa_fill_0, ← hM98, va_up_id] at q1
  refine Eq.trans q1 ?_
  show kX12_walks 69 _ _ _ = _
  rw [eX12_walks_69, if_neg (show ¬ nI 16 < (16 : Int32) by decide), eX12_walks_90, hM98, hz0]
  refine Eq.trans q2 ?_
  show kX12_walks 93 _ _ _ = _
  rw [eX12_walks_93, if_neg (show ¬ nI 16 < (16 : Int32) by decide), eX12_walks_143]
  rw [fa_fill_0] at q3
  refine Eq.trans q3 ?_
  show kX12_walks 146 _ _ _ = _
  rw [eX12_walks_146, if_neg (show ¬ nI 16 < (16 : Int32) by decide), eX12_walks_173, hz3, nI_1]
theorem q_wr_all {K : Nat → Nat → Int32} {t s F : Nat} (ht : t < 16) (hs : s < 16) (hF : F < 16) (g : Nat → Int32) : ∀ m n (M : Nat → Nat → Int32), n + m = F → M 95 (16 * s + t) = nI F → (∀ p, p ≠ 97 → p ≠ 98 → M p = K p) → ∃ I', kX12_walks 51 [some (.ref 64), some (.int (nI s)), some (.int (nI t)), some (.int (nI n)), none, none] [] (qm (va_up M 97 (q16 (qVo s n) g)) J e) = some (some (.int (nI (qVo s F t))), qm I' J e) ∧ ∀ p, p ≠ 97 → p ≠ 98 → I' p = K p := by
  have hm : (16 : Int32) * nI s + nI t = nI (16 * s + t) := by rw [show (16 : Int32) = nI 16 from rfl, pk_mul, nI_add]
  intro m
  induction m with
  | zero =>
    intro n M hn h95 hp
    have hnF : n = F := by omega
    subst hnF
    refine ⟨va_up M 97 (q16 (qVo s n) g), ?_, fun p h1 h2 => by rw [va_miss h1, hp p h1 h2]⟩
    generalize qVo s n = V
    rw [eX12_walks_51, hm, q_in_nI (show 16 * s + t < 256 by omega) (by omega), nI_clamp (show 16 * s + t < 2 ^ 31 by omega), va_miss (by decide), h95, if_neg (nI_nlt (Nat.le_refl _) (by omega))]
    simp only [Option.bind_some, Option.toList_some, Option.toList_none, List.nil_append, List.cons_append, q_ck_tt, Bool.and_true, Bool.true_and, if_true, if_false, reduceCtorEq]
    rw [eX12_walks_179, q_in_nI ht (by omega), nI_clamp (by omega), va_hit, q16_in ht]
    simp only [Option.bind_some, Option.toList_some, Option.toList_none, List.nil_append, List.cons_append, q_ck_tt, Bool.and_true, Bool.true_and, if_true, if_false, reduceCtorEq]
  | succ m ih =>
    intro n M hn h95 hp
    obtain ⟨G, hG⟩ := q_wr_in (J := J) (e := e) (M := M) (t := t) (s := s) (n := n) (qVo s n) g
    obtain ⟨I', i1, i2⟩ := ih (n + 1) (va_up M 98 G) (by omega) (by rw [va_miss (by decide)]; exact h95) (fun p h1 h2 => by rw [va_miss h2, hp p h1 h2])
    refine ⟨I', ?_, i2⟩
    rw [eX12_walks_51, hm, q_in_nI (show 16 * s + t < 256 by omega) (by omega), nI_clamp (show 16 * s + t < 2 ^ 31 by omega), va_miss (by decide), h95, if_pos (nI_lt (by omega) (by omega))]
    simp only [Option.bind_some, Option.toList_some, Option.toList_none, List.nil_append, List.cons_append, q_ck_tt, Bool.and_true, Bool.true_and, if_true, if_false, reduceCtorEq]
    rw [hG, va_up_comm _ (by decide)]
    exact i1
theorem o_walks (hS : q_Sta I) (hF : q_Fr I) (a b : Int32) : q_Obs mX11_walks mX12_walks [.int a, .int b] I J (3, 17, rb, tx, L) := by
  have h10 : ¬ ((1 : Int32) = 0) := by decide
  have hno : ∀ b1 b2 : Bool, q_in a 16 = b1 → q_in b 16 = b2 → (b1 && b2) = false → q_Obs mX11_walks mX12_walks [.int a, .int b] I J (3, 17, rb, tx, L) := by
    intro b1 b2 e1 e2 hb
    refine ⟨-1, I, I, ?_, ?_, q_Off_refl _, q_Off_refl _⟩
    · rw [bX11_walks, eX11_walks_0, fX11_isState, e1]
      simp only [Option.bind_some, Option.toList_some, Option.toList_none, List.nil_append, List.cons_append, q_ck_tt, Bool.and_true, Bool.true_and, if_true, if_false, reduceCtorEq]
      rw [eX11_walks_4]
      cases b1 with
      | false => rw [if_pos qb_f, eX11_walks_26, eX11_walks_27]
      | true =>
        cases b2 with
        | true => cases hb
        | false =>
          rw [if_neg (show ¬ qb true = 0 by decide), eX11_walks_7, fX11_isState, e2]
          simp only [Option.bind_some, Option.toList_some, Option.toList_none, List.nil_append, List.cons_append, q_ck_tt, Bool.and_true, Bool.true_and, if_true, if_false, reduceCtorEq]
          rw [eX11_walks_11, if_pos qb_f, eX11_walks_26, eX11_walks_27]
    · rw [bX12_walks, eX12_walks_0, fX12_isState, e1]
      simp only [Option.bind_some, Option.toList_some, Option.toList_none, List.nil_append, List.cons_append, q_ck_tt, Bool.and_true, Bool.true_and, if_true, if_false, reduceCtorEq]
      rw [eX12_walks_4]
      cases b1 with
      | false => rw [if_pos qb_f, eX12_walks_14]
      | true =>
        cases b2 with
        | true => cases hb
        | false =>
          rw [if_neg (show ¬ qb true = 0 by decide), eX12_walks_7, fX12_isState, e2]
          simp only [Option.bind_some, Option.toList_some, Option.toList_none, List.nil_append, List.cons_append, q_ck_tt, Bool.and_true, Bool.true_and, if_true, if_false, reduceCtorEq]
          rw [eX12_walks_11, if_pos qb_f, eX12_walks_14]
  cases ha : q_in a 16 with
  | false => exact hno false _ ha rfl rfl
  | true =>
    cases hb : q_in b 16 with
    | false => exact hno true false ha hb rfl
    | true =>
      clear hno
      obtain ⟨s, hs, rfl, -⟩ := q_in_of ha
      obtain ⟨t, ht, rfl, -⟩ := q_in_of hb
      obtain ⟨I', l0, l1⟩ := fX10_countWays (J := J) (e := (3, 17, rb, tx, L)) hS ht hs
      have hfr := q_Fr_t hF ht s hs
      have hwk := (q_Wk_of ht s hs).1
      have hwc := qWc t ht s hs
      rw [hwc] at l0
      generalize qMz true t s = F at l0 hfr hwk
      have oI : q_Off I I' := by
        intro p k hp
        rw [l1 p (fun c => by rw [c] at hp; cases hp) (fun c => by rw [c] at hp; cases hp)]
      have h95 : I' 95 (16 * s + t) = nI F := by rw [l1 95 (by decide) (by decide)]; exact hfr
      obtain ⟨I2, w0, w1⟩ := q_wr_all (J := J) (e := (3, 17, rb, tx, L)) (K := I') ht hs hwk (I' 97) F 0 I' (by omega) h95 (fun _ _ _ => rfl)
      have z1 : ∀ i, i < 16 → (fun i (y : Nat → Int32) => kX12_walks 18 [some (.ref 64), some (.int (nI s)), some (.int (nI t)), some (.int (nI i)), none, none] [] (qm (va_up I' 97 y) J (3, 17, rb, tx, L))) i (fa_fill (fun k => nI (qVo s 0 k)) (I' 97) i) = (fun i (y : Nat → Int32) => kX12_walks 18 [some (.ref 64), some (.int (nI s)), some (.int (nI t)), some (.int (nI i)), none, none] [] (qm (va_up I' 97 y) J (3, 17, rb, tx, L))) (i + 1) (fa_fill (fun k => nI (qVo s 0 k)) (I' 97) (i + 1)) := by
        intro i hi
        show kX12_walks 18 _ _ _ = kX12_walks 18 _ _ _
        have hv : qb (decide (i = s)) = nI (qVo s 0 i) := by
          show qb (decide (i = s)) = nI (if i = s then 1 else 0)
          by_cases c : i = s
          · rw [decide_eq_true c, if_pos c]; rfl
          · rw [decide_eq_false c, if_neg c]; rfl
        have h39 : ∀ b : Bool, b = decide (i = s) → kX12_walks 39 [some (.ref 64), some (.int (nI s)), some (.int (nI t)), some (.int (nI i)), none, none] [.int (qb b), .int (nI i), .ref 97] (qm (va_up I' 97 (fa_fill (fun k => nI (qVo s 0 k)) (I' 97) i)) J (3, 17, rb, tx, L)) = kX12_walks 18 [some (.ref 64), some (.int (nI s)), some (.int (nI t)), some (.int (nI (i + 1))), none, none] [] (qm (va_up I' 97 (fa_fill (fun k => nI (qVo s 0 k)) (I' 97) (i + 1))) J (3, 17, rb, tx, L)) := by
          intro b hb
          rw [eX12_walks_39, fX12_truth]
          simp only [Option.bind_some, Option.toList_some, Option.toList_none, List.nil_append, List.cons_append, q_ck_tt, Bool.and_true, Bool.true_and, if_true, if_false, reduceCtorEq]
          rw [eX12_walks_42, q_in_nI hi (by omega), nI_clamp (by omega), q_up_up, fa_next' (f := fun k => nI (qVo s 0 k)) (by rw [hb, hv]), nI_1]
          simp only [Option.bind_some, Option.toList_some, Option.toList_none, List.nil_append, List.cons_append, q_ck_tt, Bool.and_true, Bool.true_and, if_true, if_false, reduceCtorEq]
        rw [eX12_walks_18, if_pos (show nI i < (16 : Int32) from nI_lt (b := 16) hi (by decide)), eX12_walks_24]
        by_cases c : i = s
        · rw [if_pos (by rw [c]), eX12_walks_34]
          exact h39 true (by rw [decide_eq_true c])
        · rw [if_neg (fun g => c (nI_inj (by omega) (by omega) g)), eX12_walks_38]
          exact h39 false (by rw [decide_eq_false c])
      have q1 := q_for (fun i (y : Nat → Int32) => kX12_walks 18 [some (.ref 64), some (.int (nI s)), some (.int (nI t)), some (.int (nI i)), none, none] [] (qm (va_up I' 97 y) J (3, 17, rb, tx, L))) 16 (fun i => fa_fill (fun k => nI (qVo s 0 k)) (I' 97) i) z1
      rw [fa_fill_0, va_up_id] at q1
      refine ⟨nI (qVo s F t), I', I2, ?_, ?_, oI, ?_⟩
      · rw [bX11_walks, eX11_walks_0, fX11_isState, ha]
        simp only [Option.bind_some, Option.toList_some, Option.toList_none, List.nil_append, List.cons_append, q_ck_tt, Bool.and_true, Bool.true_and, if_true, if_false, reduceCtorEq]
        rw [eX11_walks_4, qb_t, if_neg h10, eX11_walks_7, fX11_isState, hb]
        simp only [Option.bind_some, Option.toList_some, Option.toList_none, List.nil_append, List.cons_append, q_ck_tt, Bool.and_true, Bool.true_and, if_true, if_false, reduceCtorEq]
        rw [eX11_walks_11, qb_t, if_neg h10, eX11_walks_14, l0]
        simp only [Option.bind_some, Option.toList_some, Option.toList_none, List.nil_append, List.cons_append, q_ck_tt, Bool.and_true, Bool.true_and, if_true, if_false, reduceCtorEq]
        rw [eX11_walks_23, eX11_walks_27]
      · rw [bX12_walks, eX12_walks_0, fX12_isState, ha]
        simp only [Option.bind_some, Option.toList_some, Option.toList_none, List.nil_append, List.cons_append, q_ck_tt, Bool.and_true, Bool.true_and, if_true, if_false, reduceCtorEq]
        rw [eX12_walks_4, qb_t, if_neg h10, eX12_walks_7, fX12_isState, hb]
        simp only [Option.bind_some, Option.toList_some, Option.toList_none, List.nil_append, List.cons_append, q_ck_tt, Bool.and_true, Bool.true_and, if_true, if_false, reduceCtorEq]
        rw [eX12_walks_11, qb_t, if_neg h10, eX12_walks_16]
        refine Eq.trans q1 ?_
        show kX12_walks 18 _ _ _ = _
        rw [eX12_walks_18, if_neg (show ¬ nI 16 < (16 : Int32) by decide), eX12_walks_49]
        exact w0
      · intro p k hp
        rw [w1 p (fun c => by rw [c] at hp; cases hp) (fun c => by rw [c] at hp; cases hp)]
end WC
