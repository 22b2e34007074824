/-! ===== singles: how many ===== -/
def qSF (N RM : Nat) : Nat := 2 * N + RM
def qSN (N RM : Nat) : Nat := qSF N RM + N * (N - 1)
theorem qN1 {N : Nat} (hN : N ≤ 6) : nI N * (nI N - 1) = nI (N * (N - 1)) := by
  have : N = 0 ∨ N = 1 ∨ N = 2 ∨ N = 3 ∨ N = 4 ∨ N = 5 ∨ N = 6 := by omega
  rcases this with rfl | rfl | rfl | rfl | rfl | rfl | rfl <;> decide
theorem qN30 {N : Nat} (hN : N ≤ 6) : N * (N - 1) ≤ 30 := by
  have : N = 0 ∨ N = 1 ∨ N = 2 ∨ N = 3 ∨ N = 4 ∨ N = 5 ∨ N = 6 := by omega
  rcases this with rfl | rfl | rfl | rfl | rfl | rfl | rfl <;> decide
section SI
variable {I : Nat → Nat → Int32} {J : Nat → Nat → Int64} {e : QP} {rb tx L : Nat} {D N : Nat} {cl : Nat → Nat} {RM : Nat} {rc : Nat → Nat}
theorem qSN_60 (h : q_Core I D N cl RM rc) : qSN N RM ≤ 60 := by
  have := qN30 h.n6
  have := h.n6
  have := h.br.2.1
  unfold qSN qSF
  omega
theorem fX12_singleMany (h : q_Core I D N cl RM rc) : mX12_singleMany [.ref 64] (qm I J e) = some (some (.int (nI (qSN N RM))), qm I J e) := by
  rw [bX12_singleMany, eX12_singleMany_0, bX12_shortFrom, eX12_shortFrom_0, h.m51, h.br.1, show (2 : Int32) = nI 2 from rfl, pk_mul, nI_add]
  simp only [Option.bind_some, Option.toList_some, Option.toList_none, List.nil_append, List.cons_append, q_ck_tt, Bool.and_true, Bool.true_and, if_true, if_false, reduceCtorEq]
  rw [eX12_singleMany_4, h.m51, qN1 h.n6, nI_add]
  rfl
theorem fX12_isSingle (h : q_Core I D N cl RM rc) (a : Int32) : mX12_isSingle [.ref 64, .int a] (qm I J e) = some (some (.int (qb (q_in a (qSN N RM)))), qm I J e) := by
  have h60 := qSN_60 h
  rw [bX12_isSingle, eX12_isSingle_0, fX12_singleMany h]
  simp only [Option.bind_some, Option.toList_some, Option.toList_none, List.nil_append, List.cons_append, q_ck_tt, Bool.and_true, Bool.true_and, if_true, if_false, reduceCtorEq]
  rw [eX12_isSingle_6, fX12_isIn0 I J e a (show qSN N RM < 2 ^ 30 by omega)]
  simp only [Option.bind_some, Option.toList_some, Option.toList_none, List.nil_append, List.cons_append, q_ck_tt, Bool.and_true, Bool.true_and, if_true, if_false, reduceCtorEq]
  rw [eX12_isSingle_11]
  simp only [Option.bind_some, Option.toList_some, Option.toList_none, List.nil_append, List.cons_append, q_ck_tt, Bool.and_true, Bool.true_and, if_true, if_false, reduceCtorEq, qb_ck]
theorem q_all24 (h : q_Core I D N cl RM rc) : fb_ct (bt (I 3 11)) 32 = RM := by
  have h4 := h.br.2.2.2
  rw [← h4, show (32 : Nat) = 24 + 8 from rfl]
  refine q_ct_cut 8 (fun x h1 h2 => ?_)
  rw [h.bc.2.2.2.1 x (by omega), decide_eq_false (by omega), Bool.false_and]
theorem fX0_singleCount (h : q_Core I D N cl RM rc) : mX0_singleCount [.ref 3] (qm I J e) = some (some (.int (nI (qSN N RM))), qm I J e) := by
  rw [bX0_singleCount, eX0_singleCount_0, bX0_firstShort, eX0_firstShort_0, bX0_firstOpen, eX0_firstOpen_0, h.i35, show (2 : Int32) = nI 2 from rfl, pk_mul]
  simp only [Option.bind_some, Option.toList_some, Option.toList_none, List.nil_append, List.cons_append, q_ck_tt, Bool.and_true, Bool.true_and, if_true, if_false, reduceCtorEq]
  rw [eX0_firstShort_4, fJ6_bitCount, q_all24 h]
  simp only [Option.bind_some, Option.toList_some, Option.toList_none, List.nil_append, List.cons_append, q_ck_tt, Bool.and_true, Bool.true_and, if_true, if_false, reduceCtorEq]
  rw [eX0_firstShort_11, nI_add]
  simp only [Option.bind_some, Option.toList_some, Option.toList_none, List.nil_append, List.cons_append, q_ck_tt, Bool.and_true, Bool.true_and, if_true, if_false, reduceCtorEq]
  rw [eX0_singleCount_4, h.i35, qN1 h.n6, nI_add]
  rfl
theorem fX0_hasSingle (h : q_Core I D N cl RM rc) (a : Int32) : mX0_hasSingle [.ref 3, .int a] (qm I J e) = some (some (.int (qb (q_in a (qSN N RM)))), qm I J e) := by
  have h60 := qSN_60 h
  rw [q_inP a (show qSN N RM < 2 ^ 30 by omega)]
  simp only [bX0_hasSingle, eX0_hasSingle_0, eX0_hasSingle_16, eX0_hasSingle_4, eX0_hasSingle_17, eX0_hasSingle_9, eX0_hasSingle_12, fX0_singleCount h, Option.bind_some, Option.toList_some, Option.toList_none, List.nil_append, List.cons_append, q_ck_tt, Bool.and_true, Bool.true_and, if_true, if_false, reduceCtorEq]
  by_cases h1 : a < 0 <;> by_cases h2 : a < nI (qSN N RM) <;> simp [h1, h2, q_ck, qb]
theorem o_singles (h : q_Core I D N cl RM rc) : q_Obs mX11_singles mX12_singles [] I J (3, 17, rb, tx, L) := by
  refine ⟨nI (qSN N RM), I, I, ?_, ?_, q_Off_refl _, q_Off_refl _⟩
  · rw [bX11_singles, eX11_singles_0, fX0_singleCount h]
    simp only [Option.bind_some, Option.toList_some, Option.toList_none, List.nil_append, List.cons_append, q_ck_tt, Bool.and_true, Bool.true_and, if_true, if_false, reduceCtorEq]
    rw [eX11_singles_7]
  · rw [bX12_singles, eX12_singles_0, fX12_singleMany h]
    simp only [Option.bind_some, Option.toList_some, Option.toList_none, List.nil_append, List.cons_append, q_ck_tt, Bool.and_true, Bool.true_and, if_true, if_false, reduceCtorEq]
    rw [eX12_singles_4]
end SI
