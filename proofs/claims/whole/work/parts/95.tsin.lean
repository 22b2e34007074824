/-! ===== single faults: the reference ===== -/
def qpo : Nat → Nat → Nat → Nat → Option Nat
  | 0, _, _, _ => none
  | f + 1, N, k, a => if a < N then (if k < N - 1 - a then some (6 * a + a + 1 + k) else qpo f N (k - (N - 1 - a)) (a + 1)) else none
theorem qpo_t : ∀ N, N < 7 → ∀ k, k < qK N → qpo 7 N k 0 = some (6 * qla (qpp N k) + qob (qpp N k)) := by decide +kernel
def qcl (p : Nat) : Nat := 6 * qla p + qob p
theorem qcl_t : ∀ p, p < 15 → qcl p < 36 ∧ ∀ q, q < 15 → qcl p = qcl q → p = q := by decide +kernel
/-- the reference's row behind a turn -/
def qTr (N RM : Nat) (rc : Nat → Nat) (f : Nat → Int32) (b : Bool) (s : Nat) : Nat → Int32 :=
  if s < 2 * N then va_up f (19 + s / 2) (if b then -1 else nI (s % 2))
  else if s < qSF N RM then va_up f (25 + rc (s - 2 * N) / 6) (f (25 + rc (s - 2 * N) / 6) ^^^ ((1 : Int32) <<< (nI (rc (s - 2 * N) % 6) &&& 31)))
  else va_up f (29 + qcl (qpp N ((s - qSF N RM) / 2))) (if b then 0 else nI (1 + (s - qSF N RM) % 2))
theorem b_bit {k : Nat} (hk : k < 32) (i : Nat) : bt ((1 : Int32) <<< (nI k &&& 31)) i = decide (i = k) := by
  by_cases h : i < 32
  · exact b_one hk h
  · rw [b_big (by omega), decide_eq_false (by omega)]
theorem b_ib {k : Nat} (hk : k < 32) (b : Bool) (i : Nat) : bt (if b then (1 : Int32) <<< (nI k &&& 31) else 0) i = (b && decide (i = k)) := by
  cases b with
  | false => exact b_0 i
  | true => exact b_bit hk i
section SR
variable {I : Nat → Nat → Int32} {J : Nat → Nat → Int64} {e : QP} {rb tx L : Nat} {D N : Nat} {cl : Nat → Nat} {RM : Nat} {rc : Nat → Nat} {F f : Nat → Int32}
theorem q_Core.r6 (h : q_Core I D N cl RM rc) {x : Nat} (hx : x < 24) (hA : bt (I 3 11) x = true) : x < 6 * D := by
  by_cases c : I 12 x = -1
  · rw [h.rc0 hx c] at hA; cases hA
  · rcases h.bc.1 x hx with g | ⟨_, _, g⟩
    · exact (g.2 c).1
    · rw [h.bc.2.2.2.1 x (by omega), g] at hA
      simp at hA
/-- what the reference's own rows tell of the board -/
def q_Rs (I : Nat → Nat → Int32) (D N RM : Nat) (rc : Nat → Nat) : Prop := (I 64 51 = nI N ∧ N ≤ 6 ∧ D ≤ 4) ∧ I 64 57 = nI RM ∧ RM ≤ 18 ∧ ∀ r, r < RM → I 92 r = nI (rc r) ∧ rc r < 24 ∧ rc r < 6 * D
theorem q_Rs.m51 (h : q_Rs I D N RM rc) : I 64 51 = nI N := h.1.1
theorem q_Rs.n6 (h : q_Rs I D N RM rc) : N ≤ 6 := h.1.2.1
theorem q_Rs.d4 (h : q_Rs I D N RM rc) : D ≤ 4 := h.1.2.2
theorem q_Rs.s60 (h : q_Rs I D N RM rc) : qSN N RM ≤ 60 := by
  have := qN30 h.n6
  have := h.n6
  have := h.2.2.1
  unfold qSN qSF
  omega
theorem q_Rs.f60 (h : q_Rs I D N RM rc) : qSF N RM ≤ 60 := by
  have := h.s60
  rw [qSN_SF] at this
  omega
theorem q_Rs.sk (h : q_Rs I D N RM rc) {s : Nat} (hs : s < qSN N RM) (h2 : ¬ s < qSF N RM) : (s - qSF N RM) / 2 < qK N := by
  have h1 := qK2 h.n6
  rw [qSN_SF, h1] at hs
  omega
theorem q_Core.rs (h : q_Core I D N cl RM rc) : q_Rs I D N RM rc := ⟨⟨h.m51, h.n6, h.d4⟩, h.br.1, h.br.2.1, fun r hr => ⟨(h.br.2.2.1 r hr).1, (h.br.2.2.1 r hr).2.1, h.r6 (h.br.2.2.1 r hr).2.1 (h.br.2.2.1 r hr).2.2.1⟩⟩
theorem fX12_openFrom (h : q_Rs I D N RM rc) : mX12_openFrom [.ref 64] (qm I J e) = some (some (.int (nI (2 * N))), qm I J e) := by
  rw [bX12_openFrom, eX12_openFrom_0, h.m51, show (2 : Int32) = nI 2 from rfl, pk_mul]
theorem fX12_shortFrom (h : q_Rs I D N RM rc) : mX12_shortFrom [.ref 64] (qm I J e) = some (some (.int (nI (qSF N RM))), qm I J e) := by
  rw [bX12_shortFrom, eX12_shortFrom_0, h.m51, h.2.1, show (2 : Int32) = nI 2 from rfl, pk_mul, nI_add]
  rfl
theorem q_pr_lp (h : q_Rs I D N RM rc) : ∀ g k a v, k < 64 → qpo g N k a = some v → kX12_pairOf 11 [some (.ref 64), none, some (.int (nI k)), some (.int (nI a))] [] (qm I J e) = some (some (.int (nI v)), qm I J e) := by
  have hN := h.n6
  intro g
  induction g with
  | zero => intro k a v _ hg; cases hg
  | succ g ih =>
    intro k a v hk hg
    rw [qpo] at hg
    by_cases ca : a < N
    · rw [if_pos ca] at hg
      have hd : nI N - 1 - nI a = nI (N - 1 - a) := by rw [nI_1s (by omega), nI_sb (by omega)]
      rw [eX12_pairOf_11, h.m51, hd]
      by_cases ck : k < N - 1 - a
      · rw [if_pos ck] at hg
        injection hg with hg
        rw [if_pos (nI_lt ck (by omega)), eX12_pairOf_40, show (6 : Int32) = nI 6 from rfl, pk_mul, nI_add, nI_1, nI_add, hg]
      · rw [if_neg ck] at hg
        rw [if_neg (nI_nlt (by omega) (by omega)), eX12_pairOf_23, h.m51, hd, nI_sb (by omega), nI_1]
        exact ih _ _ _ (by omega) hg
    · rw [if_neg ca] at hg; cases hg
theorem fX12_pairOf (h : q_Rs I D N RM rc) {s : Nat} (hs : s < qSN N RM) (h2 : ¬ s < qSF N RM) : mX12_pairOf [.ref 64, .int (nI s)] (qm I J e) = some (some (.int (nI (qcl (qpp N ((s - qSF N RM) / 2))))), qm I J e) := by
  have hN := h.n6
  have h60 := h.s60
  have hk := h.sk hs h2
  have hl := q_pr_lp (J := J) (e := e) h 7 _ 0 _ (show (s - qSF N RM) / 2 < 64 by omega) (qpo_t N (by omega) _ hk)
  rw [bX12_pairOf, eX12_pairOf_0, fX12_shortFrom h]
  simp only [Option.bind_some, Option.toList_some, Option.toList_none, List.nil_append, List.cons_append, q_ck_tt, Bool.and_true, Bool.true_and, if_true, if_false, reduceCtorEq]
  rw [eX12_pairOf_5, nI_sb (by omega), (q_d64 (s - qSF N RM) (by omega)).1]
  exact hl
theorem fX12_shortKind (h : q_Rs I D N RM rc) {s : Nat} (hs : s < qSN N RM) (h2 : ¬ s < qSF N RM) : mX12_shortKind [.ref 64, .int (nI s)] (qm I J e) = some (some (.int (nI (1 + (s - qSF N RM) % 2))), qm I J e) := by
  have h60 := h.s60
  rw [bX12_shortKind, eX12_shortKind_0, fX12_shortFrom h]
  simp only [Option.bind_some, Option.toList_some, Option.toList_none, List.nil_append, List.cons_append, q_ck_tt, Bool.and_true, Bool.true_and, if_true, if_false, reduceCtorEq]
  rw [eX12_shortKind_6, nI_sb (by omega), (q_d64 (s - qSF N RM) (by omega)).2.1, show (1 : Int32) = nI 1 from rfl, nI_add]
theorem fX12_receiverOf (h : q_Rs I D N RM rc) {s : Nat} (h1 : ¬ s < 2 * N) (h2 : s < qSF N RM) : mX12_receiverOf [.ref 64, .int (nI s)] (qm I J e) = some (some (.int (nI (rc (s - 2 * N)))), qm I J e) := by
  have hr : s - 2 * N < RM := by unfold qSF at h2; omega
  have h18 := h.2.2.1
  rw [bX12_receiverOf, eX12_receiverOf_0, fX12_openFrom h]
  simp only [Option.bind_some, Option.toList_some, Option.toList_none, List.nil_append, List.cons_append, q_ck_tt, Bool.and_true, Bool.true_and, if_true, if_false, reduceCtorEq]
  rw [eX12_receiverOf_9, nI_sb (by omega), q_in_nI (show s - 2 * N < 24 by omega) (by omega), nI_clamp (by omega), (h.2.2.2 _ hr).1]
  simp only [Option.bind_some, Option.toList_some, Option.toList_none, List.nil_append, List.cons_append, q_ck_tt, Bool.and_true, Bool.true_and, if_true, if_false, reduceCtorEq]
theorem fX12_isThere (h : q_Rs I D N RM rc) {A : Nat → Bool} (hq : q_FQ D N A F (I 94)) {s : Nat} (hs : s < qSN N RM) : mX12_isThere [.ref 64, .int (nI s)] (qm I J e) = some (some (.int (qb (qth N RM rc F s))), qm I J e) := by
  have h60 := h.s60
  have h60' := h.f60
  have hN := h.n6
  have hD := h.d4
  obtain ⟨⟨f1, -, f3, -⟩, -, fo, -⟩ := hq
  rw [bX12_isThere, eX12_isThere_0, fX12_openFrom h]
  simp only [Option.bind_some, Option.toList_some, Option.toList_none, List.nil_append, List.cons_append, q_ck_tt, Bool.and_true, Bool.true_and, if_true, if_false, reduceCtorEq]
  rw [eX12_isThere_5]
  unfold qth
  by_cases c1 : s < 2 * N
  · obtain ⟨g1, g2, g3⟩ := f1 (s / 2) (by omega)
    have hv : (if I 94 (19 + s / 2) = nI (s % 2) then kX12_isThere 25 [none, none] [] (qm I J e) else kX12_isThere 29 [none, none] [] (qm I J e)) = some (some (.int (qb (bt (F 0) (s / 2) && (bt (F 1) (s / 2) == decide (s % 2 = 1))))), qm I J e) := by
      rw [g2, g3]
      have hm : s % 2 = 0 ∨ s % 2 = 1 := by omega
      rcases g1 with g | g | g <;> rcases hm with m | m <;> rw [g, m] <;> simp +decide only [if_true, if_false, eX12_isThere_25, eX12_isThere_29, eX12_isThere_30, q_ck] <;> rfl
    rw [if_pos (nI_lt c1 (by omega)), if_pos c1, eX12_isThere_8, (q_d64 s (by omega)).1, (q_d64 s (by omega)).2.1, show (19 : Int32) = nI 19 from rfl, nI_add, q_in_nI (show 19 + s / 2 < 65 by omega) (by omega), nI_clamp (by omega)]
    simp only [Option.bind_some, Option.toList_some, Option.toList_none, List.nil_append, List.cons_append, q_ck_tt, Bool.and_true, Bool.true_and, if_true, if_false, reduceCtorEq]
    exact hv
  · rw [if_neg (nI_nlt (by omega) (by omega)), if_neg c1, eX12_isThere_31, fX12_shortFrom h]
    simp only [Option.bind_some, Option.toList_some, Option.toList_none, List.nil_append, List.cons_append, q_ck_tt, Bool.and_true, Bool.true_and, if_true, if_false, reduceCtorEq]
    rw [eX12_isThere_36]
    by_cases c2 : s < qSF N RM
    · have hr : s - 2 * N < RM := by unfold qSF at c2; omega
      obtain ⟨-, r24, r6⟩ := h.2.2.2 _ hr
      have hb := (fo (rc (s - 2 * N)) (by omega)).1
      rw [decide_eq_true r6, Bool.true_and] at hb
      obtain ⟨-, -, d3, d4⟩ := q_d64 (rc (s - 2 * N)) (by omega)
      rw [if_pos (nI_lt c2 (by omega)), if_pos c2, eX12_isThere_39, fX12_receiverOf h c1 c2]
      simp only [Option.bind_some, Option.toList_some, Option.toList_none, List.nil_append, List.cons_append, q_ck_tt, Bool.and_true, Bool.true_and, if_true, if_false, reduceCtorEq]
      rw [eX12_isThere_50, d3, show (25 : Int32) = nI 25 from rfl, nI_add, q_in_nI (show 25 + rc (s - 2 * N) / 6 < 65 by omega) (by omega), nI_clamp (by omega), fX12_receiverOf h c1 c2]
      simp only [Option.bind_some, Option.toList_some, Option.toList_none, List.nil_append, List.cons_append, q_ck_tt, Bool.and_true, Bool.true_and, if_true, if_false, reduceCtorEq]
      rw [eX12_isThere_60, d4, fX12_has _ _ _ _ (show rc (s - 2 * N) % 6 < 32 by omega)]
      simp only [Option.bind_some, Option.toList_some, Option.toList_none, List.nil_append, List.cons_append, q_ck_tt, Bool.and_true, Bool.true_and, if_true, if_false, reduceCtorEq]
      rw [eX12_isThere_66, ← hb]
      simp only [Option.bind_some, Option.toList_some, Option.toList_none, List.nil_append, List.cons_append, q_ck_tt, Bool.and_true, Bool.true_and, if_true, if_false, reduceCtorEq, qb_ck]
    · have hk := h.sk hs c2
      have hp := ((qpp_t N (by omega)).1 _ hk).1
      obtain ⟨g1, g2, g3, -⟩ := f3 _ hp
      have hc := (qcl_t _ hp).1
      have hv : (if I 94 (29 + qcl (qpp N ((s - qSF N RM) / 2))) = nI (1 + (s - qSF N RM) % 2) then kX12_isThere 88 [none, none] [] (qm I J e) else kX12_isThere 92 [none, none] [] (qm I J e)) = some (some (.int (qb (if (s - qSF N RM) % 2 = 1 then bt (F 4) (qpp N ((s - qSF N RM) / 2)) else bt (F 3) (qpp N ((s - qSF N RM) / 2))))), qm I J e) := by
        rw [g2, g3]
        unfold qcl
        have hm : (s - qSF N RM) % 2 = 0 ∨ (s - qSF N RM) % 2 = 1 := by omega
        rcases g1 with g | g | g <;> rcases hm with m | m <;> rw [g, m] <;> simp +decide only [if_true, if_false, eX12_isThere_88, eX12_isThere_92, eX12_isThere_93, q_ck] <;> rfl
      rw [if_neg (nI_nlt (by omega) (by omega)), if_neg c2, eX12_isThere_67, fX12_pairOf h hs c2]
      simp only [Option.bind_some, Option.toList_some, Option.toList_none, List.nil_append, List.cons_append, q_ck_tt, Bool.and_true, Bool.true_and, if_true, if_false, reduceCtorEq]
      rw [eX12_isThere_78, show (29 : Int32) = nI 29 from rfl, nI_add, q_in_nI (show 29 + qcl (qpp N ((s - qSF N RM) / 2)) < 65 by omega) (by omega), nI_clamp (by omega), fX12_shortKind h hs c2]
      simp only [Option.bind_some, Option.toList_some, Option.toList_none, List.nil_append, List.cons_append, q_ck_tt, Bool.and_true, Bool.true_and, if_true, if_false, reduceCtorEq]
      rw [eX12_isThere_85]
      exact hv
theorem fX12_isBarred (h : q_Rs I D N RM rc) {A : Nat → Bool} (hq : q_FQ D N A F (I 94)) {s : Nat} (hs : s < qSN N RM) : mX12_isBarred [.ref 64, .int (nI s)] (qm I J e) = some (some (.int (qb (qba N RM rc F s))), qm I J e) := by
  have h60 := h.s60
  have h60' := h.f60
  have hN := h.n6
  have ht := fX12_isThere (J := J) (e := e) h hq hs
  obtain ⟨⟨f1, -, f3, -⟩, -, fo, -⟩ := hq
  rw [bX12_isBarred, eX12_isBarred_0, ht]
  simp only [Option.bind_some, Option.toList_some, Option.toList_none, List.nil_append, List.cons_append, q_ck_tt, Bool.and_true, Bool.true_and, if_true, if_false, reduceCtorEq]
  rw [eX12_isBarred_5]
  unfold qba
  cases hb : qth N RM rc F s with
  | true => rw [if_neg (show ¬ qb true = 0 by decide), eX12_isBarred_8, Bool.not_true, Bool.and_false]; rfl
  | false =>
    rw [if_pos qb_f, eX12_isBarred_10, fX12_openFrom h, Bool.not_false, Bool.and_true]
    simp only [Option.bind_some, Option.toList_some, Option.toList_none, List.nil_append, List.cons_append, q_ck_tt, Bool.and_true, Bool.true_and, if_true, if_false, reduceCtorEq]
    rw [eX12_isBarred_15]
    by_cases c1 : s < 2 * N
    · obtain ⟨g1, g2, g3⟩ := f1 (s / 2) (by omega)
      rw [if_pos (nI_lt c1 (by omega)), if_pos c1, eX12_isBarred_18, (q_d64 s (by omega)).1, show (19 : Int32) = nI 19 from rfl, nI_add, q_in_nI (show 19 + s / 2 < 65 by omega) (by omega), nI_clamp (by omega), g2]
      simp only [Option.bind_some, Option.toList_some, Option.toList_none, List.nil_append, List.cons_append, q_ck_tt, Bool.and_true, Bool.true_and, if_true, if_false, reduceCtorEq]
      rcases g1 with g | g | g <;> rw [g] <;> simp +decide only [if_true, if_false, eX12_isBarred_36, eX12_isBarred_32, eX12_isBarred_37, q_ck] <;> rfl
    · rw [if_neg (nI_nlt (by omega) (by omega)), if_neg c1, eX12_isBarred_38, fX12_shortFrom h]
      simp only [Option.bind_some, Option.toList_some, Option.toList_none, List.nil_append, List.cons_append, q_ck_tt, Bool.and_true, Bool.true_and, if_true, if_false, reduceCtorEq]
      rw [eX12_isBarred_43]
      by_cases c2 : s < qSF N RM
      · rw [if_pos (nI_lt c2 (by omega)), if_pos c2, eX12_isBarred_66, eX12_isBarred_67]; rfl
      · have hk := h.sk hs c2
        have hp := ((qpp_t N (by omega)).1 _ hk).1
        obtain ⟨g1, g2, g3, -⟩ := f3 _ hp
        have hc := (qcl_t _ hp).1
        rw [if_neg (nI_nlt (by omega) (by omega)), if_neg c2, eX12_isBarred_46, fX12_pairOf h hs c2]
        simp only [Option.bind_some, Option.toList_some, Option.toList_none, List.nil_append, List.cons_append, q_ck_tt, Bool.and_true, Bool.true_and, if_true, if_false, reduceCtorEq]
        rw [eX12_isBarred_57, show (29 : Int32) = nI 29 from rfl, nI_add, q_in_nI (show 29 + qcl (qpp N ((s - qSF N RM) / 2)) < 65 by omega) (by omega), nI_clamp (by omega), g2, g3]
        simp only [Option.bind_some, Option.toList_some, Option.toList_none, List.nil_append, List.cons_append, q_ck_tt, Bool.and_true, Bool.true_and, if_true, if_false, reduceCtorEq]
        unfold qcl
        rcases g1 with g | g | g <;> rw [g] <;> simp +decide only [if_true, if_false, eX12_isBarred_66, eX12_isBarred_62, eX12_isBarred_67, q_ck] <;> rfl
theorem fX12_turn (h : q_Rs I D N RM rc) {A : Nat → Bool} (hq : q_FQ D N A F (I 94)) {s : Nat} (hs : s < qSN N RM) : mX12_turn [.ref 64, .int (nI s)] (qm I J e) = some (none, qm (va_up I 94 (qTr N RM rc (I 94) (qth N RM rc F s) s)) J e) := by
  have h60 := h.s60
  have h60' := h.f60
  have hN := h.n6
  have hD := h.d4
  rw [bX12_turn, eX12_turn_0, fX12_isThere h hq hs]
  simp only [Option.bind_some, Option.toList_some, Option.toList_none, List.nil_append, List.cons_append, q_ck_tt, Bool.and_true, Bool.true_and, if_true, if_false, reduceCtorEq]
  rw [eX12_turn_5, fX12_openFrom h]
  simp only [Option.bind_some, Option.toList_some, Option.toList_none, List.nil_append, List.cons_append, q_ck_tt, Bool.and_true, Bool.true_and, if_true, if_false, reduceCtorEq]
  rw [eX12_turn_11]
  generalize qth N RM rc F s = b
  unfold qTr
  by_cases c1 : s < 2 * N
  · rw [if_pos (nI_lt c1 (by omega)), if_pos c1, eX12_turn_14, (q_d64 s (by omega)).1, show (19 : Int32) = nI 19 from rfl, nI_add]
    cases b with
    | false =>
      rw [if_pos qb_f, eX12_turn_32, eX12_turn_35, (q_d64 s (by omega)).2.1, q_in_nI (show 19 + s / 2 < 65 by omega) (by omega), nI_clamp (by omega), q_up_va]
      simp only [Option.bind_some, Option.toList_some, Option.toList_none, List.nil_append, List.cons_append, q_ck_tt, Bool.and_true, Bool.true_and, if_true, if_false, reduceCtorEq]
      rw [eX12_turn_105]
    | true =>
      rw [if_neg (show ¬ qb true = 0 by decide), eX12_turn_28, eX12_turn_35, q_in_nI (show 19 + s / 2 < 65 by omega) (by omega), nI_clamp (by omega), q_up_va]
      simp only [Option.bind_some, Option.toList_some, Option.toList_none, List.nil_append, List.cons_append, q_ck_tt, Bool.and_true, Bool.true_and, if_true, if_false, reduceCtorEq]
      rw [eX12_turn_105]
  · rw [if_neg (nI_nlt (by omega) (by omega)), if_neg c1, eX12_turn_39, fX12_shortFrom h]
    simp only [Option.bind_some, Option.toList_some, Option.toList_none, List.nil_append, List.cons_append, q_ck_tt, Bool.and_true, Bool.true_and, if_true, if_false, reduceCtorEq]
    rw [eX12_turn_44]
    by_cases c2 : s < qSF N RM
    · have hr : s - 2 * N < RM := by unfold qSF at c2; omega
      obtain ⟨-, r24, -⟩ := h.2.2.2 _ hr
      obtain ⟨-, -, d3, d4⟩ := q_d64 (rc (s - 2 * N)) (by omega)
      rw [if_pos (nI_lt c2 (by omega)), if_pos c2, eX12_turn_47, fX12_receiverOf h c1 c2]
      simp only [Option.bind_some, Option.toList_some, Option.toList_none, List.nil_append, List.cons_append, q_ck_tt, Bool.and_true, Bool.true_and, if_true, if_false, reduceCtorEq]
      rw [eX12_turn_58, d3, show (25 : Int32) = nI 25 from rfl, nI_add, q_in_nI (show 25 + rc (s - 2 * N) / 6 < 65 by omega) (by omega), nI_clamp (by omega), fX12_receiverOf h c1 c2]
      simp only [Option.bind_some, Option.toList_some, Option.toList_none, List.nil_append, List.cons_append, q_ck_tt, Bool.and_true, Bool.true_and, if_true, if_false, reduceCtorEq]
      rw [eX12_turn_70, d4, q_in_nI (show 25 + rc (s - 2 * N) / 6 < 65 by omega) (by omega), nI_clamp (by omega), q_up_va]
      simp only [Option.bind_some, Option.toList_some, Option.toList_none, List.nil_append, List.cons_append, q_ck_tt, Bool.and_true, Bool.true_and, if_true, if_false, reduceCtorEq]
      rw [eX12_turn_105]
    · have hp := ((qpp_t N (by omega)).1 _ (h.sk hs c2)).1
      have hc := (qcl_t _ hp).1
      rw [if_neg (nI_nlt (by omega) (by omega)), if_neg c2, eX12_turn_79, fX12_pairOf h hs c2]
      simp only [Option.bind_some, Option.toList_some, Option.toList_none, List.nil_append, List.cons_append, q_ck_tt, Bool.and_true, Bool.true_and, if_true, if_false, reduceCtorEq]
      rw [eX12_turn_90, show (29 : Int32) = nI 29 from rfl, nI_add]
      cases b with
      | false =>
        rw [if_pos qb_f, eX12_turn_99, fX12_shortKind h hs c2]
        simp only [Option.bind_some, Option.toList_some, Option.toList_none, List.nil_append, List.cons_append, q_ck_tt, Bool.and_true, Bool.true_and, if_true, if_false, reduceCtorEq]
        rw [eX12_turn_104, q_in_nI (show 29 + qcl (qpp N ((s - qSF N RM) / 2)) < 65 by omega) (by omega), nI_clamp (by omega), q_up_va]
        simp only [Option.bind_some, Option.toList_some, Option.toList_none, List.nil_append, List.cons_append, q_ck_tt, Bool.and_true, Bool.true_and, if_true, if_false, reduceCtorEq]
        rw [eX12_turn_105]
      | true =>
        rw [if_neg (show ¬ qb true = 0 by decide), eX12_turn_95, eX12_turn_104v1, q_in_nI (show 29 + qcl (qpp N ((s - qSF N RM) / 2)) < 65 by omega) (by omega), nI_clamp (by omega), q_up_va]
        simp only [Option.bind_some, Option.toList_some, Option.toList_none, List.nil_append, List.cons_append, q_ck_tt, Bool.and_true, Bool.true_and, if_true, if_false, reduceCtorEq]
        rw [eX12_turn_105]
theorem q_bit6 : ∀ c, c < 6 → (1 : Int32) <<< (nI c &&& 31) = nI (2 ^ c) ∧ 2 ^ c < 64 := by decide +kernel
theorem q_FQ_turn (h : q_Core I D N cl RM rc) (hq : q_FQ D N (bt (I 3 11)) F f) {s : Nat} (hs : s < qSN N RM) (hb : qba N RM rc F s = false) : q_FQ D N (bt (I 3 11)) (qTu N RM rc F s) (qTr N RM rc f (qth N RM rc F s) s) := by
  have h60 := qSN_60 h
  have h60' := qSF_60 h
  have hN := h.n6
  have hD := h.d4
  obtain ⟨⟨f1, f2, f3, f4⟩, fn, fo, fd⟩ := hq
  have ht := qtg_32 h hs
  unfold qba at hb
  by_cases c1 : s < 2 * N
  · have hn0 : s / 2 < N := by omega
    have eF : qTu N RM rc F s = va_up (va_up F 0 (F 0 ^^^ ((1 : Int32) <<< (nI (s / 2) &&& 31)))) 1 (F 1 ^^^ (if decide (s % 2 = 1) then (1 : Int32) <<< (nI (s / 2) &&& 31) else 0)) := by unfold qTu qtg qhi; simp only [if_pos c1]
    have ef : ∀ b, qTr N RM rc f b s = va_up f (19 + s / 2) (if b then -1 else nI (s % 2)) := fun b => by unfold qTr; rw [if_pos c1]
    have eth : qth N RM rc F s = (bt (F 0) (s / 2) && (bt (F 1) (s / 2) == decide (s % 2 = 1))) := by unfold qth; rw [if_pos c1]
    rw [if_pos c1, eth] at hb
    rw [eF, ef, eth]
    clear eF ef eth
    refine ⟨⟨fun n hn => ?_, fun v hv => ?_, fun p hp => ?_, fun v hv => ?_⟩, fun n n1 n2 => ?_, fun x hx => ?_, fun d hd => ?_⟩
    · obtain ⟨g1, g2, g3⟩ := f1 n hn
      rw [va_miss (show (0 : Nat) ≠ 1 by decide), va_hit, va_hit, b_xor, b_xor, b_bit (by omega), b_ib (by omega)]
      by_cases c : n = s / 2
      · subst c
        rw [va_hit, decide_eq_true rfl, Bool.and_true]
        have hm : s % 2 = 0 ∨ s % 2 = 1 := by omega
        rw [g2, g3] at hb
        rw [g2, g3]
        rcases g1 with g | g | g <;> rcases hm with m | m <;> rw [g, m] at hb <;> first | (exact absurd hb (by decide)) | (rw [g, m]; decide)
      · rw [va_miss (by omega), decide_eq_false c, Bool.and_false, Bool.xor_false, Bool.xor_false]
        exact ⟨g1, g2, g3⟩
    · obtain ⟨g1, g2⟩ := f2 v hv
      rw [va_miss (show (0 : Nat) ≠ 1 by decide), va_hit, va_hit, b_xor, b_xor, b_bit (by omega), b_ib (by omega), decide_eq_false (by omega), Bool.and_false, Bool.xor_false, Bool.xor_false]
      exact ⟨g1, g2⟩
    · have hc := (qcl_t p hp).1
      unfold qcl at hc
      rw [va_miss (show (3 : Nat) ≠ 1 by decide), va_miss (show (3 : Nat) ≠ 0 by decide), va_miss (show (4 : Nat) ≠ 1 by decide), va_miss (show (4 : Nat) ≠ 0 by decide), va_miss (by omega)]
      exact f3 p hp
    · rw [va_miss (show (3 : Nat) ≠ 1 by decide), va_miss (show (3 : Nat) ≠ 0 by decide), va_miss (show (4 : Nat) ≠ 1 by decide), va_miss (show (4 : Nat) ≠ 0 by decide)]
      exact f4 v hv
    · rw [va_miss (by omega)]; exact fn n n1 n2
    · rw [va_miss (show (2 : Nat) ≠ 1 by decide), va_miss (show (2 : Nat) ≠ 0 by decide), va_miss (by omega)]
      exact fo x hx
    · rw [va_miss (by omega)]; exact fd d hd
  · by_cases c2 : s < qSF N RM
    · have hr : s - 2 * N < RM := by unfold qSF at c2; omega
      obtain ⟨-, r24, rA, -⟩ := h.br.2.2.1 _ hr
      have r6 := h.r6 r24 rA
      have eF : qTu N RM rc F s = va_up F 2 (F 2 ^^^ ((1 : Int32) <<< (nI (rc (s - 2 * N)) &&& 31))) := by unfold qTu qtg; simp only [if_neg c1, if_pos c2]
      have ef : ∀ b, qTr N RM rc f b s = va_up f (25 + rc (s - 2 * N) / 6) (f (25 + rc (s - 2 * N) / 6) ^^^ ((1 : Int32) <<< (nI (rc (s - 2 * N) % 6) &&& 31))) := fun b => by unfold qTr; rw [if_neg c1, if_pos c2]
      rw [eF, ef]
      clear eF ef
      generalize rc (s - 2 * N) = x0 at r24 rA r6
      refine ⟨⟨fun n hn => ?_, fun v hv => ?_, fun p hp => ?_, fun v hv => ?_⟩, fun n n1 n2 => ?_, fun x hx => ?_, fun d hd => ?_⟩
      · rw [va_miss (show (0 : Nat) ≠ 2 by decide), va_miss (show (1 : Nat) ≠ 2 by decide), va_miss (by omega)]
        exact f1 n hn
      · rw [va_miss (show (0 : Nat) ≠ 2 by decide), va_miss (show (1 : Nat) ≠ 2 by decide)]
        exact f2 v hv
      · rw [va_miss (show (3 : Nat) ≠ 2 by decide), va_miss (show (4 : Nat) ≠ 2 by decide), va_miss (by omega)]
        exact f3 p hp
      · rw [va_miss (show (3 : Nat) ≠ 2 by decide), va_miss (show (4 : Nat) ≠ 2 by decide)]
        exact f4 v hv
      · rw [va_miss (by omega)]; exact fn n n1 n2
      · obtain ⟨g1, g2⟩ := fo x hx
        rw [va_hit, b_xor, b_bit (by omega)]
        by_cases c : x = x0
        · subst c
          rw [va_hit, b_xor, b_bit (by omega), decide_eq_true r6, decide_eq_true rfl, decide_eq_true rfl, Bool.true_and]
          rw [decide_eq_true r6, Bool.true_and] at g1
          rw [g1]
          exact ⟨rfl, fun _ => rA⟩
        · rw [decide_eq_false c, Bool.xor_false]
          refine ⟨?_, g2⟩
          by_cases cd : x / 6 = x0 / 6
          · rw [cd, va_hit, b_xor, b_bit (by omega), decide_eq_false (show ¬ x % 6 = x0 % 6 by omega), Bool.xor_false, g1, cd]
          · rw [va_miss (by omega)]; exact g1
      · by_cases cd : d = x0 / 6
        · subst cd
          obtain ⟨k, k1, k2⟩ := fd _ hd
          obtain ⟨b1, b2⟩ := q_bit6 (x0 % 6) (by omega)
          refine ⟨k ^^^ 2 ^ (x0 % 6), Nat.xor_lt_two_pow (n := 6) k1 b2, ?_⟩
          rw [va_hit, k2, b1, nx_xor]
        · rw [va_miss (by omega)]; exact fd d hd
    · have hk := q_sk h hs c2
      obtain ⟨hp0, hpN, -⟩ := (qpp_t N (by omega)).1 _ hk
      have eF : qTu N RM rc F s = va_up (va_up F 4 (F 4 ^^^ (if decide ((s - qSF N RM) % 2 = 1) then (1 : Int32) <<< (nI (qpp N ((s - qSF N RM) / 2)) &&& 31) else 0))) 3 (F 3 ^^^ (((1 : Int32) <<< (nI (qpp N ((s - qSF N RM) / 2)) &&& 31)) ^^^ (if decide ((s - qSF N RM) % 2 = 1) then (1 : Int32) <<< (nI (qpp N ((s - qSF N RM) / 2)) &&& 31) else 0))) := by unfold qTu qtg qhi; simp only [if_neg c1, if_neg c2]
      have ef : ∀ b, qTr N RM rc f b s = va_up f (29 + qcl (qpp N ((s - qSF N RM) / 2))) (if b then 0 else nI (1 + (s - qSF N RM) % 2)) := fun b => by unfold qTr; rw [if_neg c1, if_neg c2]
      have eth : qth N RM rc F s = (if (s - qSF N RM) % 2 = 1 then bt (F 4) (qpp N ((s - qSF N RM) / 2)) else bt (F 3) (qpp N ((s - qSF N RM) / 2))) := by unfold qth; rw [if_neg c1, if_neg c2]
      rw [if_neg c1, if_neg c2, eth] at hb
      rw [eF, ef, eth]
      clear eF ef eth
      have hm : (s - qSF N RM) % 2 = 0 ∨ (s - qSF N RM) % 2 = 1 := by omega
      generalize qpp N ((s - qSF N RM) / 2) = p0 at hp0 hpN hb
      generalize (s - qSF N RM) % 2 = m0 at hm hb
      have hc0 := (qcl_t p0 hp0).1
      refine ⟨⟨fun n hn => ?_, fun v hv => ?_, fun p hp => ?_, fun v hv => ?_⟩, fun n n1 n2 => ?_, fun x hx => ?_, fun d hd => ?_⟩
      · rw [va_miss (show (0 : Nat) ≠ 3 by decide), va_miss (show (0 : Nat) ≠ 4 by decide), va_miss (show (1 : Nat) ≠ 3 by decide), va_miss (show (1 : Nat) ≠ 4 by decide), va_miss (by omega)]
        exact f1 n hn
      · rw [va_miss (show (0 : Nat) ≠ 3 by decide), va_miss (show (0 : Nat) ≠ 4 by decide), va_miss (show (1 : Nat) ≠ 3 by decide), va_miss (show (1 : Nat) ≠ 4 by decide)]
        exact f2 v hv
      · obtain ⟨g1, g2, g3, g4⟩ := f3 p hp
        rw [va_hit, va_miss (show (4 : Nat) ≠ 3 by decide), va_hit, b_xor, b_xor, b_xor, b_bit (by omega), b_ib (by omega)]
        by_cases c : p = p0
        · subst c
          rw [show 6 * qla p + qob p = qcl p from rfl] at g1 g2 g3 ⊢
          rw [va_hit, decide_eq_true rfl, Bool.and_true]
          rw [g2, g3] at hb
          rw [g2, g3]
          refine ⟨?_, ?_, ?_, fun c => absurd hpN (by omega)⟩
          · rcases g1 with g | g | g <;> rcases hm with m | m <;> subst m <;> rw [g] <;> decide
          · rcases g1 with g | g | g <;> rcases hm with m | m <;> subst m <;> rw [g] at hb <;> first | (exact absurd hb (by decide)) | (rw [g]; decide)
          · rcases g1 with g | g | g <;> rcases hm with m | m <;> subst m <;> rw [g] at hb <;> first | (exact absurd hb (by decide)) | (rw [g]; decide)
        · have hne : 29 + (6 * qla p + qob p) ≠ 29 + qcl p0 := fun g => c ((qcl_t p hp).2 p0 hp0 (show qcl p = qcl p0 by unfold qcl at g ⊢; omega))
          rw [va_miss hne, decide_eq_false c, Bool.and_false, Bool.xor_false, Bool.xor_false, Bool.xor_false]
          exact ⟨g1, g2, g3, g4⟩
      · obtain ⟨g1, g2⟩ := f4 v hv
        rw [va_hit, va_miss (show (4 : Nat) ≠ 3 by decide), va_hit, b_xor, b_xor, b_xor, b_bit (by omega), b_ib (by omega), decide_eq_false (show ¬ v = p0 by omega), Bool.and_false, Bool.xor_false, Bool.xor_false, Bool.xor_false]
        exact ⟨g1, g2⟩
      · rw [va_miss (by omega)]; exact fn n n1 n2
      · rw [va_miss (show (2 : Nat) ≠ 3 by decide), va_miss (show (2 : Nat) ≠ 4 by decide)]
        obtain ⟨g1, g2⟩ := fo x hx
        refine ⟨?_, g2⟩
        by_cases c : x < 6 * D
        · rw [va_miss (by omega)]; exact g1
        · rw [g1, decide_eq_false c, Bool.false_and, Bool.false_and]
      · rw [va_miss (by omega)]; exact fd d hd
end SR
