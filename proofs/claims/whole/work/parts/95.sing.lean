/-! ===== single faults ===== -/
theorem nI_sb {a b : Nat} (h : b ≤ a) : nI a - nI b = nI (a - b) := by
  have h1 : nI (a - b) + nI b = nI a := by rw [nI_add]; congr 1; omega
  rw [← h1, Int32.add_sub_cancel]
theorem nI_dn {a : Nat} (h : 1 ≤ a) : nI a + (-1) = nI (a - 1) := by
  rw [← nI_1s h, Int32.sub_eq_add_neg]
theorem q_d64 : ∀ s, s < 64 → nI s / 2 = nI (s / 2) ∧ nI s % 2 = nI (s % 2) ∧ nI s / 6 = nI (s / 6) ∧ nI s % 6 = nI (s % 6) := by decide +kernel
def qK (N : Nat) : Nat := N * (N - 1) / 2
theorem qK2 {N : Nat} (hN : N ≤ 6) : N * (N - 1) = 2 * qK N := by
  have : N = 0 ∨ N = 1 ∨ N = 2 ∨ N = 3 ∨ N = 4 ∨ N = 5 ∨ N = 6 := by omega
  rcases this with rfl | rfl | rfl | rfl | rfl | rfl | rfl <;> decide
def qpp (N k : Nat) : Nat := ((List.range 15).filter (fun p => decide (qob p < N))).getD k 0
theorem qpp_t : ∀ N, N < 7 → (∀ k, k < qK N → qpp N k < 15 ∧ qob (qpp N k) < N ∧ fb_ct (fun p => decide (qob p < N)) (qpp N k) = k) ∧ fb_ct (fun p => decide (qob p < N)) 15 = qK N := by decide +kernel
def qso (N RM s : Nat) : Nat := if s < 2 * N then 0 else if s < qSF N RM then 1 else 2
def qtg (N RM : Nat) (rc : Nat → Nat) (s : Nat) : Nat := if s < 2 * N then s / 2 else if s < qSF N RM then rc (s - 2 * N) else qpp N ((s - qSF N RM) / 2)
def qhi (N RM s : Nat) : Bool := if s < 2 * N then decide (s % 2 = 1) else if s < qSF N RM then false else decide ((s - qSF N RM) % 2 = 1)
/-- whether a single fault is there, faults being a row of the class -/
def qth (N RM : Nat) (rc : Nat → Nat) (F : Nat → Int32) (s : Nat) : Bool := if s < 2 * N then bt (F 0) (s / 2) && (bt (F 1) (s / 2) == decide (s % 2 = 1)) else if s < qSF N RM then bt (F 2) (rc (s - 2 * N)) else if (s - qSF N RM) % 2 = 1 then bt (F 4) (qpp N ((s - qSF N RM) / 2)) else bt (F 3) (qpp N ((s - qSF N RM) / 2))
def qba (N RM : Nat) (rc : Nat → Nat) (F : Nat → Int32) (s : Nat) : Bool := (if s < 2 * N then bt (F 0) (s / 2) else if s < qSF N RM then false else bt (F 3) (qpp N ((s - qSF N RM) / 2)) || bt (F 4) (qpp N ((s - qSF N RM) / 2))) && !qth N RM rc F s
/-- the class's row behind a turn -/
def qTu (N RM : Nat) (rc : Nat → Nat) (F : Nat → Int32) (s : Nat) : Nat → Int32 :=
  if s < 2 * N then va_up (va_up F 0 (F 0 ^^^ ((1 : Int32) <<< (nI (qtg N RM rc s) &&& 31)))) 1 (F 1 ^^^ (if qhi N RM s then (1 : Int32) <<< (nI (qtg N RM rc s) &&& 31) else 0))
  else if s < qSF N RM then va_up F 2 (F 2 ^^^ ((1 : Int32) <<< (nI (qtg N RM rc s) &&& 31)))
  else va_up (va_up F 4 (F 4 ^^^ (if qhi N RM s then (1 : Int32) <<< (nI (qtg N RM rc s) &&& 31) else 0))) 3 (F 3 ^^^ (((1 : Int32) <<< (nI (qtg N RM rc s) &&& 31)) ^^^ (if qhi N RM s then (1 : Int32) <<< (nI (qtg N RM rc s) &&& 31) else 0)))
/-- faults alike -/
def q_FQ (D N : Nat) (A : Nat → Bool) (F f : Nat → Int32) : Prop := q_FR N F f ∧ (∀ n, N ≤ n → n < 6 → f (19 + n) = -1) ∧ q_Op2 D A (F 2) f ∧ ∀ d, d < D → ∃ k : Nat, k < 64 ∧ f (25 + d) = nI k
section SG
variable {I : Nat → Nat → Int32} {J : Nat → Nat → Int64} {e : QP} {rb tx L : Nat} {D N : Nat} {cl : Nat → Nat} {RM : Nat} {rc : Nat → Nat}
theorem qSN_SF (N RM : Nat) : qSN N RM = qSF N RM + N * (N - 1) := rfl
theorem qSF_60 (h : q_Core I D N cl RM rc) : qSF N RM ≤ 60 := by
  have := qSN_60 h
  rw [qSN_SF] at this
  omega
theorem q_sk (h : q_Core I D N cl RM rc) {s : Nat} (hs : s < qSN N RM) (h2 : ¬ s < qSF N RM) : (s - qSF N RM) / 2 < qK N := by
  have h1 := qK2 h.n6
  rw [qSN_SF, h1] at hs
  omega
theorem q_kth {A : Nat → Bool} {x r n : Nat} (hA : A x = true) (hc : fb_ct A x = r) (hn : n < x) : fb_ct A n ≤ r ∧ (A n = true → fb_ct A n < r ∧ fb_ct A (n + 1) = fb_ct A n + 1) ∧ (A n = false → fb_ct A (n + 1) = fb_ct A n) := by
  have h1 := fb_ct_mono A (show n ≤ x by omega)
  have h2 := fb_ct_mono A (show n + 1 ≤ x by omega)
  refine ⟨by omega, fun h => ?_, fun h => ?_⟩
  · have h3 := fb_ct_succ A n
    rw [h, if_pos rfl] at h3
    exact ⟨by omega, h3⟩
  · rw [fb_ct_succ, h]; rfl
theorem fX0_firstOpen (h : q_Core I D N cl RM rc) : mX0_firstOpen [.ref 3] (qm I J e) = some (some (.int (nI (2 * N))), qm I J e) := by
  rw [bX0_firstOpen, eX0_firstOpen_0, h.i35, show (2 : Int32) = nI 2 from rfl, pk_mul]
theorem fX0_firstShort (h : q_Core I D N cl RM rc) : mX0_firstShort [.ref 3] (qm I J e) = some (some (.int (nI (qSF N RM))), qm I J e) := by
  rw [bX0_firstShort, eX0_firstShort_0, fX0_firstOpen h]
  simp only [Option.bind_some, Option.toList_some, Option.toList_none, List.nil_append, List.cons_append, q_ck_tt, Bool.and_true, Bool.true_and, if_true, if_false, reduceCtorEq]
  rw [eX0_firstShort_4, fJ6_bitCount, q_all24 h]
  simp only [Option.bind_some, Option.toList_some, Option.toList_none, List.nil_append, List.cons_append, q_ck_tt, Bool.and_true, Bool.true_and, if_true, if_false, reduceCtorEq]
  rw [eX0_firstShort_11, nI_add]
  rfl
theorem fX0_sortOf (h : q_Core I D N cl RM rc) {s : Nat} (hs : s < 64) : mX0_sortOf [.ref 3, .int (nI s)] (qm I J e) = some (some (.int (nI (qso N RM s))), qm I J e) := by
  have h60 := qSF_60 h
  have hN := h.n6
  rw [bX0_sortOf, eX0_sortOf_0, fX0_firstOpen h]
  simp only [Option.bind_some, Option.toList_some, Option.toList_none, List.nil_append, List.cons_append, q_ck_tt, Bool.and_true, Bool.true_and, if_true, if_false, reduceCtorEq]
  rw [eX0_sortOf_5]
  unfold qso
  by_cases c1 : s < 2 * N
  · rw [if_pos (nI_lt c1 (by omega)), if_pos c1, eX0_sortOf_8, eX0_sortOf_25]
    rfl
  · rw [if_neg (nI_nlt (by omega) (by omega)), if_neg c1, eX0_sortOf_12, fX0_firstShort h]
    simp only [Option.bind_some, Option.toList_some, Option.toList_none, List.nil_append, List.cons_append, q_ck_tt, Bool.and_true, Bool.true_and, if_true, if_false, reduceCtorEq]
    rw [eX0_sortOf_17]
    by_cases c2 : s < qSF N RM
    · rw [if_pos (nI_lt c2 (by omega)), if_pos c2, eX0_sortOf_20, eX0_sortOf_25]
      rfl
    · rw [if_neg (nI_nlt (by omega) (by omega)), if_neg c2, eX0_sortOf_24, eX0_sortOf_25]
      rfl
theorem fX0_isHigh (h : q_Core I D N cl RM rc) {s : Nat} (hs : s < 64) : mX0_isHigh [.ref 3, .int (nI s)] (qm I J e) = some (some (.int (qb (qhi N RM s))), qm I J e) := by
  have h60 := qSF_60 h
  have h1 : ∀ k : Nat, k < 64 → (nI k = 1 ↔ k = 1) := fun k hk => nI_eq (b := 1) (by omega) (by decide)
  rw [bX0_isHigh, eX0_isHigh_0, fX0_sortOf h hs]
  simp only [Option.bind_some, Option.toList_some, Option.toList_none, List.nil_append, List.cons_append, q_ck_tt, Bool.and_true, Bool.true_and, if_true, if_false, reduceCtorEq]
  rw [eX0_isHigh_5]
  unfold qso qhi
  by_cases c1 : s < 2 * N
  · rw [if_pos c1, if_pos c1, if_pos (show nI 0 = 0 from rfl), eX0_isHigh_10, (q_d64 s hs).2.1]
    by_cases d : s % 2 = 1
    · rw [if_pos ((h1 _ (by omega)).mpr d), decide_eq_true d, eX0_isHigh_17, eX0_isHigh_47]; rfl
    · rw [if_neg (fun g => d ((h1 _ (by omega)).mp g)), decide_eq_false d, eX0_isHigh_21, eX0_isHigh_47]; rfl
  · rw [if_neg c1, if_neg c1]
    by_cases c2 : s < qSF N RM
    · rw [if_pos c2, if_pos c2, if_neg (show ¬ nI 1 = 0 by decide), eX0_isHigh_25, if_neg (show ¬ nI 1 = 2 by decide), eX0_isHigh_46, eX0_isHigh_47]; rfl
    · rw [if_neg c2, if_neg c2, if_neg (show ¬ nI 2 = 0 by decide), eX0_isHigh_25, if_pos (show nI 2 = 2 from rfl), eX0_isHigh_30, fX0_firstShort h]
      simp only [Option.bind_some, Option.toList_some, Option.toList_none, List.nil_append, List.cons_append, q_ck_tt, Bool.and_true, Bool.true_and, if_true, if_false, reduceCtorEq]
      rw [eX0_isHigh_35, nI_sb (by omega), (q_d64 (s - qSF N RM) (by omega)).2.1]
      by_cases d : (s - qSF N RM) % 2 = 1
      · rw [if_pos ((h1 _ (by omega)).mpr d), decide_eq_true d, eX0_isHigh_42, eX0_isHigh_47]; rfl
      · rw [if_neg (fun g => d ((h1 _ (by omega)).mp g)), decide_eq_false d, eX0_isHigh_46, eX0_isHigh_47]; rfl
theorem fX0_placeOfOpen (h : q_Core I D N cl RM rc) {r : Nat} (hr : r < RM) : mX0_placeOfOpen [.ref 3, .int (nI (2 * N + r))] (qm I J e) = some (some (.int (nI (rc r))), qm I J e) := by
  have hN := h.n6
  obtain ⟨-, hRM, hrc, -⟩ := h.br
  obtain ⟨-, h24, hA, hct⟩ := hrc r hr
  have hst : ∀ n, n < rc r → (fun n (y : Nat) => kX0_placeOfOpen 9 [some (.ref 3), none, some (.int (nI y)), some (.int (nI n))] [] (qm I J e)) n (r - fb_ct (bt (I 3 11)) n) = (fun n (y : Nat) => kX0_placeOfOpen 9 [some (.ref 3), none, some (.int (nI y)), some (.int (nI n))] [] (qm I J e)) (n + 1) (r - fb_ct (bt (I 3 11)) (n + 1)) := by
    intro n hn
    show kX0_placeOfOpen 9 _ _ _ = kX0_placeOfOpen 9 _ _ _
    obtain ⟨k1, k2, k3⟩ := q_kth hA hct hn
    rw [eX0_placeOfOpen_9, if_pos (show nI n < (24 : Int32) from nI_lt (b := 24) (by omega) (by decide)), eX0_placeOfOpen_15, fX0_isReceiver I J e (show n < 32 by omega)]
    simp only [Option.bind_some, Option.toList_some, Option.toList_none, List.nil_append, List.cons_append, q_ck_tt, Bool.and_true, Bool.true_and, if_true, if_false, reduceCtorEq]
    rw [eX0_placeOfOpen_20]
    cases hb : bt (I 3 11) n with
    | false => rw [if_pos qb_f, eX0_placeOfOpen_32, nI_1, k3 hb]
    | true =>
      obtain ⟨k4, k5⟩ := k2 hb
      rw [if_neg (show ¬ qb true = 0 by decide), eX0_placeOfOpen_23, if_neg (nI_ne0 (by omega) (by omega)), eX0_placeOfOpen_29, eX0_placeOfOpen_32, nI_1, nI_dn (by omega), k5, Nat.sub_sub]
  have hq := q_for (fun n (y : Nat) => kX0_placeOfOpen 9 [some (.ref 3), none, some (.int (nI y)), some (.int (nI n))] [] (qm I J e)) (rc r) (fun n => r - fb_ct (bt (I 3 11)) n) hst
  rw [bX0_placeOfOpen, eX0_placeOfOpen_0, fX0_firstOpen h]
  simp only [Option.bind_some, Option.toList_some, Option.toList_none, List.nil_append, List.cons_append, q_ck_tt, Bool.and_true, Bool.true_and, if_true, if_false, reduceCtorEq]
  rw [eX0_placeOfOpen_5, nI_sb (by omega), Nat.add_sub_cancel_left]
  refine Eq.trans hq ?_
  show kX0_placeOfOpen 9 _ _ _ = _
  rw [eX0_placeOfOpen_9, if_pos (show nI (rc r) < (24 : Int32) from nI_lt (b := 24) (by omega) (by decide)), eX0_placeOfOpen_15, fX0_isReceiver I J e (show rc r < 32 by omega), hA, hct, Nat.sub_self]
  simp only [Option.bind_some, Option.toList_some, Option.toList_none, List.nil_append, List.cons_append, q_ck_tt, Bool.and_true, Bool.true_and, if_true, if_false, reduceCtorEq]
  rw [eX0_placeOfOpen_20, if_neg (show ¬ qb true = 0 by decide), eX0_placeOfOpen_23, if_pos (show nI 0 = 0 from rfl), eX0_placeOfOpen_27]
theorem fX0_pairOfShort (h : q_Core I D N cl RM rc) {s : Nat} (hs : s < qSN N RM) (h2 : ¬ s < qSF N RM) : mX0_pairOfShort [.ref 3, .int (nI s)] (qm I J e) = some (some (.int (nI (qpp N ((s - qSF N RM) / 2)))), qm I J e) := by
  have hN := h.n6
  have h60 := qSN_60 h
  have hk := q_sk h hs h2
  have hdv := (q_d64 (s - qSF N RM) (by omega)).1
  generalize (s - qSF N RM) / 2 = k at hk hdv
  obtain ⟨x15, hA', hct⟩ := (qpp_t N (by omega)).1 k hk
  have hA : (fun p => decide (qob p < N)) (qpp N k) = true := decide_eq_true hA'
  have hb : ∀ n, n < 15 → I 1002 n = nI (qob n) ∧ qob n < 6 := fun n hn => ⟨by rw [h.st.2.2.1, (qla_t n hn).2.1], (qla_t n hn).2.2.2⟩
  have hst : ∀ n, n < qpp N k → (fun n (y : Nat) => kX0_pairOfShort 11 [some (.ref 3), none, some (.int (nI y)), some (.int (nI n))] [] (qm I J e)) n (k - fb_ct (fun p => decide (qob p < N)) n) = (fun n (y : Nat) => kX0_pairOfShort 11 [some (.ref 3), none, some (.int (nI y)), some (.int (nI n))] [] (qm I J e)) (n + 1) (k - fb_ct (fun p => decide (qob p < N)) (n + 1)) := by
    intro n hn
    show kX0_pairOfShort 11 _ _ _ = kX0_pairOfShort 11 _ _ _
    obtain ⟨k1, k2, k3⟩ := q_kth hA hct hn
    have hle : k < 2 ^ 30 := by have := fb_ct_le (fun p => decide (qob p < N)) (qpp N k); omega
    obtain ⟨b1, b2⟩ := hb n (by omega)
    rw [eX0_pairOfShort_11, if_pos (show nI n < (15 : Int32) from nI_lt (b := 15) (by omega) (by decide)), eX0_pairOfShort_17, q_in_nI (show n < 15 by omega) (by omega), nI_clamp (by omega), b1, h.i35]
    simp only [Option.bind_some, Option.toList_some, Option.toList_none, List.nil_append, List.cons_append, q_ck_tt, Bool.and_true, Bool.true_and, if_true, if_false, reduceCtorEq]
    by_cases c : qob n < N
    · obtain ⟨k4, k5⟩ := k2 (decide_eq_true c)
      rw [if_pos (nI_lt c (by omega)), eX0_pairOfShort_29, if_neg (nI_ne0 (by omega) (by omega)), eX0_pairOfShort_35, eX0_pairOfShort_38, nI_1, nI_dn (by omega), k5, Nat.sub_sub]
    · rw [if_neg (nI_nlt (by omega) (by omega)), eX0_pairOfShort_38, nI_1, k3 (decide_eq_false c)]
  have hq := q_for (fun n (y : Nat) => kX0_pairOfShort 11 [some (.ref 3), none, some (.int (nI y)), some (.int (nI n))] [] (qm I J e)) (qpp N k) (fun n => k - fb_ct (fun p => decide (qob p < N)) n) hst
  rw [bX0_pairOfShort, eX0_pairOfShort_0, fX0_firstShort h]
  simp only [Option.bind_some, Option.toList_some, Option.toList_none, List.nil_append, List.cons_append, q_ck_tt, Bool.and_true, Bool.true_and, if_true, if_false, reduceCtorEq]
  rw [eX0_pairOfShort_5, nI_sb (by omega), hdv]
  refine Eq.trans hq ?_
  show kX0_pairOfShort 11 _ _ _ = _
  obtain ⟨b1, b2⟩ := hb _ x15
  rw [eX0_pairOfShort_11, if_pos (show nI (qpp N k) < (15 : Int32) from nI_lt (b := 15) (by omega) (by decide)), eX0_pairOfShort_17, q_in_nI x15 (by omega), nI_clamp (by omega), b1, h.i35, if_pos (nI_lt hA' (by omega)), hct, Nat.sub_self]
  simp only [Option.bind_some, Option.toList_some, Option.toList_none, List.nil_append, List.cons_append, q_ck_tt, Bool.and_true, Bool.true_and, if_true, if_false, reduceCtorEq]
  rw [eX0_pairOfShort_29, if_pos (show nI 0 = 0 from rfl), eX0_pairOfShort_33]
theorem qtg_32 (h : q_Core I D N cl RM rc) {s : Nat} (hs : s < qSN N RM) : qtg N RM rc s < 24 := by
  have hN := h.n6
  unfold qtg
  by_cases c1 : s < 2 * N
  · rw [if_pos c1]; omega
  · rw [if_neg c1]
    by_cases c2 : s < qSF N RM
    · rw [if_pos c2]
      exact (h.br.2.2.1 (s - 2 * N) (by unfold qSF at c2; omega)).2.1
    · rw [if_neg c2]
      have := ((qpp_t N (by omega)).1 _ (q_sk h hs c2)).1
      omega
theorem fX0_targetOf (h : q_Core I D N cl RM rc) {s : Nat} (hs : s < qSN N RM) : mX0_targetOf [.ref 3, .int (nI s)] (qm I J e) = some (some (.int (nI (qtg N RM rc s))), qm I J e) := by
  have h60 := qSN_60 h
  rw [bX0_targetOf, eX0_targetOf_0, fX0_sortOf h (by omega)]
  simp only [Option.bind_some, Option.toList_some, Option.toList_none, List.nil_append, List.cons_append, q_ck_tt, Bool.and_true, Bool.true_and, if_true, if_false, reduceCtorEq]
  rw [eX0_targetOf_5]
  unfold qso qtg
  by_cases c1 : s < 2 * N
  · rw [if_pos c1, if_pos c1, if_pos (show nI 0 = 0 from rfl), eX0_targetOf_10, eX0_targetOf_34, (q_d64 s (by omega)).1]
  · rw [if_neg c1, if_neg c1]
    by_cases c2 : s < qSF N RM
    · have hr : s - 2 * N < RM := by unfold qSF at c2; omega
      have hp := fX0_placeOfOpen (J := J) (e := e) h hr
      rw [show 2 * N + (s - 2 * N) = s by omega] at hp
      rw [if_pos c2, if_pos c2, if_neg (show ¬ nI 1 = 0 by decide), eX0_targetOf_16, if_pos (show nI 1 = 1 from rfl), eX0_targetOf_21, hp]
      simp only [Option.bind_some, Option.toList_some, Option.toList_none, List.nil_append, List.cons_append, q_ck_tt, Bool.and_true, Bool.true_and, if_true, if_false, reduceCtorEq]
      rw [eX0_targetOf_26, eX0_targetOf_34]
    · rw [if_neg c2, if_neg c2, if_neg (show ¬ nI 2 = 0 by decide), eX0_targetOf_16, if_neg (show ¬ nI 2 = 1 by decide), eX0_targetOf_29, fX0_pairOfShort h hs c2]
      simp only [Option.bind_some, Option.toList_some, Option.toList_none, List.nil_append, List.cons_append, q_ck_tt, Bool.and_true, Bool.true_and, if_true, if_false, reduceCtorEq]
      rw [eX0_targetOf_34v1]
theorem fX0_isThere (h : q_Core I D N cl RM rc) {s : Nat} (hs : s < qSN N RM) : mX0_isThere [.ref 3, .ref 42, .int (nI s)] (qm I J e) = some (some (.int (qb (qth N RM rc (I 42) s))), qm I J e) := by
  have h60 := qSN_60 h
  have ht := qtg_32 h hs
  rw [bX0_isThere, eX0_isThere_0, fX0_targetOf h hs]
  simp only [Option.bind_some, Option.toList_some, Option.toList_none, List.nil_append, List.cons_append, q_ck_tt, Bool.and_true, Bool.true_and, if_true, if_false, reduceCtorEq]
  rw [eX0_isThere_5, fX0_isHigh h (by omega)]
  simp only [Option.bind_some, Option.toList_some, Option.toList_none, List.nil_append, List.cons_append, q_ck_tt, Bool.and_true, Bool.true_and, if_true, if_false, reduceCtorEq]
  rw [eX0_isThere_11, fX0_sortOf h (by omega)]
  simp only [Option.bind_some, Option.toList_some, Option.toList_none, List.nil_append, List.cons_append, q_ck_tt, Bool.and_true, Bool.true_and, if_true, if_false, reduceCtorEq]
  rw [eX0_isThere_18]
  unfold qth qso
  unfold qtg at ht ⊢
  unfold qhi
  by_cases c1 : s < 2 * N
  · simp only [if_pos c1] at ht ⊢
    rw [if_pos (show nI 0 = 0 from rfl), eX0_isThere_44, b_tst _ (by omega)]
    cases b0 : bt (I 42 0) (s / 2) with
    | false => rw [if_pos qb_f, eX0_isThere_80, eX0_isThere_81]; rfl
    | true =>
      rw [if_neg (show ¬ qb true = 0 by decide), eX0_isThere_55, b_tst _ (by omega)]
      cases b1 : bt (I 42 1) (s / 2) with
      | false =>
        rw [if_pos qb_f, eX0_isThere_70, eX0_isThere_71]
        cases b2 : decide (s % 2 = 1) with
        | false => rw [if_pos (show (0 : Int32) = qb false from rfl), eX0_isThere_76, eX0_isThere_81]; rfl
        | true => rw [if_neg (show ¬ (0 : Int32) = qb true by decide), eX0_isThere_80, eX0_isThere_81]; rfl
      | true =>
        rw [if_neg (show ¬ qb true = 0 by decide), eX0_isThere_66, eX0_isThere_71]
        cases b2 : decide (s % 2 = 1) with
        | false => rw [if_neg (show ¬ (1 : Int32) = qb false by decide), eX0_isThere_80, eX0_isThere_81]; rfl
        | true => rw [if_pos (show (1 : Int32) = qb true from rfl), eX0_isThere_76, eX0_isThere_81]; rfl
  · simp only [if_neg c1] at ht ⊢
    by_cases c2 : s < qSF N RM
    · simp only [if_pos c2] at ht ⊢
      rw [if_neg (show ¬ nI 1 = 0 by decide), if_pos (show nI 1 = 1 from rfl), eX0_isThere_82, b_tst _ (by omega)]
      cases b0 : bt (I 42 2) (rc (s - 2 * N)) with
      | false => rw [if_pos qb_f, eX0_isThere_97, eX0_isThere_98]; rfl
      | true => rw [if_neg (show ¬ qb true = 0 by decide), eX0_isThere_93, eX0_isThere_98]; rfl
    · simp only [if_neg c2] at ht ⊢
      rw [if_neg (show ¬ nI 2 = 0 by decide), if_neg (show ¬ nI 2 = 1 by decide), eX0_isThere_99]
      by_cases c3 : (s - qSF N RM) % 2 = 1
      · rw [decide_eq_true c3, if_neg (show ¬ qb true = 0 by decide), if_pos c3, eX0_isThere_104, eX0_isThere_115, b_tst _ (by omega)]
        cases b0 : bt (I 42 4) (qpp N ((s - qSF N RM) / 2)) with
        | false => rw [if_pos qb_f, eX0_isThere_126, eX0_isThere_127]; rfl
        | true => rw [if_neg (show ¬ qb true = 0 by decide), eX0_isThere_122, eX0_isThere_127]; rfl
      · rw [decide_eq_false c3, if_pos qb_f, if_neg c3, eX0_isThere_111, eX0_isThere_115, b_tst _ (by omega)]
        cases b0 : bt (I 42 3) (qpp N ((s - qSF N RM) / 2)) with
        | false => rw [if_pos qb_f, eX0_isThere_126, eX0_isThere_127]; rfl
        | true => rw [if_neg (show ¬ qb true = 0 by decide), eX0_isThere_122, eX0_isThere_127]; rfl
theorem fX0_isBarred (h : q_Core I D N cl RM rc) {s : Nat} (hs : s < qSN N RM) : mX0_isBarred [.ref 3, .ref 42, .int (nI s)] (qm I J e) = some (some (.int (qb (qba N RM rc (I 42) s))), qm I J e) := by
  have h60 := qSN_60 h
  have ht := qtg_32 h hs
  have hend : ∀ (x : Int32) (b : Bool), bt x (qtg N RM rc s) = b → kX0_isBarred 35 [some (.ref 3), some (.ref 42), some (.int (nI s)), none, none] [.int x] (qm I J e) = some (some (.int (qb (b && !qth N RM rc (I 42) s))), qm I J e) := by
    intro x b hx
    rw [eX0_isBarred_35, fX0_targetOf h hs]
    simp only [Option.bind_some, Option.toList_some, Option.toList_none, List.nil_append, List.cons_append, q_ck_tt, Bool.and_true, Bool.true_and, if_true, if_false, reduceCtorEq]
    rw [eX0_isBarred_44, b_tst _ (by omega), hx]
    cases b with
    | false => rw [if_pos qb_f, eX0_isBarred_63, eX0_isBarred_64]; rfl
    | true =>
      rw [if_neg (show ¬ qb true = 0 by decide), eX0_isBarred_50, fX0_isThere h hs]
      simp only [Option.bind_some, Option.toList_some, Option.toList_none, List.nil_append, List.cons_append, q_ck_tt, Bool.and_true, Bool.true_and, if_true, if_false, reduceCtorEq]
      rw [eX0_isBarred_56]
      cases qth N RM rc (I 42) s with
      | false => rw [if_pos qb_f, eX0_isBarred_59, eX0_isBarred_64]; rfl
      | true => rw [if_neg (show ¬ qb true = 0 by decide), eX0_isBarred_63, eX0_isBarred_64]; rfl
  rw [bX0_isBarred, eX0_isBarred_0, fX0_sortOf h (by omega)]
  simp only [Option.bind_some, Option.toList_some, Option.toList_none, List.nil_append, List.cons_append, q_ck_tt, Bool.and_true, Bool.true_and, if_true, if_false, reduceCtorEq]
  rw [eX0_isBarred_5]
  unfold qba qso
  unfold qtg at hend
  by_cases c1 : s < 2 * N
  · simp only [if_pos c1] at hend ⊢
    rw [if_pos (show nI 0 = 0 from rfl), eX0_isBarred_10]
    exact hend _ _ rfl
  · simp only [if_neg c1] at hend ⊢
    by_cases c2 : s < qSF N RM
    · simp only [if_pos c2] at hend ⊢
      rw [if_neg (show ¬ nI 1 = 0 by decide), eX0_isBarred_17, if_neg (show ¬ nI 1 = 2 by decide), eX0_isBarred_34]
      exact hend _ _ (b_0 _)
    · simp only [if_neg c2] at hend ⊢
      rw [if_neg (show ¬ nI 2 = 0 by decide), eX0_isBarred_17, if_pos (show nI 2 = 2 from rfl), eX0_isBarred_22]
      exact hend _ _ (b_or _ _ _)
theorem fX0_turnSingle_42 (h : q_Core I D N cl RM rc) {s : Nat} (hs : s < qSN N RM) : mX0_turnSingle [.ref 3, .ref 42, .int (nI s)] (qm I J e) = some (none, qm (va_up I 42 (qTu N RM rc (I 42) s)) J e) := by
  have h60 := qSN_60 h
  have h21 : ∀ hb : Int32, hb = (if qhi N RM s then (1 : Int32) <<< (nI (qtg N RM rc s) &&& 31) else 0) → kX0_turnSingle 21 [some (.ref 3), some (.ref 42), some (.int (nI s)), some (.int ((1 : Int32) <<< (nI (qtg N RM rc s) &&& 31))), none] [.int hb] (qm I J e) = some (none, qm (va_up I 42 (qTu N RM rc (I 42) s)) J e) := by
    intro hb hhb
    rw [eX0_turnSingle_3_42_21, fX0_sortOf h (by omega)]
    simp only [Option.bind_some, Option.toList_some, Option.toList_none, List.nil_append, List.cons_append, q_ck_tt, Bool.and_true, Bool.true_and, if_true, if_false, reduceCtorEq]
    rw [eX0_turnSingle_3_42_28]
    unfold qso qTu
    rw [← hhb]
    by_cases c1 : s < 2 * N
    · rw [if_pos c1, if_pos c1, if_pos (show nI 0 = 0 from rfl), eX0_turnSingle_3_42_56, eX0_turnSingle_3_42_117]
      rw [q_up_va I, q_up_up]
    · rw [if_neg c1, if_neg c1]
      by_cases c2 : s < qSF N RM
      · rw [if_pos c2, if_pos c2, if_neg (show ¬ nI 1 = 0 by decide), if_pos (show nI 1 = 1 from rfl), eX0_turnSingle_3_42_80, eX0_turnSingle_3_42_117]
        rw [q_up_va I]
      · rw [if_neg c2, if_neg c2, if_neg (show ¬ nI 2 = 0 by decide), if_neg (show ¬ nI 2 = 1 by decide), eX0_turnSingle_3_42_93, eX0_turnSingle_3_42_117]
        rw [q_up_va I, q_up_up]
  rw [bX0_turnSingle_3_42, eX0_turnSingle_3_42_0, fX0_targetOf h hs]
  simp only [Option.bind_some, Option.toList_some, Option.toList_none, List.nil_append, List.cons_append, q_ck_tt, Bool.and_true, Bool.true_and, if_true, if_false, reduceCtorEq]
  rw [eX0_turnSingle_3_42_6, fX0_isHigh h (by omega)]
  simp only [Option.bind_some, Option.toList_some, Option.toList_none, List.nil_append, List.cons_append, q_ck_tt, Bool.and_true, Bool.true_and, if_true, if_false, reduceCtorEq]
  rw [eX0_turnSingle_3_42_13]
  cases hh : qhi N RM s with
  | false =>
    rw [if_pos qb_f, eX0_turnSingle_3_42_20]
    exact h21 0 (by rw [hh]; rfl)
  | true =>
    rw [if_neg (show ¬ qb true = 0 by decide), eX0_turnSingle_3_42_16]
    exact h21 _ (by rw [hh]; rfl)
theorem fX0_turnSingle_51 (h : q_Core I D N cl RM rc) {s : Nat} (hs : s < qSN N RM) : mX0_turnSingle [.ref 3, .ref 51, .int (nI s)] (qm I J e) = some (none, qm (va_up I 51 (qTu N RM rc (I 51) s)) J e) := by
  have h60 := qSN_60 h
  have h21 : ∀ hb : Int32, hb = (if qhi N RM s then (1 : Int32) <<< (nI (qtg N RM rc s) &&& 31) else 0) → kX0_turnSingle 21 [some (.ref 3), some (.ref 51), some (.int (nI s)), some (.int ((1 : Int32) <<< (nI (qtg N RM rc s) &&& 31))), none] [.int hb] (qm I J e) = some (none, qm (va_up I 51 (qTu N RM rc (I 51) s)) J e) := by
    intro hb hhb
    rw [eX0_turnSingle_3_51_21, fX0_sortOf h (by omega)]
    simp only [Option.bind_some, Option.toList_some, Option.toList_none, List.nil_append, List.cons_append, q_ck_tt, Bool.and_true, Bool.true_and, if_true, if_false, reduceCtorEq]
    rw [eX0_turnSingle_3_51_28]
    unfold qso qTu
    rw [← hhb]
    by_cases c1 : s < 2 * N
    · rw [if_pos c1, if_pos c1, if_pos (show nI 0 = 0 from rfl), eX0_turnSingle_3_51_56, eX0_turnSingle_3_51_117]
      rw [q_up_va I, q_up_up]
    · rw [if_neg c1, if_neg c1]
      by_cases c2 : s < qSF N RM
      · rw [if_pos c2, if_pos c2, if_neg (show ¬ nI 1 = 0 by decide), if_pos (show nI 1 = 1 from rfl), eX0_turnSingle_3_51_80, eX0_turnSingle_3_51_117]
        rw [q_up_va I]
      · rw [if_neg c2, if_neg c2, if_neg (show ¬ nI 2 = 0 by decide), if_neg (show ¬ nI 2 = 1 by decide), eX0_turnSingle_3_51_93, eX0_turnSingle_3_51_117]
        rw [q_up_va I, q_up_up]
  rw [bX0_turnSingle_3_51, eX0_turnSingle_3_51_0, fX0_targetOf h hs]
  simp only [Option.bind_some, Option.toList_some, Option.toList_none, List.nil_append, List.cons_append, q_ck_tt, Bool.and_true, Bool.true_and, if_true, if_false, reduceCtorEq]
  rw [eX0_turnSingle_3_51_6, fX0_isHigh h (by omega)]
  simp only [Option.bind_some, Option.toList_some, Option.toList_none, List.nil_append, List.cons_append, q_ck_tt, Bool.and_true, Bool.true_and, if_true, if_false, reduceCtorEq]
  rw [eX0_turnSingle_3_51_13]
  cases hh : qhi N RM s with
  | false =>
    rw [if_pos qb_f, eX0_turnSingle_3_51_20]
    exact h21 0 (by rw [hh]; rfl)
  | true =>
    rw [if_neg (show ¬ qb true = 0 by decide), eX0_turnSingle_3_51_16]
    exact h21 _ (by rw [hh]; rfl)
theorem fX0_turnSingle_55 (h : q_Core I D N cl RM rc) {s : Nat} (hs : s < qSN N RM) : mX0_turnSingle [.ref 3, .ref 55, .int (nI s)] (qm I J e) = some (none, qm (va_up I 55 (qTu N RM rc (I 55) s)) J e) := by
  have h60 := qSN_60 h
  have h21 : ∀ hb : Int32, hb = (if qhi N RM s then (1 : Int32) <<< (nI (qtg N RM rc s) &&& 31) else 0) → kX0_turnSingle 21 [some (.ref 3), some (.ref 55), some (.int (nI s)), some (.int ((1 : Int32) <<< (nI (qtg N RM rc s) &&& 31))), none] [.int hb] (qm I J e) = some (none, qm (va_up I 55 (qTu N RM rc (I 55) s)) J e) := by
    intro hb hhb
    rw [eX0_turnSingle_3_55_21, fX0_sortOf h (by omega)]
    simp only [Option.bind_some, Option.toList_some, Option.toList_none, List.nil_append, List.cons_append, q_ck_tt, Bool.and_true, Bool.true_and, if_true, if_false, reduceCtorEq]
    rw [eX0_turnSingle_3_55_28]
    unfold qso qTu
    rw [← hhb]
    by_cases c1 : s < 2 * N
    · rw [if_pos c1, if_pos c1, if_pos (show nI 0 = 0 from rfl), eX0_turnSingle_3_55_56, eX0_turnSingle_3_55_117]
      rw [q_up_va I, q_up_up]
    · rw [if_neg c1, if_neg c1]
      by_cases c2 : s < qSF N RM
      · rw [if_pos c2, if_pos c2, if_neg (show ¬ nI 1 = 0 by decide), if_pos (show nI 1 = 1 from rfl), eX0_turnSingle_3_55_80, eX0_turnSingle_3_55_117]
        rw [q_up_va I]
      · rw [if_neg c2, if_neg c2, if_neg (show ¬ nI 2 = 0 by decide), if_neg (show ¬ nI 2 = 1 by decide), eX0_turnSingle_3_55_93, eX0_turnSingle_3_55_117]
        rw [q_up_va I, q_up_up]
  rw [bX0_turnSingle_3_55, eX0_turnSingle_3_55_0, fX0_targetOf h hs]
  simp only [Option.bind_some, Option.toList_some, Option.toList_none, List.nil_append, List.cons_append, q_ck_tt, Bool.and_true, Bool.true_and, if_true, if_false, reduceCtorEq]
  rw [eX0_turnSingle_3_55_6, fX0_isHigh h (by omega)]
  simp only [Option.bind_some, Option.toList_some, Option.toList_none, List.nil_append, List.cons_append, q_ck_tt, Bool.and_true, Bool.true_and, if_true, if_false, reduceCtorEq]
  rw [eX0_turnSingle_3_55_13]
  cases hh : qhi N RM s with
  | false =>
    rw [if_pos qb_f, eX0_turnSingle_3_55_20]
    exact h21 0 (by rw [hh]; rfl)
  | true =>
    rw [if_neg (show ¬ qb true = 0 by decide), eX0_turnSingle_3_55_16]
    exact h21 _ (by rw [hh]; rfl)
theorem fX0_firstOf (h : q_Core I D N cl RM rc) {s : Nat} (hs : s < qSN N RM) : mX0_firstOf [.ref 3, .int (nI s)] (qm I J e) = some (some (.int (nI (if s < 2 * N then s / 2 else if s < qSF N RM then rc (s - 2 * N) / 6 else qla (qpp N ((s - qSF N RM) / 2))))), qm I J e) := by
  have h60 := qSN_60 h
  have ht := qtg_32 h hs
  rw [bX0_firstOf, eX0_firstOf_0, fX0_sortOf h (by omega)]
  simp only [Option.bind_some, Option.toList_some, Option.toList_none, List.nil_append, List.cons_append, q_ck_tt, Bool.and_true, Bool.true_and, if_true, if_false, reduceCtorEq]
  rw [eX0_firstOf_5, fX0_targetOf h hs]
  simp only [Option.bind_some, Option.toList_some, Option.toList_none, List.nil_append, List.cons_append, q_ck_tt, Bool.and_true, Bool.true_and, if_true, if_false, reduceCtorEq]
  rw [eX0_firstOf_11]
  unfold qso
  unfold qtg at ht ⊢
  by_cases c1 : s < 2 * N
  · simp only [if_pos c1] at ht ⊢
    rw [if_pos (show nI 0 = 0 from rfl), eX0_firstOf_16, eX0_firstOf_37]
  · simp only [if_neg c1] at ht ⊢
    by_cases c2 : s < qSF N RM
    · simp only [if_pos c2] at ht ⊢
      rw [if_neg (show ¬ nI 1 = 0 by decide), eX0_firstOf_20, if_pos (show nI 1 = 1 from rfl), eX0_firstOf_25, eX0_firstOf_37, (q_d64 _ (by omega)).2.2.1]
    · have hp := ((qpp_t N (by have := h.n6; omega)).1 _ (q_sk h hs c2)).1
      simp only [if_neg c2] at ht ⊢
      rw [if_neg (show ¬ nI 2 = 0 by decide), eX0_firstOf_20, if_neg (show ¬ nI 2 = 1 by decide), eX0_firstOf_32, q_in_nI hp (by omega), nI_clamp (by omega), h.st.2.1, (qla_t _ hp).1]
      simp only [Option.bind_some, Option.toList_some, Option.toList_none, List.nil_append, List.cons_append, q_ck_tt, Bool.and_true, Bool.true_and, if_true, if_false, reduceCtorEq]
      rw [eX0_firstOf_37]
theorem fX0_secondOf (h : q_Core I D N cl RM rc) {s : Nat} (hs : s < qSN N RM) : mX0_secondOf [.ref 3, .int (nI s)] (qm I J e) = some (some (.int (nI (if s < 2 * N then s % 2 else if s < qSF N RM then rc (s - 2 * N) % 6 else qob (qpp N ((s - qSF N RM) / 2))))), qm I J e) := by
  have h60 := qSN_60 h
  have ht := qtg_32 h hs
  rw [bX0_secondOf, eX0_secondOf_0, fX0_sortOf h (by omega)]
  simp only [Option.bind_some, Option.toList_some, Option.toList_none, List.nil_append, List.cons_append, q_ck_tt, Bool.and_true, Bool.true_and, if_true, if_false, reduceCtorEq]
  rw [eX0_secondOf_5, fX0_targetOf h hs]
  simp only [Option.bind_some, Option.toList_some, Option.toList_none, List.nil_append, List.cons_append, q_ck_tt, Bool.and_true, Bool.true_and, if_true, if_false, reduceCtorEq]
  rw [eX0_secondOf_11]
  unfold qso
  unfold qtg at ht ⊢
  by_cases c1 : s < 2 * N
  · simp only [if_pos c1] at ht ⊢
    rw [if_pos (show nI 0 = 0 from rfl), eX0_secondOf_16, eX0_secondOf_39, (q_d64 _ (by omega)).2.1]
  · simp only [if_neg c1] at ht ⊢
    by_cases c2 : s < qSF N RM
    · simp only [if_pos c2] at ht ⊢
      rw [if_neg (show ¬ nI 1 = 0 by decide), eX0_secondOf_22, if_pos (show nI 1 = 1 from rfl), eX0_secondOf_27, eX0_secondOf_39, (q_d64 _ (by omega)).2.2.2]
    · have hp := ((qpp_t N (by have := h.n6; omega)).1 _ (q_sk h hs c2)).1
      simp only [if_neg c2] at ht ⊢
      rw [if_neg (show ¬ nI 2 = 0 by decide), eX0_secondOf_22, if_neg (show ¬ nI 2 = 1 by decide), eX0_secondOf_34, q_in_nI hp (by omega), nI_clamp (by omega), h.st.2.2.1, (qla_t _ hp).2.1]
      simp only [Option.bind_some, Option.toList_some, Option.toList_none, List.nil_append, List.cons_append, q_ck_tt, Bool.and_true, Bool.true_and, if_true, if_false, reduceCtorEq]
      rw [eX0_secondOf_39]
end SG
