/-! ===== the lab: the reference's table; apart, told, least ===== -/
/-- the reference's row of a board without faults -/
def qf0 (g : Nat → Int32) (j : Nat) : Int32 := if j < 19 then g j else if j < 25 then -1 else if j < 65 then 0 else g j
section LT
variable {I : Nat → Nat → Int32} {J : Nat → Nat → Int64} {e : QP} {rb tx L : Nat} {D N : Nat} {cl : Nat → Nat} {RM : Nat} {rc : Nat → Nat} {sz : Nat} {F : Nat → Int32} {k : Nat}
theorem q_FQ_0 {A : Nat → Bool} (hN : N ≤ 6) (hD : D ≤ 4) {f : Nat → Int32} (h1 : ∀ j, 19 ≤ j → j < 25 → f j = -1) (h2 : ∀ j, 25 ≤ j → j < 65 → f j = 0) : q_FQ D N A (fun _ => 0) f := by
  refine ⟨⟨fun n hn => ?_, fun v _ => ⟨b_0 v, b_0 v⟩, fun p hp => ?_, fun v _ => ⟨b_0 v, b_0 v⟩⟩, fun n n1 n2 => h1 _ (by omega) (by omega), fun x hx => ?_, fun d hd => ⟨0, by omega, h2 _ (by omega) (by omega)⟩⟩
  · rw [h1 _ (by omega) (by omega), b_0]
    exact ⟨Or.inl rfl, rfl, rfl⟩
  · have hc := (qcl_t p hp).1
    unfold qcl at hc
    rw [h2 _ (by omega) (by omega), b_0]
    exact ⟨Or.inl rfl, rfl, rfl, fun _ => rfl⟩
  · rw [b_0]
    refine ⟨?_, fun g => by cases g⟩
    by_cases c : x < 6 * D
    · rw [h2 _ (by omega) (by omega), b_0, Bool.and_false]
    · rw [decide_eq_false c, Bool.false_and]
theorem q_lw_94 {G : Nat → Nat → Int32} (hG : True) (a1 a2 : Int32) : ∃ f : Nat → Int32, kX12_layWhole 4 [some (.ref 64), some (.int a1), some (.int a2), none] [] (qm G J e) = kX12_layWhole 75 [some (.ref 64), some (.int a1), some (.int a2), none] [] (qm (va_up G 94 f) J e) ∧ (∀ j, 19 ≤ j → j < 25 → f j = -1) ∧ (∀ j, 25 ≤ j → j < 65 → f j = 0) ∧ ∀ j, j < 19 → f j = G 94 j := by
  have l1 : ∀ n, n < 6 → (fun n (y : Nat → Int32) => kX12_layWhole 6 [some (.ref 64), some (.int a1), some (.int a2), some (.int (nI n))] [] (qm (va_up G 94 y) J e)) n (fun j => if 19 ≤ j ∧ j < 19 + n then -1 else G 94 j) = (fun n (y : Nat → Int32) => kX12_layWhole 6 [some (.ref 64), some (.int a1), some (.int a2), some (.int (nI n))] [] (qm (va_up G 94 y) J e)) (n + 1) (fun j => if 19 ≤ j ∧ j < 19 + (n + 1) then -1 else G 94 j) := by
    intro n hn
    show kX12_layWhole 6 _ _ _ = kX12_layWhole 6 _ _ _
    have hrow : va_up (fun j => if 19 ≤ j ∧ j < 19 + n then -1 else G 94 j) (19 + n) (-1) = (fun j => if 19 ≤ j ∧ j < 19 + (n + 1) then -1 else G 94 j) := by
      funext j
      rw [va_up_at]
      by_cases c : j = 19 + n
      · rw [if_pos c, if_pos (by omega)]
      · rw [if_neg c]
        by_cases g : 19 ≤ j ∧ j < 19 + n
        · rw [if_pos g, if_pos (by omega)]
        · rw [if_neg g, if_neg (by omega)]
    rw [eX12_layWhole_6, if_pos (show nI n < (6 : Int32) from nI_lt (b := 6) hn (by decide)), eX12_layWhole_12, show (19 : Int32) = nI 19 from rfl, nI_add, q_in_nI (show 19 + n < 65 by omega) (by omega), nI_clamp (by omega), q_up_up, hrow, nI_1]
    simp only [Option.bind_some, Option.toList_some, Option.toList_none, List.nil_append, List.cons_append, q_ck_tt, Bool.and_true, Bool.true_and, if_true, if_false, reduceCtorEq]
  have q1 := q_for (fun n (y : Nat → Int32) => kX12_layWhole 6 [some (.ref 64), some (.int a1), some (.int a2), some (.int (nI n))] [] (qm (va_up G 94 y) J e)) 6 (fun n => (fun j => if 19 ≤ j ∧ j < 19 + n then -1 else G 94 j)) l1
  have e1 : (fun j => if 19 ≤ j ∧ j < 19 + 0 then -1 else G 94 j) = G 94 := by funext j; rw [if_neg (by omega)]
  rw [e1, va_up_id] at q1
  have l2 : ∀ n, n < 4 → (fun n (y : Nat → Int32) => kX12_layWhole 30 [some (.ref 64), some (.int a1), some (.int a2), some (.int (nI n))] [] (qm (va_up G 94 y) J e)) n (fun j => if 25 ≤ j ∧ j < 25 + n then 0 else if 19 ≤ j ∧ j < 19 + 6 then -1 else G 94 j) = (fun n (y : Nat → Int32) => kX12_layWhole 30 [some (.ref 64), some (.int a1), some (.int a2), some (.int (nI n))] [] (qm (va_up G 94 y) J e)) (n + 1) (fun j => if 25 ≤ j ∧ j < 25 + (n + 1) then 0 else if 19 ≤ j ∧ j < 19 + 6 then -1 else G 94 j) := by
    intro n hn
    show kX12_layWhole 30 _ _ _ = kX12_layWhole 30 _ _ _
    have hrow : va_up (fun j => if 25 ≤ j ∧ j < 25 + n then 0 else if 19 ≤ j ∧ j < 19 + 6 then -1 else G 94 j) (25 + n) 0 = (fun j => if 25 ≤ j ∧ j < 25 + (n + 1) then 0 else if 19 ≤ j ∧ j < 19 + 6 then -1 else G 94 j) := by
      funext j
      rw [va_up_at]
      by_cases c : j = 25 + n
      · rw [if_pos c, if_pos (by omega)]
      · rw [if_neg c]
        by_cases g : 25 ≤ j ∧ j < 25 + n
        · rw [if_pos g, if_pos (by omega)]
        · rw [if_neg g, if_neg (show ¬ (25 ≤ j ∧ j < 25 + (n + 1)) by omega)]
    rw [eX12_layWhole_30, if_pos (show nI n < (4 : Int32) from nI_lt (b := 4) hn (by decide)), eX12_layWhole_35, show (25 : Int32) = nI 25 from rfl, nI_add, q_in_nI (show 25 + n < 65 by omega) (by omega), nI_clamp (by omega), q_up_up, hrow, nI_1]
    simp only [Option.bind_some, Option.toList_some, Option.toList_none, List.nil_append, List.cons_append, q_ck_tt, Bool.and_true, Bool.true_and, if_true, if_false, reduceCtorEq]
  have q2 := q_for (fun n (y : Nat → Int32) => kX12_layWhole 30 [some (.ref 64), some (.int a1), some (.int a2), some (.int (nI n))] [] (qm (va_up G 94 y) J e)) 4 (fun n => (fun j => if 25 ≤ j ∧ j < 25 + n then 0 else if 19 ≤ j ∧ j < 19 + 6 then -1 else G 94 j)) l2
  have e2 : (fun j => if 25 ≤ j ∧ j < 25 + 0 then 0 else if 19 ≤ j ∧ j < 19 + 6 then -1 else G 94 j) = (fun j => if 19 ≤ j ∧ j < 19 + 6 then -1 else G 94 j) := by funext j; rw [if_neg (show ¬ (25 ≤ j ∧ j < 25 + 0) by omega)]
  rw [e2] at q2
  have l3 : ∀ n, n < 36 → (fun n (y : Nat → Int32) => kX12_layWhole 53 [some (.ref 64), some (.int a1), some (.int a2), some (.int (nI n))] [] (qm (va_up G 94 y) J e)) n (fun j => if 29 ≤ j ∧ j < 29 + n then 0 else if 25 ≤ j ∧ j < 25 + 4 then 0 else if 19 ≤ j ∧ j < 19 + 6 then -1 else G 94 j) = (fun n (y : Nat → Int32) => kX12_layWhole 53 [some (.ref 64), some (.int a1), some (.int a2), some (.int (nI n))] [] (qm (va_up G 94 y) J e)) (n + 1) (fun j => if 29 ≤ j ∧ j < 29 + (n + 1) then 0 else if 25 ≤ j ∧ j < 25 + 4 then 0 else if 19 ≤ j ∧ j < 19 + 6 then -1 else G 94 j) := by
    intro n hn
    show kX12_layWhole 53 _ _ _ = kX12_layWhole 53 _ _ _
    have hrow : va_up (fun j => if 29 ≤ j ∧ j < 29 + n then 0 else if 25 ≤ j ∧ j < 25 + 4 then 0 else if 19 ≤ j ∧ j < 19 + 6 then -1 else G 94 j) (29 + n) 0 = (fun j => if 29 ≤ j ∧ j < 29 + (n + 1) then 0 else if 25 ≤ j ∧ j < 25 + 4 then 0 else if 19 ≤ j ∧ j < 19 + 6 then -1 else G 94 j) := by
      funext j
      rw [va_up_at]
      by_cases c : j = 29 + n
      · rw [if_pos c, if_pos (by omega)]
      · rw [if_neg c]
        by_cases g : 29 ≤ j ∧ j < 29 + n
        · rw [if_pos g, if_pos (by omega)]
        · rw [if_neg g, if_neg (show ¬ (29 ≤ j ∧ j < 29 + (n + 1)) by omega)]
    rw [eX12_layWhole_53, if_pos (show nI n < (36 : Int32) from nI_lt (b := 36) hn (by decide)), eX12_layWhole_59, show (29 : Int32) = nI 29 from rfl, nI_add, q_in_nI (show 29 + n < 65 by omega) (by omega), nI_clamp (by omega), q_up_up, hrow, nI_1]
    simp only [Option.bind_some, Option.toList_some, Option.toList_none, List.nil_append, List.cons_append, q_ck_tt, Bool.and_true, Bool.true_and, if_true, if_false, reduceCtorEq]
  have q3 := q_for (fun n (y : Nat → Int32) => kX12_layWhole 53 [some (.ref 64), some (.int a1), some (.int a2), some (.int (nI n))] [] (qm (va_up G 94 y) J e)) 36 (fun n => (fun j => if 29 ≤ j ∧ j < 29 + n then 0 else if 25 ≤ j ∧ j < 25 + 4 then 0 else if 19 ≤ j ∧ j < 19 + 6 then -1 else G 94 j)) l3
  have e3 : (fun j => if 29 ≤ j ∧ j < 29 + 0 then 0 else if 25 ≤ j ∧ j < 25 + 4 then 0 else if 19 ≤ j ∧ j < 19 + 6 then -1 else G 94 j) = (fun j => if 25 ≤ j ∧ j < 25 + 4 then 0 else if 19 ≤ j ∧ j < 19 + 6 then -1 else G 94 j) := by funext j; rw [if_neg (show ¬ (29 ≤ j ∧ j < 29 + 0) by omega)]
  rw [e3] at q3
  refine ⟨fun j => if 29 ≤ j ∧ j < 29 + 36 then 0 else if 25 ≤ j ∧ j < 25 + 4 then 0 else if 19 ≤ j ∧ j < 19 + 6 then -1 else G 94 j, ?_, ?_, ?_, ?_⟩
  · rw [eX12_layWhole_4]
    refine Eq.trans q1 ?_
    show kX12_layWhole 6 _ _ _ = _
    rw [eX12_layWhole_6, if_neg (show ¬ nI 6 < (6 : Int32) by decide), eX12_layWhole_28]
    refine Eq.trans q2 ?_
    show kX12_layWhole 30 _ _ _ = _
    rw [eX12_layWhole_30, if_neg (show ¬ nI 4 < (4 : Int32) by decide), eX12_layWhole_51]
    refine Eq.trans q3 ?_
    show kX12_layWhole 53 _ _ _ = _
    rw [eX12_layWhole_53, if_neg (show ¬ nI 36 < (36 : Int32) by decide)]
  · intro j h1 h2
    dsimp only
    rw [if_neg (by omega), if_neg (by omega), if_pos (by omega)]
  · intro j h1 h2
    dsimp only
    by_cases c : 29 ≤ j
    · rw [if_pos (by omega)]
    · rw [if_neg (by omega), if_pos (by omega)]
  · intro j h1
    dsimp only
    rw [if_neg (by omega), if_neg (by omega), if_neg (by omega)]
theorem q_lA2 (h : q_Core I D N cl RM rc) (hz : q_Fz I sz) (hq : q_FQ D N (bt (I 3 11)) F (I 94)) {k : Nat} (hk : k < 3) (ck : Int32) : ∃ I', mX12_layAnswers [.ref 64, .int (nI k), .int ck] (qm I J e) = some (none, qm I' J e) ∧ (∀ r, r < RM → I' 102 r = qAn I N k F (qFa I sz (F 2) ck) (rc r)) ∧ q_Off I I' ∧ I' 104 = I 104 ∧ I' 111 = I 111 := by
  have oK : ∀ K : Nat → Nat → Int32, (∀ p, p ≠ 72 → p ≠ 73 → p ≠ 99 → p ≠ 100 → p ≠ 102 → p ≠ 103 → K p = I p) → q_Off I K := by
    intro K hK p k hp
    rw [hK p (fun c => by rw [c] at hp; cases hp) (fun c => by rw [c] at hp; cases hp) (fun c => by rw [c] at hp; cases hp) (fun c => by rw [c] at hp; cases hp) (fun c => by rw [c] at hp; cases hp) (fun c => by rw [c] at hp; cases hp)]
  obtain ⟨I', a1, a2, a3, a4⟩ := fX12_layAnswers (J := J) (e := e) (fl := qFa I sz (F 2) ck) h.rs h.sf hq.1 (fun n hn => (h.bs n hn).1) hk ck (by
    intro K hK lv hl r hr
    have o := oK K hK
    have g := q_read (J := J) (e := e) (q_Core_off h o) (q_Fz_off hz o) (op := F 2) (lv := lv) (by rw [hK 3 (by decide) (by decide) (by decide) (by decide) (by decide) (by decide), hK 94 (by decide) (by decide) (by decide) (by decide) (by decide) (by decide)]; exact hq.2.2.1) hl (h.rs.2.2.2 r hr).2.2 ck
    rw [hK 9 (by decide) (by decide) (by decide) (by decide) (by decide) (by decide), hK 10 (by decide) (by decide) (by decide) (by decide) (by decide) (by decide), qFa_off o] at g
    exact g)
  exact ⟨I', a1, a3, oK I' a4, a4 104 (by decide) (by decide) (by decide) (by decide) (by decide) (by decide), a4 111 (by decide) (by decide) (by decide) (by decide) (by decide) (by decide)⟩
theorem q_ba0 (s : Nat) : qba N RM rc (fun _ => 0) s = false := by
  unfold qba
  simp only [b_0, Bool.or_false, ite_self, Bool.false_and]
/-- what a receiver answers in a case, by the reference -/
def qAi (I : Nat → Nat → Int32) (N RM : Nat) (rc : Nat → Nat) (sz k i x : Nat) : Int32 := qAn I N k (qFi N RM rc i) (qFa I sz (qFi N RM rc i 2) 0) x
theorem fX12_layWhole (h : q_Core I D N cl RM rc) (hz : q_Fz I sz) (hk : k < 3) {i : Nat} (hi : i ≤ qSN N RM) : ∃ K, mX12_layWhole [.ref 64, .int (nI k), .int (nI i - 1)] (qm I J e) = some (none, qm K J e) ∧ (∀ r, r < RM → K 102 r = qAi I N RM rc sz k i (rc r)) ∧ q_Off I K ∧ K 104 = I 104 ∧ K 111 = I 111 := by
  have hN := h.n6
  have hD := h.d4
  have h60 := qSN_60 h
  have a0 : mX12_fill [.ref 64] (qm I J e) = some (none, qm (va_up I 94 (fa_fill (I 93) (I 94) 65)) J e) := fX12_fill I J e
  have o1 := q_off_fill I
  have a104 : (va_up I 94 (fa_fill (I 93) (I 94) 65)) 104 = I 104 := va_miss (by decide)
  have a111 : (va_up I 94 (fa_fill (I 93) (I 94) 65)) 111 = I 111 := va_miss (by decide)
  generalize va_up I 94 (fa_fill (I 93) (I 94) 65) = A at a0 o1 a104 a111
  obtain ⟨f, f0, f1, f2, f3⟩ := q_lw_94 (J := J) (e := e) (G := A) trivial (nI k) (nI i - 1)
  have o2 : q_Off A (va_up A 94 f) := q_Off_va A rfl f
  have oI := q_Off_trans o1 o2
  have C2 := q_Core_off h oI
  have hq0 : ∀ A : Nat → Bool, q_FQ D N A (fun _ => 0) f := fun A => q_FQ_0 hN hD f1 f2
  have main : ∃ g : Nat → Int32, kX12_layWhole 75 [some (.ref 64), some (.int (nI k)), some (.int (nI i - 1)), none] [] (qm (va_up A 94 f) J e) = (mX12_layAnswers [.ref 64, .int (nI k), .int 0] (qm (va_up A 94 g) J e)).bind (fun r => kX12_layWhole 90 [some (.ref 64), some (.int (nI k)), none, none] (r.1.toList ++ []) r.2) ∧ q_FQ D N (bt (I 3 11)) (qFi N RM rc i) g := by
    cases i with
    | zero =>
      refine ⟨f, ?_, hq0 _⟩
      rw [eX12_layWhole_75, if_pos (by decide), eX12_layWhole_84]
    | succ s =>
      have hq1 : q_FQ D N (bt (I 3 11)) (fun _ => 0) ((va_up A 94 f) 94) := by rw [va_hit]; exact hq0 _
      have ht := fX12_turn (J := J) (e := e) C2.rs hq1 (show s < qSN N RM by omega)
      have hq2 := q_FQ_turn h hq1 (show s < qSN N RM by omega) (q_ba0 s)
      rw [va_hit] at ht hq2
      rw [va_up_up] at ht
      refine ⟨_, ?_, hq2⟩
      rw [nI_pred, eX12_layWhole_75, if_neg (nI_pos (by omega)), eX12_layWhole_79, ht]
      simp only [Option.bind_some, Option.toList_some, Option.toList_none, List.nil_append, List.cons_append, q_ck_tt, Bool.and_true, Bool.true_and, if_true, if_false, reduceCtorEq]
      rw [eX12_layWhole_84v1]
  obtain ⟨g, g0, g1⟩ := main
  have o3 : q_Off A (va_up A 94 g) := q_Off_va A rfl g
  have oI3 := q_Off_trans o1 o3
  have C3 := q_Core_off h oI3
  have g1' : q_FQ D N (bt ((va_up A 94 g) 3 11)) (qFi N RM rc i) ((va_up A 94 g) 94) := by rw [oI3.r 3 (fun _ => rfl), va_hit]; exact g1
  obtain ⟨K, l0, l2, l3, l4, l5⟩ := q_lA2 (J := J) (e := e) C3 (q_Fz_off hz oI3) g1' hk 0
  refine ⟨K, ?_, fun r hr => ?_, q_Off_trans oI3 l3, by rw [l4, va_miss (by decide), a104], by rw [l5, va_miss (by decide), a111]⟩
  · rw [bX12_layWhole, eX12_layWhole_0, a0]
    simp only [Option.bind_some, Option.toList_some, Option.toList_none, List.nil_append, List.cons_append, q_ck_tt, Bool.and_true, Bool.true_and, if_true, if_false, reduceCtorEq]
    rw [f0, g0, l0]
    simp only [Option.bind_some, Option.toList_some, Option.toList_none, List.nil_append, List.cons_append, q_ck_tt, Bool.and_true, Bool.true_and, if_true, if_false, reduceCtorEq]
    rw [eX12_layWhole_90]
  · rw [l2 r hr, qAn_off oI3, qFa_off oI3]
    rfl
theorem qAi_off {K : Nat → Nat → Int32} (o : q_Off I K) : qAi K N RM rc sz = qAi I N RM rc sz := by
  funext k i x
  unfold qAi
  rw [qAn_off o, qFa_off o]
theorem fX12_layTable (h : q_Core I D N cl RM rc) (hz : q_Fz I sz) (hk : k < 3) : ∃ K, mX12_layTable [.ref 64, .int (nI k)] (qm I J e) = some (none, qm K J e) ∧ (∀ i, i ≤ qSN N RM → ∀ r, r < RM → K 104 (24 * i + r) = qAi I N RM rc sz k i (rc r)) ∧ q_Off I K ∧ K 111 = I 111 := by
  have h60 := qSN_60 h
  have h18 := h.br.2.1
  have hst : ∀ i (K : Nat → Nat → Int32), i < qSN N RM + 1 → ((∀ i', i' < i → ∀ r, r < RM → K 104 (24 * i' + r) = qAi I N RM rc sz k i' (rc r)) ∧ q_Off I K ∧ K 111 = I 111) → ∃ K' : Nat → Nat → Int32, ((∀ i', i' < i + 1 → ∀ r, r < RM → K' 104 (24 * i' + r) = qAi I N RM rc sz k i' (rc r)) ∧ q_Off I K' ∧ K' 111 = I 111) ∧ (fun i (K : Nat → Nat → Int32) => kX12_layTable 2 [some (.ref 64), some (.int (nI k)), some (.int (nI i - 1)), none] [] (qm K J e)) i K = (fun i (K : Nat → Nat → Int32) => kX12_layTable 2 [some (.ref 64), some (.int (nI k)), some (.int (nI i - 1)), none] [] (qm K J e)) (i + 1) K' := by
    intro i K hi ⟨hK1, oK, k111⟩
    have hK := q_Core_off h oK
    obtain ⟨M, m0, m1, m2, m104, m111⟩ := fX12_layWhole (J := J) (e := e) hK (q_Fz_off hz oK) hk (show i ≤ qSN N RM by omega)
    have oM := q_Off_trans oK m2
    have hM := q_Core_off h oM
    have hlt : nI i - 1 < nI (qSN N RM) := by
      cases i with
      | zero => exact q_m1_lt (a := qSN N RM) (by omega)
      | succ s => rw [nI_pred]; exact nI_lt (by omega) (by omega)
    have hin : ∀ r (M' : Nat → Nat → Int32), r < RM → ((∀ r', r' < r → M' 104 (24 * i + r') = qAi I N RM rc sz k i (rc r')) ∧ (∀ i', i' < i → ∀ r, r < RM → M' 104 (24 * i' + r) = M 104 (24 * i' + r)) ∧ ∀ p, p ≠ 104 → M' p = M p) → ∃ M'' : Nat → Nat → Int32, ((∀ r', r' < r + 1 → M'' 104 (24 * i + r') = qAi I N RM rc sz k i (rc r')) ∧ (∀ i', i' < i → ∀ r, r < RM → M'' 104 (24 * i' + r) = M 104 (24 * i' + r)) ∧ ∀ p, p ≠ 104 → M'' p = M p) ∧ (fun r (M' : Nat → Nat → Int32) => kX12_layTable 18 [some (.ref 64), some (.int (nI k)), some (.int (nI i - 1)), some (.int (nI r))] [] (qm M' J e)) r M' = (fun r (M' : Nat → Nat → Int32) => kX12_layTable 18 [some (.ref 64), some (.int (nI k)), some (.int (nI i - 1)), some (.int (nI r))] [] (qm M' J e)) (r + 1) M'' := by
      intro r M' hr ⟨h1, h2, h3⟩
      have hm : (24 : Int32) * (nI i - 1 + 1) + nI r = nI (24 * i + r) := by rw [Int32.sub_add_cancel, show (24 : Int32) = nI 24 from rfl, pk_mul, nI_add]
      have hv : M' 102 r = qAi I N RM rc sz k i (rc r) := by rw [h3 102 (by decide), m1 r hr, qAi_off oK]
      refine ⟨va_up M' 104 (va_up (M' 104) (24 * i + r) (qAi I N RM rc sz k i (rc r))), ⟨fun r' hr' => ?_, fun i' hi' r' hr' => ?_, fun p hp => ?_⟩, ?_⟩
      · rw [va_hit]
        by_cases c : r' = r
        · rw [c, va_hit]
        · rw [va_miss (by omega)]; exact h1 r' (by omega)
      · rw [va_hit, va_miss (by omega)]; exact h2 i' hi' r' hr'
      · rw [va_miss hp]; exact h3 p hp
      · show kX12_layTable 18 _ _ _ = kX12_layTable 18 _ _ _
        rw [eX12_layTable_18, h3 64 (by decide), hM.br.1, if_pos (nI_lt hr (by omega)), eX12_layTable_26, hm, q_in_nI (show 24 * i + r < 1464 by omega) (by omega), q_in_nI (show r < 24 by omega) (by omega), nI_clamp (show 24 * i + r < 2 ^ 31 by omega), nI_clamp (show r < 2 ^ 31 by omega), hv, q_up_va]
        simp only [Option.bind_some, Option.toList_some, Option.toList_none, List.nil_append, List.cons_append, q_ck_tt, Bool.and_true, Bool.true_and, if_true, if_false, reduceCtorEq]
        rw [eX12_layTable_45, nI_1]
    obtain ⟨M', ⟨n1, n2, n3⟩, n4⟩ := q_inv_for (fun r (M' : Nat → Nat → Int32) => kX12_layTable 18 [some (.ref 64), some (.int (nI k)), some (.int (nI i - 1)), some (.int (nI r))] [] (qm M' J e)) (fun r M' => (∀ r', r' < r → M' 104 (24 * i + r') = qAi I N RM rc sz k i (rc r')) ∧ (∀ i', i' < i → ∀ r, r < RM → M' 104 (24 * i' + r) = M 104 (24 * i' + r)) ∧ ∀ p, p ≠ 104 → M' p = M p) RM hin RM 0 M (by omega) ⟨fun r' hr' => absurd hr' (by omega), fun _ _ _ _ => rfl, fun _ _ => rfl⟩
    refine ⟨M', ⟨fun i' hi' r hr => ?_, ?_, by rw [n3 111 (by decide), m111, k111]⟩, ?_⟩
    · by_cases c : i' = i
      · rw [c]; exact n1 r hr
      · rw [n2 i' (by omega) r hr, m104]; exact hK1 i' (by omega) r hr
    · intro p j hp
      rw [n3 p (fun c => by rw [c] at hp; cases hp)]
      exact oM p j hp
    · show kX12_layTable 2 _ _ _ = kX12_layTable 2 _ _ _
      rw [eX12_layTable_2, fX12_singleMany hK]
      simp only [Option.bind_some, Option.toList_some, Option.toList_none, List.nil_append, List.cons_append, q_ck_tt, Bool.and_true, Bool.true_and, if_true, if_false, reduceCtorEq]
      rw [eX12_layTable_7, if_pos hlt, eX12_layTable_10, m0]
      simp only [Option.bind_some, Option.toList_some, Option.toList_none, List.nil_append, List.cons_append, q_ck_tt, Bool.and_true, Bool.true_and, if_true, if_false, reduceCtorEq]
      rw [eX12_layTable_16]
      refine Eq.trans n4 ?_
      show kX12_layTable 18 _ _ _ = _
      rw [eX12_layTable_18, n3 64 (by decide), hM.br.1, if_neg (nI_nlt (Nat.le_refl _) (by omega)), eX12_layTable_51, Int32.sub_add_cancel, nI_pred]
  obtain ⟨K, ⟨k1, k2, k4⟩, k3⟩ := q_inv_for (fun i (K : Nat → Nat → Int32) => kX12_layTable 2 [some (.ref 64), some (.int (nI k)), some (.int (nI i - 1)), none] [] (qm K J e)) (fun i K => (∀ i', i' < i → ∀ r, r < RM → K 104 (24 * i' + r) = qAi I N RM rc sz k i' (rc r)) ∧ q_Off I K ∧ K 111 = I 111) (qSN N RM + 1) hst (qSN N RM + 1) 0 I (by omega) ⟨fun i' hi' => absurd hi' (by omega), q_Off_refl _, rfl⟩
  refine ⟨K, ?_, fun i hi r hr => k1 i (by omega) r hr, k2, k4⟩
  rw [bX12_layTable, eX12_layTable_0]
  refine Eq.trans k3 ?_
  show kX12_layTable 2 _ _ _ = _
  rw [eX12_layTable_2, fX12_singleMany (q_Core_off h k2), nI_pred]
  simp only [Option.bind_some, Option.toList_some, Option.toList_none, List.nil_append, List.cons_append, q_ck_tt, Bool.and_true, Bool.true_and, if_true, if_false, reduceCtorEq]
  rw [eX12_layTable_7, if_neg (nI_nlt (Nat.le_refl _) (by omega)), eX12_layTable_57]
end LT
