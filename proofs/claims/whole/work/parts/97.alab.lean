/-! ===== the lab: what each single fault reads ===== -/
def qFi (N RM : Nat) (rc : Nat → Nat) : Nat → Nat → Int32
  | 0 => fun _ => 0
  | s + 1 => qTu N RM rc (fun _ => 0) s
def qCol (N k s : Nat) : Nat := (if k = 0 then 0 else if k = 1 then qCs N else 3 * qCs N) + s
def qPc (I : Nat → Nat → Int32) (N c : Nat) : Int32 := if c < qCs N then qPa (I 11) 0 N c else if c < 3 * qCs N then qPa (I 11) 1 N (c - qCs N) else qPa (I 11) 2 N (c - 3 * qCs N)
def qTt2 (N : Nat) : Nat := 3 * qCs N + N
def qRq (I : Nat → Nat → Int32) (N RM : Nat) (rc : Nat → Nat) (sz i c : Nat) : Int32 := qRa N (I 9) (I 10) (qLev (qFi N RM rc i) (qPc I N c)) (qFi N RM rc i 2) (qFa I sz (I 3 11) 0) &&& I 3 11
def q_Tb (I : Nat → Nat → Int32) (N RM : Nat) (rc : Nat → Nat) (sz : Nat) : Prop := ∀ i, i ≤ qSN N RM → ∀ c, c < qTt2 N → I 53 (i * 15 + c) = qRq I N RM rc sz i c
/-- the lab's table is not made, or right -/
def q_Lb (I : Nat → Nat → Int32) (N RM : Nat) (rc : Nat → Nat) : Prop := I 52 2 = 0 ∨ (I 52 2 = 1 ∧ ∀ sz, q_Fz I sz → q_Tb I N RM rc sz)
theorem qCs_3 {N : Nat} (hN : N ≤ 6) : qCs N ≤ 3 := (qCs_t N (by omega)).2.1
theorem qCol_lt {N k s : Nat} (hN : N ≤ 6) (hk : k < 3) (hs : s < qSt k N) : qCol N k s < qTt2 N ∧ qTt2 N ≤ 15 := by
  have := qCs_3 hN
  unfold qCol qTt2
  unfold qSt at hs
  have : k = 0 ∨ k = 1 ∨ k = 2 := by omega
  rcases this with rfl | rfl | rfl
  · rw [if_pos rfl] at hs ⊢; omega
  · rw [if_neg (by decide), if_pos rfl] at hs ⊢; omega
  · rw [if_neg (by decide), if_neg (by decide)] at hs ⊢; omega
theorem qPc_col {I : Nat → Nat → Int32} {N k s : Nat} (hk : k < 3) (hs : s < qSt k N) : qPc I N (qCol N k s) = qPa (I 11) k N s := by
  have : k = 0 ∨ k = 1 ∨ k = 2 := by omega
  rcases this with rfl | rfl | rfl
  · have hs' : s < qCs N := hs
    show qPc I N (0 + s) = _
    rw [Nat.zero_add]
    unfold qPc
    rw [if_pos hs']
  · have hs' : s < 2 * qCs N := hs
    show qPc I N (qCs N + s) = _
    unfold qPc
    rw [if_neg (by omega), if_pos (by omega), Nat.add_sub_cancel_left]
  · show qPc I N (3 * qCs N + s) = _
    unfold qPc
    rw [if_neg (by omega), if_neg (by omega), Nat.add_sub_cancel_left]
theorem qCol_s (N k s : Nat) : qCol N k (s + 1) = qCol N k s + 1 := by unfold qCol; omega
theorem qCol_n {N k : Nat} (hk : k < 3) : qCol N k (qSt k N) = if k = 0 then qCol N 1 0 else if k = 1 then qCol N 2 0 else qTt2 N := by
  unfold qCol qSt qTt2
  have : k = 0 ∨ k = 1 ∨ k = 2 := by omega
  rcases this with rfl | rfl | rfl
  · simp
  · simp; omega
  · simp
section LB
variable {I : Nat → Nat → Int32} {J : Nat → Nat → Int64} {e : QP} {rb tx L : Nat} {D N : Nat} {cl : Nat → Nat} {RM : Nat} {rc : Nat → Nat} {sz : Nat} {F : Nat → Int32} {k : Nat}
theorem q_Core_lab {K : Nat → Nat → Int32} (h : q_Core I D N cl RM rc) (hk : ∀ p, p ≠ 16 → p ≠ 52 → p ≠ 53 → p ≠ 54 → p ≠ 55 → K p = I p) : q_Core K D N cl RM rc := by
  refine q_Core_rows h (fun p hp => hk p ?_ ?_ ?_ ?_ ?_) <;> (intro c; rw [c] at hp; exact absurd hp (by decide))
theorem fX3_mendAll_55 : ∃ v : Nat → Int32, mX3_mendAll [.ref 55] (qm I J e) = some (none, qm (va_up I 55 v) J e) ∧ ∀ j, j < 5 → v j = 0 := by
  refine ⟨va_up (va_up (va_up (va_up (va_up (I 55) 0 0) 1 0) 2 0) 3 0) 4 0, ?_, ?_⟩
  · rw [bX3_mendAll_55, eX3_mendAll_55_0, eX3_mendAll_55_22]
    rw [q_up_va I, q_up_up, q_up_up, q_up_up, q_up_up]
  · intro j hj
    have : j = 0 ∨ j = 1 ∨ j = 2 ∨ j = 3 ∨ j = 4 := by omega
    rcases this with rfl | rfl | rfl | rfl | rfl <;> rfl
theorem q_tp_in (h : q_Core I D N cl RM rc) (hk : k < 3) : kX6_tellPatterns 4 [some (.ref 52), some (.ref 3), some (.int (nI (qCol N k 0))), some (.int (nI k)), none, none] [] (qm (va_up I 54 (fa_fill (qPc I N) (I 54) (qCol N k 0))) J e) = kX6_tellPatterns 4 [some (.ref 52), some (.ref 3), some (.int (nI (qCol N k (qSt k N)))), some (.int (nI (k + 1))), none, none] [] (qm (va_up I 54 (fa_fill (qPc I N) (I 54) (qCol N k (qSt k N)))) J e) := by
  have hN := h.n6
  have h6 := qSt_6 (k := k) hN
  have c3 := qCs_3 hN
  have cS : ∀ v : Nat → Int32, q_Sta (va_up I 54 v) := fun v => h.st
  have c35 : ∀ v : Nat → Int32, (va_up I 54 v) 3 5 = nI N := fun v => h.i35
  have hst : ∀ s, s < qSt k N → (fun s (_ : Unit) => kX6_tellPatterns 19 [some (.ref 52), some (.ref 3), some (.int (nI (qCol N k s))), some (.int (nI k)), some (.int (nI (qSt k N))), some (.int (nI s))] [] (qm (va_up I 54 (fa_fill (qPc I N) (I 54) (qCol N k s))) J e)) s () = (fun s (_ : Unit) => kX6_tellPatterns 19 [some (.ref 52), some (.ref 3), some (.int (nI (qCol N k s))), some (.int (nI k)), some (.int (nI (qSt k N))), some (.int (nI s))] [] (qm (va_up I 54 (fa_fill (qPc I N) (I 54) (qCol N k s))) J e)) (s + 1) () := by
    intro s hs
    show kX6_tellPatterns 19 _ _ _ = kX6_tellPatterns 19 _ _ _
    obtain ⟨l1, l2⟩ := qCol_lt hN hk hs
    have hp := qPc_col (I := I) hk hs
    rw [qCol_s]
    generalize qCol N k s = c at l1 hp
    have w := fun v => fX2_pattern (va_up I 54 v) J e (cS v) hN (c35 v) hk hs
    rw [eX6_tellPatterns_19, if_pos (nI_lt hs (by omega)), eX6_tellPatterns_26, if_pos (show nI c < (15 : Int32) from nI_lt (b := 15) (by omega) (by decide)), eX6_tellPatterns_32, w, va_miss (show (11 : Nat) ≠ 54 by decide)]
    simp only [Option.bind_some, Option.toList_some, Option.toList_none, List.nil_append, List.cons_append, q_ck_tt, Bool.and_true, Bool.true_and, if_true, if_false, reduceCtorEq]
    rw [eX6_tellPatterns_44, q_in_nI (show c < 15 by omega) (by omega), nI_clamp (by omega), q_up_up, fa_next' (f := qPc I N) hp.symm, nI_1, nI_1]
    simp only [Option.bind_some, Option.toList_some, Option.toList_none, List.nil_append, List.cons_append, q_ck_tt, Bool.and_true, Bool.true_and, if_true, if_false, reduceCtorEq]
  have hf := q_for (fun s (_ : Unit) => kX6_tellPatterns 19 [some (.ref 52), some (.ref 3), some (.int (nI (qCol N k s))), some (.int (nI k)), some (.int (nI (qSt k N))), some (.int (nI s))] [] (qm (va_up I 54 (fa_fill (qPc I N) (I 54) (qCol N k s))) J e)) (qSt k N) (fun _ => ()) hst
  rw [eX6_tellPatterns_4, if_pos (show nI k < (3 : Int32) from nI_lt (b := 3) hk (by decide)), eX6_tellPatterns_9, fX2_stepCount _ J e (cS _) hN (c35 _) hk]
  simp only [Option.bind_some, Option.toList_some, Option.toList_none, List.nil_append, List.cons_append, q_ck_tt, Bool.and_true, Bool.true_and, if_true, if_false, reduceCtorEq]
  rw [eX6_tellPatterns_14]
  refine Eq.trans hf ?_
  show kX6_tellPatterns 19 _ _ _ = _
  rw [eX6_tellPatterns_19, if_neg (nI_nlt (Nat.le_refl _) (by omega)), eX6_tellPatterns_54, nI_1]
theorem fX6_tellPatterns (h : q_Core I D N cl RM rc) : mX6_tellPatterns [.ref 52, .ref 3] (qm I J e) = some (some (.int (nI (qTt2 N))), qm (va_up I 54 (fa_fill (qPc I N) (I 54) (qTt2 N))) J e) := by
  have h0 := q_tp_in (J := J) (e := e) h (show 0 < 3 by omega)
  have h1 := q_tp_in (J := J) (e := e) h (show 1 < 3 by omega)
  have h2 := q_tp_in (J := J) (e := e) h (show 2 < 3 by omega)
  rw [qCol_n (by omega), if_pos rfl] at h0
  rw [qCol_n (by omega), if_neg (by decide), if_pos rfl] at h1
  rw [qCol_n (by omega), if_neg (by decide), if_neg (by decide)] at h2
  have h00 : qCol N 0 0 = 0 := rfl
  rw [h00, fa_fill_0, va_up_id] at h0
  rw [bX6_tellPatterns, eX6_tellPatterns_0]
  refine Eq.trans h0 (Eq.trans h1 (Eq.trans h2 ?_))
  rw [eX6_tellPatterns_4, if_neg (show ¬ nI (2 + 1) < (3 : Int32) by decide), eX6_tellPatterns_60]
theorem qFa_row {K : Nat → Nat → Int32} (h : ∀ p, p ≠ 16 → p ≠ 52 → p ≠ 53 → p ≠ 54 → p ≠ 55 → K p = I p) (op ck : Int32) : qFa K sz op ck = qFa I sz op ck := by
  unfold qFa
  rw [h 69 (by decide) (by decide) (by decide) (by decide) (by decide), h 70 (by decide) (by decide) (by decide) (by decide) (by decide), h 12 (by decide) (by decide) (by decide) (by decide) (by decide)]
theorem qRq_row {K : Nat → Nat → Int32} (h : ∀ p, p ≠ 16 → p ≠ 52 → p ≠ 53 → p ≠ 54 → p ≠ 55 → K p = I p) (i c : Nat) : qRq K N RM rc sz i c = qRq I N RM rc sz i c := by
  unfold qRq qPc
  rw [qFa_row h, h 9 (by decide) (by decide) (by decide) (by decide) (by decide), h 10 (by decide) (by decide) (by decide) (by decide) (by decide), h 11 (by decide) (by decide) (by decide) (by decide) (by decide), h 3 (by decide) (by decide) (by decide) (by decide) (by decide)]
theorem fX6_prepare (h : q_Core I D N cl RM rc) (hz : q_Fz I sz) (h0 : I 52 2 = 0) : ∃ K, mX6_prepare [.ref 52, .ref 3] (qm I J e) = some (none, qm K J e) ∧ q_Tb I N RM rc sz = q_Tb I N RM rc sz ∧ (∀ i, i ≤ qSN N RM → ∀ c, c < qTt2 N → K 53 (i * 15 + c) = qRq I N RM rc sz i c) ∧ K 52 2 = 1 ∧ (∀ j, j ≠ 2 → K 52 j = I 52 j) ∧ ∀ p, p ≠ 16 → p ≠ 52 → p ≠ 53 → p ≠ 54 → p ≠ 55 → K p = I p := by
  have hN := h.n6
  have h60 := qSN_60 h
  have c3 := qCs_3 hN
  have hT : qTt2 N ≤ 15 := by unfold qTt2; omega
  obtain ⟨v, hfl⟩ := fX0_floatingAt I J e hz.1 hz.2.1 hz.2.2.2.2 hz.d1 (I 3 11) 0
  have h16 : q_Core (va_up I 16 v) D N cl RM rc := q_Core_off h (q_Off_va I rfl v)
  have htp := fX6_tellPatterns (J := J) (e := e) h16
  have hPc : qPc (va_up I 16 v) N = qPc I N := by funext c; unfold qPc; rw [va_miss (show (11 : Nat) ≠ 16 by decide)]
  rw [hPc] at htp
  have b54 : ∀ c, c < qTt2 N → (va_up (va_up I 16 v) 54 (fa_fill (qPc I N) ((va_up I 16 v) 54) (qTt2 N))) 54 c = qPc I N c := fun c hc => by rw [va_hit, fa_fill_in hc]
  have bp : ∀ p, p ≠ 16 → p ≠ 54 → (va_up (va_up I 16 v) 54 (fa_fill (qPc I N) ((va_up I 16 v) 54) (qTt2 N))) p = I p := fun p h1 h2 => by rw [va_miss h2, va_miss h1]
  generalize va_up (va_up I 16 v) 54 (fa_fill (qPc I N) ((va_up I 16 v) 54) (qTt2 N)) = B at htp b54 bp
  have hst : ∀ i (K : Nat → Nat → Int32), i < qSN N RM + 1 → ((∀ i', i' < i → ∀ c, c < qTt2 N → K 53 (i' * 15 + c) = qRq I N RM rc sz i' c) ∧ ∀ p, p ≠ 53 → p ≠ 55 → K p = B p) → ∃ K' : Nat → Nat → Int32, ((∀ i', i' < i + 1 → ∀ c, c < qTt2 N → K' 53 (i' * 15 + c) = qRq I N RM rc sz i' c) ∧ ∀ p, p ≠ 53 → p ≠ 55 → K' p = B p) ∧ (fun i (K : Nat → Nat → Int32) => kX6_prepare 40 [some (.ref 52), some (.ref 3), some (.int (nI (qSN N RM + 1))), some (.int (qFa I sz (I 3 11) 0)), some (.int (nI (qTt2 N))), some (.int (nI i)), none, none, none] [] (qm K J e)) i K = (fun i (K : Nat → Nat → Int32) => kX6_prepare 40 [some (.ref 52), some (.ref 3), some (.int (nI (qSN N RM + 1))), some (.int (qFa I sz (I 3 11) 0)), some (.int (nI (qTt2 N))), some (.int (nI i)), none, none, none] [] (qm K J e)) (i + 1) K' := by
    intro i K hi ⟨hK1, hK2⟩
    have kI : ∀ (K : Nat → Nat → Int32), (∀ p, p ≠ 53 → p ≠ 55 → K p = B p) → ∀ p, p ≠ 16 → p ≠ 52 → p ≠ 53 → p ≠ 54 → p ≠ 55 → K p = I p := fun K hK p h1 h2 h3 h4 h5 => by rw [hK p h3 h5, bp p h1 h4]
    have hcore : ∀ (K : Nat → Nat → Int32), (∀ p, p ≠ 53 → p ≠ 55 → K p = B p) → q_Core K D N cl RM rc := fun K hK => q_Core_lab h (kI K hK)
    obtain ⟨v, m0, m1⟩ := fX3_mendAll_55 (I := K) (J := J) (e := e)
    -- the fault put in
    have htrial : ∃ f : Nat → Int32, kX6_prepare 40 [some (.ref 52), some (.ref 3), some (.int (nI (qSN N RM + 1))), some (.int (qFa I sz (I 3 11) 0)), some (.int (nI (qTt2 N))), some (.int (nI i)), none, none, none] [] (qm K J e) = kX6_prepare 73 [some (.ref 52), some (.ref 3), some (.int (nI (qSN N RM + 1))), some (.int (qFa I sz (I 3 11) 0)), some (.int (nI (qTt2 N))), some (.int (nI i)), some (.int 0), none, none] [] (qm (va_up K 55 f) J e) ∧ ∀ j, j < 5 → f j = qFi N RM rc i j := by
      cases i with
      | zero =>
        refine ⟨v, ?_, m1⟩
        rw [eX6_prepare_40, if_pos (nI_lt hi (by omega)), eX6_prepare_46, m0]
        simp only [Option.bind_some, Option.toList_some, Option.toList_none, List.nil_append, List.cons_append, q_ck_tt, Bool.and_true, Bool.true_and, if_true, if_false, reduceCtorEq]
        rw [eX6_prepare_53, if_neg (show ¬ (0 : Int32) < nI 0 by decide), eX6_prepare_70]
      | succ s =>
        have hc1 : q_Core (va_up K 55 v) D N cl RM rc := hcore _ (fun p h1 h2 => by rw [va_miss h2]; exact hK2 p h1 h2)
        have t0 := fX0_turnSingle_55 (J := J) (e := e) hc1 (show s < qSN N RM by omega)
        rw [va_hit, va_up_up] at t0
        refine ⟨qTu N RM rc v s, ?_, qTu_cong m1 s⟩
        rw [eX6_prepare_40, if_pos (nI_lt hi (by omega)), eX6_prepare_46, m0]
        simp only [Option.bind_some, Option.toList_some, Option.toList_none, List.nil_append, List.cons_append, q_ck_tt, Bool.and_true, Bool.true_and, if_true, if_false, reduceCtorEq]
        rw [eX6_prepare_53, if_pos (show (0 : Int32) < nI (s + 1) from nI_lt (a := 0) (by omega) (by omega)), eX6_prepare_58, nI_pred, t0]
        simp only [Option.bind_some, Option.toList_some, Option.toList_none, List.nil_append, List.cons_append, q_ck_tt, Bool.and_true, Bool.true_and, if_true, if_false, reduceCtorEq]
        rw [eX6_prepare_70]
    obtain ⟨f, f0, f1⟩ := htrial
    have hin : ∀ c (M : Nat → Nat → Int32), c < qTt2 N → ((∀ c', c' < c → M 53 (i * 15 + c') = qRq I N RM rc sz i c') ∧ (∀ i', i' < i → ∀ c, c < qTt2 N → M 53 (i' * 15 + c) = qRq I N RM rc sz i' c) ∧ M 55 = f ∧ ∀ p, p ≠ 53 → p ≠ 55 → M p = B p) → ∃ M' : Nat → Nat → Int32, ((∀ c', c' < c + 1 → M' 53 (i * 15 + c') = qRq I N RM rc sz i c') ∧ (∀ i', i' < i → ∀ c, c < qTt2 N → M' 53 (i' * 15 + c) = qRq I N RM rc sz i' c) ∧ M' 55 = f ∧ ∀ p, p ≠ 53 → p ≠ 55 → M' p = B p) ∧ (fun c (M : Nat → Nat → Int32) => kX6_prepare 73 [some (.ref 52), some (.ref 3), some (.int (nI (qSN N RM + 1))), some (.int (qFa I sz (I 3 11) 0)), some (.int (nI (qTt2 N))), some (.int (nI i)), some (.int (nI c)), none, none] [] (qm M J e)) c M = (fun c (M : Nat → Nat → Int32) => kX6_prepare 73 [some (.ref 52), some (.ref 3), some (.int (nI (qSN N RM + 1))), some (.int (qFa I sz (I 3 11) 0)), some (.int (nI (qTt2 N))), some (.int (nI i)), some (.int (nI c)), none, none] [] (qm M J e)) (c + 1) M' := by
      intro c M hc ⟨hM1, hM2, hM3, hM4⟩
      have hMc := hcore M hM4
      have hMI := kI M hM4
      have p1 := fX3_levels_55 M J e hMc.st (M 54 c)
      have p2 := fX0_readsAt M J e hN hMc.i35 (qLev (M 55) (M 54 c)) (M 55 2) (qFa I sz (I 3 11) 0)
      have m54 : M 54 c = qPc I N c := by rw [hM4 54 (by decide) (by decide)]; exact b54 c hc
      have hval : qRa N (M 9) (M 10) (qLev (M 55) (M 54 c)) (M 55 2) (qFa I sz (I 3 11) 0) &&& M 3 11 = qRq I N RM rc sz i c := by
        unfold qRq
        rw [m54, hM3, hMI 9 (by decide) (by decide) (by decide) (by decide) (by decide), hMI 10 (by decide) (by decide) (by decide) (by decide) (by decide), hMI 3 (by decide) (by decide) (by decide) (by decide) (by decide), f1 2 (by omega), qLev_cong (f1 0 (by omega)) (f1 1 (by omega)) (f1 3 (by omega)) (f1 4 (by omega))]
      have hm : nI i * 15 + nI c = nI (i * 15 + c) := by rw [show (15 : Int32) = nI 15 from rfl, pk_mul, nI_add]
      refine ⟨va_up M 53 (va_up (M 53) (i * 15 + c) (qRq I N RM rc sz i c)), ⟨fun c' hc' => ?_, fun i' hi' c' hc' => ?_, ?_, fun p h1 h2 => ?_⟩, ?_⟩
      · rw [va_hit]
        by_cases g : c' = c
        · rw [g, va_hit]
        · rw [va_miss (by omega)]; exact hM1 c' (by omega)
      · rw [va_hit, va_miss (by omega)]; exact hM2 i' hi' c' hc'
      · rw [va_miss (by decide)]; exact hM3
      · rw [va_miss h1]; exact hM4 p h1 h2
      · show kX6_prepare 73 _ _ _ = kX6_prepare 73 _ _ _
        rw [eX6_prepare_73, if_pos (nI_lt hc (by omega)), eX6_prepare_80, q_in_nI (show c < 15 by omega) (by omega), nI_clamp (show c < 2 ^ 31 by omega), p1]
        simp only [Option.bind_some, Option.toList_some, Option.toList_none, List.nil_append, List.cons_append, q_ck_tt, Bool.and_true, Bool.true_and, if_true, if_false, reduceCtorEq]
        rw [eX6_prepare_94, p2]
        simp only [Option.bind_some, Option.toList_some, Option.toList_none, List.nil_append, List.cons_append, q_ck_tt, Bool.and_true, Bool.true_and, if_true, if_false, reduceCtorEq]
        rw [eX6_prepare_110, hm, q_in_nI (show i * 15 + c < 915 by omega) (by omega), nI_clamp (show i * 15 + c < 2 ^ 31 by omega), hval, q_up_va, nI_1]
        simp only [Option.bind_some, Option.toList_some, Option.toList_none, List.nil_append, List.cons_append, q_ck_tt, Bool.and_true, Bool.true_and, if_true, if_false, reduceCtorEq]
        rw [eX6_prepare_135]
    obtain ⟨M, ⟨n1, n2, n3, n4⟩, n5⟩ := q_inv_for (fun c (M : Nat → Nat → Int32) => kX6_prepare 73 [some (.ref 52), some (.ref 3), some (.int (nI (qSN N RM + 1))), some (.int (qFa I sz (I 3 11) 0)), some (.int (nI (qTt2 N))), some (.int (nI i)), some (.int (nI c)), none, none] [] (qm M J e)) (fun c M => (∀ c', c' < c → M 53 (i * 15 + c') = qRq I N RM rc sz i c') ∧ (∀ i', i' < i → ∀ c, c < qTt2 N → M 53 (i' * 15 + c) = qRq I N RM rc sz i' c) ∧ M 55 = f ∧ ∀ p, p ≠ 53 → p ≠ 55 → M p = B p) (qTt2 N) hin (qTt2 N) 0 (va_up K 55 f) (by omega) ⟨fun c' hc' => absurd hc' (by omega), fun i' hi' c hc => by rw [va_miss (by decide)]; exact hK1 i' hi' c hc, va_hit, fun p h1 h2 => by rw [va_miss h2]; exact hK2 p h1 h2⟩
    refine ⟨M, ⟨fun i' hi' c hc => ?_, n4⟩, ?_⟩
    · by_cases g : i' = i
      · rw [g]; exact n1 c hc
      · exact n2 i' (by omega) c hc
    · show kX6_prepare 40 _ _ _ = kX6_prepare 40 _ _ _
      rw [f0]
      refine Eq.trans n5 ?_
      show kX6_prepare 73 _ _ _ = _
      rw [eX6_prepare_73, if_neg (nI_nlt (Nat.le_refl _) (by omega)), eX6_prepare_138, nI_1]
  obtain ⟨K, ⟨k1, k2⟩, k3⟩ := q_inv_for (fun i (K : Nat → Nat → Int32) => kX6_prepare 40 [some (.ref 52), some (.ref 3), some (.int (nI (qSN N RM + 1))), some (.int (qFa I sz (I 3 11) 0)), some (.int (nI (qTt2 N))), some (.int (nI i)), none, none, none] [] (qm K J e)) (fun i K => (∀ i', i' < i → ∀ c, c < qTt2 N → K 53 (i' * 15 + c) = qRq I N RM rc sz i' c) ∧ ∀ p, p ≠ 53 → p ≠ 55 → K p = B p) (qSN N RM + 1) hst (qSN N RM + 1) 0 B (by omega) ⟨fun i' hi' => absurd hi' (by omega), fun _ _ _ => rfl⟩
  have hfl' : mX0_floatingAt [.ref 3, .int (I 3 11), .int 0] (qm I J e) = some (some (.int (qFa I sz (I 3 11) 0)), qm (va_up I 16 v) J e) := hfl
  refine ⟨q_up K 52 2 1, ?_, rfl, fun i hi c hc => ?_, ?_, fun j hj => ?_, fun p h1 h2 h3 h4 h5 => ?_⟩
  · rw [bX6_prepare, eX6_prepare_0, if_pos h0, eX6_prepare_8, fX0_singleCount h]
    simp only [Option.bind_some, Option.toList_some, Option.toList_none, List.nil_append, List.cons_append, q_ck_tt, Bool.and_true, Bool.true_and, if_true, if_false, reduceCtorEq]
    rw [eX6_prepare_12, hfl', nI_1, if_neg (show ¬ (61 : Int32) < nI (qSN N RM + 1) from nI_nlt (b := qSN N RM + 1) (a := 61) (by omega) (by omega))]
    simp only [Option.bind_some, Option.toList_some, Option.toList_none, List.nil_append, List.cons_append, q_ck_tt, Bool.and_true, Bool.true_and, if_true, if_false, reduceCtorEq]
    rw [eX6_prepare_29, htp]
    simp only [Option.bind_some, Option.toList_some, Option.toList_none, List.nil_append, List.cons_append, q_ck_tt, Bool.and_true, Bool.true_and, if_true, if_false, reduceCtorEq]
    rw [eX6_prepare_35]
    refine Eq.trans k3 ?_
    show kX6_prepare 40 _ _ _ = _
    rw [eX6_prepare_40, if_neg (nI_nlt (Nat.le_refl _) (by omega)), eX6_prepare_144]
  · rw [q_up_va, va_miss (by decide)]; exact k1 i (by omega) c hc
  · rw [q_up_va, va_hit, va_hit]
  · rw [q_up_va, va_hit, va_miss hj, k2 52 (by decide) (by decide), bp 52 (by decide) (by decide)]
  · rw [q_up_va, va_miss h2, k2 p h3 h5, bp p h1 h4]
/-- the lab made ready -/
theorem q_prep (h : q_Core I D N cl RM rc) (hz : q_Fz I sz) (hl : q_Lb I N RM rc) : ∃ K, mX11_prepared [.ref 1] (qm I J (3, 17, rb, tx, L)) = some (some (.ref 52), qm K J (3, 17, rb, tx, L)) ∧ q_Tb K N RM rc sz ∧ q_Core K D N cl RM rc ∧ q_Fz K sz ∧ q_Lb K N RM rc ∧ (∀ j, j ≠ 2 → K 52 j = I 52 j) ∧ ∀ p, p ≠ 16 → p ≠ 52 → p ≠ 53 → p ≠ 54 → p ≠ 55 → K p = I p := by
  rcases hl with h0 | ⟨h1, h2⟩
  · obtain ⟨K, k0, -, k1, k2, k3, k4⟩ := fX6_prepare (J := J) (e := (3, 17, rb, tx, L)) h hz h0
    have hzK : q_Fz K sz := by
      unfold q_Fz
      rw [k4 14 (by decide) (by decide) (by decide) (by decide) (by decide), k4 64 (by decide) (by decide) (by decide) (by decide) (by decide), k4 69 (by decide) (by decide) (by decide) (by decide) (by decide), k4 15 (by decide) (by decide) (by decide) (by decide) (by decide), k4 70 (by decide) (by decide) (by decide) (by decide) (by decide)]
      exact hz
    have hT : q_Tb K N RM rc sz := fun i hi c hc => by rw [k1 i hi c hc, qRq_row k4]
    refine ⟨K, ?_, hT, q_Core_lab h k4, hzK, Or.inr ⟨k2, fun sz' hz' => ?_⟩, k3, k4⟩
    · rw [bX11_prepared, eX11_prepared_0, k0]
      simp only [Option.bind_some, Option.toList_some, Option.toList_none, List.nil_append, List.cons_append, q_ck_tt, Bool.and_true, Bool.true_and, if_true, if_false, reduceCtorEq]
      rw [eX11_prepared_11]
    · have : sz' = sz := nI_inj (by have := hz'.1; omega) (by have := hzK.1; omega) (by rw [← hz'.2.1, ← hzK.2.1])
      rw [this]
      exact hT
  · refine ⟨I, ?_, h2 sz hz, h, hz, Or.inr ⟨h1, h2⟩, fun _ _ => rfl, fun _ _ _ _ _ _ => rfl⟩
    rw [bX11_prepared, eX11_prepared_0, bX6_prepare, eX6_prepare_0, if_neg (by rw [h1]; decide), eX6_prepare_7]
    simp only [Option.bind_some, Option.toList_some, Option.toList_none, List.nil_append, List.cons_append, q_ck_tt, Bool.and_true, Bool.true_and, if_true, if_false, reduceCtorEq]
    rw [eX11_prepared_11]
/-! the class reads its table -/
theorem fX6_columnOf (h : q_Core I D N cl RM rc) (hk : k < 3) (s : Nat) : mX6_columnOf [.ref 52, .ref 3, .int (nI k), .int (nI s)] (qm I J e) = some (some (.int (nI (qCol N k s))), qm I J e) := by
  have hN := h.n6
  have st : ∀ k, k < 3 → mX2_stepCount [.ref 3, .int (nI k)] (qm I J e) = some (some (.int (nI (qSt k N))), qm I J e) := fun k hk => fX2_stepCount I J e h.st hN h.i35 hk
  have s0 : mX2_stepCount [.ref 3, .int 0] (qm I J e) = some (some (.int (nI (qCs N))), qm I J e) := st 0 (by omega)
  have s1 : mX2_stepCount [.ref 3, .int 1] (qm I J e) = some (some (.int (nI (2 * qCs N))), qm I J e) := st 1 (by omega)
  rw [bX6_columnOf, eX6_columnOf_0]
  have : k = 0 ∨ k = 1 ∨ k = 2 := by omega
  rcases this with rfl | rfl | rfl
  · rw [eX6_columnOf_6, if_neg (by decide), eX6_columnOf_29, show qCol N 0 s = s from Nat.zero_add s]
  · rw [eX6_columnOf_6, if_pos (by decide), eX6_columnOf_12, s0]
    simp only [Option.bind_some, Option.toList_some, Option.toList_none, List.nil_append, List.cons_append, q_ck_tt, Bool.and_true, Bool.true_and, if_true, if_false, reduceCtorEq]
    rw [eX6_columnOf_20, eX6_columnOf_6, if_neg (by decide), eX6_columnOf_29, nI_add, show qCol N 1 s = s + qCs N from Nat.add_comm _ _]
  · rw [eX6_columnOf_6, if_pos (by decide), eX6_columnOf_12, s0]
    simp only [Option.bind_some, Option.toList_some, Option.toList_none, List.nil_append, List.cons_append, q_ck_tt, Bool.and_true, Bool.true_and, if_true, if_false, reduceCtorEq]
    rw [eX6_columnOf_20, show (0 : Int32) + 1 = 1 from rfl, eX6_columnOf_6, if_pos (by decide), eX6_columnOf_12, s1]
    simp only [Option.bind_some, Option.toList_some, Option.toList_none, List.nil_append, List.cons_append, q_ck_tt, Bool.and_true, Bool.true_and, if_true, if_false, reduceCtorEq]
    rw [eX6_columnOf_20, eX6_columnOf_6, if_neg (by decide), eX6_columnOf_29, nI_add, nI_add, show qCol N 2 s = s + qCs N + 2 * qCs N by unfold qCol; rw [if_neg (by decide), if_neg (by decide)]; omega]
theorem fX6_readsIn (h : q_Core I D N cl RM rc) (ht : q_Tb I N RM rc sz) {i c : Nat} (hi : i ≤ qSN N RM) (hc : c < qTt2 N) : mX6_readsIn [.ref 52, .int (nI c), .int (nI i - 1)] (qm I J e) = some (some (.int (qRq I N RM rc sz i c)), qm I J e) := by
  have h60 := qSN_60 h
  have hT : qTt2 N ≤ 15 := by have := qCs_3 h.n6; have := h.n6; unfold qTt2; omega
  have hm : (nI i - 1 + 1) * 15 + nI c = nI (i * 15 + c) := by rw [Int32.sub_add_cancel, show (15 : Int32) = nI 15 from rfl, pk_mul, nI_add]
  rw [bX6_readsIn, eX6_readsIn_0, hm, q_in_nI (show i * 15 + c < 915 by omega) (by omega), nI_clamp (by omega), ht i hi c hc]
  simp only [Option.bind_some, Option.toList_some, Option.toList_none, List.nil_append, List.cons_append, q_ck_tt, Bool.and_true, Bool.true_and, if_true, if_false, reduceCtorEq]
/-- whether two cases read otherwise -/
def qAp (I : Nat → Nat → Int32) (N RM : Nat) (rc : Nat → Nat) (sz k i j : Nat) : Bool := qAny (qSt k N) (fun s => !decide (qRq I N RM rc sz i (qCol N k s) = qRq I N RM rc sz j (qCol N k s)))
theorem fX6_parts (h : q_Core I D N cl RM rc) (ht : q_Tb I N RM rc sz) (hk : k < 3) {i j : Nat} (hi : i ≤ qSN N RM) (hj : j ≤ qSN N RM) : mX6_parts [.ref 52, .ref 3, .int (nI k), .int (nI i - 1), .int (nI j - 1)] (qm I J e) = some (some (.int (qb (qAp I N RM rc sz k i j))), qm I J e) := by
  have hN := h.n6
  have h6 := qSt_6 (k := k) hN
  have hc0 : mX6_columnOf [.ref 52, .ref 3, .int (nI k), .int 0] (qm I J e) = some (some (.int (nI (qCol N k 0))), qm I J e) := fX6_columnOf h hk 0
  have hcs : ∀ s, qCol N k 0 + s = qCol N k s := fun s => by unfold qCol; omega
  have hc15 : qCol N k 0 ≤ 15 := by have := qCs_3 hN; unfold qCol; split <;> (try split) <;> omega
  have hlp := q_any_lp (Fk := fun s => kX6_parts 23 [some (.ref 52), none, none, some (.int (nI i - 1)), some (.int (nI j - 1)), none, some (.int (nI (qCol N k 0 + qSt k N))), some (.int (nI (qCol N k 0 + s)))] [] (qm I J e)) (n := qSt k N) (p := fun s => !decide (qRq I N RM rc sz i (qCol N k s) = qRq I N RM rc sz j (qCol N k s))) (M := qm I J e) (fun s hs => by
    show kX6_parts 23 _ _ _ = if _ then _ else kX6_parts 23 _ _ _
    obtain ⟨l1, l2⟩ := qCol_lt hN hk hs
    rw [eX6_parts_23, if_pos (nI_lt (by omega) (by omega)), eX6_parts_30, hcs, fX6_readsIn h ht hi l1]
    simp only [Option.bind_some, Option.toList_some, Option.toList_none, List.nil_append, List.cons_append, q_ck_tt, Bool.and_true, Bool.true_and, if_true, if_false, reduceCtorEq]
    rw [eX6_parts_37, fX6_readsIn h ht hj l1]
    simp only [Option.bind_some, Option.toList_some, Option.toList_none, List.nil_append, List.cons_append, q_ck_tt, Bool.and_true, Bool.true_and, if_true, if_false, reduceCtorEq]
    rw [eX6_parts_45]
    by_cases c : qRq I N RM rc sz i (qCol N k s) = qRq I N RM rc sz j (qCol N k s)
    · rw [if_pos c, eX6_parts_50, nI_1, decide_eq_true c, if_neg (by decide), ← hcs s, Nat.add_assoc]
    · rw [if_neg c, eX6_parts_48, decide_eq_false c, if_pos (show (!false) = true from rfl)]) (by
    show kX6_parts 23 _ _ _ = _
    rw [eX6_parts_23, if_neg (nI_nlt (Nat.le_refl _) (by omega)), eX6_parts_56])
  rw [bX6_parts, eX6_parts_0, hc0]
  simp only [Option.bind_some, Option.toList_some, Option.toList_none, List.nil_append, List.cons_append, q_ck_tt, Bool.and_true, Bool.true_and, if_true, if_false, reduceCtorEq]
  rw [eX6_parts_7, fX2_stepCount I J e h.st hN h.i35 hk]
  simp only [Option.bind_some, Option.toList_some, Option.toList_none, List.nil_append, List.cons_append, q_ck_tt, Bool.and_true, Bool.true_and, if_true, if_false, reduceCtorEq]
  rw [eX6_parts_16, nI_add]
  exact hlp
end LB
