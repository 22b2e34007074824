/-! ===== a clock: the class, capture and all ===== -/
theorem q_Sta_up {I : Nat → Nat → Int32} (h : q_Sta I) {p : Nat} (hp : p < 1000) (v : Nat → Int32) : q_Sta (va_up I p v) := by
  unfold q_Sta
  rw [va_up_at, va_up_at, va_up_at, va_up_at, if_neg (by omega), if_neg (by omega), if_neg (by omega), if_neg (by omega)]
  exact h
/-- noise -/
def qNz (sd nz bits : Int32) (D : Nat) (row : Nat → Int32) : Nat → Int32 := if sd % 100 < nz ∧ 0 < D ∧ (0 : Int32) < bits then va_up row (D - 1) (row (D - 1) ^^^ 1) else row
section TD
variable {I : Nat → Nat → Int32} {J : Nat → Nat → Int64} {rb tx L : Nat} {D N : Nat} {cl : Nat → Nat} {RM : Nat} {rc : Nat → Nat} {sz : Nat}
/-- what all cells read -/
def qRA (I : Nat → Nat → Int32) (D N sz : Nat) : Int32 := qRa N (I 9) (I 10) (qLev (I 42) (qDn I D N)) (I 42 2) (qFa I sz (I 42 2) (I 37 1))
theorem q_Bd.idc (h : q_Bd I D N cl) : ∀ d, d < D → I 6 d = -1 ∨ ∃ k : Nat, k < 128 ∧ I 6 d = nI k := by
  intro d hd
  obtain ⟨-, e2, -, -, -, -, e7⟩ := h.bn.2.2 d hd
  rw [e2]; exact e7
theorem fX1_capture (h : q_Bd I D N cl) (hz : q_Fz I sz) : ∃ v, mX1_capture [.ref 37, .ref 3] (qm I J (3, 17, rb, tx, L)) = some (none, qm (va_up (va_up (va_up I 16 v) 37 (va_up (I 37) 2 (qSd (I 37 2)))) 40 (qNz (qSd (I 37 2)) (I 3 14) (qDb (I 38 (D - 1)) (I 6 (D - 1)) (I 7 (D - 1))) D (fa_fill (qCap (qRA I D N sz) (I 38) (I 6) (I 7)) (I 40) D))) J (3, 17, rb, tx, L)) := by
  have hD := h.d4
  have h10 : ¬ ((1 : Int32) = 0) := by decide
  obtain ⟨v, hv⟩ := fX1_reads (J := J) (rb := rb) (tx := tx) (L := L) h hz
  refine ⟨v, ?_⟩
  have hv' : mX1_reads [.ref 37, .ref 3] (qm I J (3, 17, rb, tx, L)) = some (some (.int (qRA I D N sz)), qm (va_up I 16 v) J (3, 17, rb, tx, L)) := hv
  generalize qRA I D N sz = rd at hv'
  have hst : ∀ n, n < D → (fun n (M : Nat → Nat → Int32) => kX1_capture 8 [some (.ref 37), some (.ref 3), some (.int rd), some (.int (nI n))] [] (qm M J (3, 17, rb, tx, L))) n (va_up (va_up I 16 v) 40 (fa_fill (qCap rd (I 38) (I 6) (I 7)) (I 40) n)) = (fun n (M : Nat → Nat → Int32) => kX1_capture 8 [some (.ref 37), some (.ref 3), some (.int rd), some (.int (nI n))] [] (qm M J (3, 17, rb, tx, L))) (n + 1) (va_up (va_up I 16 v) 40 (fa_fill (qCap rd (I 38) (I 6) (I 7)) (I 40) (n + 1))) := by
    intro n hn
    show kX1_capture 8 _ _ _ = kX1_capture 8 _ _ _
    have h4 : q_in (nI n) 4 = true := q_in_nI (by omega) (by omega)
    have hM : (va_up (va_up I 16 v) 40 (fa_fill (qCap rd (I 38) (I 6) (I 7)) (I 40) n)) 3 0 = nI D := h.i30
    have h7 : (va_up (va_up I 16 v) 40 (fa_fill (qCap rd (I 38) (I 6) (I 7)) (I 40) n)) 7 n = I 7 n := rfl
    have h6 : (va_up (va_up I 16 v) 40 (fa_fill (qCap rd (I 38) (I 6) (I 7)) (I 40) n)) 6 n = I 6 n := rfl
    have h38 : (va_up (va_up I 16 v) 40 (fa_fill (qCap rd (I 38) (I 6) (I 7)) (I 40) n)) 38 n = I 38 n := rfl
    have hpl : ∀ M : Nat → Nat → Int32, mX11_placeOf [.int (nI n), .int 0] (qm M J (3, 17, rb, tx, L)) = some (some (.int (nI (6 * n))), qm M J (3, 17, rb, tx, L)) := fun M => fX11_placeOf M J _ n 0
    have hn6 := q_idn (h.idc n hn)
    rw [eX1_capture_8, hM, if_pos (nI_lt hn (by omega)), eX1_capture_16, fX1_hasCellsAsData _ J _ (show n < 4 by omega), h38]
    simp only [Option.bind_some, Option.toList_some, Option.toList_none, List.nil_append, List.cons_append, q_ck_tt, Bool.and_true, Bool.true_and, if_true, if_false, reduceCtorEq]
    rw [eX1_capture_21]
    by_cases hc : I 38 n = 0 ∨ I 38 n = 2
    · have : (decide (I 38 n = 0) || decide (I 38 n = 2)) = true := by
        rcases hc with hc | hc
        · rw [decide_eq_true hc, Bool.true_or]
        · rw [decide_eq_true hc, Bool.or_true]
      rw [this, qb_t, if_neg h10, eX1_capture_24, hpl]
      simp only [Option.bind_some, Option.toList_some, Option.toList_none, List.nil_append, List.cons_append, q_ck_tt, Bool.and_true, Bool.true_and, if_true, if_false, reduceCtorEq]
      rw [eX1_capture_35, h4, nI_clamp (by omega), h7]
      simp only [Option.bind_some, Option.toList_some, Option.toList_none, List.nil_append, List.cons_append, q_ck_tt, Bool.and_true, Bool.true_and, if_true, if_false, reduceCtorEq]
      rw [eX1_capture_80, nI_1, q_up_up, fa_next' (f := qCap rd (I 38) (I 6) (I 7)) (by unfold qCap; rw [if_pos hc])]
    · have : (decide (I 38 n = 0) || decide (I 38 n = 2)) = false := by rw [decide_eq_false (fun c => hc (Or.inl c)), decide_eq_false (fun c => hc (Or.inr c))]; rfl
      rw [this, if_pos qb_f, eX1_capture_51, fX1_tellsWho _ J _ (show n < 4 by omega), h38, h6]
      simp only [Option.bind_some, Option.toList_some, Option.toList_none, List.nil_append, List.cons_append, q_ck_tt, Bool.and_true, Bool.true_and, if_true, if_false, reduceCtorEq]
      rw [eX1_capture_62]
      by_cases ht : I 38 n = 1 ∧ ¬ I 6 n < 0
      · rw [decide_eq_true ht.1, decide_eq_false (fun c => ht.2 (hn6.mp c)), if_neg (show ¬ qb (true && !false) = 0 from h10), eX1_capture_65, h4, nI_clamp (by omega), h6]
        simp only [Option.bind_some, Option.toList_some, Option.toList_none, List.nil_append, List.cons_append, q_ck_tt, Bool.and_true, Bool.true_and, if_true, if_false, reduceCtorEq]
        rw [eX1_capture_79, h4, nI_clamp (by omega)]
        simp only [Option.bind_some, Option.toList_some, Option.toList_none, List.nil_append, List.cons_append, q_ck_tt, Bool.and_true, Bool.true_and, if_true, if_false, reduceCtorEq]
        rw [eX1_capture_80, nI_1, q_up_up, fa_next' (f := qCap rd (I 38) (I 6) (I 7)) (by unfold qCap; rw [if_neg hc, if_pos ht])]
      · have : (decide (I 38 n = 1) && !decide (I 6 n = -1)) = false := by
          by_cases h1 : I 38 n = 1
          · have h2 : I 6 n < 0 := Classical.byContradiction (fun c => ht ⟨h1, c⟩)
            rw [decide_eq_true (hn6.mpr h2), Bool.not_true, Bool.and_false]
          · rw [decide_eq_false h1, Bool.false_and]
        rw [this, if_pos qb_f, eX1_capture_78, eX1_capture_79, h4, nI_clamp (by omega)]
        simp only [Option.bind_some, Option.toList_some, Option.toList_none, List.nil_append, List.cons_append, q_ck_tt, Bool.and_true, Bool.true_and, if_true, if_false, reduceCtorEq]
        rw [eX1_capture_80, nI_1, q_up_up, fa_next' (f := qCap rd (I 38) (I 6) (I 7)) (by unfold qCap; rw [if_neg hc, if_neg ht])]
  have hf := q_for (fun n (M : Nat → Nat → Int32) => kX1_capture 8 [some (.ref 37), some (.ref 3), some (.int rd), some (.int (nI n))] [] (qm M J (3, 17, rb, tx, L))) D (fun n => va_up (va_up I 16 v) 40 (fa_fill (qCap rd (I 38) (I 6) (I 7)) (I 40) n)) hst
  rw [fa_fill_0, va_up_eq (f := va_up I 16 v) (p := 40) (a := I 40) rfl] at hf
  rw [bX1_capture, eX1_capture_0, hv']
  simp only [Option.bind_some, Option.toList_some, Option.toList_none, List.nil_append, List.cons_append, q_ck_tt, Bool.and_true, Bool.true_and, if_true, if_false, reduceCtorEq]
  rw [eX1_capture_5]
  refine Eq.trans hf ?_
  show kX1_capture 8 _ _ _ = _
  have hM : (va_up (va_up I 16 v) 40 (fa_fill (qCap rd (I 38) (I 6) (I 7)) (I 40) D)) 3 0 = nI D := h.i30
  have h2 : (va_up (va_up I 16 v) 40 (fa_fill (qCap rd (I 38) (I 6) (I 7)) (I 40) D)) 37 2 = I 37 2 := rfl
  have hw : q_up (va_up (va_up I 16 v) 40 (fa_fill (qCap rd (I 38) (I 6) (I 7)) (I 40) D)) 37 2 ((I 37 2 * 137 + 71) % 1000) = va_up (va_up (va_up I 16 v) 37 (va_up (I 37) 2 (qSd (I 37 2)))) 40 (fa_fill (qCap rd (I 38) (I 6) (I 7)) (I 40) D) := by
    rw [q_up_va, va_up_comm (va_up I 16 v) (p := 40) (q := 37) (by decide)]
    rfl
  rw [eX1_capture_8, hM, if_neg (nI_nlt (Nat.le_refl _) (by omega)), eX1_capture_86, h2, hM, hw]
  have k2 : (va_up (va_up (va_up I 16 v) 37 (va_up (I 37) 2 (qSd (I 37 2)))) 40 (fa_fill (qCap rd (I 38) (I 6) (I 7)) (I 40) D)) 37 2 = qSd (I 37 2) := rfl
  have k3 : (va_up (va_up (va_up I 16 v) 37 (va_up (I 37) 2 (qSd (I 37 2)))) 40 (fa_fill (qCap rd (I 38) (I 6) (I 7)) (I 40) D)) 3 14 = I 3 14 := rfl
  rw [eX1_capture_111, k2, k3]
  unfold qNz
  by_cases c1 : qSd (I 37 2) % 100 < I 3 14
  · rw [if_pos c1, eX1_capture_126]
    by_cases c2 : 0 < D
    · have hl : nI D - 1 = nI (D - 1) := nI_1s (by omega)
      have hdb : ∀ M : Nat → Nat → Int32, M 6 = I 6 → M 7 = I 7 → M 38 = I 38 → mX1_dataBits [.ref 37, .ref 3, .int (nI (D - 1))] (qm M J (3, 17, rb, tx, L)) = some (some (.int (qDb (I 38 (D - 1)) (I 6 (D - 1)) (I 7 (D - 1)))), qm M J (3, 17, rb, tx, L)) := by
        intro M h6 h7 h38
        rw [fX1_dataBits M J _ (show D - 1 < 4 by omega) (by rw [h6]; exact h.idc (D - 1) (by omega)), h6, h7, h38]
      rw [hl, if_neg (nI_pos (by omega)), eX1_capture_130, hdb _ (by rfl) (by rfl) (by rfl)]
      simp only [Option.bind_some, Option.toList_some, Option.toList_none, List.nil_append, List.cons_append, q_ck_tt, Bool.and_true, Bool.true_and, if_true, if_false, reduceCtorEq]
      rw [eX1_capture_136]
      by_cases c3 : (0 : Int32) < qDb (I 38 (D - 1)) (I 6 (D - 1)) (I 7 (D - 1))
      · rw [if_pos c3, if_pos ⟨c1, c2, c3⟩, eX1_capture_139, q_in_nI (show D - 1 < 4 by omega) (by omega), nI_clamp (by omega)]
        simp only [Option.bind_some, Option.toList_some, Option.toList_none, List.nil_append, List.cons_append, q_ck_tt, Bool.and_true, Bool.true_and, if_true, if_false, reduceCtorEq]
        rw [eX1_capture_149, q_up_up]
        rfl
      · rw [if_neg c3, if_neg (fun c => c3 c.2.2), eX1_capture_149]
    · have h0 : D = 0 := by omega
      subst h0
      rw [if_pos (show nI 0 - 1 < 0 by decide), if_neg (fun c => absurd c.2.1 (by omega)), eX1_capture_149]
  · rw [if_neg c1, if_neg (fun c => c1 c.1), eX1_capture_149]
/-- a clock, in the class's rows -/
def qTo (I : Nat → Nat → Int32) (D s : Nat) : Nat → Int32 := if s = 0 then fa_fill (fun d => qRs (I 6 d) (I 5 d)) (I 38) D else if s = 15 then fa_fill (I 39) (I 38) D else I 38
def qTg (I : Nat → Nat → Int32) (D s : Nat) (t : Int32) : Nat → Int32 := if s = 10 then fa_fill (fun _ => 1) (I 39) D else if s = 11 then fa_fill (qShr (I 5) (I 39) t) (I 39) D else I 39
def qTd (I : Nat → Nat → Int32) (D N sz s : Nat) (t : Int32) : Nat → Int32 :=
  if s = 0 then fa_fill (fun d => if I 38 d = qRs (I 6 d) (I 5 d) then I 40 d else 0) (I 40) D else if s = 15 then fa_fill (fun d => if I 38 d = I 39 d then I 40 d else 0) (I 40) D
  else if s = 3 then qNz (qSd (I 37 2)) (I 3 14) (qDb (I 38 (D - 1)) (I 6 (D - 1)) (I 7 (D - 1))) D (fa_fill (qCap (qRA I D N sz) (I 38) (I 6) (I 7)) (I 40) D)
  else if s = 4 then fa_fill (qShr (fun d => qDb (I 38 d) (I 6 d) (I 7 d)) (I 40) t) (I 40) D else I 40
def qTl (I : Nat → Nat → Int32) (D s : Nat) : Nat → Int32 := if s = 8 then fa_fill (fun d => if I 38 d = 0 then I 40 d else I 41 d) (I 41) D else I 41
def qTs (s : Nat) (sd : Int32) : Int32 := if s = 3 then qSd sd else sd
def qTt (I : Nat → Nat → Int32) (D s : Nat) (t : Int32) : Int32 := if s = 4 then qSh (fun d => qDb (I 38 d) (I 6 d) (I 7 d)) (I 40) t D else if s = 11 then qSh (I 5) (I 39) t D else -1
theorem q_tk_end {M : Nat → Nat → Int32} (hS : q_Sta M) {s : Nat} (hs : s < 16) (h0 : M 37 0 = nI s) (b : Bool) (o : Int32) (e : QP) : kX1_tick 146 [some (.ref 37), none, some (.int (qb b)), none, some (.int o)] [] (qm M J e) = some (some (.int o), qm (va_up M 37 (va_up (va_up (M 37) 1 (M 37 1 + 1)) 0 (nI (qnx s b)))) J e) := by
  rw [eX1_tick_146, h0, q_up_va, fX10_next _ J e (q_Sta_up hS (by omega) _) hs]
  simp only [Option.bind_some, Option.toList_some, Option.toList_none, List.nil_append, List.cons_append, q_ck_tt, Bool.and_true, Bool.true_and, if_true, if_false, reduceCtorEq]
  rw [eX1_tick_165, q_up_up]
theorem qDb_pos (h : q_Bd I D N cl) {d : Nat} (hd : d < D) : ((0 : Int32) < qDb (I 38 d) (I 6 d) (I 7 d) ↔ ¬ qDb (I 38 d) (I 6 d) (I 7 d) = 0) := by
  obtain ⟨-, -, e3, -, e5, -, -⟩ := h.bn.2.2 d hd
  have h7 : (0 : Int32) < I 7 d ↔ ¬ I 7 d = 0 := by
    rw [e3]
    by_cases hc : cl d = 0
    · rw [hc]; decide
    · exact ⟨fun _ => nI_ne0 (by omega) (by omega), fun _ => nI_lt (a := 0) (by omega) (by omega)⟩
  unfold qDb
  by_cases c0 : I 38 d = 0
  · rw [if_pos c0]; exact h7
  · rw [if_neg c0]
    by_cases c2 : I 38 d = 2
    · rw [if_pos c2]; exact h7
    · rw [if_neg c2]
      by_cases c1 : I 38 d = 1
      · rw [if_pos c1]
        by_cases ci : I 6 d < 0
        · rw [if_pos ci]; decide
        · rw [if_neg ci]; decide
      · rw [if_neg c1]; decide
theorem fX1_tick (h : q_Bd I D N cl) (hz : q_Fz I sz) {s : Nat} (hs : s < 16) (h0 : I 37 0 = nI s) (b : Bool) (t : Int32) : ∃ I', mX1_tick [.ref 37, .ref 3, .int (qb b), .int t] (qm I J (3, 17, rb, tx, L)) = some (some (.int (qTt I D s t)), qm I' J (3, 17, rb, tx, L)) ∧ (I' 37 0 = nI (qnx s b) ∧ I' 37 1 = I 37 1 + 1 ∧ I' 37 2 = qTs s (I 37 2)) ∧ I' 38 = qTo I D s ∧ I' 39 = qTg I D s t ∧ I' 40 = qTd I D N sz s t ∧ I' 41 = qTl I D s ∧ ∀ p, p ≠ 16 → p ≠ 37 → p ≠ 38 → p ≠ 39 → p ≠ 40 → p ≠ 41 → I' p = I p := by
  have hD := h.d4
  have hne : ∀ k : Nat, k < 16 → k ≠ s → ¬ (nI s = nI k) := fun k hk hks c => hks (nI_inj (by omega) (by omega) c).symm
  have hir : ∀ d, d < D → I 5 d ≠ 0 := by
    intro d hd
    obtain ⟨e1, -, -, -, -, ⟨k, k1, k2, k3⟩, -⟩ := h.bn.2.2 d hd
    rw [e1, k3]
    exact nI_ne0 (by omega) (by omega)
  rw [bX1_tick, eX1_tick_0, h0]
  by_cases c0 : s = 0
  · subst c0
    rw [if_pos (show nI 0 = (0 : Int32) from rfl), eX1_tick_84, fX1_rest hD h.i30 h.idc]
    simp only [Option.bind_some, Option.toList_some, Option.toList_none, List.nil_append, List.cons_append, q_ck_tt, Bool.and_true, Bool.true_and, if_true, if_false, reduceCtorEq]
    rw [eX1_tick_89, q_tk_end (q_Sta_up (q_Sta_up h.st (by omega) _) (by omega) _) hs (by exact h0)]
    refine ⟨_, rfl, ⟨rfl, rfl, rfl⟩, rfl, rfl, rfl, rfl, fun p p1 p2 p3 p4 p5 p6 => ?_⟩
    rw [va_up_at, if_neg p2, va_up_at, if_neg p5, va_up_at, if_neg p3]
  · rw [if_neg (show ¬ nI s = (0 : Int32) from hne 0 (by omega) (fun c => c0 c.symm))]
    by_cases c3 : s = 3
    · subst c3
      obtain ⟨v, hv⟩ := fX1_capture (J := J) (rb := rb) (tx := tx) (L := L) h hz
      rw [if_pos (show nI 3 = (3 : Int32) from rfl), eX1_tick_92, hv]
      simp only [Option.bind_some, Option.toList_some, Option.toList_none, List.nil_append, List.cons_append, q_ck_tt, Bool.and_true, Bool.true_and, if_true, if_false, reduceCtorEq]
      rw [eX1_tick_97, q_tk_end (q_Sta_up (q_Sta_up (q_Sta_up h.st (by omega) _) (by omega) _) (by omega) _) hs (by exact h0)]
      refine ⟨_, rfl, ⟨rfl, rfl, rfl⟩, rfl, rfl, rfl, rfl, fun p p1 p2 p3 p4 p5 p6 => ?_⟩
      rw [va_up_at, if_neg p2, va_up_at, if_neg p5, va_up_at, if_neg p2, va_up_at, if_neg p1]
    · rw [if_neg (show ¬ nI s = (3 : Int32) from hne 3 (by omega) (fun c => c3 c.symm))]
      by_cases c4 : s = 4
      · subst c4
        rw [if_pos (show nI 4 = (4 : Int32) from rfl), eX1_tick_100, fX1_shiftData hD h.i30 h.idc (fun d hd => qDb_pos h hd)]
        simp only [Option.bind_some, Option.toList_some, Option.toList_none, List.nil_append, List.cons_append, q_ck_tt, Bool.and_true, Bool.true_and, if_true, if_false, reduceCtorEq]
        rw [eX1_tick_106, q_tk_end (q_Sta_up h.st (by omega) _) hs (by exact h0)]
        refine ⟨_, rfl, ⟨rfl, rfl, rfl⟩, rfl, rfl, rfl, rfl, fun p p1 p2 p3 p4 p5 p6 => ?_⟩
        rw [va_up_at, if_neg p2, va_up_at, if_neg p5]
      · rw [if_neg (show ¬ nI s = (4 : Int32) from hne 4 (by omega) (fun c => c4 c.symm))]
        by_cases c8 : s = 8
        · subst c8
          rw [if_pos (show nI 8 = (8 : Int32) from rfl), eX1_tick_111, fX1_giveData hD h.i30]
          simp only [Option.bind_some, Option.toList_some, Option.toList_none, List.nil_append, List.cons_append, q_ck_tt, Bool.and_true, Bool.true_and, if_true, if_false, reduceCtorEq]
          rw [eX1_tick_116, q_tk_end (q_Sta_up h.st (by omega) _) hs (by exact h0)]
          refine ⟨_, rfl, ⟨rfl, rfl, rfl⟩, rfl, rfl, rfl, rfl, fun p p1 p2 p3 p4 p5 p6 => ?_⟩
          rw [va_up_at, if_neg p2, va_up_at, if_neg p6]
        · rw [if_neg (show ¬ nI s = (8 : Int32) from hne 8 (by omega) (fun c => c8 c.symm))]
          by_cases c10 : s = 10
          · subst c10
            rw [if_pos (show nI 10 = (10 : Int32) from rfl), eX1_tick_119, fX1_captureOrders hD h.i30]
            simp only [Option.bind_some, Option.toList_some, Option.toList_none, List.nil_append, List.cons_append, q_ck_tt, Bool.and_true, Bool.true_and, if_true, if_false, reduceCtorEq]
            rw [eX1_tick_124, q_tk_end (q_Sta_up h.st (by omega) _) hs (by exact h0)]
            refine ⟨_, rfl, ⟨rfl, rfl, rfl⟩, rfl, rfl, rfl, rfl, fun p p1 p2 p3 p4 p5 p6 => ?_⟩
            rw [va_up_at, if_neg p2, va_up_at, if_neg p4]
          · rw [if_neg (show ¬ nI s = (10 : Int32) from hne 10 (by omega) (fun c => c10 c.symm))]
            by_cases c11 : s = 11
            · subst c11
              rw [if_pos (show nI 11 = (11 : Int32) from rfl), eX1_tick_127, fX1_shiftOrders hD h.i30 hir]
              simp only [Option.bind_some, Option.toList_some, Option.toList_none, List.nil_append, List.cons_append, q_ck_tt, Bool.and_true, Bool.true_and, if_true, if_false, reduceCtorEq]
              rw [eX1_tick_133, q_tk_end (q_Sta_up h.st (by omega) _) hs (by exact h0)]
              refine ⟨_, rfl, ⟨rfl, rfl, rfl⟩, rfl, rfl, rfl, rfl, fun p p1 p2 p3 p4 p5 p6 => ?_⟩
              rw [va_up_at, if_neg p2, va_up_at, if_neg p4]
            · rw [if_neg (show ¬ nI s = (11 : Int32) from hne 11 (by omega) (fun c => c11 c.symm))]
              by_cases c15 : s = 15
              · subst c15
                rw [if_pos (show nI 15 = (15 : Int32) from rfl), eX1_tick_138, fX1_giveOrders hD h.i30]
                simp only [Option.bind_some, Option.toList_some, Option.toList_none, List.nil_append, List.cons_append, q_ck_tt, Bool.and_true, Bool.true_and, if_true, if_false, reduceCtorEq]
                rw [eX1_tick_143, q_tk_end (q_Sta_up (q_Sta_up h.st (by omega) _) (by omega) _) hs (by exact h0)]
                refine ⟨_, rfl, ⟨rfl, rfl, rfl⟩, rfl, rfl, rfl, rfl, fun p p1 p2 p3 p4 p5 p6 => ?_⟩
                rw [va_up_at, if_neg p2, va_up_at, if_neg p5, va_up_at, if_neg p3]
              · rw [if_neg (show ¬ nI s = (15 : Int32) from hne 15 (by omega) (fun c => c15 c.symm)), q_tk_end h.st hs h0]
                unfold qTt qTo qTg qTd qTl qTs
                refine ⟨va_up I 37 (va_up (va_up (I 37) 1 (I 37 1 + 1)) 0 (nI (qnx s b))), ?_, ⟨rfl, rfl, ?_⟩, ?_, ?_, ?_, ?_, fun p p1 p2 p3 p4 p5 p6 => ?_⟩
                · rw [if_neg c4, if_neg c11]
                · rw [if_neg c3]; rfl
                · rw [if_neg c0, if_neg c15]; rfl
                · rw [if_neg c10, if_neg c11]; rfl
                · rw [if_neg c0, if_neg c15, if_neg c3, if_neg c4]; rfl
                · rw [if_neg c8]; rfl
                · rw [va_up_at, if_neg p2]
end TD
