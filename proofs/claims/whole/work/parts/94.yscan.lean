/-! ===== scans ===== -/
theorem q_1_30 {a : Int32} (h1 : ¬ a < 1) (h2 : ¬ (30 : Int32) < a) : ∃ n, 1 ≤ n ∧ n ≤ 30 ∧ a = nI n := by
  have h3 : q_in a 31 = true := by
    have e0 : ((0 : Int32)).toInt = 0 := by decide
    have e1 : ((1 : Int32)).toInt = 1 := by decide
    have e30 : ((30 : Int32)).toInt = 30 := by decide
    have e31 : (nI 31).toInt = 31 := by decide
    rw [Int32.lt_iff_toInt_lt] at h1 h2
    have g1 : ¬ a < 0 := by rw [Int32.lt_iff_toInt_lt]; omega
    have g2 : a < nI 31 := by rw [Int32.lt_iff_toInt_lt]; omega
    rw [q_inP a (by omega), decide_eq_false g1, decide_eq_true g2]
    rfl
  obtain ⟨k, hk, rfl, -⟩ := q_in_of h3
  refine ⟨k, ?_, by omega, rfl⟩
  rcases Nat.eq_zero_or_pos k with rfl | h
  · exact absurd (by decide) h1
  · exact h
section SC
variable {C C' I : Nat → Nat → Int32} {J : Nat → Nat → Int64} {rb tx L : Nat} {D N : Nat} {cl : Nat → Nat} {RM : Nat} {rc : Nat → Nat} {sz : Nat}
/-- class at C, reference at I: alike -/
def q_Syn (C I : Nat → Nat → Int32) (D N : Nat) (cl : Nat → Nat) (RM : Nat) (rc : Nat → Nat) (sz : Nat) : Prop := q_Core (qmx C I) D N cl RM rc ∧ q_Fz (qmx C I) sz ∧ C 69 = I 69 ∧ C 70 = I 70 ∧ C 3 14 = I 64 52
theorem q_Syn_cl (h : q_Syn C I D N cl RM rc sz) (hc : ∀ p, p ≠ 35 → p ≠ 43 → C' p = C p) : q_Syn C' I D N cl RM rc sz := by
  obtain ⟨h1, h2, h3, h4, h5⟩ := h
  have ho : q_Off (qmx C I) (qmx C' I) := by
    intro p k hp
    unfold qmx
    cases (Nat.ble 64 p && Nat.blt p 1000) with
    | true => rfl
    | false =>
      show C' p k = C p k
      rw [hc p (fun c => by rw [c] at hp; cases hp) (fun c => by rw [c] at hp; cases hp)]
  refine ⟨q_Core_off h1 ho, q_Fz_off h2 ho, ?_, ?_, ?_⟩
  · rw [hc 69 (by decide) (by decide)]; exact h3
  · rw [hc 70 (by decide) (by decide)]; exact h4
  · rw [hc 3 (by decide) (by decide)]; exact h5
/-- the class alone -/
def q_Cok (C : Nat → Nat → Int32) (D N : Nat) (cl : Nat → Nat) (sz : Nat) : Prop := q_Bd C D N cl ∧ q_Fz C sz
theorem q_Cok_rows (h : q_Cok C D N cl sz) (hc : ∀ p, p < 16 ∨ 43 < p → C' p = C p) : q_Cok C' D N cl sz := by
  obtain ⟨⟨h1, h2⟩, h3⟩ := h
  refine ⟨⟨?_, ?_⟩, ?_⟩
  · unfold q_Sta; rw [hc 1000 (by omega), hc 1001 (by omega), hc 1002 (by omega), hc 1003 (by omega)]; exact h1
  · unfold q_Bn; rw [hc 3 (by omega), hc 64 (by omega), hc 5 (by omega), hc 83 (by omega), hc 6 (by omega), hc 84 (by omega), hc 7 (by omega), hc 85 (by omega)]; exact h2
  · unfold q_Fz; rw [hc 14 (by omega), hc 64 (by omega), hc 69 (by omega), hc 15 (by omega), hc 70 (by omega)]; exact h3
theorem q_tk (hok : q_Cok C D N cl sz) {s : Nat} (hs : s < 16) (h0 : C 37 0 = nI s) {ck : Nat} (hck : ck < 10000) (h1 : C 37 1 = nI ck) (b t : Bool) : ∃ C' r, mX1_tick [.ref 37, .ref 3, .int (qb b), .int (qb t)] (qm C J (3, 17, rb, tx, L)) = some (some (.int r), qm C' J (3, 17, rb, tx, L)) ∧ q_Cok C' D N cl sz ∧ C' 37 0 = nI (qnx s b) ∧ C' 37 1 = nI (ck + 1) ∧ (∀ p, p ≠ 16 → p ≠ 37 → p ≠ 38 → p ≠ 39 → p ≠ 40 → p ≠ 41 → C' p = C p) ∧ (s = 4 ∨ s = 11 → ∃ c, r = qb c) ∧ ∀ I, q_Syn C I D N cl RM rc sz → ∃ I', mX12_goClock [.ref 64, .int (qb b), .int (qb t)] (qm I J (3, 17, rb, tx, L)) = some (some (.int r), qm I' J (3, 17, rb, tx, L)) ∧ q_Off I I' ∧ q_Syn C' I' D N cl RM rc sz := by
  obtain ⟨C', t0, t1⟩ := fX1_tick (J := J) (rb := rb) (tx := tx) (L := L) hok.1 hok.2 hs h0 b (qb t)
  have hT : q_TkS C C' D N sz s b (qb t) := t1
  obtain ⟨⟨u0, u1, -⟩, -, -, -, -, u2⟩ := t1
  refine ⟨C', _, t0, q_Cok_rows hok (fun p hp => u2 p (by omega) (by omega) (by omega) (by omega) (by omega) (by omega)), u0, by rw [u1, h1, nI_1], u2, ?_, ?_⟩
  · intro hc
    unfold qTt
    rcases hc with rfl | rfl
    · rw [if_pos rfl]; exact qSh_b ⟨t, rfl⟩ D
    · rw [if_neg (by decide), if_pos rfl]; exact qSh_b ⟨t, rfl⟩ D
  · intro I hI
    obtain ⟨a1, a2, a3, a4, a5⟩ := hI
    obtain ⟨I', g0, g1, g2⟩ := q_clk (J := J) (e := (3, 17, rb, tx, L)) a1 a2 a3 a4 a5 hs h0 ⟨ck, hck, h1⟩ ⟨t, rfl⟩ hT
    refine ⟨I', g0, g1, g2, q_Fz_mk a2 u2 g1, ?_, ?_, ?_⟩
    · rw [u2 69 (by decide) (by decide) (by decide) (by decide) (by decide) (by decide), g1.r 69 (fun _ => rfl)]; exact a3
    · rw [u2 70 (by decide) (by decide) (by decide) (by decide) (by decide) (by decide), g1.r 70 (fun _ => rfl)]; exact a4
    · rw [u2 3 (by decide) (by decide) (by decide) (by decide) (by decide) (by decide), g1.r 64 (fun _ => rfl)]; exact a5
/-- what a scan's clocks may write in the class -/
def q_GF (C C' : Nat → Nat → Int32) : Prop := ∀ p, p ≠ 16 → p ≠ 35 → p ≠ 43 → (p < 37 ∨ 41 < p) → C' p = C p
theorem q_GF_tr {C1 C2 C3 : Nat → Nat → Int32} (h : q_GF C1 C2) (h' : q_GF C2 C3) : q_GF C1 C3 := fun p a b c d => by rw [h' p a b c d, h p a b c d]
theorem q_gow {K : Nat → (Nat → Nat → Int32) → Option QR} {F t s : Nat} {f : Nat → Nat} (ht : t < 16) (hs : s < 16) (hwk : q_Wk f t) (hF : f s = F) (hK : ∀ i C C' r, i < F → mX1_tick [.ref 37, .ref 3, .int (C 43 i), .int 0] (qm C J (3, 17, rb, tx, L)) = some (some (.int r), qm C' J (3, 17, rb, tx, L)) → K i C = K (i + 1) C') : ∀ m i C ck, i + m = F → C 37 0 = nI (qYs f s i) → C 37 1 = nI ck → ck + m ≤ 10000 → (∀ k, k < F → C 43 k = qb (qYb f (qYs f s k))) → q_Cok C D N cl sz → ∃ C', K i C = K F C' ∧ q_Cok C' D N cl sz ∧ C' 37 0 = nI t ∧ C' 37 1 = nI (ck + m) ∧ q_GF C C' ∧ ∀ I, q_Syn C I D N cl RM rc sz → (∀ a, a < 16 → I 95 (16 * a + t) = nI (f a)) → ∃ I', kX12_walkTo 0 [some (.ref 64), some (.int (nI t))] [] (qm I J (3, 17, rb, tx, L)) = some (none, qm I' J (3, 17, rb, tx, L)) ∧ q_Off I I' ∧ q_Syn C' I' D N cl RM rc sz := by
  have hst : ∀ (C I : Nat → Nat → Int32) j, C 37 0 = nI j → q_Syn C I D N cl RM rc sz → I 94 0 = nI j := by
    intro C I j hj h
    have := h.1.chm.1.1
    rw [← this]
    exact hj
  intro m
  induction m with
  | zero =>
    intro i C ck hi h0 h1 hck hpath hok
    have hiF : i = F := by omega
    have hend : qYs f s i = t := by
      have h1 := qYs_f hwk hs i (by omega)
      exact (hwk _ (qYs_lt hs _)).2.2.mp (by omega)
    rw [hend] at h0
    refine ⟨C, by rw [hiF], hok, h0, h1, fun _ _ _ _ _ => rfl, ?_⟩
    intro I hI h95
    refine ⟨I, ?_, q_Off_refl _, hI⟩
    rw [eX12_walkTo_0, hst C I t h0 hI, if_pos rfl, eX12_walkTo_30]
  | succ m ih =>
    intro i C ck hi h0 h1 hck hpath hok
    have hl := qYs_lt (f := f) hs i
    have hne : ¬ nI (qYs f s i) = nI t := fun c => by
      have h1 := qYs_f hwk hs i (by omega)
      have h2 := (hwk _ hl).2.2.mpr (nI_inj (by omega) (by omega) c)
      omega
    obtain ⟨C1, r, t0, t1, t2, t3, t4, -, t5⟩ := q_tk (J := J) (rb := rb) (tx := tx) (L := L) (RM := RM) (rc := rc) hok hl h0 (show ck < 10000 by omega) h1 (qYb f (qYs f s i)) false
    obtain ⟨C2, u0, u1, u2, u3, u4, u5⟩ := ih (i + 1) C1 (ck + 1) (by omega) t2 t3 (by omega) (fun k hk => by rw [t4 43 (by decide) (by decide) (by decide) (by decide) (by decide) (by decide)]; exact hpath k hk) t1
    refine ⟨C2, ?_, u1, u2, by rw [u3]; congr 1; omega, ?_, ?_⟩
    · refine Eq.trans (hK i C C1 r (by omega) ?_) u0
      rw [hpath i (by omega)]
      exact t0
    · intro p a b c d
      rw [u4 p a b c d, t4 p a (by omega) (by omega) (by omega) (by omega) (by omega)]
    · intro I hI h95
      obtain ⟨I1, g0, g1, g2⟩ := t5 I hI
      have g0' : mX12_goClock [.ref 64, .int (qb (qYb f (qYs f s i))), .int 0] (qm I J (3, 17, rb, tx, L)) = some (some (.int r), qm I1 J (3, 17, rb, tx, L)) := g0
      obtain ⟨I2, v0, v1, v2⟩ := u5 I1 g2 (fun a ha => by rw [g1.r 95 (fun _ => rfl)]; exact h95 a ha)
      refine ⟨I2, ?_, q_Off_trans g1 v1, v2⟩
      rw [eX12_walkTo_0, hst C I _ h0 hI, if_neg hne, eX12_walkTo_10, hst C I _ h0 hI, fX12_stepTo ht hl hwk h95]
      simp only [Option.bind_some, Option.toList_some, Option.toList_none, List.nil_append, List.cons_append, q_ck_tt, Bool.and_true, Bool.true_and, if_true, if_false, reduceCtorEq]
      rw [eX12_walkTo_22, g0']
      simp only [Option.bind_some, Option.toList_some, Option.toList_none, List.nil_append, List.cons_append, q_ck_tt, Bool.and_true, Bool.true_and, if_true, if_false, reduceCtorEq]
      rw [eX12_walkTo_26]
      exact v0
theorem q_sc {s0 n : Nat} (hs0 : s0 = 4 ∨ s0 = 11) (hn : n ≤ 30) (bits : Int32) : ∀ m i C ck y, i + m + 1 = n → C 37 0 = nI s0 → C 37 1 = nI ck → ck + m + 1 ≤ 10000 → q_Cok C D N cl sz → ∃ C' z, kX1_sweep 67 [some (.ref 37), some (.ref 3), some (.ref 34), none, some (.int bits), some (.int (nI n)), none, some (.int y), some (.int (nI i)), none] [] (qm C J (3, 17, rb, tx, L)) = kX1_sweep 120 [some (.ref 37), some (.ref 3), some (.ref 34), none, none, none, none, some (.int z), none, none] [] (qm C' J (3, 17, rb, tx, L)) ∧ q_Cok C' D N cl sz ∧ C' 37 0 = nI (qnx s0 true) ∧ C' 37 1 = nI (ck + m + 1) ∧ q_GF C C' ∧ ∀ I, q_Syn C I D N cl RM rc sz → ∃ I', kX12_scan 57 [some (.ref 64), none, some (.int bits), some (.int (nI n)), some (.int y), some (.int (nI i))] [] (qm I J (3, 17, rb, tx, L)) = kX12_scan 103 [some (.ref 64), none, none, none, some (.int z), none] [] (qm I' J (3, 17, rb, tx, L)) ∧ q_Off I I' ∧ q_Syn C' I' D N cl RM rc sz := by
  have hs16 : s0 < 16 := by omega
  have hnx : qnx s0 false = s0 := by rcases hs0 with rfl | rfl <;> rfl
  intro m
  induction m with
  | zero =>
    intro i C ck y hi h0 h1 hck hok
    obtain ⟨C1, r, t0, t1, t2, t3, t4, tb, t5⟩ := q_tk (J := J) (rb := rb) (tx := tx) (L := L) (RM := RM) (rc := rc) hok hs16 h0 (show ck < 10000 by omega) h1 true (bt bits i)
    obtain ⟨c, rfl⟩ := tb hs0
    have t0' : mX1_tick [.ref 37, .ref 3, .int 1, .int (qb (bt bits i))] (qm C J (3, 17, rb, tx, L)) = some (some (.int (qb c)), qm C1 J (3, 17, rb, tx, L)) := t0
    refine ⟨C1, y ||| (qb c <<< (nI i &&& 31)), ?_, t1, t2, t3, fun p a _ _ d => t4 p a (by omega) (by omega) (by omega) (by omega) (by omega), ?_⟩
    · rw [eX1_sweep_67, if_pos (nI_lt (by omega) (by omega)), eX1_sweep_74, nI_1s (by omega), if_pos (show nI i = nI (n - 1) by congr 1; omega), eX1_sweep_85, eX1_sweep_90, b_tst _ (by omega), t0']
      simp only [Option.bind_some, Option.toList_some, Option.toList_none, List.nil_append, List.cons_append, q_ck_tt, Bool.and_true, Bool.true_and, if_true, if_false, reduceCtorEq]
      rw [eX1_sweep_100, b_and1, b_qb, decide_eq_true rfl, Bool.and_true, nI_1, eX1_sweep_67, if_neg (nI_nlt (by omega) (by omega))]
    · intro I hI
      obtain ⟨I1, g0, g1, g2⟩ := t5 I hI
      have htr : ∀ G : QM, True := fun _ => trivial
      have h1' : mX12_truth [.int 1] (qm I J (3, 17, rb, tx, L)) = some (some (.int (qb true)), qm I J (3, 17, rb, tx, L)) := fX12_truth _ _ _ true
      refine ⟨I1, ?_, g1, g2⟩
      rw [eX12_scan_57, if_pos (nI_lt (by omega) (by omega)), eX12_scan_63, nI_1s (by omega), if_pos (show nI i = nI (n - 1) by congr 1; omega), eX12_scan_74, eX12_scan_79, h1']
      simp only [Option.bind_some, Option.toList_some, Option.toList_none, List.nil_append, List.cons_append, q_ck_tt, Bool.and_true, Bool.true_and, if_true, if_false, reduceCtorEq]
      rw [eX12_scan_82, b_tst _ (by omega), g0]
      simp only [Option.bind_some, Option.toList_some, Option.toList_none, List.nil_append, List.cons_append, q_ck_tt, Bool.and_true, Bool.true_and, if_true, if_false, reduceCtorEq]
      rw [eX12_scan_91, nI_1, eX12_scan_57, if_neg (nI_nlt (by omega) (by omega))]
  | succ m ih =>
    intro i C ck y hi h0 h1 hck hok
    obtain ⟨C1, r, t0, t1, t2, t3, t4, tb, t5⟩ := q_tk (J := J) (rb := rb) (tx := tx) (L := L) (RM := RM) (rc := rc) hok hs16 h0 (show ck < 10000 by omega) h1 false (bt bits i)
    obtain ⟨c, rfl⟩ := tb hs0
    have t0' : mX1_tick [.ref 37, .ref 3, .int 0, .int (qb (bt bits i))] (qm C J (3, 17, rb, tx, L)) = some (some (.int (qb c)), qm C1 J (3, 17, rb, tx, L)) := t0
    rw [hnx] at t2
    obtain ⟨C2, z, u0, u1, u2, u3, u4, u5⟩ := ih (i + 1) C1 (ck + 1) (y ||| (qb c <<< (nI i &&& 31))) (by omega) t2 t3 (by omega) t1
    have hne : ¬ nI i = nI (n - 1) := fun c => by
      have := nI_inj (by omega) (by omega) c
      omega
    refine ⟨C2, z, ?_, u1, u2, by rw [u3]; congr 1; omega, ?_, ?_⟩
    · rw [eX1_sweep_67, if_pos (nI_lt (by omega) (by omega)), eX1_sweep_74, nI_1s (by omega), if_neg hne, eX1_sweep_89, eX1_sweep_90, b_tst _ (by omega), t0']
      simp only [Option.bind_some, Option.toList_some, Option.toList_none, List.nil_append, List.cons_append, q_ck_tt, Bool.and_true, Bool.true_and, if_true, if_false, reduceCtorEq]
      rw [eX1_sweep_100, b_and1, b_qb, decide_eq_true rfl, Bool.and_true, nI_1]
      exact u0
    · intro p a b c d
      rw [u4 p a b c d, t4 p a (by omega) (by omega) (by omega) (by omega) (by omega)]
    · intro I hI
      obtain ⟨I1, g0, g1, g2⟩ := t5 I hI
      have h1' : mX12_truth [.int 0] (qm I J (3, 17, rb, tx, L)) = some (some (.int (qb false)), qm I J (3, 17, rb, tx, L)) := fX12_truth _ _ _ false
      obtain ⟨I2, v0, v1, v2⟩ := u5 I1 g2
      refine ⟨I2, ?_, q_Off_trans g1 v1, v2⟩
      rw [eX12_scan_57, if_pos (nI_lt (by omega) (by omega)), eX12_scan_63, nI_1s (by omega), if_neg hne, eX12_scan_78, eX12_scan_79, h1']
      simp only [Option.bind_some, Option.toList_some, Option.toList_none, List.nil_append, List.cons_append, q_ck_tt, Bool.and_true, Bool.true_and, if_true, if_false, reduceCtorEq]
      rw [eX12_scan_82, b_tst _ (by omega), g0]
      simp only [Option.bind_some, Option.toList_some, Option.toList_none, List.nil_append, List.cons_append, q_ck_tt, Bool.and_true, Bool.true_and, if_true, if_false, reduceCtorEq]
      rw [eX12_scan_91, nI_1]
      exact v0
theorem q_sweep {s t n ck : Nat} (hs : s < 16) (ht : t = 4 ∨ t = 11) (hn1 : 1 ≤ n) (hn : n ≤ 30) (hck : ck < 9000) (bits : Int32) (h0 : C 37 0 = nI s) (h1 : C 37 1 = nI ck) (hok : q_Cok C D N cl sz) : ∃ C' z, kX1_sweep 15 [some (.ref 37), some (.ref 3), some (.ref 34), none, some (.int bits), some (.int (nI n)), none, none, none, none] [.int (nI t), .int (nI s), .ref 34] (qm C J (3, 17, rb, tx, L)) = some (some (.int z), qm C' J (3, 17, rb, tx, L)) ∧ q_GF C C' ∧ ∀ I, q_Syn C I D N cl RM rc sz → q_Fr I → ∃ I', kX12_scan 48 [some (.ref 64), none, some (.int bits), some (.int (nI n)), none, none] [.int (nI t), .ref 64] (qm I J (3, 17, rb, tx, L)) = kX12_scan 108 [some (.ref 64), none, none, none, some (.int z), none] [] (qm I' J (3, 17, rb, tx, L)) ∧ q_Off I I' ∧ q_Syn C' I' D N cl RM rc sz := by
  have ht16 : t < 16 := by omega
  have hnt : qnx t true < 16 := by rcases ht with rfl | rfl <;> decide
  obtain ⟨A, a0, a1, a2⟩ := fX10_lead_43 (I := C) (J := J) (e := (3, 17, rb, tx, L)) hok.1.st ht16 hs
  have hwk := q_Wk_of ht16
  have hfr : ∀ I : Nat → Nat → Int32, q_Fr I → ∀ a, a < 16 → I 95 (16 * a + t) = nI (qMz true t a) := fun I h => q_Fr_t h ht16
  have hwk1 := q_Wk_of (show 1 < 16 by omega)
  have hfr1 : ∀ I : Nat → Nat → Int32, q_Fr I → ∀ a, a < 16 → I 95 (16 * a + 1) = nI (qMz true 1 a) := fun I h => q_Fr_t h (by omega)
  have hlead1 : ∀ {B : Nat → Nat → Int32}, q_Sta B → ∃ I', mX10_lead [.ref 34, .int (nI (qnx t true)), .int 1, .ref 43] (qm B J (3, 17, rb, tx, L)) = some (some (.int (nI (qMz true 1 (qnx t true)))), qm I' J (3, 17, rb, tx, L)) ∧ (∀ k, k < qMz true 1 (qnx t true) → I' 43 k = qb (qYb (qMz true 1) (qYs (qMz true 1) (qnx t true) k))) ∧ ∀ p, p ≠ 35 → p ≠ 43 → I' p = B p := fun hB => fX10_lead_43 (t := 1) hB (by omega) hnt
  generalize qMz true t = f at a0 a1 hwk hfr
  generalize qMz true 1 = g at hwk1 hfr1 hlead1
  have hfs := (hwk s hs).1
  have hgs := (hwk1 _ hnt).1
  have KA : ∀ i B B' r, i < f s → mX1_tick [.ref 37, .ref 3, .int (B 43 i), .int 0] (qm B J (3, 17, rb, tx, L)) = some (some (.int r), qm B' J (3, 17, rb, tx, L)) → (fun i (B : Nat → Nat → Int32) => kX1_sweep 27 [some (.ref 37), some (.ref 3), some (.ref 34), none, some (.int bits), some (.int (nI n)), some (.int (nI (f s))), some (.int (nI i)), none, none] [] (qm B J (3, 17, rb, tx, L))) i B = (fun i (B : Nat → Nat → Int32) => kX1_sweep 27 [some (.ref 37), some (.ref 3), some (.ref 34), none, some (.int bits), some (.int (nI n)), some (.int (nI (f s))), some (.int (nI i)), none, none] [] (qm B J (3, 17, rb, tx, L))) (i + 1) B' := by
    intro i B B' r hi htk
    show kX1_sweep 27 _ _ _ = kX1_sweep 27 _ _ _
    rw [eX1_sweep_27, if_pos (nI_lt hi (by omega)), eX1_sweep_34, if_pos (show nI i < (16 : Int32) from nI_lt (b := 16) (by omega) (by decide)), eX1_sweep_41, q_in_nI (show i < 16 by omega) (by omega), nI_clamp (by omega), htk]
    simp only [Option.bind_some, Option.toList_some, Option.toList_none, List.nil_append, List.cons_append, q_ck_tt, Bool.and_true, Bool.true_and, if_true, if_false, reduceCtorEq]
    rw [eX1_sweep_54, nI_1]
  have okA : q_Cok A D N cl sz := q_Cok_rows hok (fun p hp => a2 p (by omega) (by omega))
  obtain ⟨B, b0, b1, b2, b3, b4, b5⟩ := q_gow (RM := RM) (rc := rc) ht16 hs hwk rfl KA (f s) 0 A ck (by omega) (by rw [a2 37 (by decide) (by decide)]; exact h0) (by rw [a2 37 (by decide) (by decide)]; exact h1) (by omega) a1 okA
  obtain ⟨E, z, e0, e1, e2, e3, e4, e5⟩ := q_sc (J := J) (rb := rb) (tx := tx) (L := L) (RM := RM) (rc := rc) (D := D) (N := N) (cl := cl) (sz := sz) ht hn bits (n - 1) 0 B (ck + f s) 0 (by omega) b2 b3 (by omega) b1
  obtain ⟨G, g0, g1, g2⟩ := hlead1 e1.1.st
  have KB : ∀ i B B' r, i < g (qnx t true) → mX1_tick [.ref 37, .ref 3, .int (B 43 i), .int 0] (qm B J (3, 17, rb, tx, L)) = some (some (.int r), qm B' J (3, 17, rb, tx, L)) → (fun i (B : Nat → Nat → Int32) => kX1_sweep 138 [some (.ref 37), some (.ref 3), none, none, none, none, none, some (.int z), some (.int (nI (g (qnx t true)))), some (.int (nI i))] [] (qm B J (3, 17, rb, tx, L))) i B = (fun i (B : Nat → Nat → Int32) => kX1_sweep 138 [some (.ref 37), some (.ref 3), none, none, none, none, none, some (.int z), some (.int (nI (g (qnx t true)))), some (.int (nI i))] [] (qm B J (3, 17, rb, tx, L))) (i + 1) B' := by
    intro i B B' r hi htk
    show kX1_sweep 138 _ _ _ = kX1_sweep 138 _ _ _
    rw [eX1_sweep_138, if_pos (nI_lt hi (by omega)), eX1_sweep_145, if_pos (show nI i < (16 : Int32) from nI_lt (b := 16) (by omega) (by decide)), eX1_sweep_152, q_in_nI (show i < 16 by omega) (by omega), nI_clamp (by omega), htk]
    simp only [Option.bind_some, Option.toList_some, Option.toList_none, List.nil_append, List.cons_append, q_ck_tt, Bool.and_true, Bool.true_and, if_true, if_false, reduceCtorEq]
    rw [eX1_sweep_165, nI_1]
  have okG : q_Cok G D N cl sz := q_Cok_rows e1 (fun p hp => g2 p (by omega) (by omega))
  obtain ⟨H, i0, i1, i2, i3, i4, i5⟩ := q_gow (RM := RM) (rc := rc) (show 1 < 16 by omega) hnt hwk1 rfl KB (g (qnx t true)) 0 G (ck + f s + (n - 1) + 1) (by omega) (by rw [g2 37 (by decide) (by decide)]; exact e2) (by rw [g2 37 (by decide) (by decide)]; exact e3) (by omega) g1 okG
  have gfA : q_GF C A := fun p _ b c _ => a2 p b c
  have gfG : q_GF E G := fun p _ b c _ => g2 p b c
  refine ⟨H, z, ?_, q_GF_tr gfA (q_GF_tr b4 (q_GF_tr e4 (q_GF_tr gfG i4))), ?_⟩
  · rw [eX1_sweep_15, a0]
    simp only [Option.bind_some, Option.toList_some, Option.toList_none, List.nil_append, List.cons_append, q_ck_tt, Bool.and_true, Bool.true_and, if_true, if_false, reduceCtorEq]
    rw [eX1_sweep_22]
    refine Eq.trans b0 ?_
    show kX1_sweep 27 _ _ _ = _
    rw [eX1_sweep_27, if_neg (nI_nlt (Nat.le_refl _) (by omega)), eX1_sweep_61]
    refine Eq.trans e0 ?_
    rw [eX1_sweep_120, e2, g0]
    simp only [Option.bind_some, Option.toList_some, Option.toList_none, List.nil_append, List.cons_append, q_ck_tt, Bool.and_true, Bool.true_and, if_true, if_false, reduceCtorEq]
    rw [eX1_sweep_133]
    refine Eq.trans i0 ?_
    show kX1_sweep 138 _ _ _ = _
    rw [eX1_sweep_138, if_neg (nI_nlt (Nat.le_refl _) (by omega)), eX1_sweep_172]
  · intro I hI hF
    obtain ⟨I1, j0, j1, j2⟩ := b5 I (q_Syn_cl hI a2) (hfr I hF)
    obtain ⟨I2, k0, k1, k2⟩ := e5 I1 j2
    have o2 := q_Off_trans j1 k1
    have hF2 : q_Fr I2 := by unfold q_Fr; rw [o2.r 95 (fun _ => rfl)]; exact hF
    obtain ⟨I3, l0, l1, l2⟩ := i5 I2 (q_Syn_cl k2 g2) (hfr1 I2 hF2)
    have l0' : kX12_walkTo 0 [some (.ref 64), some (.int 1)] [] (qm I2 J (3, 17, rb, tx, L)) = some (none, qm I3 J (3, 17, rb, tx, L)) := l0
    refine ⟨I3, ?_, q_Off_trans o2 l1, l2⟩
    rw [eX12_scan_48, bX12_walkTo, j0]
    simp only [Option.bind_some, Option.toList_some, Option.toList_none, List.nil_append, List.cons_append, q_ck_tt, Bool.and_true, Bool.true_and, if_true, if_false, reduceCtorEq]
    rw [eX12_scan_51]
    refine Eq.trans k0 ?_
    rw [eX12_scan_103, bX12_walkTo, l0']
    simp only [Option.bind_some, Option.toList_some, Option.toList_none, List.nil_append, List.cons_append, q_ck_tt, Bool.and_true, Bool.true_and, if_true, if_false, reduceCtorEq]
theorem o_scan (h : q_Core I D N cl RM rc) (hp : q_Pa I D N (bt (I 3 11))) (hnz : I 3 14 = I 64 52) (hF : q_Fr I) (a b c : Int32) : q_Act mX11_scan mX12_scan [.int a, .int b, .int c] I J (3, 17, rb, tx, L) D N cl RM rc := by
  have h10 : ¬ ((1 : Int32) = 0) := by decide
  obtain ⟨⟨s0, s, hs, s1⟩, ⟨z0, ck, hck, z1⟩, -⟩ := h.ch
  have i0 : I 37 0 = nI s := by rw [← s1]; exact s0
  have i1 : I 37 1 = nI ck := by rw [← z1]; exact z0
  have i93 : I 93 1 = I 37 1 := by rw [z1, i1]
  cases hqa : q_in a 2 with
  | false =>
    refine ⟨-1, I, I, ?_, ?_, h, hp, q_Frm_refl _, q_Frm_refl _⟩
    · simp only [bX11_scan, eX11_scan_0, eX11_scan_4, eX11_scan_31, fX11_isBit, hqa, Option.bind_some, Option.toList_some, Option.toList_none, List.nil_append, List.cons_append, q_ck_tt, Bool.and_true, Bool.true_and, if_true, if_false, reduceCtorEq, q_10, eq_self, qb_t, qb_f]
    · simp only [bX12_scan, eX12_scan_0, eX12_scan_6, eX12_scan_31, fX12_isBit, hqa, Option.bind_some, Option.toList_some, Option.toList_none, List.nil_append, List.cons_append, q_ck_tt, Bool.and_true, Bool.true_and, if_true, if_false, reduceCtorEq, q_10, eq_self, qb_t, qb_f]
  | true =>
    by_cases c1 : c < 1
    · have hno : mX12_isIn [.int c, .int 1, .int 30] (qm I J (3, 17, rb, tx, L)) = some (some (.int 0), qm I J (3, 17, rb, tx, L)) := by
        rw [bX12_isIn, eX12_isIn_0, if_pos c1, eX12_isIn_14, eX12_isIn_15]
        rfl
      refine ⟨-1, I, I, ?_, ?_, h, hp, q_Frm_refl _, q_Frm_refl _⟩
      · simp only [bX11_scan, eX11_scan_0, eX11_scan_4, eX11_scan_7, eX11_scan_31, fX11_isBit, hqa, if_pos c1, Option.bind_some, Option.toList_some, Option.toList_none, List.nil_append, List.cons_append, q_ck_tt, Bool.and_true, Bool.true_and, if_true, if_false, reduceCtorEq, q_10, eq_self, qb_t, qb_f]
      · simp only [bX12_scan, eX12_scan_0, eX12_scan_6, eX12_scan_9, eX12_scan_16, eX12_scan_31, fX12_isBit, hqa, hno, Option.bind_some, Option.toList_some, Option.toList_none, List.nil_append, List.cons_append, q_ck_tt, Bool.and_true, Bool.true_and, if_true, if_false, reduceCtorEq, q_10, eq_self, qb_t, qb_f]
    · by_cases c2 : (30 : Int32) < c
      · have hno : mX12_isIn [.int c, .int 1, .int 30] (qm I J (3, 17, rb, tx, L)) = some (some (.int 0), qm I J (3, 17, rb, tx, L)) := by
          rw [bX12_isIn, eX12_isIn_0, if_neg c1, eX12_isIn_5, if_pos c2, eX12_isIn_14, eX12_isIn_15]
          rfl
        refine ⟨-1, I, I, ?_, ?_, h, hp, q_Frm_refl _, q_Frm_refl _⟩
        · simp only [bX11_scan, eX11_scan_0, eX11_scan_4, eX11_scan_7, eX11_scan_12, eX11_scan_31, fX11_isBit, hqa, if_neg c1, if_pos c2, Option.bind_some, Option.toList_some, Option.toList_none, List.nil_append, List.cons_append, q_ck_tt, Bool.and_true, Bool.true_and, if_true, if_false, reduceCtorEq, q_10, eq_self, qb_t, qb_f]
        · simp only [bX12_scan, eX12_scan_0, eX12_scan_6, eX12_scan_9, eX12_scan_16, eX12_scan_31, fX12_isBit, hqa, hno, Option.bind_some, Option.toList_some, Option.toList_none, List.nil_append, List.cons_append, q_ck_tt, Bool.and_true, Bool.true_and, if_true, if_false, reduceCtorEq, q_10, eq_self, qb_t, qb_f]
      · have hin : ∀ M : Nat → Nat → Int32, mX12_isIn [.int c, .int 1, .int 30] (qm M J (3, 17, rb, tx, L)) = some (some (.int 1), qm M J (3, 17, rb, tx, L)) := by
          intro M
          rw [bX12_isIn, eX12_isIn_0, if_neg c1, eX12_isIn_5, if_neg c2, eX12_isIn_10, eX12_isIn_15]
          rfl
        by_cases hc : I 37 1 < 9000
        · have hck2 : ck < 9000 := by
            rw [i1] at hc
            exact (nI_ltI (b := 9000) (by omega) (by decide)).mp hc
          obtain ⟨n, hn1, hn2, rfl⟩ := q_1_30 c1 c2
          obtain ⟨sz, hz⟩ : ∃ sz, q_Fz I sz := h.fo
          have hok : q_Cok I D N cl sz := ⟨h.bd, hz⟩
          have main : ∀ t, t = 4 ∨ t = 11 → ((a = 0 ∧ t = 4) ∨ (¬ a = 0 ∧ t = 11)) → q_Act mX11_scan mX12_scan [.int a, .int b, .int (nI n)] I J (3, 17, rb, tx, L) D N cl RM rc := by
            intro t ht hat
            obtain ⟨C', z, w0, w1, w2⟩ := q_sweep (J := J) (rb := rb) (tx := tx) (L := L) (RM := RM) (rc := rc) hs ht hn1 hn2 hck2 b i0 i1 hok
            have hC : ∀ p k, q_scr p k = false → (p < 37 ∨ 42 < p) → C' p k = I p k := by
              intro p k a b
              rw [w1 p (fun c => by rw [c] at a; cases a) (fun c => by rw [c] at a; cases a) (fun c => by rw [c] at a; cases a) (by omega)]
            obtain ⟨I1, M1, k0, m0, f1, -, hK, fM, hfin⟩ := q_actA (J := J) (e := (3, 17, rb, tx, L)) h hp hC
            have hz' : q_Fz (qmx I M1) sz := by
              refine q_Fz_eq hz ?_
              intro p k a b c d f g i
              unfold qmx
              cases hb : (Nat.ble 64 p && Nat.blt p 1000) with
              | false => rfl
              | true =>
                cases h93 : Nat.beq p 93 with
                | true => exact absurd (Nat.eq_of_beq_eq_true h93) f
                | false => exact fM p k a b c d f g i
            have r69 : I 69 = M1 69 := funext (fun k => (fM 69 k rfl (by omega) (by decide) (by decide) (by decide) (by decide) (by intro c; cases c)).symm)
            have r70 : I 70 = M1 70 := funext (fun k => (fM 70 k rfl (by omega) (by decide) (by decide) (by decide) (by decide) (by intro c; cases c)).symm)
            have r95 : M1 95 = I 95 := funext (fun k => fM 95 k rfl (by omega) (by decide) (by decide) (by decide) (by decide) (by intro c; cases c))
            have r52 : I 3 14 = M1 64 52 := by rw [hnz]; exact (fM 64 52 rfl (by omega) (by decide) (by decide) (by decide) (by decide) (fun _ => ⟨by decide, by decide⟩)).symm
            obtain ⟨I', g0, g1, g2⟩ := w2 M1 ⟨hK, hz', r69, r70, r52⟩ (by unfold q_Fr; rw [r95]; exact hF)
            have hch : q_Ch D N (bt (I 3 11)) (qcr C') (I' 94) := by
              have := g2.1.chm
              have h3 : C' 3 = I 3 := funext (fun k => hC 3 k rfl (by omega))
              rw [h3] at this
              exact this
            obtain ⟨I2, n0, n1, n2, n3⟩ := hfin I' g1 hch
            have j93 : I1 93 1 = I 37 1 := by rw [f1 93 1 rfl (by omega) (by decide) (by decide), i93]
            have hsw : mX1_sweep [.ref 37, .ref 3, .ref 34, .int a, .int b, .int (nI n)] (qm I J (3, 17, rb, tx, L)) = some (some (.int z), qm C' J (3, 17, rb, tx, L)) := by
              rw [bX1_sweep, eX1_sweep_0, i0]
              rcases hat with ⟨e1, e2⟩ | ⟨e1, e2⟩
              · rw [if_pos e1, eX1_sweep_9]
                subst e2
                exact w0
              · rw [if_neg e1, eX1_sweep_13]
                subst e2
                exact w0
            have hrf : kX12_scan 37 [some (.ref 64), some (.int a), some (.int b), some (.int (nI n)), none, none] [] (qm M1 J (3, 17, rb, tx, L)) = kX12_scan 108 [some (.ref 64), none, none, none, some (.int z), none] [] (qm I' J (3, 17, rb, tx, L)) := by
              rw [eX12_scan_37]
              rcases hat with ⟨e1, e2⟩ | ⟨e1, e2⟩
              · rw [if_pos e1, eX12_scan_42]
                subst e2
                exact g0
              · rw [if_neg e1, eX12_scan_46]
                subst e2
                exact g0
            refine ⟨z, I1, I2, ?_, ?_, n1, n2, ?_, n3⟩
            · rw [bX11_scan, eX11_scan_0, fX11_isBit, hqa]
              simp only [Option.bind_some, Option.toList_some, Option.toList_none, List.nil_append, List.cons_append, q_ck_tt, Bool.and_true, Bool.true_and, if_true, if_false, reduceCtorEq]
              rw [eX11_scan_4, qb_t, if_neg h10, eX11_scan_7, if_neg c1, eX11_scan_12, if_neg c2, eX11_scan_18, if_pos hc, eX11_scan_33, hsw]
              simp only [Option.bind_some, Option.toList_some, Option.toList_none, List.nil_append, List.cons_append, q_ck_tt, Bool.and_true, Bool.true_and, if_true, if_false, reduceCtorEq]
              rw [eX11_scan_51, k0]
              simp only [Option.bind_some, Option.toList_some, Option.toList_none, List.nil_append, List.cons_append, q_ck_tt, Bool.and_true, Bool.true_and, if_true, if_false, reduceCtorEq]
              rw [eX11_scan_64]
            · rw [bX12_scan, eX12_scan_0, fX12_isBit, hqa]
              simp only [Option.bind_some, Option.toList_some, Option.toList_none, List.nil_append, List.cons_append, q_ck_tt, Bool.and_true, Bool.true_and, if_true, if_false, reduceCtorEq]
              rw [eX12_scan_6, qb_t, if_neg h10, eX12_scan_9, hin]
              simp only [Option.bind_some, Option.toList_some, Option.toList_none, List.nil_append, List.cons_append, q_ck_tt, Bool.and_true, Bool.true_and, if_true, if_false, reduceCtorEq]
              rw [eX12_scan_16, if_neg h10, eX12_scan_19, j93, if_pos hc, eX12_scan_33, m0]
              simp only [Option.bind_some, Option.toList_some, Option.toList_none, List.nil_append, List.cons_append, q_ck_tt, Bool.and_true, Bool.true_and, if_true, if_false, reduceCtorEq]
              rw [hrf, eX12_scan_108, n0]
              simp only [Option.bind_some, Option.toList_some, Option.toList_none, List.nil_append, List.cons_append, q_ck_tt, Bool.and_true, Bool.true_and, if_true, if_false, reduceCtorEq]
              rw [eX12_scan_112]
            · intro p k a b c d f g i
              exact f1 p k a b c d
          by_cases ha : a = 0
          · exact main 4 (Or.inl rfl) (Or.inl ⟨ha, rfl⟩)
          · exact main 11 (Or.inr rfl) (Or.inr ⟨ha, rfl⟩)
        · refine ⟨-1, I, I, ?_, ?_, h, hp, q_Frm_refl _, q_Frm_refl _⟩
          · rw [bX11_scan, eX11_scan_0, fX11_isBit, hqa]
            simp only [Option.bind_some, Option.toList_some, Option.toList_none, List.nil_append, List.cons_append, q_ck_tt, Bool.and_true, Bool.true_and, if_true, if_false, reduceCtorEq]
            rw [eX11_scan_4, qb_t, if_neg h10, eX11_scan_7, if_neg c1, eX11_scan_12, if_neg c2, eX11_scan_18, if_neg hc, eX11_scan_31]
          · rw [bX12_scan, eX12_scan_0, fX12_isBit, hqa]
            simp only [Option.bind_some, Option.toList_some, Option.toList_none, List.nil_append, List.cons_append, q_ck_tt, Bool.and_true, Bool.true_and, if_true, if_false, reduceCtorEq]
            rw [eX12_scan_6, qb_t, if_neg h10, eX12_scan_9, hin]
            simp only [Option.bind_some, Option.toList_some, Option.toList_none, List.nil_append, List.cons_append, q_ck_tt, Bool.and_true, Bool.true_and, if_true, if_false, reduceCtorEq]
            rw [eX12_scan_16, if_neg h10, eX12_scan_19, i93, if_neg hc, eX12_scan_31]
end SC
