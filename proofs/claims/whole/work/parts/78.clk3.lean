/-! ===== a clock: one step of both ===== -/
section CL
variable {C C' I : Nat → Nat → Int32} {J : Nat → Nat → Int64} {e : QP} {D N : Nat} {cl : Nat → Nat} {RM : Nat} {rc : Nat → Nat} {sz : Nat}
/-- a clock's spec in the class -/
def q_TkS (C C' : Nat → Nat → Int32) (D N sz s : Nat) (b : Bool) (t : Int32) : Prop := (C' 37 0 = nI (qnx s b) ∧ C' 37 1 = C 37 1 + 1 ∧ C' 37 2 = qTs s (C 37 2)) ∧ C' 38 = qTo C D s ∧ C' 39 = qTg C D s t ∧ C' 40 = qTd C D N sz s t ∧ C' 41 = qTl C D s ∧ ∀ p, p ≠ 16 → p ≠ 37 → p ≠ 38 → p ≠ 39 → p ≠ 40 → p ≠ 41 → C' p = C p
/-- the reference's row behind a clock: s it was in, r what was made of it -/
def q_rE (s : Nat) (b : Bool) (r : Nat → Int32) : Nat → Int32 := va_up (va_up r 0 (nI (qnx s b))) 1 (r 1 + 1)
theorem q_rE_k {s : Nat} {b : Bool} {r : Nat → Int32} {k : Nat} (h : 2 ≤ k) : q_rE s b r k = r k := by
  unfold q_rE
  rw [va_up_at, if_neg (by omega), va_up_at, if_neg (by omega)]
/-- the relation is kept if it is for each device -/
theorem q_clk_ch (h : q_Core (qmx C I) D N cl RM rc) {s : Nat} (hs : s < 16) (hck : ∃ k : Nat, k < 10000 ∧ C 37 1 = nI k) {b : Bool} {t : Int32} (hT : q_TkS C C' D N sz s b t) {r : Nat → Int32} (r1 : r 1 = I 94 1) (r2 : r 2 = qTs s (I 94 2)) (r19 : ∀ k, 19 ≤ k → r k = I 94 k) (hd : ∀ d, d < D → q_Dc (qcr C') r d) : q_Ch D N (bt (C' 3 11)) (qcr C') (q_rE s b r) := by
  obtain ⟨⟨t0, t1, t2⟩, -, -, -, -, tf⟩ := hT
  obtain ⟨-, ⟨c1, -⟩, ⟨c2, c2b⟩, -⟩ := h.chm
  have h3 : C' 3 = C 3 := tf 3 (by decide) (by decide) (by decide) (by decide) (by decide) (by decide)
  have h42 : C' 42 = C 42 := tf 42 (by decide) (by decide) (by decide) (by decide) (by decide) (by decide)
  rw [h3]
  obtain ⟨k, hk, hk2⟩ := hck
  refine q_Ch_mk h.d4 h.n6 h.chm (fun k hk => ?_) (fun k hk => ?_) ?_ ?_ ?_ (fun d hd2 => ?_)
  · rw [show k = 19 + (k - 19) by omega, qcr_19, qcr_19, h42]
  · rw [q_rE_k (by omega)]; exact r19 k hk
  · refine ⟨t0, qnx s b, (qnx_t s hs b).1, rfl⟩
  · have c1' : C 37 1 = I 94 1 := c1
    refine ⟨?_, k + 1, by omega, ?_⟩
    · show C' 37 1 = r 1 + 1
      rw [t1, r1, c1']
    · show r 1 + 1 = nI (k + 1)
      rw [r1, ← c1', hk2, nI_1]
  · rw [q_rE_k (by omega), r2]
    have c2' : C 37 2 = I 94 2 := c2
    refine ⟨?_, ?_⟩
    · show C' 37 2 = _
      rw [t2, c2']
    · unfold qTs
      by_cases hs3 : s = 3
      · rw [if_pos hs3]; exact qSd_b c2b
      · rw [if_neg hs3]; exact c2b
  · have := hd d hd2
    unfold q_Dc at this ⊢
    rw [q_rE_k (by omega), q_rE_k (by omega), q_rE_k (by omega), q_rE_k (by omega)]
    exact this
theorem q_clk (h : q_Core (qmx C I) D N cl RM rc) (hz : q_Fz (qmx C I) sz) (h69 : C 69 = I 69) (h70 : C 70 = I 70) (hnz : C 3 14 = I 64 52) {s : Nat} (hs : s < 16) (h0 : C 37 0 = nI s) (hck : ∃ k : Nat, k < 10000 ∧ C 37 1 = nI k) {b : Bool} {t : Int32} (ht : ∃ c, t = qb c) (hT : q_TkS C C' D N sz s b t) : ∃ I', mX12_goClock [.ref 64, .int (qb b), .int t] (qm I J e) = some (some (.int (qTt C D s t)), qm I' J e) ∧ q_Off I I' ∧ q_Core (qmx C' I') D N cl RM rc := by
  have hD := h.d4
  have hN := h.n6
  have hI : I 64 50 = nI D := h.m50
  have hT' := hT
  obtain ⟨-, t38, t39, t40, t41, tf⟩ := hT
  obtain ⟨⟨z0, -⟩, ⟨z1, -⟩, ⟨z2, -⟩, zd, -⟩ := h.chm
  have i0 : I 94 0 = nI s := by rw [← h0]; exact z0.symm
  have i1 : C 37 1 = I 94 1 := z1
  have i2 : C 37 2 = I 94 2 := z2
  have hdev : ∀ d, d < D → (C 38 d = I 94 (3 + d) ∧ C 39 d = I 94 (7 + d) ∧ C 40 d = I 94 (11 + d) ∧ C 41 d = I 94 (15 + d)) ∧ (∃ k : Nat, k < 16 ∧ I 94 (3 + d) = nI k) ∧ (∃ k : Nat, k < 16 ∧ I 94 (7 + d) = nI k) ∧ (∃ k : Nat, k < 256 ∧ I 94 (11 + d) = nI k) ∧ (∃ k : Nat, k < 64 ∧ I 94 (15 + d) = nI k) ∧ (I 94 (3 + d) = 0 → ∃ k : Nat, k < 64 ∧ I 94 (11 + d) = nI k) := by
    intro d hd
    obtain ⟨⟨a1, a2⟩, ⟨b1, b2⟩, ⟨c1, c2⟩, ⟨d1, d2⟩, d5⟩ := zd d hd
    rw [qcr_3 _ (by omega)] at a1
    rw [qcr_7 _ (by omega)] at b1
    rw [qcr_11 _ (by omega)] at c1
    rw [qcr_15 _ (by omega)] at d1
    exact ⟨⟨a1, b1, c1, d1⟩, a2, b2, c2, d2, d5⟩
  have hbn : ∀ d, d < D → C 5 d = I 83 d ∧ C 6 d = I 84 d ∧ C 7 d = I 85 d ∧ C 7 d = nI (cl d) ∧ cl d ≤ 6 ∧ (∃ k : Nat, 2 ≤ k ∧ k ≤ 4 ∧ I 83 d = nI k) ∧ (I 84 d = -1 ∨ ∃ k : Nat, k < 128 ∧ I 84 d = nI k) := by
    intro d hd
    obtain ⟨e1, e2, e3, e4, e5, e6, e7⟩ := h.bn.2.2 d hd
    exact ⟨e1, e2, Eq.trans e3 e4.symm, e3, e5, e6, e7⟩
  have hcc : ∀ d, d < D → qcr C' (3 + d) = C' 38 d ∧ qcr C' (7 + d) = C' 39 d ∧ qcr C' (11 + d) = C' 40 d ∧ qcr C' (15 + d) = C' 41 d := fun d hd => ⟨qcr_3 _ (by omega), qcr_7 _ (by omega), qcr_11 _ (by omega), qcr_15 _ (by omega)⟩
  have hne : ∀ k : Nat, k < 16 → k ≠ s → ¬ (nI s = nI k) := fun k hk hks c => hks (nI_inj (by omega) (by omega) c).symm
  -- from the loop on
  have hend : ∀ (M : Nat → Nat → Int32) (o : Int32) (r : Nat → Int32), q_Off I M → M 94 = r → (∃ M2, q_Lp J e (qb b) (nI s) o 0 M = q_Lp J e (qb b) (nI s) o D M2 ∧ q_Off M M2 ∧ (M2 94) 1 = I 94 1 ∧ (M2 94) 2 = qTs s (I 94 2) ∧ (∀ k, 19 ≤ k → (M2 94) k = I 94 k) ∧ ∀ d, d < D → q_Dc (qcr C') (M2 94) d) → ∃ I', kX12_goClock 47 [some (.ref 64), some (.int (qb b)), none, some (.int (nI s)), some (.int o), none] [] (qm M J e) = some (some (.int o), qm I' J e) ∧ q_Off I I' ∧ q_Core (qmx C' I') D N cl RM rc := by
    intro M o r oM _ ⟨M2, g1, g2, g3, g4, g5, g6⟩
    have hM2 : M2 64 50 = nI D := by rw [(q_Off_trans oM g2).r 64 (fun _ => rfl)]; exact hI
    have ofin : q_Off I (va_up M2 94 (q_rE s b (M2 94))) := q_Off_trans oM (q_Off_trans g2 (q_Off_va _ rfl _))
    refine ⟨va_up M2 94 (q_rE s b (M2 94)), ?_, ofin, q_Core_mk h tf ofin ?_⟩
    · rw [eX12_goClock_47]
      refine Eq.trans g1 ?_
      rw [q_lp_end hD hM2 b hs]
      rfl
    · exact q_clk_ch h hs hck hT' g3 g4 g5 g6
  rw [bX12_goClock, eX12_goClock_0, i0]
  by_cases c3 : s = 3
  · subst c3
    obtain ⟨M, m1, m2, m3⟩ := fX12_captures (J := J) (e := e) h hz
    rw [if_pos (show nI 3 = (3 : Int32) from rfl), eX12_goClock_15, m1]
    simp only [Option.bind_some, Option.toList_some, Option.toList_none, List.nil_append, List.cons_append, q_ck_tt, Bool.and_true, Bool.true_and, if_true, if_false, reduceCtorEq]
    rw [eX12_goClock_19, if_neg (show ¬ nI 3 = (4 : Int32) by decide), eX12_goClock_24, if_neg (show ¬ nI 3 = (11 : Int32) by decide)]
    refine hend M (-1) _ m2 rfl ⟨M, q_lp_x hD (by rw [m2.r 64 (fun _ => rfl)]; exact hI) _ _ (by decide) (by decide) (by decide) (by decide), q_Off_refl _, ?_, ?_, ?_, ?_⟩
    all_goals sorry
  · sorry
end CL
