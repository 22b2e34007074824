/-! ===== a clock: one step of both ===== -/
section CL
variable {C C' I : Nat → Nat → Int32} {J : Nat → Nat → Int64} {e : QP} {D N : Nat} {cl : Nat → Nat} {RM : Nat} {rc : Nat → Nat} {sz : Nat}
/-- a clock's spec in the class -/
def q_TkS (C C' : Nat → Nat → Int32) (D N sz s : Nat) (b : Bool) (t : Int32) : Prop := (C' 37 0 = nI (qnx s b) ∧ C' 37 1 = C 37 1 + 1 ∧ C' 37 2 = qTs s (C 37 2)) ∧ C' 38 = qTo C D s ∧ C' 39 = qTg C D s t ∧ C' 40 = qTd C D N sz s t ∧ C' 41 = qTl C D s ∧ ∀ p, p ≠ 16 → p ≠ 37 → p ≠ 38 → p ≠ 39 → p ≠ 40 → p ≠ 41 → C' p = C p
/-- the reference's row behind a clock: s it was in, r what was made of it -/
def q_rE (s : Nat) (b : Bool) (r : Nat → Int32) : Nat → Int32 := va_up (va_up r 0 (nI (qnx s b))) 1 (r 1 + 1)
theorem q_rE_k {s : Nat} {b : Bool} {r : Nat → Int32} {k : Nat} (h : 2 ≤ k) : q_rE s b r k = r k := by
  unfold q_rE
  rw [va_up_at, if_neg (by omega), va_up_at, if_neg (by omega)]
theorem va_hit {α : Type} {f : Nat → α} {k : Nat} {v : α} : va_up f k v k = v := by rw [va_up_at, if_pos rfl]
theorem va_miss {α : Type} {f : Nat → α} {k j : Nat} {v : α} (h : j ≠ k) : va_up f k v j = f j := by rw [va_up_at, if_neg h]
theorem qN_k {nz bits : Int32} {D : Nat} {r : Nat → Int32} {k : Nat} (hD : D ≤ 4) (h : k < 11 ∨ 15 ≤ k) : qNr nz D bits r k = r k := by
  unfold qNr
  split
  · rw [va_up_at, if_neg (by omega)]
  · rfl
/-- the relation is kept if it is for each device -/
theorem q_clk_ch (h : q_Core (qmx C I) D N cl RM rc) {s : Nat} (hs : s < 16) (hck : ∃ k : Nat, k < 10000 ∧ C 37 1 = nI k) {b : Bool} {t : Int32} (hT : q_TkS C C' D N sz s b t) {r : Nat → Int32} (r1 : r 1 = I 94 1) (r2 : r 2 = qTs s (I 94 2)) (r19 : ∀ k, 19 ≤ k → r k = I 94 k) (hd : ∀ d, d < D → q_Dc (qcr C') r d) : q_Ch D N (bt (C' 3 11)) (qcr C') (q_rE s b r) := by
  obtain ⟨⟨t0, t1, t2⟩, -, -, -, -, tf⟩ := hT
  obtain ⟨-, ⟨c1, -⟩, ⟨c2, c2b⟩, -⟩ := h.chm
  have h3 : C' 3 = C 3 := tf 3 (by decide) (by decide) (by decide) (by decide) (by decide) (by decide)
  have h42 : C' 42 = C 42 := tf 42 (by decide) (by decide) (by decide) (by decide) (by decide) (by decide)
  rw [h3]
  obtain ⟨k, hk, hk2⟩ := hck
  refine q_Ch_mk h.d4 h.n6 h.chm (fun k hk => ?_) (fun k hk => ?_) ?_ ?_ ?_ (fun d hd2 => ?_)
  · rw [show k = 19 + (k - 19) by omega, qcr_19, qcr_19, h42]
  · rw [q_rE_k (by omega)]; exact r19 k hk
  · refine ⟨t0, qnx s b, (qnx_t s hs b).1, rfl⟩
  · have c1' : C 37 1 = I 94 1 := c1
    refine ⟨?_, k + 1, by omega, ?_⟩
    · show C' 37 1 = r 1 + 1
      rw [t1, r1, c1']
    · show r 1 + 1 = nI (k + 1)
      rw [r1, ← c1', hk2, nI_1]
  · rw [q_rE_k (by omega), r2]
    have c2' : C 37 2 = I 94 2 := c2
    refine ⟨?_, ?_⟩
    · show C' 37 2 = _
      rw [t2, c2']
    · unfold qTs
      by_cases hs3 : s = 3
      · rw [if_pos hs3]; exact qSd_b c2b
      · rw [if_neg hs3]; exact c2b
  · have := hd d hd2
    unfold q_Dc at this ⊢
    rw [q_rE_k (by omega), q_rE_k (by omega), q_rE_k (by omega), q_rE_k (by omega)]
    exact this
theorem qDb_b {od id c : Int32} {k : Nat} (hk : k ≤ 6) (hc : c = nI k) : ∃ w : Nat, w ≤ 8 ∧ qDb od id c = nI w ∧ (od = 0 → w ≤ 6) := by
  unfold qDb
  by_cases c0 : od = 0
  · rw [if_pos c0]; exact ⟨k, by omega, hc, fun _ => hk⟩
  · rw [if_neg c0]
    by_cases c2 : od = 2
    · rw [if_pos c2]; exact ⟨k, by omega, hc, fun _ => hk⟩
    · rw [if_neg c2]
      by_cases c1 : od = 1
      · rw [if_pos c1]
        by_cases ci : id < 0
        · rw [if_pos ci]; exact ⟨1, by omega, rfl, fun _ => by omega⟩
        · rw [if_neg ci]; exact ⟨8, by omega, rfl, fun c => absurd c c0⟩
      · rw [if_neg c1]; exact ⟨1, by omega, rfl, fun _ => by omega⟩
theorem qShr_b {bits row : Nat → Int32} {t : Int32} (ht : ∃ c, t = qb c) {d m w : Nat} (hm : m ≤ 30) (hb : bits d = nI w) (hw : w ≤ m) (hx : ∃ k : Nat, k < 2 ^ m ∧ row d = nI k) : ∃ k : Nat, k < 2 ^ m ∧ qShr bits row t d = nI k := by
  unfold qShr
  by_cases h0 : bits d = 0
  · rw [if_pos h0]; exact hx
  · rw [if_neg h0]
    obtain ⟨c, hc⟩ := qSh_b (bits := bits) (row := row) ht d
    rw [hc, hb]
    refine q_shb hm ?_ hw hx c
    by_cases hw0 : w = 0
    · rw [hb, hw0] at h0; exact absurd rfl h0
    · omega
theorem q_clk (h : q_Core (qmx C I) D N cl RM rc) (hz : q_Fz (qmx C I) sz) (h69 : C 69 = I 69) (h70 : C 70 = I 70) (hnz : C 3 14 = I 64 52) {s : Nat} (hs : s < 16) (h0 : C 37 0 = nI s) (hck : ∃ k : Nat, k < 10000 ∧ C 37 1 = nI k) {b : Bool} {t : Int32} (ht : ∃ c, t = qb c) (hT : q_TkS C C' D N sz s b t) : ∃ I', mX12_goClock [.ref 64, .int (qb b), .int t] (qm I J e) = some (some (.int (qTt C D s t)), qm I' J e) ∧ q_Off I I' ∧ q_Core (qmx C' I') D N cl RM rc := by
  have hD := h.d4
  have hN := h.n6
  have hI : I 64 50 = nI D := h.m50
  have hT' := hT
  obtain ⟨-, t38, t39, t40, t41, tf⟩ := hT
  obtain ⟨⟨z0, -⟩, ⟨z1, -⟩, ⟨z2, -⟩, zd, -⟩ := h.chm
  have i0 : I 94 0 = nI s := by rw [← h0]; exact z0.symm
  have i1 : C 37 1 = I 94 1 := z1
  have i2 : C 37 2 = I 94 2 := z2
  have hdev : ∀ d, d < D → (C 38 d = I 94 (3 + d) ∧ C 39 d = I 94 (7 + d) ∧ C 40 d = I 94 (11 + d) ∧ C 41 d = I 94 (15 + d)) ∧ (∃ k : Nat, k < 16 ∧ I 94 (3 + d) = nI k) ∧ (∃ k : Nat, k < 16 ∧ I 94 (7 + d) = nI k) ∧ (∃ k : Nat, k < 256 ∧ I 94 (11 + d) = nI k) ∧ (∃ k : Nat, k < 64 ∧ I 94 (15 + d) = nI k) ∧ (I 94 (3 + d) = 0 → ∃ k : Nat, k < 64 ∧ I 94 (11 + d) = nI k) := by
    intro d hd
    obtain ⟨⟨a1, a2⟩, ⟨b1, b2⟩, ⟨c1, c2⟩, ⟨d1, d2⟩, d5⟩ := zd d hd
    rw [qcr_3 _ (by omega)] at a1
    rw [qcr_7 _ (by omega)] at b1
    rw [qcr_11 _ (by omega)] at c1
    rw [qcr_15 _ (by omega)] at d1
    exact ⟨⟨a1, b1, c1, d1⟩, a2, b2, c2, d2, d5⟩
  have hbn : ∀ d, d < D → C 5 d = I 83 d ∧ C 6 d = I 84 d ∧ C 7 d = I 85 d ∧ C 7 d = nI (cl d) ∧ cl d ≤ 6 ∧ (∃ k : Nat, 2 ≤ k ∧ k ≤ 4 ∧ I 83 d = nI k) ∧ (I 84 d = -1 ∨ ∃ k : Nat, k < 128 ∧ I 84 d = nI k) := by
    intro d hd
    obtain ⟨e1, e2, e3, e4, e5, e6, e7⟩ := h.bn.2.2 d hd
    exact ⟨e1, e2, Eq.trans e3 e4.symm, e3, e5, e6, e7⟩
  have hcc : ∀ d, d < D → qcr C' (3 + d) = C' 38 d ∧ qcr C' (7 + d) = C' 39 d ∧ qcr C' (11 + d) = C' 40 d ∧ qcr C' (15 + d) = C' 41 d := fun d hd => ⟨qcr_3 _ (by omega), qcr_7 _ (by omega), qcr_11 _ (by omega), qcr_15 _ (by omega)⟩
  have hne : ∀ k : Nat, k < 16 → k ≠ s → ¬ (nI s = nI k) := fun k hk hks c => hks (nI_inj (by omega) (by omega) c).symm
  -- from the loop on
  have hend : ∀ (M : Nat → Nat → Int32) (o : Int32) (r : Nat → Int32), q_Off I M → M 94 = r → (∃ M2, q_Lp J e (qb b) (nI s) o 0 M = q_Lp J e (qb b) (nI s) o D M2 ∧ q_Off M M2 ∧ (M2 94) 1 = I 94 1 ∧ (M2 94) 2 = qTs s (I 94 2) ∧ (∀ k, 19 ≤ k → (M2 94) k = I 94 k) ∧ ∀ d, d < D → q_Dc (qcr C') (M2 94) d) → ∃ I', kX12_goClock 47 [some (.ref 64), some (.int (qb b)), none, some (.int (nI s)), some (.int o), none] [] (qm M J e) = some (some (.int o), qm I' J e) ∧ q_Off I I' ∧ q_Core (qmx C' I') D N cl RM rc := by
    intro M o r oM _ ⟨M2, g1, g2, g3, g4, g5, g6⟩
    have hM2 : M2 64 50 = nI D := by rw [(q_Off_trans oM g2).r 64 (fun _ => rfl)]; exact hI
    have ofin : q_Off I (va_up M2 94 (q_rE s b (M2 94))) := q_Off_trans oM (q_Off_trans g2 (q_Off_va _ rfl _))
    refine ⟨va_up M2 94 (q_rE s b (M2 94)), ?_, ofin, q_Core_mk h tf ofin ?_⟩
    · rw [eX12_goClock_47]
      refine Eq.trans g1 ?_
      rw [q_lp_end hD hM2 b hs]
      rfl
    · exact q_clk_ch h hs hck hT' g3 g4 g5 g6
  rw [bX12_goClock, eX12_goClock_0, i0]
  by_cases c3 : s = 3
  · subst c3
    obtain ⟨M, m1, m2, m3⟩ := fX12_captures (J := J) (e := e) h hz
    rw [if_pos (show nI 3 = (3 : Int32) from rfl), eX12_goClock_15, m1]
    simp only [Option.bind_some, Option.toList_some, Option.toList_none, List.nil_append, List.cons_append, q_ck_tt, Bool.and_true, Bool.true_and, if_true, if_false, reduceCtorEq]
    rw [eX12_goClock_19, if_neg (show ¬ nI 3 = (4 : Int32) by decide), eX12_goClock_24, if_neg (show ¬ nI 3 = (11 : Int32) by decide)]
    refine hend M (-1) _ m2 rfl ⟨M, q_lp_x hD (by rw [m2.r 64 (fun _ => rfl)]; exact hI) _ _ (by decide) (by decide) (by decide) (by decide), q_Off_refl _, ?_, ?_, ?_, ?_⟩
    · rw [m3, qN_k (by omega) (by omega), va_up_at, if_neg (by decide)]; exact qblk_out (by omega)
    · rw [m3, qN_k (by omega) (by omega), va_up_at, if_pos rfl]; rfl
    · intro k hk
      rw [m3, qN_k (by omega) (by omega), va_up_at, if_neg (by omega)]; exact qblk_out (by omega)
    · intro d hd
      obtain ⟨⟨x3, x7, x11, x15⟩, y3, y7, y11, y15, y0⟩ := hdev d hd
      obtain ⟨n5, n6, n7, n7c, nc, nr, nd⟩ := hbn d hd
      obtain ⟨w1, w2, w3, w4⟩ := hcc d hd
      have hfa : ∀ k, k < 11 ∨ 15 ≤ k → k ≠ 2 → M 94 k = I 94 k := by
        intro k hk k2
        rw [m3, qN_k (by omega) (by omega), va_up_at, if_neg k2]; exact qblk_out (by omega)
      have hcap : fa_fill (qCap (qRA C D N sz) (C 38) (C 6) (C 7)) (C 40) D d = qG C I D N sz cl d := by
        rw [fa_fill_in hd, qCap_eq nc (by omega) n7c, x3, n6]
        unfold qG qRA
        have : qFa C sz (C 42 2) (C 37 1) = qFa (qmx C I) sz (C 42 2) (I 94 1) := by
          rw [i1]
          unfold qFa
          show qB 24 (fun z => bt (C 42 2) z && qFl (C 69) (C 70) sz (C 12) (I 94 1) z) = qB 24 (fun z => bt (C 42 2) z && qFl (I 69) (I 70) sz (C 12) (I 94 1) z)
          rw [h69, h70]
        rw [this]
      have hGb := qCpr_b (RA := qRa N (C 9) (C 10) (qLev (C 42) (qDn C D N)) (C 42 2) (qFa (qmx C I) sz (C 42 2) (I 94 1))) (od := I 94 (3 + d)) (d := d) nc nd
      have hbits : qDb (C 38 (D - 1)) (C 6 (D - 1)) (C 7 (D - 1)) = qDb (I 94 (3 + (D - 1))) (I 84 (D - 1)) (I 85 (D - 1)) := by
        rw [(hdev (D - 1) (by omega)).1.1, (hbn (D - 1) (by omega)).2.1, (hbn (D - 1) (by omega)).2.2.1]
      have hrow : M 94 (11 + d) = C' 40 d ∧ (∃ k : Nat, k < 256 ∧ M 94 (11 + d) = nI k) ∧ (I 94 (3 + d) = 0 → ∃ k : Nat, k < 64 ∧ M 94 (11 + d) = nI k) := by
        have hq : va_up (qblk 11 (I 94) (qG C I D N sz cl) D) 2 (qSd (I 94 2)) (11 + d) = qG C I D N sz cl d := by rw [va_up_at, if_neg (by omega), qblk_in hd]
        have hc40 : C' 40 = qNz (qSd (C 37 2)) (C 3 14) (qDb (C 38 (D - 1)) (C 6 (D - 1)) (C 7 (D - 1))) D (fa_fill (qCap (qRA C D N sz) (C 38) (C 6) (C 7)) (C 40) D) := t40
        rw [hc40, m3]
        unfold qNr qNz
        rw [hbits, hnz, i2]
        have e2 : va_up (qblk 11 (I 94) (qG C I D N sz cl) D) 2 (qSd (I 94 2)) 2 = qSd (I 94 2) := by rw [va_up_at, if_pos rfl]
        rw [e2]
        generalize va_up (qblk 11 (I 94) (qG C I D N sz cl) D) 2 (qSd (I 94 2)) = RR at hq
        by_cases hP : qSd (I 94 2) % 100 < I 64 52 ∧ 0 < D ∧ (0 : Int32) < qDb (I 94 (3 + (D - 1))) (I 84 (D - 1)) (I 85 (D - 1))
        · rw [if_pos hP, if_pos hP]
          by_cases hl : d = D - 1
          · rw [← hl, va_hit, va_hit, hq, hcap]
            refine ⟨rfl, q_xor1 (m := 8) (by omega) (by omega) hGb.1, fun z => q_xor1 (m := 6) (by omega) (by omega) (hGb.2 z)⟩
          · rw [va_miss (show 11 + d ≠ 11 + (D - 1) by omega), va_miss hl, hq, hcap]
            exact ⟨rfl, hGb.1, hGb.2⟩
        · rw [if_neg hP, if_neg hP, hq, hcap]
          exact ⟨rfl, hGb.1, hGb.2⟩
      have o38 : C' 38 = C 38 := t38
      have o39 : C' 39 = C 39 := t39
      have o41 : C' 41 = C 41 := t41
      unfold q_Dc
      rw [w1, w2, w3, w4, hfa (3 + d) (by omega) (by omega), hfa (7 + d) (by omega) (by omega), hfa (15 + d) (by omega) (by omega), o38, o39, o41]
      exact ⟨⟨x3, y3⟩, ⟨x7, y7⟩, ⟨hrow.1.symm, hrow.2.1⟩, ⟨x15, y15⟩, hrow.2.2⟩
  · rw [if_neg (show ¬ nI s = (3 : Int32) from hne 3 (by omega) (fun c => c3 c.symm)), eX12_goClock_19]
    have hs2 : qTs s (I 94 2) = I 94 2 := by unfold qTs; rw [if_neg c3]
    by_cases c4 : s = 4
    · subst c4
      rw [if_pos (show nI 4 = (4 : Int32) from rfl), eX12_goClock_30, if_pos (show nI 4 = (4 : Int32) from rfl), eX12_goClock_36, eX12_goClock_41, fX12_shiftsD hD hI]
      simp only [Option.bind_some, Option.toList_some, Option.toList_none, List.nil_append, List.cons_append, q_ck_tt, Bool.and_true, Bool.true_and, if_true, if_false, reduceCtorEq]
      rw [eX12_goClock_45]
      have hcg : ∀ d, d < D → (fun d => qDb (I 94 (3 + d)) (I 84 d) (I 85 d)) d = (fun d => qDb (C 38 d) (C 6 d) (C 7 d)) d ∧ (fun d => I 94 (11 + d)) d = C 40 d := by
        intro d hd
        dsimp only
        rw [(hdev d hd).1.1, (hbn d hd).2.1, (hbn d hd).2.2.1, (hdev d hd).1.2.2.1]
        exact ⟨rfl, rfl⟩
      have ho : qSh (fun d => qDb (I 94 (3 + d)) (I 84 d) (I 85 d)) (fun d => I 94 (11 + d)) t D = qTt C D 4 t := qSh_cong D hcg
      rw [ho]
      have om : q_Off I (va_up I 94 (qblk 11 (I 94) (qShr (fun d => qDb (I 94 (3 + d)) (I 84 d) (I 85 d)) (fun d => I 94 (11 + d)) t) D)) := q_Off_va _ rfl _
      refine hend _ (qTt C D 4 t) _ om rfl ⟨_, q_lp_x (s := nI 4) hD (by exact hI) _ _ (by decide) (by decide) (by decide) (by decide), q_Off_refl _, ?_, ?_, ?_, ?_⟩
      · rw [va_up_at, if_pos rfl]; exact qblk_out (by omega)
      · rw [hs2, va_up_at, if_pos rfl]; exact qblk_out (by omega)
      · intro k hk
        rw [va_up_at, if_pos rfl]; exact qblk_out (by omega)
      · intro d hd
        obtain ⟨⟨x3, x7, x11, x15⟩, y3, y7, y11, y15, y0⟩ := hdev d hd
        obtain ⟨n5, n6, n7, n7c, nc, nr, nd⟩ := hbn d hd
        obtain ⟨w1, w2, w3, w4⟩ := hcc d hd
        have o38 : C' 38 = C 38 := t38
        have o39 : C' 39 = C 39 := t39
        have o41 : C' 41 = C 41 := t41
        have o40 : C' 40 d = qShr (fun d => qDb (I 94 (3 + d)) (I 84 d) (I 85 d)) (fun d => I 94 (11 + d)) t d := by
          have : C' 40 = fa_fill (qShr (fun d => qDb (C 38 d) (C 6 d) (C 7 d)) (C 40) t) (C 40) D := t40
          rw [this, fa_fill_in hd]
          exact (qShr_cong (fun k hk => hcg k (by omega))).symm
        obtain ⟨w, b1, b2, b3⟩ := qDb_b (od := I 94 (3 + d)) (id := I 84 d) nc (show I 85 d = nI (cl d) by rw [← n7]; exact n7c)
        unfold q_Dc
        rw [w1, w2, w3, w4, va_up_at, if_pos rfl, qblk_in hd, qblk_out (k := 3 + d) (by omega), qblk_out (k := 7 + d) (by omega), qblk_out (k := 15 + d) (by omega), o38, o39, o41, o40]
        exact ⟨⟨x3, y3⟩, ⟨x7, y7⟩, ⟨rfl, qShr_b (m := 8) ht (by omega) b2 b1 y11⟩, ⟨x15, y15⟩, fun z => qShr_b (m := 6) ht (by omega) b2 (b3 z) (y0 z)⟩
    · rw [if_neg (show ¬ nI s = (4 : Int32) from hne 4 (by omega) (fun c => c4 c.symm)), eX12_goClock_24]
      by_cases c11 : s = 11
      · subst c11
        rw [if_pos (show nI 11 = (11 : Int32) from rfl), eX12_goClock_30, if_neg (show ¬ nI 11 = (4 : Int32) by decide), eX12_goClock_40, eX12_goClock_41, fX12_shiftsO hD hI]
        simp only [Option.bind_some, Option.toList_some, Option.toList_none, List.nil_append, List.cons_append, q_ck_tt, Bool.and_true, Bool.true_and, if_true, if_false, reduceCtorEq]
        rw [eX12_goClock_45]
        have hcg : ∀ d, d < D → I 83 d = C 5 d ∧ (fun d => I 94 (7 + d)) d = C 39 d := fun d hd => ⟨(hbn d hd).1.symm, (hdev d hd).1.2.1.symm⟩
        have ho : qSh (I 83) (fun d => I 94 (7 + d)) t D = qTt C D 11 t := qSh_cong D hcg
        rw [ho]
        have om : q_Off I (va_up I 94 (qblk 7 (I 94) (qShr (I 83) (fun d => I 94 (7 + d)) t) D)) := q_Off_va _ rfl _
        refine hend _ (qTt C D 11 t) _ om rfl ⟨_, q_lp_x (s := nI 11) hD (by exact hI) _ _ (by decide) (by decide) (by decide) (by decide), q_Off_refl _, ?_, ?_, ?_, ?_⟩
        · rw [va_hit]; exact qblk_out (by omega)
        · rw [hs2, va_hit]; exact qblk_out (by omega)
        · intro k hk
          rw [va_hit]; exact qblk_out (by omega)
        · intro d hd
          obtain ⟨⟨x3, x7, x11, x15⟩, y3, y7, y11, y15, y0⟩ := hdev d hd
          obtain ⟨n5, n6, n7, n7c, nc, ⟨w, r1, r2, r3⟩, nd⟩ := hbn d hd
          obtain ⟨w1, w2, w3, w4⟩ := hcc d hd
          have o38 : C' 38 = C 38 := t38
          have o40 : C' 40 = C 40 := t40
          have o41 : C' 41 = C 41 := t41
          have o39 : C' 39 d = qShr (I 83) (fun d => I 94 (7 + d)) t d := by
            have : C' 39 = fa_fill (qShr (C 5) (C 39) t) (C 39) D := t39
            rw [this, fa_fill_in hd]
            exact (qShr_cong (fun k hk => hcg k (by omega))).symm
          unfold q_Dc
          rw [w1, w2, w3, w4, va_hit, qblk_in hd, qblk_out (k := 3 + d) (by omega), qblk_out (k := 11 + d) (by omega), qblk_out (k := 15 + d) (by omega), o38, o39, o41, o40]
          exact ⟨⟨x3, y3⟩, ⟨rfl, qShr_b (m := 4) ht (by omega) r3 r2 y7⟩, ⟨x11, y11⟩, ⟨x15, y15⟩, y0⟩
      · rw [if_neg (show ¬ nI s = (11 : Int32) from hne 11 (by omega) (fun c => c11 c.symm))]
        have ho : qTt C D s t = -1 := by unfold qTt; rw [if_neg c4, if_neg c11]
        rw [ho]
        by_cases c0 : s = 0
        · subst c0
          refine hend I (-1) _ (q_Off_refl _) rfl ⟨_, q_lp_0 hD hI _ _, q_Off_va _ rfl _, ?_, ?_, ?_, ?_⟩
          · rw [va_hit]; unfold qod; rw [qblk_out (by omega), qblk_out (by omega)]
          · rw [hs2, va_hit]; unfold qod; rw [qblk_out (by omega), qblk_out (by omega)]
          · intro k hk
            rw [va_hit]; unfold qod; rw [qblk_out (by omega), qblk_out (by omega)]
          · intro d hd
            obtain ⟨⟨x3, x7, x11, x15⟩, y3, y7, y11, y15, y0⟩ := hdev d hd
            obtain ⟨n5, n6, n7, n7c, nc, nr, nd⟩ := hbn d hd
            obtain ⟨w1, w2, w3, w4⟩ := hcc d hd
            obtain ⟨k, k1, k2, k3⟩ := qRs_b (id := I 84 d) nr
            have o39 : C' 39 = C 39 := t39
            have o41 : C' 41 = C 41 := t41
            have o38 : C' 38 d = qRs (I 84 d) (I 83 d) := by
              have : C' 38 = fa_fill (fun d => qRs (C 6 d) (C 5 d)) (C 38) D := t38
              rw [this, fa_fill_in hd, n5, n6]
            have o40 : C' 40 d = if I 94 (3 + d) = qRs (I 84 d) (I 83 d) then I 94 (11 + d) else 0 := by
              have : C' 40 = fa_fill (fun d => if C 38 d = qRs (C 6 d) (C 5 d) then C 40 d else 0) (C 40) D := t40
              rw [this, fa_fill_in hd, n5, n6, x3, x11]
            unfold q_Dc
            rw [w1, w2, w3, w4, va_hit]
            unfold qod
            rw [qblk_in (b := 11) hd, qblk_out (b := 11) (k := 3 + d) (by omega), qblk_in (b := 3) hd, qblk_out (b := 11) (k := 7 + d) (by omega), qblk_out (b := 3) (k := 7 + d) (by omega), qblk_out (b := 11) (k := 15 + d) (by omega), qblk_out (b := 3) (k := 15 + d) (by omega), o38, o39, o40, o41]
            refine ⟨⟨rfl, k, k1, k2⟩, ⟨x7, y7⟩, ⟨rfl, ?_⟩, ⟨x15, y15⟩, fun z => ?_⟩
            · split
              · exact y11
              · exact ⟨0, by omega, rfl⟩
            · rw [k2] at z
              exact absurd z (nI_ne0 (by omega) (by omega))
        · by_cases c15 : s = 15
          · subst c15
            refine hend I (-1) _ (q_Off_refl _) rfl ⟨_, q_lp_15 hD hI _ _, q_Off_va _ rfl _, ?_, ?_, ?_, ?_⟩
            · rw [va_hit]; unfold qod; rw [qblk_out (by omega), qblk_out (by omega)]
            · rw [hs2, va_hit]; unfold qod; rw [qblk_out (by omega), qblk_out (by omega)]
            · intro k hk
              rw [va_hit]; unfold qod; rw [qblk_out (by omega), qblk_out (by omega)]
            · intro d hd
              obtain ⟨⟨x3, x7, x11, x15⟩, y3, y7, y11, y15, y0⟩ := hdev d hd
              obtain ⟨w1, w2, w3, w4⟩ := hcc d hd
              have o39 : C' 39 = C 39 := t39
              have o41 : C' 41 = C 41 := t41
              have o38 : C' 38 d = I 94 (7 + d) := by
                have : C' 38 = fa_fill (C 39) (C 38) D := t38
                rw [this, fa_fill_in hd, x7]
              have o40 : C' 40 d = if I 94 (3 + d) = I 94 (7 + d) then I 94 (11 + d) else 0 := by
                have : C' 40 = fa_fill (fun d => if C 38 d = C 39 d then C 40 d else 0) (C 40) D := t40
                rw [this, fa_fill_in hd, x3, x7, x11]
              unfold q_Dc
              rw [w1, w2, w3, w4, va_hit]
              unfold qod
              rw [qblk_in (b := 11) hd, qblk_out (b := 11) (k := 3 + d) (by omega), qblk_in (b := 3) hd, qblk_out (b := 11) (k := 7 + d) (by omega), qblk_out (b := 3) (k := 7 + d) (by omega), qblk_out (b := 11) (k := 15 + d) (by omega), qblk_out (b := 3) (k := 15 + d) (by omega), o38, o39, o40, o41]
              refine ⟨⟨rfl, y7⟩, ⟨x7, y7⟩, ⟨rfl, ?_⟩, ⟨x15, y15⟩, fun z => ?_⟩
              · split
                · exact y11
                · exact ⟨0, by omega, rfl⟩
              · split
                · rename_i hh
                  exact y0 (by rw [hh]; exact z)
                · exact ⟨0, by omega, rfl⟩
          · by_cases c10 : s = 10
            · subst c10
              refine hend I (-1) _ (q_Off_refl _) rfl ⟨_, q_lp_10 hD hI _ _, q_Off_va _ rfl _, ?_, ?_, ?_, ?_⟩
              · rw [va_hit, qblk_out (by omega)]
              · rw [hs2, va_hit, qblk_out (by omega)]
              · intro k hk
                rw [va_hit, qblk_out (by omega)]
              · intro d hd
                obtain ⟨⟨x3, x7, x11, x15⟩, y3, y7, y11, y15, y0⟩ := hdev d hd
                obtain ⟨w1, w2, w3, w4⟩ := hcc d hd
                have o38 : C' 38 = C 38 := t38
                have o40 : C' 40 = C 40 := t40
                have o41 : C' 41 = C 41 := t41
                have o39 : C' 39 d = 1 := by
                  have : C' 39 = fa_fill (fun _ => 1) (C 39) D := t39
                  rw [this, fa_fill_in hd]
                unfold q_Dc
                rw [w1, w2, w3, w4, va_hit, qblk_in (b := 7) hd, qblk_out (k := 3 + d) (by omega), qblk_out (k := 11 + d) (by omega), qblk_out (k := 15 + d) (by omega), o38, o39, o40, o41]
                exact ⟨⟨x3, y3⟩, ⟨rfl, 1, by omega, rfl⟩, ⟨x11, y11⟩, ⟨x15, y15⟩, y0⟩
            · by_cases c8 : s = 8
              · subst c8
                refine hend I (-1) _ (q_Off_refl _) rfl ⟨_, q_lp_8 hD hI _ _, q_Off_va _ rfl _, ?_, ?_, ?_, ?_⟩
                · rw [va_hit, qblk_out (by omega)]
                · rw [hs2, va_hit, qblk_out (by omega)]
                · intro k hk
                  rw [va_hit, qblk_out (by omega)]
                · intro d hd
                  obtain ⟨⟨x3, x7, x11, x15⟩, y3, y7, y11, y15, y0⟩ := hdev d hd
                  obtain ⟨w1, w2, w3, w4⟩ := hcc d hd
                  have o38 : C' 38 = C 38 := t38
                  have o39 : C' 39 = C 39 := t39
                  have o40 : C' 40 = C 40 := t40
                  have o41 : C' 41 d = if I 94 (3 + d) = 0 then I 94 (11 + d) else I 94 (15 + d) := by
                    have : C' 41 = fa_fill (fun d => if C 38 d = 0 then C 40 d else C 41 d) (C 41) D := t41
                    rw [this, fa_fill_in hd, x3, x11, x15]
                  unfold q_Dc
                  rw [w1, w2, w3, w4, va_hit, qblk_in (b := 15) hd, qblk_out (k := 3 + d) (by omega), qblk_out (k := 7 + d) (by omega), qblk_out (k := 11 + d) (by omega), o38, o39, o40, o41]
                  refine ⟨⟨x3, y3⟩, ⟨x7, y7⟩, ⟨x11, y11⟩, ⟨rfl, ?_⟩, y0⟩
                  split
                  · rename_i hh
                    exact y0 hh
                  · exact y15
              · refine hend I (-1) _ (q_Off_refl _) rfl ⟨I, q_lp_x hD hI _ _ (show ¬ nI s = (0 : Int32) from hne 0 (by omega) (fun c => c0 c.symm)) (show ¬ nI s = (8 : Int32) from hne 8 (by omega) (fun c => c8 c.symm)) (show ¬ nI s = (10 : Int32) from hne 10 (by omega) (fun c => c10 c.symm)) (show ¬ nI s = (15 : Int32) from hne 15 (by omega) (fun c => c15 c.symm)), q_Off_refl _, rfl, hs2.symm, fun k hk => rfl, ?_⟩
                intro d hd
                obtain ⟨⟨x3, x7, x11, x15⟩, y3, y7, y11, y15, y0⟩ := hdev d hd
                obtain ⟨w1, w2, w3, w4⟩ := hcc d hd
                have o38 : C' 38 = C 38 := by rw [t38]; unfold qTo; rw [if_neg c0, if_neg c15]
                have o39 : C' 39 = C 39 := by rw [t39]; unfold qTg; rw [if_neg c10, if_neg c11]
                have o40 : C' 40 = C 40 := by rw [t40]; unfold qTd; rw [if_neg c0, if_neg c15, if_neg c3, if_neg c4]
                have o41 : C' 41 = C 41 := by rw [t41]; unfold qTl; rw [if_neg c8]
                unfold q_Dc
                rw [w1, w2, w3, w4, o38, o39, o40, o41]
                exact ⟨⟨x3, y3⟩, ⟨x7, y7⟩, ⟨x11, y11⟩, ⟨x15, y15⟩, y0⟩
end CL
