/-! ===== a clock: both alike, whole ===== -/
section CK
variable {C C' I I' : Nat → Nat → Int32} {J : Nat → Nat → Int64} {e : QP} {D N : Nat} {cl : Nat → Nat} {RM : Nat} {rc : Nat → Nat} {sz : Nat}
theorem q_Core_mk (h : q_Core (qmx C I) D N cl RM rc) (hC : ∀ p, p ≠ 16 → p ≠ 37 → p ≠ 38 → p ≠ 39 → p ≠ 40 → p ≠ 41 → C' p = C p) (ho : q_Off I I') (hch : q_Ch D N (bt (C' 3 11)) (qcr C') (I' 94)) : q_Core (qmx C' I') D N cl RM rc := by
  have h3 : qmx C' I' 3 = qmx C I 3 := hC 3 (by decide) (by decide) (by decide) (by decide) (by decide) (by decide)
  have h5 : qmx C' I' 5 = qmx C I 5 := hC 5 (by decide) (by decide) (by decide) (by decide) (by decide) (by decide)
  have h6 : qmx C' I' 6 = qmx C I 6 := hC 6 (by decide) (by decide) (by decide) (by decide) (by decide) (by decide)
  have h7 : qmx C' I' 7 = qmx C I 7 := hC 7 (by decide) (by decide) (by decide) (by decide) (by decide) (by decide)
  have h9 : qmx C' I' 9 = qmx C I 9 := hC 9 (by decide) (by decide) (by decide) (by decide) (by decide) (by decide)
  have h10 : qmx C' I' 10 = qmx C I 10 := hC 10 (by decide) (by decide) (by decide) (by decide) (by decide) (by decide)
  have h11 : qmx C' I' 11 = qmx C I 11 := hC 11 (by decide) (by decide) (by decide) (by decide) (by decide) (by decide)
  have h12 : qmx C' I' 12 = qmx C I 12 := hC 12 (by decide) (by decide) (by decide) (by decide) (by decide) (by decide)
  have h14 : qmx C' I' 14 = qmx C I 14 := hC 14 (by decide) (by decide) (by decide) (by decide) (by decide) (by decide)
  have h15 : qmx C' I' 15 = qmx C I 15 := hC 15 (by decide) (by decide) (by decide) (by decide) (by decide) (by decide)
  have h1000 : qmx C' I' 1000 = qmx C I 1000 := hC 1000 (by decide) (by decide) (by decide) (by decide) (by decide) (by decide)
  have h1001 : qmx C' I' 1001 = qmx C I 1001 := hC 1001 (by decide) (by decide) (by decide) (by decide) (by decide) (by decide)
  have h1002 : qmx C' I' 1002 = qmx C I 1002 := hC 1002 (by decide) (by decide) (by decide) (by decide) (by decide) (by decide)
  have h1003 : qmx C' I' 1003 = qmx C I 1003 := hC 1003 (by decide) (by decide) (by decide) (by decide) (by decide) (by decide)
  have h64 : qmx C' I' 64 = qmx C I 64 := ho.r 64 (fun _ => rfl)
  have h69 : qmx C' I' 69 = qmx C I 69 := ho.r 69 (fun _ => rfl)
  have h70 : qmx C' I' 70 = qmx C I 70 := ho.r 70 (fun _ => rfl)
  have h83 : qmx C' I' 83 = qmx C I 83 := ho.r 83 (fun _ => rfl)
  have h84 : qmx C' I' 84 = qmx C I 84 := ho.r 84 (fun _ => rfl)
  have h85 : qmx C' I' 85 = qmx C I 85 := ho.r 85 (fun _ => rfl)
  have h86 : qmx C' I' 86 = qmx C I 86 := ho.r 86 (fun _ => rfl)
  have h87 : qmx C' I' 87 = qmx C I 87 := ho.r 87 (fun _ => rfl)
  have h88 : qmx C' I' 88 = qmx C I 88 := ho.r 88 (fun _ => rfl)
  have h92 : qmx C' I' 92 = qmx C I 92 := ho.r 92 (fun _ => rfl)
  refine ⟨?_, ?_, ?_, ?_, ?_, ?_, ?_, ?_⟩
  · unfold q_Sta; rw [h1000, h1001, h1002, h1003]; exact h.st
  · unfold q_Bn; rw [h3, h64, h5, h83, h6, h84, h7, h85]; exact h.bn
  · unfold q_Bc; rw [h12, h87, h86, h9, h10, h3]; exact h.bc
  · unfold q_Bs; rw [h11, h88]; exact h.bs
  · unfold q_Br; rw [h64, h92, h3]; exact h.br
  · unfold q_Fo; rw [h14, h64, h69, h15, h70]; exact h.fo
  · exact hch
  · rw [h64]; exact h.on
theorem q_Fz_mk (hz : q_Fz (qmx C I) sz) (hC : ∀ p, p ≠ 16 → p ≠ 37 → p ≠ 38 → p ≠ 39 → p ≠ 40 → p ≠ 41 → C' p = C p) (ho : q_Off I I') : q_Fz (qmx C' I') sz := by
  have h14 : qmx C' I' 14 = qmx C I 14 := hC 14 (by decide) (by decide) (by decide) (by decide) (by decide) (by decide)
  have h15 : qmx C' I' 15 = qmx C I 15 := hC 15 (by decide) (by decide) (by decide) (by decide) (by decide) (by decide)
  have h64 : qmx C' I' 64 = qmx C I 64 := ho.r 64 (fun _ => rfl)
  have h69 : qmx C' I' 69 = qmx C I 69 := ho.r 69 (fun _ => rfl)
  have h70 : qmx C' I' 70 = qmx C I 70 := ho.r 70 (fun _ => rfl)
  unfold q_Fz
  rw [h14, h64, h69, h15, h70]
  exact hz
theorem q_Core.chm (h : q_Core (qmx C I) D N cl RM rc) : q_Ch D N (bt (C 3 11)) (qcr C) (I 94) := h.ch
/-- what all devices capture -/
def qG (C I : Nat → Nat → Int32) (D N sz : Nat) (cl : Nat → Nat) (d : Nat) : Int32 := qCpr (qRa N (C 9) (C 10) (qLev (C 42) (qDn C D N)) (C 42 2) (qFa (qmx C I) sz (C 42 2) (I 94 1))) (I 94 (3 + d)) (I 84 d) (cl d) d
def qNr (nz : Int32) (D : Nat) (bits : Int32) (r : Nat → Int32) : Nat → Int32 := if r 2 % 100 < nz ∧ 0 < D ∧ (0 : Int32) < bits then va_up r (11 + (D - 1)) (r (11 + (D - 1)) ^^^ 1) else r
theorem fX12_captures (h : q_Core (qmx C I) D N cl RM rc) (hz : q_Fz (qmx C I) sz) : ∃ I', mX12_captures [.ref 64] (qm I J e) = some (none, qm I' J e) ∧ q_Off I I' ∧ I' 94 = qNr (I 64 52) D (qDb (I 94 (3 + (D - 1))) (I 84 (D - 1)) (I 85 (D - 1))) (va_up (qblk 11 (I 94) (qG C I D N sz cl) D) 2 (qSd (I 94 2))) := by
  have hD := h.d4
  have hN := h.n6
  obtain ⟨d', l', hl1, hl2⟩ := q_lay2 (J := J) (e := e) h
  have o1 : q_Off I (va_up (va_up I 99 d') 100 l') := q_Off_trans (q_Off_va _ rfl _) (q_Off_va _ rfl _)
  have hst : ∀ (n : Nat) (M : Nat → Nat → Int32), n < D → (q_Off I M ∧ M 100 = l' ∧ M 94 = qblk 11 (I 94) (qG C I D N sz cl) n) → ∃ M' : Nat → Nat → Int32, (q_Off I M' ∧ M' 100 = l' ∧ M' 94 = qblk 11 (I 94) (qG C I D N sz cl) (n + 1)) ∧ kX12_captures 6 [some (.ref 64), some (.int (nI n))] [] (qm M J e) = kX12_captures 6 [some (.ref 64), some (.int (nI (n + 1)))] [] (qm M' J e) := by
    intro n M hn ⟨p1, p2, p3⟩
    have h94 : ∀ k, k < 11 ∨ 11 + n ≤ k → M 94 k = I 94 k := fun k hk => by rw [p3]; exact qblk_out hk
    have hch : q_Ch D N (bt (va_up C 40 (fun d => M 94 (11 + d)) 3 11)) (qcr (va_up C 40 (fun d => M 94 (11 + d)))) (M 94) := by
      obtain ⟨c0, c1, c2, c3, -⟩ := h.chm
      refine q_Ch_mk hD hN h.chm (fun k hk => ?_) (fun k hk => h94 k (by omega)) ?_ ?_ ?_ (fun d hd => ?_)
      · rw [show k = 19 + (k - 19) by omega, qcr_19, qcr_19]; rfl
      · rw [h94 0 (by omega)]; exact c0
      · rw [h94 1 (by omega)]; exact c1
      · rw [h94 2 (by omega)]; exact c2
      · obtain ⟨d1, d2, d3, d4, d5⟩ := c3 d hd
        rw [qcr_3 _ (by omega)] at d1
        rw [qcr_7 _ (by omega)] at d2
        rw [qcr_15 _ (by omega)] at d4
        unfold q_Dc
        rw [qcr_3 _ (by omega), qcr_7 _ (by omega), qcr_11 _ (by omega), qcr_15 _ (by omega), h94 (3 + d) (by omega), h94 (7 + d) (by omega), h94 (15 + d) (by omega)]
        refine ⟨d1, d2, ⟨rfl, ?_⟩, d4, ?_⟩
        · by_cases hdn : d < n
          · rw [p3, qblk_in hdn]
            exact (qCpr_b (h.bn.2.2 d hd).2.2.2.2.1 (h.bn.2.2 d hd).2.2.2.2.2.2).1
          · rw [h94 _ (by omega)]; exact d3.2
        · intro z
          by_cases hdn : d < n
          · rw [p3, qblk_in hdn]
            exact (qCpr_b (h.bn.2.2 d hd).2.2.2.2.1 (h.bn.2.2 d hd).2.2.2.2.2.2).2 z
          · rw [h94 _ (by omega)]; exact d5 z
    have hCf : ∀ p, p ≠ 16 → p ≠ 37 → p ≠ 38 → p ≠ 39 → p ≠ 40 → p ≠ 41 → va_up C 40 (fun d => M 94 (11 + d)) p = C p := fun p _ _ _ _ p5 _ => by rw [va_up_at, if_neg p5]
    have hK := q_Core_mk h hCf p1 hch
    obtain ⟨M', m1, m2, m3, m4⟩ := fX12_captured (J := J) (e := e) hK (q_Fz_mk hz hCf p1) (lv := qLev (C 42) (qDn C D N)) (fun n hn => by rw [p2]; exact hl2 n hn) hn
    have hv : qCpr (qRa N (va_up C 40 (fun d => M 94 (11 + d)) 9) (va_up C 40 (fun d => M 94 (11 + d)) 10) (qLev (C 42) (qDn C D N)) (va_up C 40 (fun d => M 94 (11 + d)) 42 2) (qFa (qmx (va_up C 40 (fun d => M 94 (11 + d))) M) sz (va_up C 40 (fun d => M 94 (11 + d)) 42 2) (M 94 1))) (M 94 (3 + n)) (M 84 n) (cl n) n = qG C I D N sz cl n := by
      have hf : ∀ x y, qFa (qmx (va_up C 40 (fun d => M 94 (11 + d))) M) sz x y = qFa (qmx C I) sz x y := by
        intro x y
        unfold qFa
        show qB 24 (fun z => bt x z && qFl (M 69) (M 70) sz (C 12) y z) = qB 24 (fun z => bt x z && qFl (I 69) (I 70) sz (C 12) y z)
        rw [p1.r 69 (fun _ => rfl), p1.r 70 (fun _ => rfl)]
      rw [hf, h94 1 (by omega), h94 (3 + n) (by omega), p1.r 84 (fun _ => rfl)]
      rfl
    rw [hv] at m1
    have k11 : (11 : Int32) + nI n = nI (11 + n) := by rw [show (11 : Int32) = nI 11 from rfl, nI_add]
    refine ⟨va_up M' 94 (va_up (M' 94) (11 + n) (qG C I D N sz cl n)), ⟨?_, ?_, ?_⟩, ?_⟩
    · exact q_Off_trans p1 (q_Off_trans m2 (q_Off_va _ rfl _))
    · rw [← p2, ← m4]; rfl
    · show va_up (M' 94) (11 + n) (qG C I D N sz cl n) = _
      rw [m3, p3]
      exact qblk_next rfl
    · have hM : M 64 50 = nI D := by rw [p1.r 64 (fun _ => rfl)]; exact h.m50
      rw [eX12_captures_6, hM, if_pos (nI_lt hn (by omega)), eX12_captures_14, m1]
      simp only [Option.bind_some, Option.toList_some, Option.toList_none, List.nil_append, List.cons_append, q_ck_tt, Bool.and_true, Bool.true_and, if_true, if_false, reduceCtorEq]
      rw [eX12_captures_27, k11, q_in_nI (show 11 + n < 65 by omega) (by omega), nI_clamp (by omega), nI_1]
      simp only [Option.bind_some, Option.toList_some, Option.toList_none, List.nil_append, List.cons_append, q_ck_tt, Bool.and_true, Bool.true_and, if_true, if_false, reduceCtorEq]
      rfl
  obtain ⟨M, ⟨q1, q2, q3⟩, hq⟩ := q_inv_for (fun n M => kX12_captures 6 [some (.ref 64), some (.int (nI n))] [] (qm M J e)) (fun n M => q_Off I M ∧ M 100 = l' ∧ M 94 = qblk 11 (I 94) (qG C I D N sz cl) n) D hst D 0 (va_up (va_up I 99 d') 100 l') (by omega) ⟨o1, rfl, by rw [qblk_0]; rfl⟩
  have hM : M 64 50 = nI D := by rw [q1.r 64 (fun _ => rfl)]; exact h.m50
  have hM2 : M 64 52 = I 64 52 := by rw [q1.r 64 (fun _ => rfl)]
  have hs2 : M 94 2 = I 94 2 := by rw [q3]; exact qblk_out (by omega)
  have hw : q_up M 94 2 ((M 94 2 * 137 + 71) % 1000) = va_up M 94 (va_up (qblk 11 (I 94) (qG C I D N sz cl) D) 2 (qSd (I 94 2))) := by rw [q_up_va, hs2, q3]; rfl
  generalize hR : va_up (qblk 11 (I 94) (qG C I D N sz cl) D) 2 (qSd (I 94 2)) = R at hw
  have hR3 : R (3 + (D - 1)) = I 94 (3 + (D - 1)) := by
    rw [← hR, va_up_at, if_neg (by omega)]
    exact qblk_out (by omega)
  have hO : q_Off I (va_up M 94 R) := q_Off_trans q1 (q_Off_va _ rfl _)
  rw [bX12_captures, eX12_captures_0, hl1]
  simp only [Option.bind_some, Option.toList_some, Option.toList_none, List.nil_append, List.cons_append, q_ck_tt, Bool.and_true, Bool.true_and, if_true, if_false, reduceCtorEq]
  rw [eX12_captures_4]
  have hfin : ∃ I', kX12_captures 57 [some (.ref 64), none] [] (qm (va_up M 94 R) J e) = some (none, qm I' J e) ∧ q_Off I I' ∧ I' 94 = qNr (I 64 52) D (qDb (I 94 (3 + (D - 1))) (I 84 (D - 1)) (I 85 (D - 1))) R := by
    have e1 : (va_up M 94 R) 94 = R := rfl
    have e2 : (va_up M 94 R) 64 50 = nI D := hM
    have e3 : (va_up M 94 R) 64 52 = I 64 52 := hM2
    rw [eX12_captures_57, e1, e3]
    unfold qNr
    by_cases c1 : R 2 % 100 < I 64 52
    · rw [if_pos c1, eX12_captures_73, e2]
      by_cases c2 : 0 < D
      · have hl : nI D - 1 = nI (D - 1) := nI_1s (by omega)
        have hdb := fX12_dataBits (va_up M 94 R) J e (show D - 1 < 4 by omega)
        rw [e1, hR3, hO.r 84 (fun _ => rfl), hO.r 85 (fun _ => rfl)] at hdb
        rw [if_pos (show (0 : Int32) < nI D from nI_lt (a := 0) c2 (by omega)), eX12_captures_80, e2, hl, hdb]
        simp only [Option.bind_some, Option.toList_some, Option.toList_none, List.nil_append, List.cons_append, q_ck_tt, Bool.and_true, Bool.true_and, if_true, if_false, reduceCtorEq]
        rw [eX12_captures_90]
        by_cases c3 : (0 : Int32) < qDb (I 94 (3 + (D - 1))) (I 84 (D - 1)) (I 85 (D - 1))
        · have k11 : (11 : Int32) + nI D - 1 = nI (11 + (D - 1)) := by rw [show (11 : Int32) = nI 11 from rfl, nI_add, nI_1s (by omega), show 11 + D - 1 = 11 + (D - 1) by omega]
          rw [if_pos c3, if_pos ⟨c1, c2, c3⟩, eX12_captures_93, e2, k11, q_in_nI (show 11 + (D - 1) < 65 by omega) (by omega), nI_clamp (by omega), e1]
          simp only [Option.bind_some, Option.toList_some, Option.toList_none, List.nil_append, List.cons_append, q_ck_tt, Bool.and_true, Bool.true_and, if_true, if_false, reduceCtorEq]
          rw [eX12_captures_111, q_up_up]
          exact ⟨_, rfl, q_Off_trans q1 (q_Off_va _ rfl _), rfl⟩
        · rw [if_neg c3, if_neg (fun c => c3 c.2.2), eX12_captures_111]
          exact ⟨_, rfl, hO, rfl⟩
      · rw [if_neg (fun c => c2 (by
          have := (fa_lt 0 (nI D)).mp c
          rw [nI_toInt (by omega)] at this
          have h0 : (0 : Int32).toInt = 0 := by decide
          rw [h0] at this; omega)), if_neg (fun c => c2 c.2.1), eX12_captures_111]
        exact ⟨_, rfl, hO, rfl⟩
    · rw [if_neg c1, if_neg (fun c => c1 c.1), eX12_captures_111]
      exact ⟨_, rfl, hO, rfl⟩
  obtain ⟨I', f1, f2, f3⟩ := hfin
  refine ⟨I', ?_, f2, f3⟩
  refine Eq.trans hq ?_
  rw [eX12_captures_6, hM, if_neg (nI_nlt (Nat.le_refl _) (by omega)), eX12_captures_34, hw]
  exact f1
end CK
