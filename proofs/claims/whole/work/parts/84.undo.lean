/-! ===== undo, redo ===== -/
section UD
variable {I : Nat → Nat → Int32} {J : Nat → Nat → Int64} {e : QP} {D N : Nat} {cl : Nat → Nat} {RM : Nat} {rc : Nat → Nat}
theorem fX12_exchangeAt {f : Nat} (hf : f + 65 ≤ 2600) : mX12_exchangeAt [.ref 64, .int (nI f)] (qm I J e) = some (none, qm (va_up (va_up I 101 (qblk f (I 101) (I 93) 65)) 93 (fa_fill (fun k => I 101 (f + k)) (I 93) 65)) J e) := by
  have hst : ∀ k, k < 65 → (fun k (K : Nat → Nat → Int32) => kX12_exchangeAt 2 [some (.ref 64), some (.int (nI f)), some (.int (nI k)), none] [] (qm K J e)) k (va_up (va_up I 101 (qblk f (I 101) (I 93) k)) 93 (fa_fill (fun k => I 101 (f + k)) (I 93) k)) = (fun k (K : Nat → Nat → Int32) => kX12_exchangeAt 2 [some (.ref 64), some (.int (nI f)), some (.int (nI k)), none] [] (qm K J e)) (k + 1) (va_up (va_up I 101 (qblk f (I 101) (I 93) (k + 1))) 93 (fa_fill (fun k => I 101 (f + k)) (I 93) (k + 1))) := by
    intro k hk
    show kX12_exchangeAt 2 _ _ _ = kX12_exchangeAt 2 _ _ _
    have h101 : (va_up (va_up I 101 (qblk f (I 101) (I 93) k)) 93 (fa_fill (fun k => I 101 (f + k)) (I 93) k)) 101 (f + k) = I 101 (f + k) := by
      rw [va_miss (by decide), va_hit]; exact qblk_out (by omega)
    have h93 : (va_up (va_up I 101 (qblk f (I 101) (I 93) k)) 93 (fa_fill (fun k => I 101 (f + k)) (I 93) k)) 93 k = I 93 k := by
      rw [va_hit]; exact fa_fill_out (Nat.le_refl _)
    rw [eX12_exchangeAt_2, if_pos (show nI k < (65 : Int32) from nI_lt (b := 65) hk (by decide)), eX12_exchangeAt_8, nI_add, q_in_nI (show f + k < 2600 by omega) (by omega), nI_clamp (show f + k < 2 ^ 31 by omega), h101]
    simp only [Option.bind_some, Option.toList_some, Option.toList_none, List.nil_append, List.cons_append, q_ck_tt, Bool.and_true, Bool.true_and, if_true, if_false, reduceCtorEq]
    rw [eX12_exchangeAt_28, q_in_nI (show f + k < 2600 by omega) (by omega), q_in_nI (show k < 65 by omega) (by omega), nI_clamp (show f + k < 2 ^ 31 by omega), nI_clamp (show k < 2 ^ 31 by omega), h93]
    simp only [Option.bind_some, Option.toList_some, Option.toList_none, List.nil_append, List.cons_append, q_ck_tt, Bool.and_true, Bool.true_and, if_true, if_false, reduceCtorEq]
    rw [nI_1]
    congr 2
    rw [q_up_va, q_up_va, va_miss (show (93 : Nat) ≠ 101 by decide), va_hit, va_miss (show (101 : Nat) ≠ 93 by decide), va_hit, q_m2 I (by decide), qblk_next (g := I 93) rfl, fa_next' (f := fun k => I 101 (f + k)) rfl]
  have hq := q_for (fun k (K : Nat → Nat → Int32) => kX12_exchangeAt 2 [some (.ref 64), some (.int (nI f)), some (.int (nI k)), none] [] (qm K J e)) 65 (fun k => va_up (va_up I 101 (qblk f (I 101) (I 93) k)) 93 (fa_fill (fun k => I 101 (f + k)) (I 93) k)) hst
  rw [qblk_0, fa_fill_0, va_up_eq (f := I) (p := 101) rfl, va_up_eq (f := I) (p := 93) rfl] at hq
  rw [bX12_exchangeAt, eX12_exchangeAt_0]
  refine Eq.trans hq ?_
  show kX12_exchangeAt 2 _ _ _ = _
  rw [eX12_exchangeAt_2, if_neg (show ¬ nI 65 < 65 by decide), eX12_exchangeAt_44]
theorem q_Pa_mv {I I2 : Nat → Nat → Int32} {A : Nat → Bool} (hD : D ≤ 4) (hN : N ≤ 6) {old dn dn' kp : Nat} (h1 : old < 41) (h2 : dn' ≤ kp) (h3 : kp ≤ 40) (hch : ∀ j, j ≤ kp → q_Ch D N A (fun k => I 45 ((old + j) % 41 * 24 + k)) (qst I dn j))
    (g1 : I2 44 1 = nI old) (g2 : I2 44 2 = nI dn') (g3 : I2 44 3 = nI kp) (g45 : I2 45 = I 45) (g68 : I2 64 68 = nI dn') (g69 : I2 64 69 = nI (kp - dn')) (hq : ∀ j, j ≤ kp → ∀ k, k < 65 → qst I2 dn' j k = qst I dn j k) : q_Pa I2 D N A := by
  refine ⟨old, dn', kp, g1, h1, g2, g3, h2, h3, g68, g69, fun j hj => ?_⟩
  rw [g45]
  exact q_Ch_rc hD hN (hch j hj) (hq j hj)
theorem o_undo {rb tx L : Nat} (h : q_Core I D N cl RM rc) (hp : q_Pa I D N (bt (I 3 11))) : q_Act mX11_undo mX12_undo [] I J (3, 17, rb, tx, L) D N cl RM rc := by
  have hD := h.d4
  have hN := h.n6
  have hp' := hp
  obtain ⟨old, dn, kp, p1, p2, p3, p4, p5, p6, p7, p8, p9⟩ := hp
  by_cases h0 : dn = 0
  · subst h0
    have z44 : I 44 2 = 0 := p3
    have z64 : I 64 68 = 0 := p7
    refine ⟨0, I, I, ?_, ?_, h, hp', q_Frm_refl _, q_Frm_refl _⟩
    · simp only [bX11_undo, eX11_undo_0, eX11_undo_11, bX8_goBack, eX8_goBack_0, eX8_goBack_7, eX8_goBack_9, eX8_goBack_32, eX8_goBack_35, z44, Option.bind_some, Option.toList_some, Option.toList_none, List.nil_append, List.cons_append, q_ck_tt, Bool.and_true, Bool.true_and, if_true, if_false, reduceCtorEq, q_10, eq_self, qb_t, qb_f]
      rfl
    · simp only [bX12_undo, eX12_undo_0, eX12_undo_7, eX12_undo_9, eX12_undo_32, eX12_undo_40, z64, Option.bind_some, Option.toList_some, Option.toList_none, List.nil_append, List.cons_append, q_ck_tt, Bool.and_true, Bool.true_and, if_true, if_false, reduceCtorEq, q_10, eq_self, qb_t, qb_f]
  · have hn0 : ¬ nI dn = 0 := nI_ne0 (by omega) (by omega)
    have hm : (old + (dn - 1)) % 41 < 41 := Nat.mod_lt _ (by omega)
    have kd : nI dn - 1 = nI (dn - 1) := nI_1s (by omega)
    obtain ⟨C', l0, l1, l2⟩ := fX1_load_45 (I := va_up I 44 (va_up (I 44) 2 (nI (dn - 1)))) (J := J) (e := (3, 17, rb, tx, L)) (a := (old + (dn - 1)) % 41 * 24) (by omega)
    have hcl : ∀ p, p ≠ 37 → p ≠ 38 → p ≠ 39 → p ≠ 40 → p ≠ 41 → p ≠ 42 → p ≠ 44 → C' p = I p := fun p a b c d f g i => by rw [l2 p a b c d f g, va_miss i]
    have c64 : C' 64 = I 64 := hcl 64 (by decide) (by decide) (by decide) (by decide) (by decide) (by decide) (by decide)
    have c93 : C' 93 = I 93 := hcl 93 (by decide) (by decide) (by decide) (by decide) (by decide) (by decide) (by decide)
    have c101 : C' 101 = I 101 := hcl 101 (by decide) (by decide) (by decide) (by decide) (by decide) (by decide) (by decide)
    have c45 : C' 45 = I 45 := hcl 45 (by decide) (by decide) (by decide) (by decide) (by decide) (by decide) (by decide)
    have c44 : C' 44 = va_up (I 44) 2 (nI (dn - 1)) := by rw [l2 44 (by decide) (by decide) (by decide) (by decide) (by decide) (by decide), va_hit]
    have fC : q_Frm I C' := by
      intro p k a b c d f g i
      rw [hcl p (by omega) (by omega) (by omega) (by omega) (by omega) (by omega) c]
    have hex := fX12_exchangeAt (I := va_up C' 64 (va_up (va_up (C' 64) 68 (nI (dn - 1))) 69 (C' 64 69 + 1))) (J := J) (e := (3, 17, rb, tx, L)) (f := 65 * (dn - 1)) (by omega)
    generalize hI2 : va_up (va_up (va_up C' 64 (va_up (va_up (C' 64) 68 (nI (dn - 1))) 69 (C' 64 69 + 1))) 101 (qblk (65 * (dn - 1)) ((va_up C' 64 (va_up (va_up (C' 64) 68 (nI (dn - 1))) 69 (C' 64 69 + 1))) 101) ((va_up C' 64 (va_up (va_up (C' 64) 68 (nI (dn - 1))) 69 (C' 64 69 + 1))) 93) 65)) 93 (fa_fill (fun k => (va_up C' 64 (va_up (va_up (C' 64) 68 (nI (dn - 1))) 69 (C' 64 69 + 1))) 101 (65 * (dn - 1) + k)) ((va_up C' 64 (va_up (va_up (C' 64) 68 (nI (dn - 1))) 69 (C' 64 69 + 1))) 93) 65) = I2 at hex
    have e93 : ∀ k, k < 65 → I2 93 k = I 101 (65 * (dn - 1) + k) := by
      intro k hk
      rw [← hI2, va_hit, fa_fill_in hk, va_miss (by decide), c101]
    have e101 : I2 101 = qblk (65 * (dn - 1)) (I 101) (I 93) 65 := by
      rw [← hI2, va_miss (by decide), va_hit, va_miss (by decide), va_miss (by decide), c101, c93]
    have e64 : I2 64 = va_up (va_up (I 64) 68 (nI (dn - 1))) 69 (nI (kp - dn) + 1) := by
      rw [← hI2, va_miss (by decide), va_miss (by decide), va_hit, c64, p8]
    have eo : ∀ p, p ≠ 93 → p ≠ 101 → p ≠ 64 → I2 p = C' p := fun p a b c => by rw [← hI2, va_miss a, va_miss b, va_miss c]
    have f2 : q_Frm I I2 := by
      intro p k a b c d f g i
      by_cases hp64 : p = 64
      · obtain ⟨i1, i2⟩ := i hp64
        rw [hp64, e64, va_miss i2, va_miss i1]
      · rw [eo p f g hp64]; exact fC p k a b c d f g i
    have hq : ∀ j, j ≤ kp → ∀ k, k < 65 → qst I2 (dn - 1) j k = qst I dn j k := by
      intro j hj k hk
      unfold qst
      by_cases j1 : j < dn - 1
      · rw [if_pos j1, if_pos (show j < dn by omega), e101]; exact qblk_out (by omega)
      · rw [if_neg j1]
        by_cases j2 : j = dn - 1
        · rw [if_pos j2, if_pos (show j < dn by omega), e93 k hk, j2]
        · rw [if_neg j2, if_neg (show ¬ j < dn by omega), e101]
          by_cases j3 : j = dn
          · rw [if_pos j3, j3]; exact qblk_in hk
          · rw [if_neg j3]; exact qblk_out (by omega)
    have h311 : I2 3 11 = I 3 11 := f2 3 11 rfl (by omega) (by decide) (by decide) (by decide) (by decide) (by intro c; cases c)
    have hqc : qcr I2 = qcr C' := by
      funext k
      unfold qcr
      rw [eo 37 (by decide) (by decide) (by decide), eo 38 (by decide) (by decide) (by decide), eo 39 (by decide) (by decide) (by decide), eo 40 (by decide) (by decide) (by decide), eo 41 (by decide) (by decide) (by decide), eo 42 (by decide) (by decide) (by decide)]
    have hch : q_Ch D N (bt (I 3 11)) (qcr C') (I2 93) := by
      refine q_Ch_rc hD hN (q_Ch_cc hD (p9 (dn - 1) (by omega)) (fun k hk => ?_)) (fun k hk => ?_)
      · rw [l1 k hk, va_miss (by decide)]
      · rw [e93 k hk]; unfold qst; rw [if_pos (show dn - 1 < dn by omega)]
    refine ⟨1, C', I2, ?_, ?_, q_Core_eq h f2 (by rw [h311, hqc]; exact hch), ?_, fC, f2⟩
    · rw [bX11_undo, eX11_undo_0, bX8_goBack, eX8_goBack_0, p3, if_neg hn0, eX8_goBack_9, p3, kd, q_up_va, fX8_rowAt (old := old) (n := dn - 1) (by exact p1) p2 (by omega)]
      simp only [Option.bind_some, Option.toList_some, Option.toList_none, List.nil_append, List.cons_append, q_ck_tt, Bool.and_true, Bool.true_and, if_true, if_false, reduceCtorEq]
      rw [eX8_goBack_32, l0]
      simp only [Option.bind_some, Option.toList_some, Option.toList_none, List.nil_append, List.cons_append, q_ck_tt, Bool.and_true, Bool.true_and, if_true, if_false, reduceCtorEq]
      rw [eX8_goBack_35]
      simp only [Option.bind_some, Option.toList_some, Option.toList_none, List.nil_append, List.cons_append, q_ck_tt, Bool.and_true, Bool.true_and, if_true, if_false, reduceCtorEq]
      rw [eX11_undo_11]
      rfl
    · have hk1 : (65 : Int32) * nI (dn - 1) = nI (65 * (dn - 1)) := by rw [show (65 : Int32) = nI 65 from rfl, pk_mul]
      rw [bX12_undo, eX12_undo_0, c64, p7, if_neg hn0, eX12_undo_9, c64, p7, kd]
      simp only [q_up_va, va_up_up, va_hit]
      rw [eX12_undo_32]
      simp only [va_hit]
      rw [va_miss (show (68 : Nat) ≠ 69 by decide), va_hit, hk1]
      rw [c64] at hex
      rw [c64, hex]
      simp only [Option.bind_some, Option.toList_some, Option.toList_none, List.nil_append, List.cons_append, q_ck_tt, Bool.and_true, Bool.true_and, if_true, if_false, reduceCtorEq]
      rw [eX12_undo_40]
    · rw [h311]
      refine q_Pa_mv (I := I) hD hN p2 (show dn - 1 ≤ kp by omega) p6 p9 ?_ ?_ ?_ ?_ ?_ ?_ hq
      · rw [eo 44 (by decide) (by decide) (by decide), c44, va_miss (by decide)]; exact p1
      · rw [eo 44 (by decide) (by decide) (by decide), c44, va_hit]
      · rw [eo 44 (by decide) (by decide) (by decide), c44, va_miss (by decide)]; exact p4
      · rw [eo 45 (by decide) (by decide) (by decide), c45]
      · rw [e64, va_miss (by decide), va_hit]
      · rw [e64, va_hit, nI_1, show kp - dn + 1 = kp - (dn - 1) by omega]
end UD
