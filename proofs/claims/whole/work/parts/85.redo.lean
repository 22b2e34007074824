/-! ===== redo, boxes ===== -/
section RE
variable {I : Nat → Nat → Int32} {J : Nat → Nat → Int64} {e : QP} {D N : Nat} {cl : Nat → Nat} {RM : Nat} {rc : Nat → Nat}
theorem o_redo {rb tx L : Nat} (h : q_Core I D N cl RM rc) (hp : q_Pa I D N (bt (I 3 11))) : q_Act mX11_redo mX12_redo [] I J (3, 17, rb, tx, L) D N cl RM rc := by
  have hD := h.d4
  have hN := h.n6
  have hp' := hp
  obtain ⟨old, dn, kp, p1, p2, p3, p4, p5, p6, p7, p8, p9⟩ := hp
  by_cases h0 : dn = kp
  · subst h0
    have z64 : I 64 69 = 0 := by rw [p8, Nat.sub_self]; rfl
    refine ⟨0, I, I, ?_, ?_, h, hp', q_Frm_refl _, q_Frm_refl _⟩
    · simp only [bX11_redo, eX11_redo_0, eX11_redo_11, bX8_goOn, eX8_goOn_0, eX8_goOn_11, eX8_goOn_13, eX8_goOn_36, eX8_goOn_39, p3, p4, Option.bind_some, Option.toList_some, Option.toList_none, List.nil_append, List.cons_append, q_ck_tt, Bool.and_true, Bool.true_and, if_true, if_false, reduceCtorEq, q_10, eq_self, qb_t, qb_f]
      rfl
    · simp only [bX12_redo, eX12_redo_0, eX12_redo_7, eX12_redo_9, eX12_redo_20, z64, Option.bind_some, Option.toList_some, Option.toList_none, List.nil_append, List.cons_append, q_ck_tt, Bool.and_true, Bool.true_and, if_true, if_false, reduceCtorEq, q_10, eq_self, qb_t, qb_f]
  · have hn0 : ¬ nI dn = nI kp := fun c => h0 (nI_inj (by omega) (by omega) c)
    have hn1 : ¬ nI (kp - dn) = 0 := nI_ne0 (by omega) (by omega)
    have hm : (old + (dn + 1)) % 41 < 41 := Nat.mod_lt _ (by omega)
    have kd : nI dn + 1 = nI (dn + 1) := nI_1 dn
    obtain ⟨C', l0, l1, l2⟩ := fX1_load_45 (I := va_up I 44 (va_up (I 44) 2 (nI (dn + 1)))) (J := J) (e := (3, 17, rb, tx, L)) (a := (old + (dn + 1)) % 41 * 24) (by omega)
    have hcl : ∀ p, p ≠ 37 → p ≠ 38 → p ≠ 39 → p ≠ 40 → p ≠ 41 → p ≠ 42 → p ≠ 44 → C' p = I p := fun p a b c d f g i => by rw [l2 p a b c d f g, va_miss i]
    have c64 : C' 64 = I 64 := hcl 64 (by decide) (by decide) (by decide) (by decide) (by decide) (by decide) (by decide)
    have c93 : C' 93 = I 93 := hcl 93 (by decide) (by decide) (by decide) (by decide) (by decide) (by decide) (by decide)
    have c101 : C' 101 = I 101 := hcl 101 (by decide) (by decide) (by decide) (by decide) (by decide) (by decide) (by decide)
    have c45 : C' 45 = I 45 := hcl 45 (by decide) (by decide) (by decide) (by decide) (by decide) (by decide) (by decide)
    have c44 : C' 44 = va_up (I 44) 2 (nI (dn + 1)) := by rw [l2 44 (by decide) (by decide) (by decide) (by decide) (by decide) (by decide), va_hit]
    have fC : q_Frm I C' := by
      intro p k a b c d f g i
      rw [hcl p (by omega) (by omega) (by omega) (by omega) (by omega) (by omega) c]
    have hex := fX12_exchangeAt (I := C') (J := J) (e := (3, 17, rb, tx, L)) (f := 65 * dn) (by omega)
    have h68 : va_up (va_up C' 101 (qblk (65 * dn) (C' 101) (C' 93) 65)) 93 (fa_fill (fun k => C' 101 (65 * dn + k)) (C' 93) 65) 64 = I 64 := by rw [va_miss (by decide), va_miss (by decide), c64]
    generalize hI2 : va_up (va_up (va_up C' 101 (qblk (65 * dn) (C' 101) (C' 93) 65)) 93 (fa_fill (fun k => C' 101 (65 * dn + k)) (C' 93) 65)) 64 (va_up (va_up (I 64) 68 (nI (dn + 1))) 69 (nI (kp - dn) - 1)) = I2
    have e93 : ∀ k, k < 65 → I2 93 k = I 101 (65 * dn + k) := by
      intro k hk
      rw [← hI2, va_miss (by decide), va_hit, fa_fill_in hk, c101]
    have e101 : I2 101 = qblk (65 * dn) (I 101) (I 93) 65 := by
      rw [← hI2, va_miss (by decide), va_miss (by decide), va_hit, c101, c93]
    have e64 : I2 64 = va_up (va_up (I 64) 68 (nI (dn + 1))) 69 (nI (kp - dn) - 1) := by rw [← hI2, va_hit]
    have eo : ∀ p, p ≠ 93 → p ≠ 101 → p ≠ 64 → I2 p = C' p := fun p a b c => by rw [← hI2, va_miss c, va_miss a, va_miss b]
    have f2 : q_Frm I I2 := by
      intro p k a b c d f g i
      by_cases hp64 : p = 64
      · obtain ⟨i1, i2⟩ := i hp64
        rw [hp64, e64, va_miss i2, va_miss i1]
      · rw [eo p f g hp64]; exact fC p k a b c d f g i
    have hq : ∀ j, j ≤ kp → ∀ k, k < 65 → qst I2 (dn + 1) j k = qst I dn j k := by
      intro j hj k hk
      unfold qst
      by_cases j1 : j < dn
      · rw [if_pos j1, if_pos (show j < dn + 1 by omega), e101]; exact qblk_out (by omega)
      · rw [if_neg j1]
        by_cases j2 : j = dn
        · rw [if_pos j2, if_pos (show j < dn + 1 by omega), e101, j2]; exact qblk_in hk
        · rw [if_neg j2, if_neg (show ¬ j < dn + 1 by omega)]
          by_cases j3 : j = dn + 1
          · rw [if_pos j3, e93 k hk, j3, Nat.add_sub_cancel]
          · rw [if_neg j3, e101]; exact qblk_out (by omega)
    have h311 : I2 3 11 = I 3 11 := f2 3 11 rfl (by omega) (by decide) (by decide) (by decide) (by decide) (by intro c; cases c)
    have hqc : qcr I2 = qcr C' := by
      funext k
      unfold qcr
      rw [eo 37 (by decide) (by decide) (by decide), eo 38 (by decide) (by decide) (by decide), eo 39 (by decide) (by decide) (by decide), eo 40 (by decide) (by decide) (by decide), eo 41 (by decide) (by decide) (by decide), eo 42 (by decide) (by decide) (by decide)]
    have hch : q_Ch D N (bt (I 3 11)) (qcr C') (I2 93) := by
      refine q_Ch_rc hD hN (q_Ch_cc hD (p9 (dn + 1) (by omega)) (fun k hk => ?_)) (fun k hk => ?_)
      · rw [l1 k hk, va_miss (by decide)]
      · rw [e93 k hk]; unfold qst; rw [if_neg (show ¬ dn + 1 < dn by omega), if_neg (show ¬ dn + 1 = dn by omega), Nat.add_sub_cancel]
    refine ⟨1, C', I2, ?_, ?_, q_Core_eq h f2 (by rw [h311, hqc]; exact hch), ?_, fC, f2⟩
    · rw [bX11_redo, eX11_redo_0, bX8_goOn, eX8_goOn_0, p3, p4, if_neg hn0, eX8_goOn_13, p3, kd, q_up_va, fX8_rowAt (old := old) (n := dn + 1) (by exact p1) p2 (by omega)]
      simp only [Option.bind_some, Option.toList_some, Option.toList_none, List.nil_append, List.cons_append, q_ck_tt, Bool.and_true, Bool.true_and, if_true, if_false, reduceCtorEq]
      rw [eX8_goOn_36, l0]
      simp only [Option.bind_some, Option.toList_some, Option.toList_none, List.nil_append, List.cons_append, q_ck_tt, Bool.and_true, Bool.true_and, if_true, if_false, reduceCtorEq]
      rw [eX8_goOn_39]
      simp only [Option.bind_some, Option.toList_some, Option.toList_none, List.nil_append, List.cons_append, q_ck_tt, Bool.and_true, Bool.true_and, if_true, if_false, reduceCtorEq]
      rw [eX11_redo_11]
      rfl
    · have hk1 : (65 : Int32) * nI dn = nI (65 * dn) := by rw [show (65 : Int32) = nI 65 from rfl, pk_mul]
      rw [bX12_redo, eX12_redo_0, c64, p8, if_neg hn1, eX12_redo_9, c64, p7, hk1, hex]
      simp only [Option.bind_some, Option.toList_some, Option.toList_none, List.nil_append, List.cons_append, q_ck_tt, Bool.and_true, Bool.true_and, if_true, if_false, reduceCtorEq]
      rw [eX12_redo_20]
      simp only [q_up_va, va_up_up, va_hit, h68, p7, p8, kd]
      rw [← hI2]
    · rw [h311]
      refine q_Pa_mv (I := I) hD hN p2 (show dn + 1 ≤ kp by omega) p6 p9 ?_ ?_ ?_ ?_ ?_ ?_ hq
      · rw [eo 44 (by decide) (by decide) (by decide), c44, va_miss (by decide)]; exact p1
      · rw [eo 44 (by decide) (by decide) (by decide), c44, va_hit]
      · rw [eo 44 (by decide) (by decide) (by decide), c44, va_miss (by decide)]; exact p4
      · rw [eo 45 (by decide) (by decide) (by decide), c45]
      · rw [e64, va_miss (by decide), va_hit]
      · rw [e64, va_hit, nI_1s (by omega), show kp - dn - 1 = kp - (dn + 1) by omega]
end RE
