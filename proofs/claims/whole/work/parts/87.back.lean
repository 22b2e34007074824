/-! ===== back ===== -/
section BK
variable {I : Nat → Nat → Int32} {J : Nat → Nat → Int64} {e : QP} {D N : Nat} {cl : Nat → Nat} {RM : Nat} {rc : Nat → Nat}
theorem fX8_forget : mX8_forget [.ref 44, .ref 37] (qm I J e) = some (none, qm (va_up (va_up I 44 (va_up (va_up (va_up (I 44) 1 0) 2 0) 3 0)) 45 (qblk 0 (I 45) (qcr I) 24)) J e) := by
  rw [bX8_forget, eX8_forget_0]
  simp only [q_up_va, va_up_up, va_hit]
  rw [eX8_forget_22, show (0 : Int32) = nI 0 from rfl, fX8_rowAt (old := 0) (n := 0) (by rfl) (by omega) (by omega)]
  simp only [Option.bind_some, Option.toList_some, Option.toList_none, List.nil_append, List.cons_append, q_ck_tt, Bool.and_true, Bool.true_and, if_true, if_false, reduceCtorEq]
  rw [eX8_forget_25, show (0 + 0) % 41 * 24 = 0 from rfl, fX1_save_45 (by omega)]
  simp only [Option.bind_some, Option.toList_some, Option.toList_none, List.nil_append, List.cons_append, q_ck_tt, Bool.and_true, Bool.true_and, if_true, if_false, reduceCtorEq]
  rw [eX8_forget_28]
  rfl
/-- nothing was done -/
theorem q_Pa_0 {I2 : Nat → Nat → Int32} {A : Nat → Bool} {c : Nat → Int32} {f : Nat → Int32} (hD : D ≤ 4) (g1 : I2 44 1 = 0) (g2 : I2 44 2 = 0) (g3 : I2 44 3 = 0) (g45 : I2 45 = qblk 0 f c 24) (g68 : I2 64 68 = 0) (g69 : I2 64 69 = 0) (hch : q_Ch D N A c (I2 93)) : q_Pa I2 D N A := by
  refine ⟨0, 0, 0, g1, by omega, g2, g3, Nat.le_refl _, by omega, g68, g69, fun j hj => ?_⟩
  have : j = 0 := by omega
  subst this
  have hr : qst I2 0 0 = I2 93 := by funext k; unfold qst; rw [if_neg (Nat.lt_irrefl 0), if_pos rfl]
  rw [hr]
  refine q_Ch_cc hD hch (fun k hk => ?_)
  rw [g45]
  exact qblk_in (b := 0) hk
theorem o_back {rb tx L : Nat} (h : q_Core I D N cl RM rc) (hp : q_Pa I D N (bt (I 3 11))) (hb : q_Bx I D N (bt (I 3 11))) (a : Int32) : q_Act mX11_back mX12_back [.int a] I J (3, 17, rb, tx, L) D N cl RM rc := by
  have hD := h.d4
  have hN := h.n6
  have h10 : ¬ ((1 : Int32) = 0) := by decide
  cases hq : q_in a 3 with
  | false =>
    have hq2 := hq
    rw [q_inP a (show (3 : Nat) < 2 ^ 30 by omega), show nI 3 = (3 : Int32) from rfl] at hq2
    refine ⟨-1, I, I, ?_, ?_, h, hp, q_Frm_refl _, q_Frm_refl _⟩
    · simp only [bX11_back, eX11_back_0, eX11_back_12, eX11_back_15, eX11_back_17, eX11_back_28, bX8_takeFromBox, eX8_takeFromBox_0, eX8_takeFromBox_18, eX8_takeFromBox_4, eX8_takeFromBox_9, eX8_takeFromBox_20, eX8_takeFromBox_32]
      by_cases h1 : a < 0
      · simp only [if_pos h1, Option.bind_some, Option.toList_some, Option.toList_none, List.nil_append, List.cons_append, q_ck_tt, Bool.and_true, Bool.true_and, if_true, if_false, reduceCtorEq, q_10, eq_self, qb_t, qb_f, eX11_back_0, eX11_back_12, eX11_back_15, eX11_back_17, eX11_back_28]
      · have h2 : ¬ a < 3 := fun c => by rw [decide_eq_false h1, decide_eq_true c] at hq2; cases hq2
        simp only [if_neg h1, if_neg h2, Option.bind_some, Option.toList_some, Option.toList_none, List.nil_append, List.cons_append, q_ck_tt, Bool.and_true, Bool.true_and, if_true, if_false, reduceCtorEq, q_10, eq_self, qb_t, qb_f, eX11_back_0, eX11_back_12, eX11_back_15, eX11_back_17, eX11_back_28]
    · simp only [bX12_back, eX12_back_0, eX12_back_4, eX12_back_16, eX12_back_7, eX12_back_18, eX12_back_26, eX12_back_49, fX12_isBox, hq, Option.bind_some, Option.toList_some, Option.toList_none, List.nil_append, List.cons_append, q_ck_tt, Bool.and_true, Bool.true_and, if_true, if_false, reduceCtorEq, q_10, eq_self, qb_t, qb_f]
  | true =>
    obtain ⟨b, hb3, rfl, hb31⟩ := q_in_of hq
    have k24 : nI b * 24 = nI (b * 24) := by rw [show (24 : Int32) = nI 24 from rfl, pk_mul]
    have hl3 : nI b < (3 : Int32) := nI_lt (b := 3) hb3 (by decide)
    rcases hb b hb3 with ⟨e1, e2⟩ | ⟨e1, e2, e3⟩
    · refine ⟨-1, I, I, ?_, ?_, h, hp, q_Frm_refl _, q_Frm_refl _⟩
      · rw [bX11_back, eX11_back_0, bX8_takeFromBox, eX8_takeFromBox_0, if_neg (nI_pos hb31), eX8_takeFromBox_4, if_pos hl3, eX8_takeFromBox_9, hq, nI_clamp hb31, if_pos e1, eX8_takeFromBox_18]
        simp only [Option.bind_some, Option.toList_some, Option.toList_none, List.nil_append, List.cons_append, q_ck_tt, Bool.and_true, Bool.true_and, if_true, if_false, reduceCtorEq]
        rw [eX11_back_12, if_pos rfl, eX11_back_15]
      · rw [bX12_back, eX12_back_0, fX12_isBox, hq]
        simp only [Option.bind_some, Option.toList_some, Option.toList_none, List.nil_append, List.cons_append, q_ck_tt, Bool.and_true, Bool.true_and, if_true, if_false, reduceCtorEq]
        rw [eX12_back_4, qb_t, if_neg h10, eX12_back_7, hq, nI_clamp hb31, if_pos e2, eX12_back_16]
        simp only [Option.bind_some, Option.toList_some, Option.toList_none, List.nil_append, List.cons_append, q_ck_tt, Bool.and_true, Bool.true_and, if_true, if_false, reduceCtorEq]
    · obtain ⟨C', l0, l1, l2⟩ := fX1_load_46 (I := I) (J := J) (e := (3, 17, rb, tx, L)) (a := b * 24) (by omega)
      have hfg := fX8_forget (I := C') (J := J) (e := (3, 17, rb, tx, L))
      generalize hI1 : va_up (va_up C' 44 (va_up (va_up (va_up (C' 44) 1 0) 2 0) 3 0)) 45 (qblk 0 (C' 45) (qcr C') 24) = I1 at hfg
      have i1o : ∀ p, p ≠ 44 → p ≠ 45 → I1 p = C' p := fun p p1 p2 => by rw [← hI1, va_miss p2, va_miss p1]
      have i1a : ∀ p, p ≠ 37 → p ≠ 38 → p ≠ 39 → p ≠ 40 → p ≠ 41 → p ≠ 42 → p ≠ 44 → p ≠ 45 → I1 p = I p := fun p a b c d f g i j => by rw [i1o p i j, l2 p a b c d f g]
      have i93 : I1 93 = I 93 := i1a 93 (by decide) (by decide) (by decide) (by decide) (by decide) (by decide) (by decide) (by decide)
      have i113 : I1 113 = I 113 := i1a 113 (by decide) (by decide) (by decide) (by decide) (by decide) (by decide) (by decide) (by decide)
      have i112 : I1 112 = I 112 := i1a 112 (by decide) (by decide) (by decide) (by decide) (by decide) (by decide) (by decide) (by decide)
      have i64 : I1 64 = I 64 := i1a 64 (by decide) (by decide) (by decide) (by decide) (by decide) (by decide) (by decide) (by decide)
      have f1 : q_Frm I I1 := by
        intro p k a b c d f g i
        rw [i1a p (by omega) (by omega) (by omega) (by omega) (by omega) (by omega) c d]
      have hst : ∀ k, k < 65 → (fun k (K : Nat → Nat → Int32) => kX12_back 20 [some (.ref 64), some (.int (nI b)), some (.int (nI k))] [] (qm K J (3, 17, rb, tx, L))) k (va_up I1 93 (fa_fill (fun k => I 113 (65 * b + k)) (I1 93) k)) = (fun k (K : Nat → Nat → Int32) => kX12_back 20 [some (.ref 64), some (.int (nI b)), some (.int (nI k))] [] (qm K J (3, 17, rb, tx, L))) (k + 1) (va_up I1 93 (fa_fill (fun k => I 113 (65 * b + k)) (I1 93) (k + 1))) := by
        intro k hk
        show kX12_back 20 _ _ _ = kX12_back 20 _ _ _
        have h113 : (va_up I1 93 (fa_fill (fun k => I 113 (65 * b + k)) (I1 93) k)) 113 (65 * b + k) = I 113 (65 * b + k) := by rw [va_miss (by decide), i113]
        have hi : (65 : Int32) * nI b + nI k = nI (65 * b + k) := by rw [show (65 : Int32) = nI 65 from rfl, pk_mul, nI_add]
        rw [eX12_back_20, if_pos (show nI k < (65 : Int32) from nI_lt (b := 65) hk (by decide)), eX12_back_26, hi, q_in_nI (show 65 * b + k < 195 by omega) (by omega), q_in_nI (show k < 65 by omega) (by omega), nI_clamp (show 65 * b + k < 2 ^ 31 by omega), nI_clamp (show k < 2 ^ 31 by omega), h113]
        simp only [Option.bind_some, Option.toList_some, Option.toList_none, List.nil_append, List.cons_append, q_ck_tt, Bool.and_true, Bool.true_and, if_true, if_false, reduceCtorEq]
        rw [nI_1, q_up_up, fa_next' (f := fun k => I 113 (65 * b + k)) rfl]
      have hf := q_for (fun k (K : Nat → Nat → Int32) => kX12_back 20 [some (.ref 64), some (.int (nI b)), some (.int (nI k))] [] (qm K J (3, 17, rb, tx, L))) 65 (fun k => va_up I1 93 (fa_fill (fun k => I 113 (65 * b + k)) (I1 93) k)) hst
      rw [fa_fill_0, va_up_eq (f := I1) (p := 93) rfl] at hf
      generalize hI2 : va_up (va_up I1 93 (fa_fill (fun k => I 113 (65 * b + k)) (I1 93) 65)) 64 (va_up (va_up (I 64) 68 0) 69 0) = I2
      have i2o : ∀ p, p ≠ 93 → p ≠ 64 → I2 p = I1 p := fun p p1 p2 => by rw [← hI2, va_miss p2, va_miss p1]
      have e93 : ∀ k, k < 65 → I2 93 k = I 113 (65 * b + k) := fun k hk => by rw [← hI2, va_miss (by decide), va_hit, fa_fill_in hk]
      have e64 : I2 64 = va_up (va_up (I 64) 68 0) 69 0 := by rw [← hI2, va_hit]
      have f2 : q_Frm I I2 := by
        intro p k a b c d f g i
        by_cases hp64 : p = 64
        · obtain ⟨i1, i2⟩ := i hp64
          rw [hp64, e64, va_miss i2, va_miss i1]
        · rw [i2o p f hp64]; exact f1 p k a b c d f g i
      have h311 : I2 3 11 = I 3 11 := f2 3 11 rfl (by omega) (by decide) (by decide) (by decide) (by decide) (by intro c; cases c)
      have hqc : qcr I2 = qcr C' := by
        funext k
        unfold qcr
        rw [i2o 37 (by decide) (by decide), i2o 38 (by decide) (by decide), i2o 39 (by decide) (by decide), i2o 40 (by decide) (by decide), i2o 41 (by decide) (by decide), i2o 42 (by decide) (by decide), i1o 37 (by decide) (by decide), i1o 38 (by decide) (by decide), i1o 39 (by decide) (by decide), i1o 40 (by decide) (by decide), i1o 41 (by decide) (by decide), i1o 42 (by decide) (by decide)]
      have hch : q_Ch D N (bt (I 3 11)) (qcr C') (I2 93) := q_Ch_rc hD hN (q_Ch_cc hD e3 (fun k hk => l1 k hk)) (fun k hk => e93 k hk)
      have hst0 : I2 93 0 = I1 37 0 := by
        rw [← hch.1.1, i1o 37 (by decide) (by decide)]; rfl
      refine ⟨I1 37 0, I1, I2, ?_, ?_, q_Core_eq h f2 (by rw [h311, hqc]; exact hch), ?_, f1, f2⟩
      · rw [bX11_back, eX11_back_0, bX8_takeFromBox, eX8_takeFromBox_0, if_neg (nI_pos hb31), eX8_takeFromBox_4, if_pos hl3, eX8_takeFromBox_9, hq, nI_clamp hb31, if_neg (by rw [e1]; exact h10), eX8_takeFromBox_20, k24, l0]
        simp only [Option.bind_some, Option.toList_some, Option.toList_none, List.nil_append, List.cons_append, q_ck_tt, Bool.and_true, Bool.true_and, if_true, if_false, reduceCtorEq]
        rw [eX8_takeFromBox_32]
        simp only [Option.bind_some, Option.toList_some, Option.toList_none, List.nil_append, List.cons_append, q_ck_tt, Bool.and_true, Bool.true_and, if_true, if_false, reduceCtorEq]
        rw [eX11_back_12, if_neg h10, eX11_back_17, hfg]
        simp only [Option.bind_some, Option.toList_some, Option.toList_none, List.nil_append, List.cons_append, q_ck_tt, Bool.and_true, Bool.true_and, if_true, if_false, reduceCtorEq]
        rw [eX11_back_28]
      · rw [bX12_back, eX12_back_0, fX12_isBox, hq]
        simp only [Option.bind_some, Option.toList_some, Option.toList_none, List.nil_append, List.cons_append, q_ck_tt, Bool.and_true, Bool.true_and, if_true, if_false, reduceCtorEq]
        rw [eX12_back_4, qb_t, if_neg h10, eX12_back_7, hq, nI_clamp hb31, i112, if_neg (by rw [e2]; exact h10), eX12_back_18]
        simp only [Option.bind_some, Option.toList_some, Option.toList_none, List.nil_append, List.cons_append, q_ck_tt, Bool.and_true, Bool.true_and, if_true, if_false, reduceCtorEq]
        refine Eq.trans hf ?_
        show kX12_back 20 _ _ _ = _
        rw [eX12_back_20, if_neg (show ¬ nI 65 < 65 by decide), eX12_back_49]
        have hw : q_up (q_up (va_up I1 93 (fa_fill (fun k => I 113 (65 * b + k)) (I1 93) 65)) 64 68 0) 64 69 0 = I2 := by
          rw [← hI2]
          simp only [q_up_va, va_up_up, va_hit]
          rw [va_miss (show (64 : Nat) ≠ 93 by decide), i64]
        rw [hw]
        have h93 : va_up I1 93 (fa_fill (fun k => I 113 (65 * b + k)) (I1 93) 65) 93 0 = I1 37 0 := by rw [← hst0, e93 0 (by omega), va_hit, fa_fill_in (by omega)]
        rw [h93]
      · rw [h311]
        refine q_Pa_0 (c := qcr C') (f := C' 45) hD ?_ ?_ ?_ ?_ ?_ ?_ hch
        · rw [i2o 44 (by decide) (by decide), ← hI1]; rfl
        · rw [i2o 44 (by decide) (by decide), ← hI1]; rfl
        · rw [i2o 44 (by decide) (by decide), ← hI1]; rfl
        · rw [i2o 45 (by decide) (by decide), ← hI1, va_hit]
        · rw [e64, va_miss (by decide), va_hit]
        · rw [e64, va_hit]
end BK
