/-! ===== the tape, the time ===== -/
theorem b_i8 (x : Int32) {i : Nat} (hi : i < 8) : bt (x.toInt8.toInt32) i = bt x i := by
  unfold bt
  rw [Int8.toBitVec_toInt32, Int32.toBitVec_toInt8, BitVec.getLsbD_signExtend, decide_eq_true (show i < 32 by omega), Bool.true_and, if_pos hi, BitVec.getLsbD_signExtend, decide_eq_true hi, Bool.true_and, if_pos (show i < 32 by omega)]
theorem q_byte (x : Int32) : x.toInt8.toInt32 &&& 255 = x &&& 255 := by
  apply b_ext
  intro i hi
  rw [b_and, b_and, b_255]
  by_cases h : i < 8
  · rw [b_i8 x h]
  · rw [decide_eq_false h, Bool.and_false, Bool.and_false]
/-- what lies in the class's row, in the reference's -/
def q_Tr (f g : Nat → Int32) (t : Nat) : Prop := ∀ k, k < t → g k = f k &&& 255 ∧ f k = (f k).toInt8.toInt32
def qsf (j : Nat) : Int32 := ([24, 16, 8, 0, -8] : List Int32).getD j 0
theorem qsf_t : ∀ j, j < 4 → ¬ qsf j < 0 ∧ qsf j + (-8) = qsf (j + 1) := by decide +kernel
def qfc (v : Int32) (j : Nat) : Int32 := vp_nar .byte ((v >>> (qsf j &&& 31)).toInt8.toInt32)
def qfr (v : Int32) (j : Nat) : Int32 := (v >>> (qsf j &&& 31)) &&& 255
theorem qfc_e (v : Int32) (j : Nat) : qfc v j = (v >>> (qsf j &&& 31)).toInt8.toInt32 := by
  show ((v >>> (qsf j &&& 31)).toInt8.toInt32).toInt8.toInt32 = _
  rw [Int8.toInt8_toInt32]
theorem q_Tr_4 {f g : Nat → Int32} {t : Nat} (h : q_Tr f g t) (v : Int32) : q_Tr (qblk t f (qfc v) 4) (qblk t g (qfr v) 4) (t + 4) := by
  intro k hk
  by_cases h1 : k < t
  · rw [qblk_out (by omega), qblk_out (by omega)]; exact h k h1
  · obtain ⟨j, rfl⟩ : ∃ j, k = t + j := ⟨k - t, by omega⟩
    rw [qblk_in (by omega), qblk_in (by omega), qfc_e]
    refine ⟨?_, ?_⟩
    · rw [q_byte]; rfl
    · rw [Int8.toInt8_toInt32]
section TP
variable {I : Nat → Nat → Int32} {J : Nat → Nat → Int64} {e : QP} {rb tx L : Nat}
theorem fX11_putFour {t : Nat} (ht : t + 4 ≤ 1600) (hI : I 1 1 = nI t) (v : Int32) : mX11_putFour [.ref 1, .int v] (qm I J (3, 17, rb, tx, L)) = some (none, qm (va_up (va_up I 2 (qblk t (I 2) (qfc v) 4)) 1 (va_up (I 1) 1 (nI (t + 4)))) J (3, 17, rb, tx, L)) := by
  have hst : ∀ j, j < 4 → (fun j (K : Nat → Nat → Int32) => kX11_putFour 3 [some (.ref 1), some (.int v), some (.int (qsf j))] [] (qm K J (3, 17, rb, tx, L))) j (va_up (va_up I 2 (qblk t (I 2) (qfc v) j)) 1 (va_up (I 1) 1 (nI (t + j)))) = (fun j (K : Nat → Nat → Int32) => kX11_putFour 3 [some (.ref 1), some (.int v), some (.int (qsf j))] [] (qm K J (3, 17, rb, tx, L))) (j + 1) (va_up (va_up I 2 (qblk t (I 2) (qfc v) (j + 1))) 1 (va_up (I 1) 1 (nI (t + (j + 1))))) := by
    intro j hj
    show kX11_putFour 3 _ _ _ = kX11_putFour 3 _ _ _
    obtain ⟨q1, q2⟩ := qsf_t j hj
    have h1 : (va_up (va_up I 2 (qblk t (I 2) (qfc v) j)) 1 (va_up (I 1) 1 (nI (t + j)))) 1 1 = nI (t + j) := by rw [va_hit, va_hit]
    rw [eX11_putFour_3, if_neg q1, eX11_putFour_7, h1, if_pos (show nI (t + j) < (1600 : Int32) from nI_lt (b := 1600) (by omega) (by decide)), eX11_putFour_17, h1, q_in_nI (show t + j < 1600 by omega) (by omega), nI_clamp (show t + j < 2 ^ 31 by omega), nI_1]
    simp only [Option.bind_some, Option.toList_some, Option.toList_none, List.nil_append, List.cons_append, q_ck_tt, Bool.and_true, Bool.true_and, if_true, if_false, reduceCtorEq]
    rw [eX11_putFour_37, eX11_putFour_43, q2]
    congr 2
    rw [q_up_va, q_up_va, va_miss (show (1 : Nat) ≠ 2 by decide), va_hit, va_miss (show (2 : Nat) ≠ 1 by decide), va_hit, q_m2 I (by decide), va_up_up, qblk_next (g := qfc v) (x := vp_nar .byte ((v >>> (qsf j &&& 31)).toInt8.toInt32)) rfl, Nat.add_assoc]
  have hf := q_for (fun j (K : Nat → Nat → Int32) => kX11_putFour 3 [some (.ref 1), some (.int v), some (.int (qsf j))] [] (qm K J (3, 17, rb, tx, L))) 4 (fun j => va_up (va_up I 2 (qblk t (I 2) (qfc v) j)) 1 (va_up (I 1) 1 (nI (t + j)))) hst
  rw [qblk_0, va_up_eq (f := I) (p := 2) rfl, va_up_eq (f := I 1) (p := 1) (by exact hI), va_up_eq (f := I) (p := 1) rfl] at hf
  rw [bX11_putFour, eX11_putFour_0]
  refine Eq.trans hf ?_
  show kX11_putFour 3 _ _ _ = _
  rw [eX11_putFour_3, if_pos (show qsf 4 < 0 by decide), eX11_putFour_46]
theorem fX12_four {t : Nat} (ht : t + 4 ≤ 1600) (hI : I 64 1 = nI t) (v : Int32) : mX12_four [.ref 64, .int v] (qm I J e) = some (none, qm (va_up (va_up I 65 (qblk t (I 65) (qfr v) 4)) 64 (va_up (I 64) 1 (nI (t + 4)))) J e) := by
  have hst : ∀ j, j < 4 → (fun j (K : Nat → Nat → Int32) => kX12_four 3 [some (.ref 64), some (.int v), some (.int (qsf j))] [] (qm K J e)) j (va_up (va_up I 65 (qblk t (I 65) (qfr v) j)) 64 (va_up (I 64) 1 (nI (t + j)))) = (fun j (K : Nat → Nat → Int32) => kX12_four 3 [some (.ref 64), some (.int v), some (.int (qsf j))] [] (qm K J e)) (j + 1) (va_up (va_up I 65 (qblk t (I 65) (qfr v) (j + 1))) 64 (va_up (I 64) 1 (nI (t + (j + 1))))) := by
    intro j hj
    show kX12_four 3 _ _ _ = kX12_four 3 _ _ _
    obtain ⟨q1, q2⟩ := qsf_t j hj
    have h1 : (va_up (va_up I 65 (qblk t (I 65) (qfr v) j)) 64 (va_up (I 64) 1 (nI (t + j)))) 64 1 = nI (t + j) := by rw [va_hit, va_hit]
    rw [eX12_four_3, if_neg q1, eX12_four_7, h1, q_in_nI (show t + j < 1600 by omega) (by omega), nI_clamp (show t + j < 2 ^ 31 by omega)]
    simp only [Option.bind_some, Option.toList_some, Option.toList_none, List.nil_append, List.cons_append, q_ck_tt, Bool.and_true, Bool.true_and, if_true, if_false, reduceCtorEq]
    rw [eX12_four_29, eX12_four_36, q2, nI_1]
    congr 2
    rw [q_up_va, q_up_va, va_miss (show (64 : Nat) ≠ 65 by decide), va_hit, va_miss (show (65 : Nat) ≠ 64 by decide), va_hit, q_m2 I (by decide), va_up_up, qblk_next (g := qfr v) (x := (v >>> (qsf j &&& 31)) &&& 255) rfl, Nat.add_assoc]
  have hf := q_for (fun j (K : Nat → Nat → Int32) => kX12_four 3 [some (.ref 64), some (.int v), some (.int (qsf j))] [] (qm K J e)) 4 (fun j => va_up (va_up I 65 (qblk t (I 65) (qfr v) j)) 64 (va_up (I 64) 1 (nI (t + j)))) hst
  rw [qblk_0, va_up_eq (f := I) (p := 65) rfl, va_up_eq (f := I 64) (p := 1) (by exact hI), va_up_eq (f := I) (p := 64) rfl] at hf
  rw [bX12_four, eX12_four_0]
  refine Eq.trans hf ?_
  show kX12_four 3 _ _ _ = _
  rw [eX12_four_3, if_pos (show qsf 4 < 0 by decide), eX12_four_39]
end TP
