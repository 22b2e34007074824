/-! ===== acts: rows that are kept ===== -/
section SV
variable {I : Nat → Nat → Int32} {J : Nat → Nat → Int64} {e : QP}
theorem q_av {a k : Nat} (h : a + k < 2 ^ 31) : (nI a + nI k) = nI (a + k) ∧ (nI (a + k)).toNatClampNeg = a + k := ⟨nI_add a k, nI_clamp h⟩
theorem fX3_save_45 {a : Nat} (ha : a + 5 ≤ 984) : mX3_save [.ref 42, .ref 45, .int (nI a)] (qm I J e) = some (none, qm (va_up I 45 (qblk a (I 45) (I 42) 5)) J e) := by
  have k1 : nI a + 1 = nI (a + 1) := nI_1 a
  have k2 : nI a + 2 = nI (a + 2) := nI_add a 2
  have k3 : nI a + 3 = nI (a + 3) := nI_add a 3
  have k4 : nI a + 4 = nI (a + 4) := nI_add a 4
  have m42 : ∀ r, va_up I 45 r 42 = I 42 := fun _ => rfl
  simp only [bX3_save_42_45, eX3_save_42_45_0, eX3_save_42_45_18, eX3_save_42_45_36, k1, k2, k3, k4, q_in_nI (show a < 984 by omega) (by omega), q_in_nI (show a + 1 < 984 by omega) (by omega), q_in_nI (show a + 2 < 984 by omega) (by omega), q_in_nI (show a + 3 < 984 by omega) (by omega), q_in_nI (show a + 4 < 984 by omega) (by omega), nI_clamp (show a < 2 ^ 31 by omega), nI_clamp (show a + 1 < 2 ^ 31 by omega), nI_clamp (show a + 2 < 2 ^ 31 by omega), nI_clamp (show a + 3 < 2 ^ 31 by omega), nI_clamp (show a + 4 < 2 ^ 31 by omega), q_up_va, va_up_up, va_hit, m42, Option.bind_some, Option.toList_some, Option.toList_none, List.nil_append, List.cons_append, q_ck_tt, Bool.and_true, Bool.true_and, if_true, if_false, reduceCtorEq]
  congr 3
  congr 1
  funext k
  simp only [va_up_at, qblk]
  (repeat' split) <;> first | (exfalso; omega) | rfl | (congr 1; omega)
theorem fX1_save_45 {a : Nat} (ha : a + 24 ≤ 984) : mX1_save [.ref 37, .ref 45, .int (nI a)] (qm I J e) = some (none, qm (va_up I 45 (qblk a (I 45) (qcr I) 24)) J e) := by
  have k1 : nI a + 1 = nI (a + 1) := nI_1 a
  have k2 : nI a + 2 = nI (a + 2) := nI_add a 2
  have k3 : nI a + 3 = nI (a + 3) := nI_add a 3
  have m37 : ∀ r, va_up I 45 r 37 = I 37 := fun _ => rfl
  have m38 : ∀ r, va_up I 45 r 38 = I 38 := fun _ => rfl
  have m39 : ∀ r, va_up I 45 r 39 = I 39 := fun _ => rfl
  have m40 : ∀ r, va_up I 45 r 40 = I 40 := fun _ => rfl
  have m41 : ∀ r, va_up I 45 r 41 = I 41 := fun _ => rfl
  have m42 : ∀ r, va_up I 45 r 42 = I 42 := fun _ => rfl
  have k7 : nI (a + 3) + 4 = nI (a + 7) := nI_add (a + 3) 4
  have k11 : nI (a + 3) + 8 = nI (a + 11) := nI_add (a + 3) 8
  have k15 : nI (a + 3) + 12 = nI (a + 15) := nI_add (a + 3) 12
  have k19 : nI (a + 3) + 16 = nI (a + 19) := nI_add (a + 3) 16
  have hs : ∀ M : Nat → Nat → Int32, mX3_save [.ref 42, .ref 45, .int (nI (a + 19))] (qm M J e) = some (none, qm (va_up M 45 (qblk (a + 19) (M 45) (M 42) 5)) J e) := fun M => fX3_save_45 (by omega)
  simp only [bX1_save_37_45, eX1_save_37_45_0, eX1_save_37_45_18, eX1_save_37_45_38, eX1_save_37_45_53, eX1_save_37_45_69, eX1_save_37_45_85, eX1_save_37_45_99, k1, k2, k3, k7, k11, k15, k19, hs, q_in_nI (show a < 984 by omega) (by omega), q_in_nI (show a + 1 < 984 by omega) (by omega), q_in_nI (show a + 2 < 984 by omega) (by omega), nI_clamp (show a < 2 ^ 31 by omega), nI_clamp (show a + 1 < 2 ^ 31 by omega), nI_clamp (show a + 2 < 2 ^ 31 by omega), nI_clamp (show a + 3 < 2 ^ 31 by omega), nI_clamp (show a + 7 < 2 ^ 31 by omega), nI_clamp (show a + 11 < 2 ^ 31 by omega), nI_clamp (show a + 15 < 2 ^ 31 by omega), decide_eq_false (nI_pos (show a + 3 < 2 ^ 31 by omega)), decide_eq_false (nI_pos (show a + 7 < 2 ^ 31 by omega)), decide_eq_false (nI_pos (show a + 11 < 2 ^ 31 by omega)), decide_eq_false (nI_pos (show a + 15 < 2 ^ 31 by omega)), decide_eq_true (show a + 3 + 4 ≤ 984 by omega), decide_eq_true (show a + 7 + 4 ≤ 984 by omega), decide_eq_true (show a + 11 + 4 ≤ 984 by omega), decide_eq_true (show a + 15 + 4 ≤ 984 by omega), Bool.not_false, q_up_va, va_up_up, va_hit, m37, m38, m39, m40, m41, m42, Option.bind_some, Option.toList_some, Option.toList_none, List.nil_append, List.cons_append, q_ck_tt, Bool.and_true, Bool.true_and, if_true, if_false, reduceCtorEq]
  congr 3
  congr 1
  funext k
  simp only [va_up_at, qblk, va_cpy, qcr]
  (repeat' split) <;> first | (exfalso; omega) | rfl | (congr 1; omega)
theorem fX3_save_46 {a : Nat} (ha : a + 5 ≤ 72) : mX3_save [.ref 42, .ref 46, .int (nI a)] (qm I J e) = some (none, qm (va_up I 46 (qblk a (I 46) (I 42) 5)) J e) := by
  have k1 : nI a + 1 = nI (a + 1) := nI_1 a
  have k2 : nI a + 2 = nI (a + 2) := nI_add a 2
  have k3 : nI a + 3 = nI (a + 3) := nI_add a 3
  have k4 : nI a + 4 = nI (a + 4) := nI_add a 4
  have m42 : ∀ r, va_up I 46 r 42 = I 42 := fun _ => rfl
  simp only [bX3_save_42_46, eX3_save_42_46_0, eX3_save_42_46_18, eX3_save_42_46_36, k1, k2, k3, k4, q_in_nI (show a < 72 by omega) (by omega), q_in_nI (show a + 1 < 72 by omega) (by omega), q_in_nI (show a + 2 < 72 by omega) (by omega), q_in_nI (show a + 3 < 72 by omega) (by omega), q_in_nI (show a + 4 < 72 by omega) (by omega), nI_clamp (show a < 2 ^ 31 by omega), nI_clamp (show a + 1 < 2 ^ 31 by omega), nI_clamp (show a + 2 < 2 ^ 31 by omega), nI_clamp (show a + 3 < 2 ^ 31 by omega), nI_clamp (show a + 4 < 2 ^ 31 by omega), q_up_va, va_up_up, va_hit, m42, Option.bind_some, Option.toList_some, Option.toList_none, List.nil_append, List.cons_append, q_ck_tt, Bool.and_true, Bool.true_and, if_true, if_false, reduceCtorEq]
  congr 3
  congr 1
  funext k
  simp only [va_up_at, qblk]
  (repeat' split) <;> first | (exfalso; omega) | rfl | (congr 1; omega)
theorem fX1_save_46 {a : Nat} (ha : a + 24 ≤ 72) : mX1_save [.ref 37, .ref 46, .int (nI a)] (qm I J e) = some (none, qm (va_up I 46 (qblk a (I 46) (qcr I) 24)) J e) := by
  have k1 : nI a + 1 = nI (a + 1) := nI_1 a
  have k2 : nI a + 2 = nI (a + 2) := nI_add a 2
  have k3 : nI a + 3 = nI (a + 3) := nI_add a 3
  have m37 : ∀ r, va_up I 46 r 37 = I 37 := fun _ => rfl
  have m38 : ∀ r, va_up I 46 r 38 = I 38 := fun _ => rfl
  have m39 : ∀ r, va_up I 46 r 39 = I 39 := fun _ => rfl
  have m40 : ∀ r, va_up I 46 r 40 = I 40 := fun _ => rfl
  have m41 : ∀ r, va_up I 46 r 41 = I 41 := fun _ => rfl
  have m42 : ∀ r, va_up I 46 r 42 = I 42 := fun _ => rfl
  have k7 : nI (a + 3) + 4 = nI (a + 7) := nI_add (a + 3) 4
  have k11 : nI (a + 3) + 8 = nI (a + 11) := nI_add (a + 3) 8
  have k15 : nI (a + 3) + 12 = nI (a + 15) := nI_add (a + 3) 12
  have k19 : nI (a + 3) + 16 = nI (a + 19) := nI_add (a + 3) 16
  have hs : ∀ M : Nat → Nat → Int32, mX3_save [.ref 42, .ref 46, .int (nI (a + 19))] (qm M J e) = some (none, qm (va_up M 46 (qblk (a + 19) (M 46) (M 42) 5)) J e) := fun M => fX3_save_46 (by omega)
  simp only [bX1_save_37_46, eX1_save_37_46_0, eX1_save_37_46_18, eX1_save_37_46_38, eX1_save_37_46_53, eX1_save_37_46_69, eX1_save_37_46_85, eX1_save_37_46_99, k1, k2, k3, k7, k11, k15, k19, hs, q_in_nI (show a < 72 by omega) (by omega), q_in_nI (show a + 1 < 72 by omega) (by omega), q_in_nI (show a + 2 < 72 by omega) (by omega), nI_clamp (show a < 2 ^ 31 by omega), nI_clamp (show a + 1 < 2 ^ 31 by omega), nI_clamp (show a + 2 < 2 ^ 31 by omega), nI_clamp (show a + 3 < 2 ^ 31 by omega), nI_clamp (show a + 7 < 2 ^ 31 by omega), nI_clamp (show a + 11 < 2 ^ 31 by omega), nI_clamp (show a + 15 < 2 ^ 31 by omega), decide_eq_false (nI_pos (show a + 3 < 2 ^ 31 by omega)), decide_eq_false (nI_pos (show a + 7 < 2 ^ 31 by omega)), decide_eq_false (nI_pos (show a + 11 < 2 ^ 31 by omega)), decide_eq_false (nI_pos (show a + 15 < 2 ^ 31 by omega)), decide_eq_true (show a + 3 + 4 ≤ 72 by omega), decide_eq_true (show a + 7 + 4 ≤ 72 by omega), decide_eq_true (show a + 11 + 4 ≤ 72 by omega), decide_eq_true (show a + 15 + 4 ≤ 72 by omega), Bool.not_false, q_up_va, va_up_up, va_hit, m37, m38, m39, m40, m41, m42, Option.bind_some, Option.toList_some, Option.toList_none, List.nil_append, List.cons_append, q_ck_tt, Bool.and_true, Bool.true_and, if_true, if_false, reduceCtorEq]
  congr 3
  congr 1
  funext k
  simp only [va_up_at, qblk, va_cpy, qcr]
  (repeat' split) <;> first | (exfalso; omega) | rfl | (congr 1; omega)
end SV
