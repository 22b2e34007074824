/-! ===== acts: rows taken back ===== -/
section LD
variable {I : Nat → Nat → Int32} {J : Nat → Nat → Int64} {e : QP}
theorem fX3_load_45 {a : Nat} (ha : a + 5 ≤ 984) : mX3_load [.ref 42, .ref 45, .int (nI a)] (qm I J e) = some (none, qm (va_up I 42 (va_up (va_up (va_up (va_up (va_up (I 42) 0 (I 45 a)) 1 (I 45 (a + 1))) 2 (I 45 (a + 2))) 3 (I 45 (a + 3))) 4 (I 45 (a + 4)))) J e) := by
  have k1 : nI a + 1 = nI (a + 1) := nI_1 a
  have k2 : nI a + 2 = nI (a + 2) := nI_add a 2
  have k3 : nI a + 3 = nI (a + 3) := nI_add a 3
  have k4 : nI a + 4 = nI (a + 4) := nI_add a 4
  have m45 : ∀ r, va_up I 42 r 45 = I 45 := fun _ => rfl
  simp only [bX3_load_42_45, eX3_load_42_45_0, eX3_load_42_45_18, eX3_load_42_45_36, k1, k2, k3, k4, q_in_nI (show a < 984 by omega) (by omega), q_in_nI (show a + 1 < 984 by omega) (by omega), q_in_nI (show a + 2 < 984 by omega) (by omega), q_in_nI (show a + 3 < 984 by omega) (by omega), q_in_nI (show a + 4 < 984 by omega) (by omega), nI_clamp (show a < 2 ^ 31 by omega), nI_clamp (show a + 1 < 2 ^ 31 by omega), nI_clamp (show a + 2 < 2 ^ 31 by omega), nI_clamp (show a + 3 < 2 ^ 31 by omega), nI_clamp (show a + 4 < 2 ^ 31 by omega), q_up_va, va_up_up, va_hit, m45, Option.bind_some, Option.toList_some, Option.toList_none, List.nil_append, List.cons_append, q_ck_tt, Bool.and_true, Bool.true_and, if_true, if_false, reduceCtorEq]
theorem fX1_load_45 {a : Nat} (ha : a + 24 ≤ 984) : ∃ I', mX1_load [.ref 37, .ref 45, .int (nI a)] (qm I J e) = some (none, qm I' J e) ∧ (∀ k, k < 24 → qcr I' k = I 45 (a + k)) ∧ ∀ p, p ≠ 37 → p ≠ 38 → p ≠ 39 → p ≠ 40 → p ≠ 41 → p ≠ 42 → I' p = I p := by
  have k1 : nI a + 1 = nI (a + 1) := nI_1 a
  have k2 : nI a + 2 = nI (a + 2) := nI_add a 2
  have k3 : nI a + 3 = nI (a + 3) := nI_add a 3
  have k7 : nI (a + 3) + 4 = nI (a + 7) := nI_add (a + 3) 4
  have k11 : nI (a + 3) + 8 = nI (a + 11) := nI_add (a + 3) 8
  have k15 : nI (a + 3) + 12 = nI (a + 15) := nI_add (a + 3) 12
  have k19 : nI (a + 3) + 16 = nI (a + 19) := nI_add (a + 3) 16
  have hs : ∀ M : Nat → Nat → Int32, mX3_load [.ref 42, .ref 45, .int (nI (a + 19))] (qm M J e) = some (none, qm (va_up M 42 (va_up (va_up (va_up (va_up (va_up (M 42) 0 (M 45 (a + 19))) 1 (M 45 (a + 19 + 1))) 2 (M 45 (a + 19 + 2))) 3 (M 45 (a + 19 + 3))) 4 (M 45 (a + 19 + 4)))) J e) := fun M => fX3_load_45 (by omega)
  simp only [bX1_load_37_45, eX1_load_37_45_0, eX1_load_37_45_18, eX1_load_37_45_38, eX1_load_37_45_53, eX1_load_37_45_69, eX1_load_37_45_85, eX1_load_37_45_99, k1, k2, k3, k7, k11, k15, k19, hs, q_in_nI (show a < 984 by omega) (by omega), q_in_nI (show a + 1 < 984 by omega) (by omega), q_in_nI (show a + 2 < 984 by omega) (by omega), nI_clamp (show a < 2 ^ 31 by omega), nI_clamp (show a + 1 < 2 ^ 31 by omega), nI_clamp (show a + 2 < 2 ^ 31 by omega), nI_clamp (show a + 3 < 2 ^ 31 by omega), nI_clamp (show a + 7 < 2 ^ 31 by omega), nI_clamp (show a + 11 < 2 ^ 31 by omega), nI_clamp (show a + 15 < 2 ^ 31 by omega), decide_eq_false (nI_pos (show a + 3 < 2 ^ 31 by omega)), decide_eq_false (nI_pos (show a + 7 < 2 ^ 31 by omega)), decide_eq_false (nI_pos (show a + 11 < 2 ^ 31 by omega)), decide_eq_false (nI_pos (show a + 15 < 2 ^ 31 by omega)), decide_eq_true (show a + 3 + 4 ≤ 984 by omega), decide_eq_true (show a + 7 + 4 ≤ 984 by omega), decide_eq_true (show a + 11 + 4 ≤ 984 by omega), decide_eq_true (show a + 15 + 4 ≤ 984 by omega), Bool.not_false, q_up_va, va_up_up, Option.bind_some, Option.toList_some, Option.toList_none, List.nil_append, List.cons_append, q_ck_tt, Bool.and_true, Bool.true_and, if_true, if_false, reduceCtorEq]
  refine ⟨_, rfl, fun k hk => ?_, fun p p1 p2 p3 p4 p5 p6 => ?_⟩
  · have hj : k = 0 ∨ k = 1 ∨ k = 2 ∨ k = 3 ∨ k = 4 ∨ k = 5 ∨ k = 6 ∨ k = 7 ∨ k = 8 ∨ k = 9 ∨ k = 10 ∨ k = 11 ∨ k = 12 ∨ k = 13 ∨ k = 14 ∨ k = 15 ∨ k = 16 ∨ k = 17 ∨ k = 18 ∨ k = 19 ∨ k = 20 ∨ k = 21 ∨ k = 22 ∨ k = 23 := by omega
    rcases hj with rfl | rfl | rfl | rfl | rfl | rfl | rfl | rfl | rfl | rfl | rfl | rfl | rfl | rfl | rfl | rfl | rfl | rfl | rfl | rfl | rfl | rfl | rfl | rfl <;> rfl
  · simp only [va_up_at, if_neg p1, if_neg p2, if_neg p3, if_neg p4, if_neg p5, if_neg p6]
theorem fX3_load_46 {a : Nat} (ha : a + 5 ≤ 72) : mX3_load [.ref 42, .ref 46, .int (nI a)] (qm I J e) = some (none, qm (va_up I 42 (va_up (va_up (va_up (va_up (va_up (I 42) 0 (I 46 a)) 1 (I 46 (a + 1))) 2 (I 46 (a + 2))) 3 (I 46 (a + 3))) 4 (I 46 (a + 4)))) J e) := by
  have k1 : nI a + 1 = nI (a + 1) := nI_1 a
  have k2 : nI a + 2 = nI (a + 2) := nI_add a 2
  have k3 : nI a + 3 = nI (a + 3) := nI_add a 3
  have k4 : nI a + 4 = nI (a + 4) := nI_add a 4
  have m46 : ∀ r, va_up I 42 r 46 = I 46 := fun _ => rfl
  simp only [bX3_load_42_46, eX3_load_42_46_0, eX3_load_42_46_18, eX3_load_42_46_36, k1, k2, k3, k4, q_in_nI (show a < 72 by omega) (by omega), q_in_nI (show a + 1 < 72 by omega) (by omega), q_in_nI (show a + 2 < 72 by omega) (by omega), q_in_nI (show a + 3 < 72 by omega) (by omega), q_in_nI (show a + 4 < 72 by omega) (by omega), nI_clamp (show a < 2 ^ 31 by omega), nI_clamp (show a + 1 < 2 ^ 31 by omega), nI_clamp (show a + 2 < 2 ^ 31 by omega), nI_clamp (show a + 3 < 2 ^ 31 by omega), nI_clamp (show a + 4 < 2 ^ 31 by omega), q_up_va, va_up_up, va_hit, m46, Option.bind_some, Option.toList_some, Option.toList_none, List.nil_append, List.cons_append, q_ck_tt, Bool.and_true, Bool.true_and, if_true, if_false, reduceCtorEq]
theorem fX1_load_46 {a : Nat} (ha : a + 24 ≤ 72) : ∃ I', mX1_load [.ref 37, .ref 46, .int (nI a)] (qm I J e) = some (none, qm I' J e) ∧ (∀ k, k < 24 → qcr I' k = I 46 (a + k)) ∧ ∀ p, p ≠ 37 → p ≠ 38 → p ≠ 39 → p ≠ 40 → p ≠ 41 → p ≠ 42 → I' p = I p := by
  have k1 : nI a + 1 = nI (a + 1) := nI_1 a
  have k2 : nI a + 2 = nI (a + 2) := nI_add a 2
  have k3 : nI a + 3 = nI (a + 3) := nI_add a 3
  have k7 : nI (a + 3) + 4 = nI (a + 7) := nI_add (a + 3) 4
  have k11 : nI (a + 3) + 8 = nI (a + 11) := nI_add (a + 3) 8
  have k15 : nI (a + 3) + 12 = nI (a + 15) := nI_add (a + 3) 12
  have k19 : nI (a + 3) + 16 = nI (a + 19) := nI_add (a + 3) 16
  have hs : ∀ M : Nat → Nat → Int32, mX3_load [.ref 42, .ref 46, .int (nI (a + 19))] (qm M J e) = some (none, qm (va_up M 42 (va_up (va_up (va_up (va_up (va_up (M 42) 0 (M 46 (a + 19))) 1 (M 46 (a + 19 + 1))) 2 (M 46 (a + 19 + 2))) 3 (M 46 (a + 19 + 3))) 4 (M 46 (a + 19 + 4)))) J e) := fun M => fX3_load_46 (by omega)
  simp only [bX1_load_37_46, eX1_load_37_46_0, eX1_load_37_46_18, eX1_load_37_46_38, eX1_load_37_46_53, eX1_load_37_46_69, eX1_load_37_46_85, eX1_load_37_46_99, k1, k2, k3, k7, k11, k15, k19, hs, q_in_nI (show a < 72 by omega) (by omega), q_in_nI (show a + 1 < 72 by omega) (by omega), q_in_nI (show a + 2 < 72 by omega) (by omega), nI_clamp (show a < 2 ^ 31 by omega), nI_clamp (show a + 1 < 2 ^ 31 by omega), nI_clamp (show a + 2 < 2 ^ 31 by omega), nI_clamp (show a + 3 < 2 ^ 31 by omega), nI_clamp (show a + 7 < 2 ^ 31 by omega), nI_clamp (show a + 11 < 2 ^ 31 by omega), nI_clamp (show a + 15 < 2 ^ 31 by omega), decide_eq_false (nI_pos (show a + 3 < 2 ^ 31 by omega)), decide_eq_false (nI_pos (show a + 7 < 2 ^ 31 by omega)), decide_eq_false (nI_pos (show a + 11 < 2 ^ 31 by omega)), decide_eq_false (nI_pos (show a + 15 < 2 ^ 31 by omega)), decide_eq_true (show a + 3 + 4 ≤ 72 by omega), decide_eq_true (show a + 7 + 4 ≤ 72 by omega), decide_eq_true (show a + 11 + 4 ≤ 72 by omega), decide_eq_true (show a + 15 + 4 ≤ 72 by omega), Bool.not_false, q_up_va, va_up_up, Option.bind_some, Option.toList_some, Option.toList_none, List.nil_append, List.cons_append, q_ck_tt, Bool.and_true, Bool.true_and, if_true, if_false, reduceCtorEq]
  refine ⟨_, rfl, fun k hk => ?_, fun p p1 p2 p3 p4 p5 p6 => ?_⟩
  · have hj : k = 0 ∨ k = 1 ∨ k = 2 ∨ k = 3 ∨ k = 4 ∨ k = 5 ∨ k = 6 ∨ k = 7 ∨ k = 8 ∨ k = 9 ∨ k = 10 ∨ k = 11 ∨ k = 12 ∨ k = 13 ∨ k = 14 ∨ k = 15 ∨ k = 16 ∨ k = 17 ∨ k = 18 ∨ k = 19 ∨ k = 20 ∨ k = 21 ∨ k = 22 ∨ k = 23 := by omega
    rcases hj with rfl | rfl | rfl | rfl | rfl | rfl | rfl | rfl | rfl | rfl | rfl | rfl | rfl | rfl | rfl | rfl | rfl | rfl | rfl | rfl | rfl | rfl | rfl | rfl <;> rfl
  · simp only [va_up_at, if_neg p1, if_neg p2, if_neg p3, if_neg p4, if_neg p5, if_neg p6]
end LD
theorem q_Ch_cc {D N : Nat} {A : Nat → Bool} {c c' r : Nat → Int32} (hD : D ≤ 4) (h : q_Ch D N A c r) (hc : ∀ k, k < 24 → c' k = c k) : q_Ch D N A c' r := by
  obtain ⟨h0, h1, h2, h3, ⟨f1, f2, f3, f4⟩, g6, g7, g8⟩ := h
  refine ⟨?_, ?_, ?_, fun d hd => ?_, ⟨fun n hn => ?_, fun v hv => ?_, fun p hp => ?_, fun v hv => ?_⟩, g6, fun x hx => ?_, g8⟩
  · rw [hc 0 (by omega)]; exact h0
  · rw [hc 1 (by omega)]; exact h1
  · rw [hc 2 (by omega)]; exact h2
  · rw [hc (3 + d) (by omega), hc (7 + d) (by omega), hc (11 + d) (by omega), hc (15 + d) (by omega)]; exact h3 d hd
  · dsimp only
    rw [hc (19 + 0) (by omega), hc (19 + 1) (by omega)]; exact f1 n hn
  · dsimp only
    rw [hc (19 + 0) (by omega), hc (19 + 1) (by omega)]; exact f2 v hv
  · dsimp only
    rw [hc (19 + 3) (by omega), hc (19 + 4) (by omega)]; exact f3 p hp
  · dsimp only
    rw [hc (19 + 3) (by omega), hc (19 + 4) (by omega)]; exact f4 v hv
  · rw [hc 21 (by omega)]; exact g7 x hx
theorem q_Ch_rc {D N : Nat} {A : Nat → Bool} {c r r' : Nat → Int32} (hD : D ≤ 4) (hN : N ≤ 6) (h : q_Ch D N A c r) (hr : ∀ k, k < 65 → r' k = r k) : q_Ch D N A c r' := by
  obtain ⟨h0, h1, h2, h3, f, g6, g7, g8⟩ := h
  refine ⟨?_, ?_, ?_, fun d hd => ?_, q_FR_cong hN f hr, fun n n1 n2 => ?_, fun x hx => ?_, fun d hd => ?_⟩
  · rw [hr 0 (by omega)]; exact h0
  · rw [hr 1 (by omega)]; exact h1
  · rw [hr 2 (by omega)]; exact h2
  · rw [hr (3 + d) (by omega), hr (7 + d) (by omega), hr (11 + d) (by omega), hr (15 + d) (by omega)]; exact h3 d hd
  · rw [hr _ (by omega)]; exact g6 n n1 n2
  · rw [hr _ (by omega)]; exact g7 x hx
  · rw [hr _ (by omega)]; exact g8 d hd
