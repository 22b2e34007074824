/-! ===== board(): the reference, once the text is read ===== -/
theorem q_cp82 {R : Nat → Nat → Int32} (K : Nat → Nat → Int64) (e : QP) {z : Nat} (hz : z ≤ 300) (h : R 64 18 = nI z) : ∃ R', kX12_board 82 [some (.ref 64), some (.int 0)] [] (qm R K e) = kX12_board 122 [some (.ref 64), some (.int 0)] [] (qm R' K e) ∧ (∀ p, p ≠ 69 → p ≠ 70 → R' p = R p) ∧ ∀ k, k < z → R' 69 k = R 67 k ∧ R' 70 k = R 68 k := by
  obtain ⟨R1, ⟨a1, a2⟩, a3⟩ := q_inv_for (fun i (M : Nat → Nat → Int32) => kX12_board 82 [some (.ref 64), some (.int (nI i))] [] (qm M K e)) (fun i M => (∀ p, p ≠ 69 → p ≠ 70 → M p = R p) ∧ ∀ k, k < i → M 69 k = R 67 k ∧ M 70 k = R 68 k) z (fun i M hi hM => by
    refine ⟨q_up (q_up M 69 i (R 67 i)) 70 i (R 68 i), ⟨fun p x y => by rw [q_up_at3 _ _ y, q_up_at3 _ _ x]; exact hM.1 p x y, fun k hk => ?_⟩, ?_⟩
    · by_cases g : k = i
      · subst g; rw [q_up_at3 _ _ (by decide), q_up_at1, q_up_at1]; exact ⟨rfl, rfl⟩
      · rw [q_up_at3 _ _ (by decide), q_up_at2 _ _ g, q_up_at2 _ _ g, q_up_at3 _ _ (by decide)]; exact hM.2 k (by omega)
    · show kX12_board 82 _ _ _ = kX12_board 82 _ _ _
      rw [eX12_board_82, hM.1 64 (by decide) (by decide), h, if_pos (nI_lt hi (by omega)), eX12_board_90, q_in_nI (show i < 320 by omega) (by omega), nI_n (by omega)]
      simp only [Option.bind_some, Option.toList_some, Option.toList_none, List.nil_append, List.cons_append, q_ck_tt, Bool.and_true, Bool.true_and, if_true, if_false, reduceCtorEq]
      rw [eX12_board_112, q_in_nI (show i < 320 by omega) (by omega), nI_n (by omega)]
      simp only [Option.bind_some, Option.toList_some, Option.toList_none, List.nil_append, List.cons_append, q_ck_tt, Bool.and_true, Bool.true_and, if_true, if_false, reduceCtorEq]
      rw [show nI i + 1 = nI (i + 1) from nI_add i 1, q_up_at3 _ _ (show (68 : Nat) ≠ 69 by decide), hM.1 67 (by decide) (by decide), hM.1 68 (by decide) (by decide)]) z 0 R (by omega) ⟨fun _ _ _ => rfl, fun k hk => absurd hk (Nat.not_lt_zero k)⟩
  refine ⟨R1, ?_, a1, a2⟩
  have a3' : kX12_board 82 [some (.ref 64), some (.int 0)] [] (qm R K e) = kX12_board 82 [some (.ref 64), some (.int (nI z))] [] (qm R1 K e) := a3
  rw [a3', eX12_board_82, a1 64 (by decide) (by decide), h, if_neg (nI_nlt (Nat.le_refl _) (by omega)), eX12_board_120]
theorem q_cp122 {R : Nat → Nat → Int32} (K : Nat → Nat → Int64) (e : QP) {D : Nat} (hD : D ≤ 4) (h : R 64 50 = nI D) : ∃ R', kX12_board 122 [some (.ref 64), some (.int 0)] [] (qm R K e) = kX12_board 186 [some (.ref 64), some (.int 0)] [] (qm R' K e) ∧ (∀ p, p ≠ 83 → p ≠ 84 → p ≠ 85 → p ≠ 90 → R' p = R p) ∧ ∀ k, k < D → R' 83 k = R 74 k ∧ R' 84 k = R 75 k ∧ R' 85 k = R 76 k ∧ R' 90 k = R 81 k := by
  obtain ⟨R1, ⟨a1, a2⟩, a3⟩ := q_inv_for (fun i (M : Nat → Nat → Int32) => kX12_board 122 [some (.ref 64), some (.int (nI i))] [] (qm M K e)) (fun i M => (∀ p, p ≠ 83 → p ≠ 84 → p ≠ 85 → p ≠ 90 → M p = R p) ∧ ∀ k, k < i → M 83 k = R 74 k ∧ M 84 k = R 75 k ∧ M 85 k = R 76 k ∧ M 90 k = R 81 k) D (fun i M hi hM => by
    refine ⟨q_up (q_up (q_up (q_up M 83 i (R 74 i)) 84 i (R 75 i)) 85 i (R 76 i)) 90 i (R 81 i), ⟨fun p x y z w => by rw [q_up_at3 _ _ w, q_up_at3 _ _ z, q_up_at3 _ _ y, q_up_at3 _ _ x]; exact hM.1 p x y z w, fun k hk => ?_⟩, ?_⟩
    · by_cases g : k = i
      · subst g
        exact ⟨by rw [q_up_at3 _ _ (by decide), q_up_at3 _ _ (by decide), q_up_at3 _ _ (by decide), q_up_at1], by rw [q_up_at3 _ _ (by decide), q_up_at3 _ _ (by decide), q_up_at1], by rw [q_up_at3 _ _ (by decide), q_up_at1], by rw [q_up_at1]⟩
      · have h := hM.2 k (by omega)
        exact ⟨by rw [q_up_at3 _ _ (by decide), q_up_at3 _ _ (by decide), q_up_at3 _ _ (by decide), q_up_at2 _ _ g]; exact h.1, by rw [q_up_at3 _ _ (by decide), q_up_at3 _ _ (by decide), q_up_at2 _ _ g, q_up_at3 _ _ (by decide)]; exact h.2.1, by rw [q_up_at3 _ _ (by decide), q_up_at2 _ _ g, q_up_at3 _ _ (by decide), q_up_at3 _ _ (by decide)]; exact h.2.2.1, by rw [q_up_at2 _ _ g, q_up_at3 _ _ (by decide), q_up_at3 _ _ (by decide), q_up_at3 _ _ (by decide)]; exact h.2.2.2⟩
    · show kX12_board 122 _ _ _ = kX12_board 122 _ _ _
      have m : ∀ p, p ≠ 83 → p ≠ 84 → p ≠ 85 → p ≠ 90 → M p = R p := hM.1
      rw [eX12_board_122, m 64 (by decide) (by decide) (by decide) (by decide), h, if_pos (nI_lt hi (by omega)), eX12_board_130, q_in_nI (show i < 4 by omega) (by omega), nI_n (by omega)]
      simp only [Option.bind_some, Option.toList_some, Option.toList_none, List.nil_append, List.cons_append, q_ck_tt, Bool.and_true, Bool.true_and, if_true, if_false, reduceCtorEq]
      rw [eX12_board_152, q_in_nI (show i < 4 by omega) (by omega), nI_n (by omega)]
      simp only [Option.bind_some, Option.toList_some, Option.toList_none, List.nil_append, List.cons_append, q_ck_tt, Bool.and_true, Bool.true_and, if_true, if_false, reduceCtorEq]
      rw [eX12_board_172, q_in_nI (show i < 4 by omega) (by omega), nI_n (by omega)]
      simp only [Option.bind_some, Option.toList_some, Option.toList_none, List.nil_append, List.cons_append, q_ck_tt, Bool.and_true, Bool.true_and, if_true, if_false, reduceCtorEq]
      rw [show nI i + 1 = nI (i + 1) from nI_add i 1, q_up_at3 _ _ (show (75 : Nat) ≠ 83 by decide), q_up_at3 _ _ (show (76 : Nat) ≠ 83 by decide), q_up_at3 _ _ (show (81 : Nat) ≠ 85 by decide), q_up_at3 _ _ (show (81 : Nat) ≠ 84 by decide), q_up_at3 _ _ (show (81 : Nat) ≠ 83 by decide), m 74 (by decide) (by decide) (by decide) (by decide), m 75 (by decide) (by decide) (by decide) (by decide), m 76 (by decide) (by decide) (by decide) (by decide), m 81 (by decide) (by decide) (by decide) (by decide)]) D 0 R (by omega) ⟨fun _ _ _ _ _ => rfl, fun k hk => absurd hk (Nat.not_lt_zero k)⟩
  refine ⟨R1, ?_, a1, a2⟩
  have a3' : kX12_board 122 [some (.ref 64), some (.int 0)] [] (qm R K e) = kX12_board 122 [some (.ref 64), some (.int (nI D))] [] (qm R1 K e) := a3
  rw [a3', eX12_board_122, a1 64 (by decide) (by decide) (by decide) (by decide), h, if_neg (nI_nlt (Nat.le_refl _) (by omega)), eX12_board_184]
theorem q_cp186 {R : Nat → Nat → Int32} (K : Nat → Nat → Int64) (e : QP) {D : Nat} (hD : D ≤ 4) (h : R 64 50 = nI D) : ∃ R', kX12_board 186 [some (.ref 64), some (.int 0)] [] (qm R K e) = kX12_board 229 [some (.ref 64), some (.int 0)] [] (qm R' K e) ∧ (∀ p, p ≠ 86 → p ≠ 87 → R' p = R p) ∧ ∀ k, k < 6 * D → R' 86 k = R 77 k ∧ R' 87 k = R 78 k := by
  have h6 : (6 : Int32) * nI D = nI (6 * D) := (Int32.ofNat_mul 6 D).symm
  obtain ⟨R1, ⟨a1, a2⟩, a3⟩ := q_inv_for (fun i (M : Nat → Nat → Int32) => kX12_board 186 [some (.ref 64), some (.int (nI i))] [] (qm M K e)) (fun i M => (∀ p, p ≠ 86 → p ≠ 87 → M p = R p) ∧ ∀ k, k < i → M 86 k = R 77 k ∧ M 87 k = R 78 k) (6 * D) (fun i M hi hM => by
    refine ⟨q_up (q_up M 86 i (R 77 i)) 87 i (R 78 i), ⟨fun p x y => by rw [q_up_at3 _ _ y, q_up_at3 _ _ x]; exact hM.1 p x y, fun k hk => ?_⟩, ?_⟩
    · by_cases g : k = i
      · subst g; rw [q_up_at3 _ _ (by decide), q_up_at1, q_up_at1]; exact ⟨rfl, rfl⟩
      · rw [q_up_at3 _ _ (by decide), q_up_at2 _ _ g, q_up_at2 _ _ g, q_up_at3 _ _ (by decide)]; exact hM.2 k (by omega)
    · show kX12_board 186 _ _ _ = kX12_board 186 _ _ _
      rw [eX12_board_186, hM.1 64 (by decide) (by decide), h, h6, if_pos (nI_lt hi (by omega)), eX12_board_197, q_in_nI (show i < 24 by omega) (by omega), nI_n (by omega)]
      simp only [Option.bind_some, Option.toList_some, Option.toList_none, List.nil_append, List.cons_append, q_ck_tt, Bool.and_true, Bool.true_and, if_true, if_false, reduceCtorEq]
      rw [eX12_board_219, q_in_nI (show i < 24 by omega) (by omega), nI_n (by omega)]
      simp only [Option.bind_some, Option.toList_some, Option.toList_none, List.nil_append, List.cons_append, q_ck_tt, Bool.and_true, Bool.true_and, if_true, if_false, reduceCtorEq]
      rw [show nI i + 1 = nI (i + 1) from nI_add i 1, q_up_at3 _ _ (show (78 : Nat) ≠ 86 by decide), hM.1 77 (by decide) (by decide), hM.1 78 (by decide) (by decide)]) (6 * D) 0 R (by omega) ⟨fun _ _ _ => rfl, fun k hk => absurd hk (Nat.not_lt_zero k)⟩
  refine ⟨R1, ?_, a1, a2⟩
  have a3' : kX12_board 186 [some (.ref 64), some (.int 0)] [] (qm R K e) = kX12_board 186 [some (.ref 64), some (.int (nI (6 * D)))] [] (qm R1 K e) := a3
  rw [a3', eX12_board_186, a1 64 (by decide) (by decide), h, h6, if_neg (nI_nlt (Nat.le_refl _) (by omega)), eX12_board_227]
theorem q_cp229 {R : Nat → Nat → Int32} (K : Nat → Nat → Int64) (e : QP) {N : Nat} (hN : N ≤ 6) (h : R 64 51 = nI N) : ∃ R', kX12_board 229 [some (.ref 64), some (.int 0)] [] (qm R K e) = kX12_board 269 [some (.ref 64), some (.int 0)] [] (qm R' K e) ∧ (∀ p, p ≠ 88 → p ≠ 89 → R' p = R p) ∧ ∀ k, k < N → R' 88 k = R 79 k ∧ R' 89 k = R 80 k := by
  obtain ⟨R1, ⟨a1, a2⟩, a3⟩ := q_inv_for (fun i (M : Nat → Nat → Int32) => kX12_board 229 [some (.ref 64), some (.int (nI i))] [] (qm M K e)) (fun i M => (∀ p, p ≠ 88 → p ≠ 89 → M p = R p) ∧ ∀ k, k < i → M 88 k = R 79 k ∧ M 89 k = R 80 k) N (fun i M hi hM => by
    refine ⟨q_up (q_up M 88 i (R 79 i)) 89 i (R 80 i), ⟨fun p x y => by rw [q_up_at3 _ _ y, q_up_at3 _ _ x]; exact hM.1 p x y, fun k hk => ?_⟩, ?_⟩
    · by_cases g : k = i
      · subst g; rw [q_up_at3 _ _ (by decide), q_up_at1, q_up_at1]; exact ⟨rfl, rfl⟩
      · rw [q_up_at3 _ _ (by decide), q_up_at2 _ _ g, q_up_at2 _ _ g, q_up_at3 _ _ (by decide)]; exact hM.2 k (by omega)
    · show kX12_board 229 _ _ _ = kX12_board 229 _ _ _
      rw [eX12_board_229, hM.1 64 (by decide) (by decide), h, if_pos (nI_lt hi (by omega)), eX12_board_237, q_in_nI (show i < 6 by omega) (by omega), nI_n (by omega)]
      simp only [Option.bind_some, Option.toList_some, Option.toList_none, List.nil_append, List.cons_append, q_ck_tt, Bool.and_true, Bool.true_and, if_true, if_false, reduceCtorEq]
      rw [eX12_board_259, q_in_nI (show i < 6 by omega) (by omega), nI_n (by omega)]
      simp only [Option.bind_some, Option.toList_some, Option.toList_none, List.nil_append, List.cons_append, q_ck_tt, Bool.and_true, Bool.true_and, if_true, if_false, reduceCtorEq]
      rw [show nI i + 1 = nI (i + 1) from nI_add i 1, q_up_at3 _ _ (show (80 : Nat) ≠ 88 by decide), hM.1 79 (by decide) (by decide), hM.1 80 (by decide) (by decide)]) N 0 R (by omega) ⟨fun _ _ _ => rfl, fun k hk => absurd hk (Nat.not_lt_zero k)⟩
  refine ⟨R1, ?_, a1, a2⟩
  have a3' : kX12_board 229 [some (.ref 64), some (.int 0)] [] (qm R K e) = kX12_board 229 [some (.ref 64), some (.int (nI N))] [] (qm R1 K e) := a3
  rw [a3', eX12_board_229, a1 64 (by decide) (by decide), h, if_neg (nI_nlt (Nat.le_refl _) (by omega)), eX12_board_267]
theorem q_cp269 {R : Nat → Nat → Int32} (K : Nat → Nat → Int64) (e : QP) : ∃ R', kX12_board 269 [some (.ref 64), some (.int 0)] [] (qm R K e) = kX12_board 293 [some (.ref 64), none] [] (qm R' K e) ∧ (∀ p, p ≠ 91 → R' p = R p) ∧ ∀ k, k < 36 → R' 91 k = R 82 k := by
  obtain ⟨R1, ⟨a1, a2⟩, a3⟩ := q_inv_for (fun i (M : Nat → Nat → Int32) => kX12_board 269 [some (.ref 64), some (.int (nI i))] [] (qm M K e)) (fun i M => (∀ p, p ≠ 91 → M p = R p) ∧ ∀ k, k < i → M 91 k = R 82 k) 36 (fun i M hi hM => by
    refine ⟨q_up M 91 i (R 82 i), ⟨fun p x => by rw [q_up_at3 _ _ x]; exact hM.1 p x, fun k hk => ?_⟩, ?_⟩
    · by_cases g : k = i
      · subst g; rw [q_up_at1]
      · rw [q_up_at2 _ _ g]; exact hM.2 k (by omega)
    · show kX12_board 269 _ _ _ = kX12_board 269 _ _ _
      rw [eX12_board_269, if_pos (show nI i < (36 : Int32) from nI_lt (b := 36) hi (by omega)), eX12_board_275, q_in_nI (show i < 36 by omega) (by omega), nI_n (by omega)]
      simp only [Option.bind_some, Option.toList_some, Option.toList_none, List.nil_append, List.cons_append, q_ck_tt, Bool.and_true, Bool.true_and, if_true, if_false, reduceCtorEq]
      rw [show nI i + 1 = nI (i + 1) from nI_add i 1, hM.1 82 (by decide)]) 36 0 R (by omega) ⟨fun _ _ => rfl, fun k hk => absurd hk (Nat.not_lt_zero k)⟩
  refine ⟨R1, ?_, a1, a2⟩
  have a3' : kX12_board 269 [some (.ref 64), some (.int 0)] [] (qm R K e) = kX12_board 269 [some (.ref 64), some (.int (nI 36))] [] (qm R1 K e) := a3
  rw [a3', eX12_board_269, if_neg (by decide)]
theorem q_cp323 {R : Nat → Nat → Int32} (K : Nat → Nat → Int64) (e : QP) : ∃ R', kX12_board 323 [some (.ref 64), some (.int 0)] [] (qm R K e) = some (some (.int (R 64 50)), qm R' K e) ∧ (∀ p, p ≠ 112 → R' p = R p) ∧ ∀ k, k < 3 → R' 112 k = 0 := by
  obtain ⟨R1, ⟨a1, a2⟩, a3⟩ := q_inv_for (fun i (M : Nat → Nat → Int32) => kX12_board 323 [some (.ref 64), some (.int (nI i))] [] (qm M K e)) (fun i M => (∀ p, p ≠ 112 → M p = R p) ∧ ∀ k, k < i → M 112 k = 0) 3 (fun i M hi hM => by
    refine ⟨q_up M 112 i 0, ⟨fun p x => by rw [q_up_at3 _ _ x]; exact hM.1 p x, fun k hk => ?_⟩, ?_⟩
    · by_cases g : k = i
      · subst g; rw [q_up_at1]
      · rw [q_up_at2 _ _ g]; exact hM.2 k (by omega)
    · show kX12_board 323 _ _ _ = kX12_board 323 _ _ _
      rw [eX12_board_323, if_pos (show nI i < (3 : Int32) from nI_lt (b := 3) hi (by omega)), eX12_board_328, q_in_nI (show i < 3 by omega) (by omega), nI_n (by omega), Bool.true_and, q_ck_tt, show nI i + 1 = nI (i + 1) from nI_add i 1]
      rfl) 3 0 R (by omega) ⟨fun _ _ => rfl, fun k hk => absurd hk (Nat.not_lt_zero k)⟩
  refine ⟨R1, ?_, a1, a2⟩
  have a3' : kX12_board 323 [some (.ref 64), some (.int 0)] [] (qm R K e) = kX12_board 323 [some (.ref 64), some (.int (nI 3))] [] (qm R1 K e) := a3
  rw [a3', eX12_board_323, if_neg (by decide), eX12_board_341, a1 64 (by decide)]
