/-! ===== acts: one more ===== -/
section AC
variable {I : Nat → Nat → Int32} {J : Nat → Nat → Int64} {e : QP}
theorem fX8_rowAt {old n : Nat} (ho : I 44 1 = nI old) (h1 : old < 41) (hn : n ≤ 41) : mX8_rowAt [.ref 44, .int (nI n)] (qm I J e) = some (some (.int (nI ((old + n) % 41 * 24))), qm I J e) := by
  rw [bX8_rowAt, eX8_rowAt_0, ho, nI_add, show (41 : Int32) = nI 41 from rfl, nI_mod (by omega) (by decide) (by decide), show (24 : Int32) = nI 24 from rfl, pk_mul]
theorem fX8_keep {old dn : Nat} (ho : I 44 1 = nI old) (hd : I 44 2 = nI dn) (h1 : old < 41) (h2 : dn ≤ 40) : ∃ I', mX8_keep [.ref 44, .ref 37] (qm I J e) = some (none, qm I' J e) ∧ I' 44 1 = nI (if dn < 40 then old else (old + 1) % 41) ∧ I' 44 2 = nI (if dn < 40 then dn + 1 else 40) ∧ I' 44 3 = nI (if dn < 40 then dn + 1 else 40) ∧ I' 45 = qblk (((if dn < 40 then old else (old + 1) % 41) + (if dn < 40 then dn + 1 else 40)) % 41 * 24) (I 45) (qcr I) 24 ∧ ∀ p, p ≠ 44 → p ≠ 45 → I' p = I p := by
  have hqc : ∀ r, qcr (va_up I 44 r) = qcr I := fun r => rfl
  rw [bX8_keep, eX8_keep_0, hd]
  by_cases hc : dn < 40
  · have hm : (old + (dn + 1)) % 41 < 41 := Nat.mod_lt _ (by omega)
    have k1 : nI dn + 1 = nI (dn + 1) := nI_1 dn
    rw [if_pos (show nI dn < (40 : Int32) from nI_lt (b := 40) hc (by decide)), eX8_keep_9, hd, k1, eX8_keep_35]
    have e2 : (q_up I 44 2 (nI (dn + 1))) 44 2 = nI (dn + 1) := rfl
    rw [e2]
    simp only [q_up_va, va_up_up, va_hit]
    rw [fX8_rowAt (old := old) (n := dn + 1) (by exact ho) h1 (by omega)]
    simp only [Option.bind_some, Option.toList_some, Option.toList_none, List.nil_append, List.cons_append, q_ck_tt, Bool.and_true, Bool.true_and, if_true, if_false, reduceCtorEq]
    rw [eX8_keep_56, fX1_save_45 (by omega)]
    simp only [Option.bind_some, Option.toList_some, Option.toList_none, List.nil_append, List.cons_append, q_ck_tt, Bool.and_true, Bool.true_and, if_true, if_false, reduceCtorEq]
    rw [eX8_keep_59]
    simp only [if_pos hc]
    refine ⟨_, rfl, ho, rfl, rfl, rfl, fun p p1 p2 => ?_⟩
    rw [va_up_at, if_neg p2, va_up_at, if_neg p1]
  · have h40 : dn = 40 := by omega
    subst h40
    have hm : ((old + 1) % 41 + 40) % 41 < 41 := Nat.mod_lt _ (by omega)
    have hm1 : (old + 1) % 41 < 41 := Nat.mod_lt _ (by omega)
    have k1 : (nI old + 1) % 41 = nI ((old + 1) % 41) := by rw [nI_1, show (41 : Int32) = nI 41 from rfl, nI_mod (by omega) (by decide) (by decide)]
    rw [if_neg (show ¬ nI 40 < 40 by decide), eX8_keep_22, ho, k1, eX8_keep_35]
    have e2 : (q_up I 44 1 (nI ((old + 1) % 41))) 44 2 = nI 40 := hd
    rw [e2]
    simp only [q_up_va, va_up_up, va_hit]
    rw [fX8_rowAt (old := (old + 1) % 41) (n := 40) (by rfl) hm1 (by omega)]
    simp only [Option.bind_some, Option.toList_some, Option.toList_none, List.nil_append, List.cons_append, q_ck_tt, Bool.and_true, Bool.true_and, if_true, if_false, reduceCtorEq]
    rw [eX8_keep_56, fX1_save_45 (by omega)]
    simp only [Option.bind_some, Option.toList_some, Option.toList_none, List.nil_append, List.cons_append, q_ck_tt, Bool.and_true, Bool.true_and, if_true, if_false, reduceCtorEq]
    rw [eX8_keep_59]
    simp only [if_neg hc]
    refine ⟨_, rfl, rfl, hd, rfl, rfl, fun p p1 p2 => ?_⟩
    rw [va_up_at, if_neg p2, va_up_at, if_neg p1]
/-- the reference's acts behind one more -/
def qWe (W nw : Nat → Int32) (dn : Nat) : Nat → Int32 := if dn = 40 then qblk (65 * 39) (fa_fill (fun k => W (65 + k)) W 2535) nw 65 else qblk (65 * dn) W nw 65
theorem q_act_49 {M : Nat → Nat → Int32} {n : Nat} (hn : n < 40) (hM : M 64 68 = nI n) : kX12_act 49 [some (.ref 64), none] [] (qm M J e) = some (none, qm (va_up (va_up (va_up M 101 (qblk (65 * n) (M 101) (M 93) 65)) 64 (va_up (va_up (M 64) 68 (nI (n + 1))) 69 0)) 94 (fa_fill (M 93) (M 94) 65)) J e) := by
  have hst : ∀ k, k < 65 → (fun k (K : Nat → Nat → Int32) => kX12_act 51 [some (.ref 64), some (.int (nI k))] [] (qm K J e)) k (va_up M 101 (qblk (65 * n) (M 101) (M 93) k)) = (fun k (K : Nat → Nat → Int32) => kX12_act 51 [some (.ref 64), some (.int (nI k))] [] (qm K J e)) (k + 1) (va_up M 101 (qblk (65 * n) (M 101) (M 93) (k + 1))) := by
    intro k hk
    show kX12_act 51 _ _ _ = kX12_act 51 _ _ _
    have h68 : (va_up M 101 (qblk (65 * n) (M 101) (M 93) k)) 64 68 = nI n := hM
    have h93 : (va_up M 101 (qblk (65 * n) (M 101) (M 93) k)) 93 k = M 93 k := rfl
    have hi : (65 : Int32) * nI n + nI k = nI (65 * n + k) := by rw [show (65 : Int32) = nI 65 from rfl, pk_mul, nI_add]
    rw [eX12_act_51, if_pos (show nI k < (65 : Int32) from nI_lt (b := 65) hk (by decide)), eX12_act_57, h68, hi, q_in_nI (show 65 * n + k < 2600 by omega) (by omega), q_in_nI (show k < 65 by omega) (by omega), nI_clamp (show 65 * n + k < 2 ^ 31 by omega), nI_clamp (show k < 2 ^ 31 by omega), h93]
    simp only [Option.bind_some, Option.toList_some, Option.toList_none, List.nil_append, List.cons_append, q_ck_tt, Bool.and_true, Bool.true_and, if_true, if_false, reduceCtorEq]
    rw [eX12_act_80, nI_1, q_up_up, qblk_next (g := M 93) rfl]
  have hf := q_for (fun k (K : Nat → Nat → Int32) => kX12_act 51 [some (.ref 64), some (.int (nI k))] [] (qm K J e)) 65 (fun k => va_up M 101 (qblk (65 * n) (M 101) (M 93) k)) hst
  rw [qblk_0, va_up_eq (f := M) (p := 101) rfl] at hf
  rw [eX12_act_49]
  refine Eq.trans hf ?_
  show kX12_act 51 _ _ _ = _
  have h68 : (va_up M 101 (qblk (65 * n) (M 101) (M 93) 65)) 64 68 = nI n := hM
  rw [eX12_act_51, if_neg (show ¬ nI 65 < 65 by decide), eX12_act_83, h68, nI_1, fX12_fill]
  simp only [Option.bind_some, Option.toList_some, Option.toList_none, List.nil_append, List.cons_append, q_ck_tt, Bool.and_true, Bool.true_and, if_true, if_false, reduceCtorEq]
  rw [eX12_act_102]
  simp only [q_up_va, va_up_up, va_hit]
  rfl
theorem fX12_act {dn : Nat} (h2 : dn ≤ 40) (hd : I 64 68 = nI dn) : ∃ I', mX12_act [.ref 64] (qm I J e) = some (none, qm I' J e) ∧ I' 101 = qWe (I 101) (I 93) dn ∧ I' 64 = va_up (va_up (I 64) 68 (nI (if dn < 40 then dn + 1 else 40))) 69 0 ∧ (∀ k, k < 65 → I' 94 k = I 93 k) ∧ ∀ p, p ≠ 101 → p ≠ 64 → p ≠ 94 → I' p = I p := by
  rw [bX12_act, eX12_act_0, hd]
  unfold qWe
  by_cases hc : dn = 40
  · subst hc
    rw [if_pos (show nI 40 = (40 : Int32) from rfl), eX12_act_9, if_pos rfl]
    have hst : ∀ k, k < 2535 → (fun k (K : Nat → Nat → Int32) => kX12_act 11 [some (.ref 64), some (.int (nI k))] [] (qm K J e)) k (va_up I 101 (fa_fill (fun k => I 101 (65 + k)) (I 101) k)) = (fun k (K : Nat → Nat → Int32) => kX12_act 11 [some (.ref 64), some (.int (nI k))] [] (qm K J e)) (k + 1) (va_up I 101 (fa_fill (fun k => I 101 (65 + k)) (I 101) (k + 1))) := by
      intro k hk
      show kX12_act 11 _ _ _ = kX12_act 11 _ _ _
      have hi : (65 : Int32) + nI k = nI (65 + k) := by rw [show (65 : Int32) = nI 65 from rfl, nI_add]
      have h101 : (va_up I 101 (fa_fill (fun k => I 101 (65 + k)) (I 101) k)) 101 (65 + k) = I 101 (65 + k) := by
        rw [va_hit]; exact fa_fill_out (by omega)
      rw [eX12_act_11, if_pos (show nI k < (2535 : Int32) from nI_lt (b := 2535) hk (by decide)), eX12_act_18, hi, q_in_nI (show k < 2600 by omega) (by omega), q_in_nI (show 65 + k < 2600 by omega) (by omega), nI_clamp (show k < 2 ^ 31 by omega), nI_clamp (show 65 + k < 2 ^ 31 by omega), h101]
      simp only [Option.bind_some, Option.toList_some, Option.toList_none, List.nil_append, List.cons_append, q_ck_tt, Bool.and_true, Bool.true_and, if_true, if_false, reduceCtorEq]
      rw [nI_1, q_up_up, fa_next' (f := fun k => I 101 (65 + k)) rfl]
    have hf := q_for (fun k (K : Nat → Nat → Int32) => kX12_act 11 [some (.ref 64), some (.int (nI k))] [] (qm K J e)) 2535 (fun k => va_up I 101 (fa_fill (fun k => I 101 (65 + k)) (I 101) k)) hst
    rw [fa_fill_0, va_up_eq (f := I) (p := 101) rfl] at hf
    have hg : kX12_act 11 [some (.ref 64), some (.int (nI 0))] [] (qm I J e) = kX12_act 49 [some (.ref 64), none] [] (qm (va_up (va_up I 101 (fa_fill (fun k => I 101 (65 + k)) (I 101) 2535)) 64 (va_up (I 64) 68 (nI 39))) J e) := by
      refine Eq.trans hf ?_
      show kX12_act 11 _ _ _ = _
      have h68 : (va_up I 101 (fa_fill (fun k => I 101 (65 + k)) (I 101) 2535)) 64 68 = nI 40 := hd
      rw [eX12_act_11, if_neg (show ¬ nI 2535 < 2535 by decide), eX12_act_39, h68, show nI 40 - 1 = nI 39 from rfl, q_up_va]
      rfl
    rw [show (0 : Int32) = nI 0 from rfl, hg, q_act_49 (n := 39) (by omega) rfl]
    refine ⟨_, rfl, rfl, ?_, fun k hk => ?_, fun p p1 p2 p3 => ?_⟩
    · show va_up (va_up (va_up (I 64) 68 (nI 39)) 68 (nI 40)) 69 0 = _
      rw [va_up_up]
      rfl
    · rw [va_hit]; exact fa_fill_in hk
    · rw [va_miss p3, va_miss p2, va_miss p1, va_miss p2, va_miss p1]
  · rw [if_neg (show ¬ nI dn = (40 : Int32) from fun c => hc (nI_inj (by omega) (by omega) c)), if_neg hc, q_act_49 (n := dn) (by omega) hd, if_pos (show dn < 40 by omega)]
    refine ⟨_, rfl, rfl, rfl, fun k hk => ?_, fun p p1 p2 p3 => ?_⟩
    · rw [va_hit]; exact fa_fill_in hk
    · rw [va_miss p3, va_miss p2, va_miss p1]
end AC
