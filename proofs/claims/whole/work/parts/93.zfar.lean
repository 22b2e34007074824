/-! ===== farthest ===== -/
/-- the reference's table: how far from a to b -/
def q_Fr (I : Nat → Nat → Int32) : Prop := ∀ a, a < 16 → ∀ b, b < 16 → I 95 (16 * a + b) = nI (qMz false a b)
def qFb (f : Nat → Nat) : Nat → Nat
  | 0 => 0
  | k + 1 => if f (qFb f k) < f (k + 1) then k + 1 else qFb f k
theorem qFb_le (f : Nat → Nat) : ∀ k, qFb f k ≤ k
  | 0 => Nat.le_refl _
  | k + 1 => by
    have := qFb_le f k
    rw [qFb]
    split <;> omega
section FA
variable {I : Nat → Nat → Int32} {J : Nat → Nat → Int64} {e : QP} {rb tx L : Nat}
theorem fX11_isState (a : Int32) : mX11_isState [.int a] (qm I J e) = some (some (.int (qb (q_in a 16))), qm I J e) := by
  rw [q_inP a (show (16 : Nat) < 2 ^ 30 by omega), show nI 16 = (16 : Int32) from rfl]
  simp only [bX11_isState, eX11_isState_0, eX11_isState_14, eX11_isState_4, eX11_isState_15, eX11_isState_10]
  by_cases h1 : a < 0 <;> by_cases h2 : a < 16 <;> simp [h1, h2, q_ck, qb]
theorem fX12_isState (a : Int32) : mX12_isState [.int a] (qm I J e) = some (some (.int (qb (q_in a 16))), qm I J e) := by
  simp only [bX12_isState, eX12_isState_0, eX12_isState_7, show (15 : Int32) = nI 16 - 1 from rfl, fX12_isIn0 I J e a (show (16 : Nat) < 2 ^ 30 by omega), Option.bind_some, Option.toList_some, Option.toList_none, List.nil_append, List.cons_append, q_ck_tt, Bool.and_true, Bool.true_and, if_true, if_false, reduceCtorEq, qb_ck]
theorem qMz_le (bw : Bool) {one : Nat} : q_le (qMz bw one) := by
  unfold qMz
  refine qMo_le ?_ 15 (by omega)
  intro k hk
  rw [va_up_at]
  split <;> omega
theorem o_farthest (hS : q_Sta I) (hF : q_Fr I) (a : Int32) : q_Obs mX11_farthest mX12_farthest [.int a] I J (3, 17, rb, tx, L) := by
  have h10 : ¬ ((1 : Int32) = 0) := by decide
  cases hq : q_in a 16 with
  | false =>
    refine ⟨-1, I, I, ?_, ?_, q_Off_refl _, q_Off_refl _⟩
    · rw [bX11_farthest, eX11_farthest_0, fX11_isState, hq]
      simp only [Option.bind_some, Option.toList_some, Option.toList_none, List.nil_append, List.cons_append, q_ck_tt, Bool.and_true, Bool.true_and, if_true, if_false, reduceCtorEq]
      rw [eX11_farthest_4, if_pos qb_f, eX11_farthest_18, eX11_farthest_19]
    · rw [bX12_farthest, eX12_farthest_0, fX12_isState, hq]
      simp only [Option.bind_some, Option.toList_some, Option.toList_none, List.nil_append, List.cons_append, q_ck_tt, Bool.and_true, Bool.true_and, if_true, if_false, reduceCtorEq]
      rw [eX12_farthest_4, if_pos qb_f, eX12_farthest_7]
  | true =>
    obtain ⟨s, hs, rfl, -⟩ := q_in_of hq
    have hme := fX10_measure (J := J) (e := (3, 17, rb, tx, L)) hS false hs
    have hle : q_le (qMz false s) := qMz_le false
    have hfr := hF s hs
    generalize qMz false s = f at hme hle hfr
    have h95 : ∀ b, b < 16 → (va_up I 35 (q16 f (I 35))) 95 (16 * s + b) = nI (f b) := fun b hb => by rw [va_miss (by decide)]; exact hfr b hb
    have h35 : ∀ b, b < 16 → (va_up I 35 (q16 f (I 35))) 35 b = nI (f b) := fun b hb => by rw [va_hit, q16_in hb]
    generalize hM : va_up I 35 (q16 f (I 35)) = M at hme h95 h35
    have ho : q_Off I M := by rw [← hM]; exact q_Off_va _ rfl _
    refine ⟨nI (qFb f 15), M, M, ?_, ?_, ho, q_Off_refl _⟩
    · have hst : ∀ k, k < 15 → (fun k (y : Nat) => kX10_farthestFrom 10 [some (.ref 34), none, some (.int (nI y)), some (.int (nI (k + 1)))] [] (qm M J (3, 17, rb, tx, L))) k (qFb f k) = (fun k (y : Nat) => kX10_farthestFrom 10 [some (.ref 34), none, some (.int (nI y)), some (.int (nI (k + 1)))] [] (qm M J (3, 17, rb, tx, L))) (k + 1) (qFb f (k + 1)) := by
        intro k hk
        show kX10_farthestFrom 10 _ _ _ = kX10_farthestFrom 10 _ _ _
        have hl := qFb_le f k
        have b1 := hle (qFb f k) (by omega)
        have b2 := hle (k + 1) (by omega)
        rw [eX10_farthestFrom_10, if_pos (show nI (k + 1) < (16 : Int32) from nI_lt (b := 16) (by omega) (by decide)), eX10_farthestFrom_16, q_in_nI (show qFb f k < 16 by omega) (by omega), q_in_nI (show k + 1 < 16 by omega) (by omega), nI_clamp (show qFb f k < 2 ^ 31 by omega), nI_clamp (show k + 1 < 2 ^ 31 by omega), h35 _ (by omega), h35 _ (by omega), qFb]
        simp only [Option.bind_some, Option.toList_some, Option.toList_none, List.nil_append, List.cons_append, q_ck_tt, Bool.and_true, Bool.true_and, if_true, if_false, reduceCtorEq]
        by_cases c : f (qFb f k) < f (k + 1)
        · rw [if_pos (nI_lt c (by omega)), if_pos c, eX10_farthestFrom_31, eX10_farthestFrom_33, nI_1]
        · rw [if_neg (nI_nlt (by omega) (by omega)), if_neg c, eX10_farthestFrom_33, nI_1]
      have hf := q_for (fun k (y : Nat) => kX10_farthestFrom 10 [some (.ref 34), none, some (.int (nI y)), some (.int (nI (k + 1)))] [] (qm M J (3, 17, rb, tx, L))) 15 (fun k => qFb f k) hst
      have hff : mX10_farthestFrom [.ref 34, .int (nI s)] (qm I J (3, 17, rb, tx, L)) = some (some (.int (nI (qFb f 15))), qm M J (3, 17, rb, tx, L)) := by
        rw [bX10_farthestFrom, eX10_farthestFrom_0, show (0 : Int32) = qb false from rfl, hme]
        simp only [Option.bind_some, Option.toList_some, Option.toList_none, List.nil_append, List.cons_append, q_ck_tt, Bool.and_true, Bool.true_and, if_true, if_false, reduceCtorEq]
        rw [eX10_farthestFrom_6]
        refine Eq.trans hf ?_
        show kX10_farthestFrom 10 _ _ _ = _
        rw [eX10_farthestFrom_10, if_neg (show ¬ nI (15 + 1) < (16 : Int32) by decide), eX10_farthestFrom_39]
      rw [bX11_farthest, eX11_farthest_0, fX11_isState, hq]
      simp only [Option.bind_some, Option.toList_some, Option.toList_none, List.nil_append, List.cons_append, q_ck_tt, Bool.and_true, Bool.true_and, if_true, if_false, reduceCtorEq]
      rw [eX11_farthest_4, qb_t, if_neg h10, eX11_farthest_7, hff]
      simp only [Option.bind_some, Option.toList_some, Option.toList_none, List.nil_append, List.cons_append, q_ck_tt, Bool.and_true, Bool.true_and, if_true, if_false, reduceCtorEq]
      rw [eX11_farthest_15, eX11_farthest_19]
    · have hst : ∀ k, k < 15 → (fun k (y : Nat) => kX12_farthest 13 [some (.ref 64), some (.int (nI s)), some (.int (nI y)), some (.int (nI (k + 1)))] [] (qm M J (3, 17, rb, tx, L))) k (qFb f k) = (fun k (y : Nat) => kX12_farthest 13 [some (.ref 64), some (.int (nI s)), some (.int (nI y)), some (.int (nI (k + 1)))] [] (qm M J (3, 17, rb, tx, L))) (k + 1) (qFb f (k + 1)) := by
        intro k hk
        show kX12_farthest 13 _ _ _ = kX12_farthest 13 _ _ _
        have hl := qFb_le f k
        have b1 := hle (qFb f k) (by omega)
        have b2 := hle (k + 1) (by omega)
        have hm : (16 : Int32) * nI s = nI (16 * s) := by rw [show (16 : Int32) = nI 16 from rfl, pk_mul]
        rw [eX12_farthest_13, if_pos (show nI (k + 1) < (16 : Int32) from nI_lt (b := 16) (by omega) (by decide)), eX12_farthest_19, hm, nI_add, q_in_nI (show 16 * s + (k + 1) < 256 by omega) (by omega), nI_clamp (show 16 * s + (k + 1) < 2 ^ 31 by omega), h95 (k + 1) (by omega)]
        simp only [Option.bind_some, Option.toList_some, Option.toList_none, List.nil_append, List.cons_append, q_ck_tt, Bool.and_true, Bool.true_and, if_true, if_false, reduceCtorEq]
        rw [eX12_farthest_39, nI_add, q_in_nI (show 16 * s + qFb f k < 256 by omega) (by omega), nI_clamp (show 16 * s + qFb f k < 2 ^ 31 by omega), h95 (qFb f k) (by omega), qFb]
        simp only [Option.bind_some, Option.toList_some, Option.toList_none, List.nil_append, List.cons_append, q_ck_tt, Bool.and_true, Bool.true_and, if_true, if_false, reduceCtorEq]
        by_cases c : f (qFb f k) < f (k + 1)
        · rw [if_pos (nI_lt c (by omega)), if_pos c, eX12_farthest_44, eX12_farthest_49, nI_1]
        · rw [if_neg (nI_nlt (by omega) (by omega)), if_neg c, eX12_farthest_48, eX12_farthest_49, nI_1]
      have hf := q_for (fun k (y : Nat) => kX12_farthest 13 [some (.ref 64), some (.int (nI s)), some (.int (nI y)), some (.int (nI (k + 1)))] [] (qm M J (3, 17, rb, tx, L))) 15 (fun k => qFb f k) hst
      rw [bX12_farthest, eX12_farthest_0, fX12_isState, hq]
      simp only [Option.bind_some, Option.toList_some, Option.toList_none, List.nil_append, List.cons_append, q_ck_tt, Bool.and_true, Bool.true_and, if_true, if_false, reduceCtorEq]
      rw [eX12_farthest_4, qb_t, if_neg h10, eX12_farthest_9]
      refine Eq.trans hf ?_
      show kX12_farthest 13 _ _ _ = _
      rw [eX12_farthest_13, if_neg (show ¬ nI (15 + 1) < (16 : Int32) by decide), eX12_farthest_56]
end FA
