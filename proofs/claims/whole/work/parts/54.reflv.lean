/-! ===== the reference: levels ===== -/
def qAny : Nat → (Nat → Bool) → Bool
  | 0, _ => false
  | n + 1, p => qAny n p || p n
theorem qAny_iff {n : Nat} {p : Nat → Bool} : qAny n p = true ↔ ∃ k, k < n ∧ p k = true := by
  induction n with
  | zero => exact ⟨fun h => (by cases h), fun ⟨k, h, _⟩ => absurd h (Nat.not_lt_zero k)⟩
  | succ n ih =>
    show (qAny n p || p n) = true ↔ _
    rw [Bool.or_eq_true, ih]
    constructor
    · rintro (⟨k, h1, h2⟩ | h)
      · exact ⟨k, by omega, h2⟩
      · exact ⟨n, by omega, h⟩
    · rintro ⟨k, h1, h2⟩
      by_cases h : k = n
      · subst h; exact Or.inr h2
      · exact Or.inl ⟨k, by omega, h2⟩
theorem qAny_cong {n : Nat} {p q : Nat → Bool} (h : ∀ k, k < n → p k = q k) : qAny n p = qAny n q := by
  induction n with
  | zero => rfl
  | succ n ih => show (qAny n p || p n) = (qAny n q || q n); rw [ih (fun k hk => h k (by omega)), h n (by omega)]
/-- a level, as it is reckoned: and or or of what drives -/
def qFo (low : Bool) (x : Int32) (dr : Nat → Int32) : Nat → Int32
  | 0 => qb low
  | o + 1 => if bt x o then (if low then qFo low x dr o &&& dr o else qFo low x dr o ||| dr o) else qFo low x dr o
def qdr (f d : Nat → Int32) (n : Nat) : Int32 := if f (19 + n) < 0 then d n else f (19 + n)
def qLow (N : Nat) (f : Nat → Int32) (x : Int32) : Bool := qAny N (fun a => qAny a (fun b => bt x a && (bt x b && decide (qsh f a b = 1))))
def qSet (N : Nat) (f : Nat → Int32) (n : Nat) : Int32 := qRn N (qaj f) ((1 : Int32) <<< (nI n &&& 31)) N
def qLvI (N : Nat) (f d : Nat → Int32) (n : Nat) : Int32 := qFo (qLow N f (qSet N f n)) (qSet N f n) (qdr f d) N
section RL
variable (I : Nat → Nat → Int32) (J : Nat → Nat → Int64) (e : QP)
theorem fX12_isLow {N : Nat} (hN : N ≤ 6) (hI : I 64 51 = nI N) (x : Int32) : mX12_isLow [.ref 64, .int x] (qm I J e) = some (some (.int (qb (qLow N (I 94) x))), qm I J e) := by
  have hin : ∀ (o : Bool) (a : Nat), a < N → kX12_isLow 15 [some (.ref 64), some (.int x), some (.int (qb o)), some (.int (nI a)), some (.int 0)] [] (qm I J e) = kX12_isLow 4 [some (.ref 64), some (.int x), some (.int (qb (o || qAny a (fun b => bt x a && (bt x b && decide (qsh (I 94) a b = 1)))))), some (.int (nI (a + 1))), none] [] (qm I J e) := by
    intro o a ha
    have hf := q_for (fun b (y : Bool) => kX12_isLow 15 [some (.ref 64), some (.int x), some (.int (qb y)), some (.int (nI a)), some (.int (nI b))] [] (qm I J e)) a (fun b => o || qAny b (fun b => bt x a && (bt x b && decide (qsh (I 94) a b = 1)))) (fun b hb => ?_)
    · rw [show (o || qAny 0 _) = o from Bool.or_false o] at hf
      refine Eq.trans hf ?_
      rw [eX12_isLow_15, if_neg (nI_nlt (Nat.le_refl a) (by omega)), eX12_isLow_65, nI_1]
    · show kX12_isLow 15 _ _ _ = kX12_isLow 15 [_, _, some (.int (qb (o || (qAny b _ || _)))), _, _] _ _
      rw [eX12_isLow_15, if_pos (nI_lt hb (by omega)), eX12_isLow_21, ← Bool.or_assoc]
      cases ho : (o || qAny b (fun b => bt x a && (bt x b && decide (qsh (I 94) a b = 1)))) with
      | true => rw [if_neg (by decide), eX12_isLow_53, eX12_isLow_58, nI_1]; rfl
      | false =>
        rw [if_pos qb_f, eX12_isLow_25, fX12_has I J e _ (by omega)]
        simp only [Option.bind_some, Option.toList_some, Option.toList_none, List.nil_append, List.cons_append, q_ck_tt, Bool.and_true, Bool.true_and, if_true, if_false, reduceCtorEq, eX12_isLow_30, qb_0]
        cases hx : bt x a with
        | false => rw [if_pos rfl, eX12_isLow_57, eX12_isLow_58, nI_1]; rfl
        | true =>
          rw [if_neg (by decide), eX12_isLow_33, fX12_has I J e _ (by omega)]
          simp only [Option.bind_some, Option.toList_some, Option.toList_none, List.nil_append, List.cons_append, q_ck_tt, Bool.and_true, Bool.true_and, if_true, if_false, reduceCtorEq, eX12_isLow_39, qb_0]
          cases hy : bt x b with
          | false => rw [if_pos rfl, eX12_isLow_57, eX12_isLow_58, nI_1]; rfl
          | true =>
            rw [if_neg (by decide), eX12_isLow_42, fX12_shortOf I J e (by omega) (by omega)]
            simp only [Option.bind_some, Option.toList_some, Option.toList_none, List.nil_append, List.cons_append, q_ck_tt, Bool.and_true, Bool.true_and, if_true, if_false, reduceCtorEq, eX12_isLow_49]
            by_cases hg : qsh (I 94) a b = 1
            · rw [if_pos hg, decide_eq_true hg, eX12_isLow_53, eX12_isLow_58, nI_1]; rfl
            · rw [if_neg hg, decide_eq_false hg, eX12_isLow_57, eX12_isLow_58, nI_1]; rfl
  rw [bX12_isLow, eX12_isLow_0]
  refine Eq.trans (q_for (fun a (y : Bool) => kX12_isLow 4 [some (.ref 64), some (.int x), some (.int (qb y)), some (.int (nI a)), none] [] (qm I J e)) N (fun a => qAny a (fun a => qAny a (fun b => bt x a && (bt x b && decide (qsh (I 94) a b = 1))))) (fun a ha => ?_)) ?_
  · show kX12_isLow 4 _ _ _ = kX12_isLow 4 _ _ _
    rw [eX12_isLow_4, hI, if_pos (nI_lt ha (by omega)), eX12_isLow_12, hin _ a ha]
    rfl
  · show kX12_isLow 4 _ _ _ = _
    rw [eX12_isLow_4, hI, if_neg (nI_nlt (Nat.le_refl N) (by omega)), eX12_isLow_71, q_ck_b]
    rfl
theorem fX12_layLevels {N : Nat} (hN : N ≤ 6) (hI : I 64 51 = nI N) : mX12_layLevels [.ref 64] (qm I J e) = some (none, qm (va_up (va_up I 99 (fa_fill (qdr (I 94) (I 99)) (I 99) N)) 100 (fa_fill (qLvI N (I 94) (I 99)) (I 100) N)) J e) := by
  have h1 : kX12_layLevels 2 [some (.ref 64), some (.int (nI 0)), none, none, none, none] [] (qm I J e) = kX12_layLevels 2 [some (.ref 64), some (.int (nI N)), none, none, none, none] [] (qm (va_up I 99 (fa_fill (qdr (I 94) (I 99)) (I 99) N)) J e) := by
    have hf := q_for (fun n (I' : Nat → Nat → Int32) => kX12_layLevels 2 [some (.ref 64), some (.int (nI n)), none, none, none, none] [] (qm I' J e)) N (fun n => va_up I 99 (fa_fill (qdr (I 94) (I 99)) (I 99) n)) (fun n hn => ?_)
    · rw [fa_fill_0, va_up_eq rfl] at hf
      exact hf
    · show kX12_layLevels 2 _ _ _ = kX12_layLevels 2 _ _ _
      rw [eX12_layLevels_2, show (va_up I 99 (fa_fill (qdr (I 94) (I 99)) (I 99) n)) 64 51 = nI N from hI, if_pos (nI_lt hn (by omega)), eX12_layLevels_10, show (19 : Int32) = nI 19 from rfl, nI_add, q_in_nI (by omega) (by omega), nI_clamp (by omega)]
      show q_ck (true && true) (if I 94 (19 + n) < 0 then _ else _) = _
      have hst : ∀ v : Int32, v = qdr (I 94) (I 99) n → kX12_layLevels 45 [some (.ref 64), some (.int (nI n)), none, none, none, none] [.int v, .int (nI n), .ref 99] (qm (va_up I 99 (fa_fill (qdr (I 94) (I 99)) (I 99) n)) J e) = kX12_layLevels 2 [some (.ref 64), some (.int (nI (n + 1))), none, none, none, none] [] (qm (va_up I 99 (fa_fill (qdr (I 94) (I 99)) (I 99) (n + 1))) J e) := by
        intro v hv
        rw [eX12_layLevels_45, q_in_nI (by omega) (by omega), nI_clamp (by omega), nI_1, q_up_up, hv]
        show q_ck (true && true) _ = _
        rw [← fa_fill_succ]
        rfl
      by_cases hg : I 94 (19 + n) < 0
      · rw [if_pos hg, eX12_layLevels_39, q_in_nI (by omega) (by omega), nI_clamp (by omega)]
        refine hst _ ?_
        show fa_fill (qdr (I 94) (I 99)) (I 99) n n = _
        rw [fa_fill_out (Nat.le_refl n)]; unfold qdr; rw [if_pos hg]
      · rw [if_neg hg, eX12_layLevels_27, show (19 : Int32) = nI 19 from rfl, nI_add, q_in_nI (by omega) (by omega), nI_clamp (by omega)]
        refine hst _ ?_
        show I 94 (19 + n) = _
        unfold qdr; rw [if_neg hg]
  rw [bX12_layLevels, eX12_layLevels_0]
  refine Eq.trans h1 ?_
  rw [eX12_layLevels_2, show (va_up I 99 (fa_fill (qdr (I 94) (I 99)) (I 99) N)) 64 51 = nI N from hI, if_neg (nI_nlt (Nat.le_refl N) (by omega)), eX12_layLevels_52]
  have hf := q_for (fun n (I' : Nat → Nat → Int32) => kX12_layLevels 54 [some (.ref 64), some (.int (nI n)), none, none, none, none] [] (qm I' J e)) N (fun n => va_up (va_up I 99 (fa_fill (qdr (I 94) (I 99)) (I 99) N)) 100 (fa_fill (qLvI N (I 94) (I 99)) (I 100) n)) (fun n hn => ?_)
  · rw [fa_fill_0, va_up_eq (f := va_up I 99 (fa_fill (qdr (I 94) (I 99)) (I 99) N)) (p := 100) (a := I 100) rfl] at hf
    refine Eq.trans hf ?_
    rw [eX12_layLevels_54, show (va_up (va_up I 99 (fa_fill (qdr (I 94) (I 99)) (I 99) N)) 100 (fa_fill (qLvI N (I 94) (I 99)) (I 100) N)) 64 51 = nI N from hI, if_neg (nI_nlt (Nat.le_refl N) (by omega)), eX12_layLevels_150]
  · show kX12_layLevels 54 _ _ _ = kX12_layLevels 54 _ _ _
    generalize hG : va_up (va_up I 99 (fa_fill (qdr (I 94) (I 99)) (I 99) N)) 100 (fa_fill (qLvI N (I 94) (I 99)) (I 100) n) = G
    have g64 : G 64 51 = nI N := by rw [← hG]; exact hI
    have g94 : G 94 = I 94 := by rw [← hG]; rfl
    have g99 : G 99 = fa_fill (qdr (I 94) (I 99)) (I 99) N := by rw [← hG]; rfl
    have g100 : G 100 = fa_fill (qLvI N (I 94) (I 99)) (I 100) n := by rw [← hG]; rfl
    rw [eX12_layLevels_54, g64, if_pos (nI_lt hn (by omega)), eX12_layLevels_62, fX12_togetherWith G J e hN g64 hn]
    simp only [Option.bind_some, Option.toList_some, Option.toList_none, List.nil_append, List.cons_append, q_ck_tt, Bool.and_true, Bool.true_and, if_true, if_false, reduceCtorEq, eX12_layLevels_67]
    rw [fX12_isLow G J e hN g64]
    simp only [Option.bind_some, Option.toList_some, Option.toList_none, List.nil_append, List.cons_append, q_ck_tt, Bool.and_true, Bool.true_and, if_true, if_false, reduceCtorEq, eX12_layLevels_73]
    rw [fX12_truth]
    simp only [Option.bind_some, Option.toList_some, Option.toList_none, List.nil_append, List.cons_append, q_ck_tt, Bool.and_true, Bool.true_and, if_true, if_false, reduceCtorEq, eX12_layLevels_78]
    rw [g94]
    show kX12_layLevels 83 [some (.ref 64), some (.int (nI n)), some (.int (qSet N (I 94) n)), some (.int (qb (qLow N (I 94) (qSet N (I 94) n)))), some (.int (qb (qLow N (I 94) (qSet N (I 94) n)))), some (.int (nI 0))] [] (qm G J e) = _
    refine Eq.trans (q_for (fun o (v : Int32) => kX12_layLevels 83 [some (.ref 64), some (.int (nI n)), some (.int (qSet N (I 94) n)), some (.int (qb (qLow N (I 94) (qSet N (I 94) n)))), some (.int v), some (.int (nI o))] [] (qm G J e)) N (fun o => qFo (qLow N (I 94) (qSet N (I 94) n)) (qSet N (I 94) n) (qdr (I 94) (I 99)) o) (fun o ho => ?_)) ?_
    · show kX12_layLevels 83 _ _ _ = kX12_layLevels 83 [_, _, _, _, some (.int (if _ then _ else _)), _] _ _
      have go : G 99 o = qdr (I 94) (I 99) o := by rw [g99, fa_fill_in ho]
      rw [eX12_layLevels_83, g64, if_pos (nI_lt ho (by omega)), eX12_layLevels_92, fX12_has G J e _ (by omega)]
      simp only [Option.bind_some, Option.toList_some, Option.toList_none, List.nil_append, List.cons_append, q_ck_tt, Bool.and_true, Bool.true_and, if_true, if_false, reduceCtorEq, eX12_layLevels_98, qb_0]
      cases hx : bt (qSet N (I 94) n) o with
      | false => rw [if_pos rfl, if_neg Bool.false_ne_true, eX12_layLevels_130, nI_1]
      | true =>
        rw [if_neg (by decide), if_pos rfl, eX12_layLevels_101]
        cases hl : qLow N (I 94) (qSet N (I 94) n) with
        | false => rw [if_pos qb_f, if_neg Bool.false_ne_true, eX12_layLevels_118, q_in_nI (by omega) (by omega), nI_clamp (by omega), go, Bool.and_true, q_ck_tt, eX12_layLevels_128, eX12_layLevels_130, nI_1]
        | true => rw [if_neg (by decide), if_pos rfl, eX12_layLevels_105, q_in_nI (by omega) (by omega), nI_clamp (by omega), go, Bool.and_true, q_ck_tt, eX12_layLevels_128, eX12_layLevels_130, nI_1]
    · show kX12_layLevels 83 _ _ _ = _
      rw [eX12_layLevels_83, g64, if_neg (nI_nlt (Nat.le_refl N) (by omega)), eX12_layLevels_136, q_in_nI (by omega) (by omega), nI_clamp (by omega), nI_1, Bool.and_true, q_ck_tt, q_up_va, g100]
      rw [← fa_fill_succ (qLvI N (I 94) (I 99)), ← hG, va_up_up]
      rfl
end RL
