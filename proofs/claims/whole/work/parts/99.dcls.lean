/-! ===== the class's tokens: signs, the whole of advance() ===== -/
def qsb (a : Int32) : Bool := decide (a = 59) || ((!decide (a < 40) && (!decide ((45 : Int32) < a) && !decide (a = 44))) || (decide (a = 47) || ((!decide (a < 60) && !decide ((62 : Int32) < a)) || decide (a = 37))))
theorem q_by_sg : ∀ v, v < 256 → qsb (qby v) = qSn v := by decide +kernel
theorem fX9_isSignByte (I : Nat → Nat → Int32) (J : Nat → Nat → Int64) (e : QP) (a : Int32) : mX9_isSignByte [.int a] (qm I J e) = some (some (.int (qb (qsb a))), qm I J e) := by
  have h1 : kX9_isSignByte 48 [none] [] (qm I J e) = some (some (.int (qb true)), qm I J e) := by rw [eX9_isSignByte_48, eX9_isSignByte_53]; rfl
  have h0 : kX9_isSignByte 52 [none] [] (qm I J e) = some (some (.int (qb false)), qm I J e) := by rw [eX9_isSignByte_52, eX9_isSignByte_53]; rfl
  have h42 : kX9_isSignByte 42 [some (.int a)] [] (qm I J e) = some (some (.int (qb (decide (a = 37)))), qm I J e) := by
    rw [eX9_isSignByte_42]
    by_cases g : a = 37
    · rw [if_pos g, h1, decide_eq_true g]
    · rw [if_neg g, h0, decide_eq_false g]
  have h30 : kX9_isSignByte 30 [some (.int a)] [] (qm I J e) = some (some (.int (qb ((!decide (a < 60) && !decide ((62 : Int32) < a)) || decide (a = 37)))), qm I J e) := by
    rw [eX9_isSignByte_30]
    by_cases g : a < 60
    · rw [if_pos g, h42, decide_eq_true g]; rfl
    · rw [if_neg g, eX9_isSignByte_36]
      by_cases g2 : (62 : Int32) < a
      · rw [if_pos g2, h42, decide_eq_false g, decide_eq_true g2]; rfl
      · rw [if_neg g2, h1, decide_eq_false g, decide_eq_false g2]; rfl
  have h24 : kX9_isSignByte 24 [some (.int a)] [] (qm I J e) = some (some (.int (qb (decide (a = 47) || ((!decide (a < 60) && !decide ((62 : Int32) < a)) || decide (a = 37))))), qm I J e) := by
    rw [eX9_isSignByte_24]
    by_cases g : a = 47
    · rw [if_pos g, h1, decide_eq_true g, Bool.true_or]
    · rw [if_neg g, h30, decide_eq_false g, Bool.false_or]
  rw [bX9_isSignByte, eX9_isSignByte_0]
  unfold qsb
  by_cases g : a = 59
  · rw [if_pos g, h1, decide_eq_true g, Bool.true_or]
  · rw [if_neg g, eX9_isSignByte_6, decide_eq_false g, Bool.false_or]
    by_cases g2 : a < 40
    · rw [if_pos g2, h24, decide_eq_true g2]; rfl
    · rw [if_neg g2, eX9_isSignByte_12, decide_eq_false g2]
      by_cases g3 : (45 : Int32) < a
      · rw [if_pos g3, h24, decide_eq_true g3]; rfl
      · rw [if_neg g3, eX9_isSignByte_18, decide_eq_false g3]
        by_cases g4 : a = 44
        · rw [if_pos g4, h24, decide_eq_true g4]; rfl
        · rw [if_neg g4, h1, decide_eq_false g4]; rfl
/-- the token that stands at p, as the class has it -/
def q_Ct (v : Nat → Nat) (n p : Nat) (a s c x : Int32) (w : Int64) : Prop := s = nI (qse v n p) ∧
  ((qse v n p = n ∧ c = 0 ∧ a = nI n) ∨
   (qse v n p < n ∧ qLe (v (qse v n p)) = true ∧ a = nI (qwe v n (qse v n p)) ∧ w = qwc v n (qse v n p) ∧ ((8 < qwe v n (qse v n p) - qse v n p ∧ c = 1) ∨ (qwe v n (qse v n p) - qse v n p ≤ 8 ∧ ((∃ k, k < 21 ∧ w = qKC k ∧ c = 2 ∧ x = nI k) ∨ ((∀ k, k < 21 → qKC k ≠ w) ∧ c = 3))))) ∨
   (qse v n p < n ∧ qLe (v (qse v n p)) = false ∧ qDi (v (qse v n p)) = true ∧ a = nI (qne v n (qse v n p)) ∧ x = nI (qnv v n (qse v n p)) ∧ c = if 4 < qne v n (qse v n p) - qse v n p ∨ (qne v n (qse v n p) < n ∧ qLe (v (qne v n (qse v n p))) = true) then 1 else 4) ∨
   (qse v n p < n ∧ qLe (v (qse v n p)) = false ∧ qDi (v (qse v n p)) = false ∧ x = qby (v (qse v n p)) ∧ a = nI (qse v n p + 1) ∧ c = if qSn (v (qse v n p)) = true then 5 else 1))
theorem q_advC {I : Nat → Nat → Int32} {J : Nat → Nat → Int64} {L : Nat} {v : Nat → Nat} {n p : Nat} (hT : q_Tc I v n) (hK : q_Ky J) (hp : I 31 3 = nI p) (hpn : p ≤ n) :
    ∃ (f : Nat → Int32) (w : Int64), mX9_advance [.ref 31] (qm I J (3, 17, 17, 2, L)) = some (none, qm (va_up I 31 f) (q_up J 31 7 w) (3, 17, 17, 2, L)) ∧ (∀ k, k ≠ 3 → k ≠ 4 → k ≠ 5 → k ≠ 6 → f k = I 31 k) ∧ q_Ct v n p (f 3) (f 4) (f 5) (f 6) w := by
  have hn := hT.1
  have hq := qre_le (fun k => qBk (v k)) (n - p) p
  have hqe : qre (fun k => qBk (v k)) (n - p) p = qse v n p := rfl
  rw [hqe] at hq
  generalize hs : qse v n p = s at hq hqe
  have h0 : mX9_advance [.ref 31] (qm I J (3, 17, 17, 2, L)) = kX9_advance 52 [some (.ref 31), none] [] (qm (va_up I 31 (va_up (I 31) 3 (nI s))) J (3, 17, 17, 2, L)) := by
    rw [bX9_advance, q_adv_skip (v := v) (n := n) (n - p) p I hT hp (by omega), hqe, q_up_va I]
  rw [h0, eX9_advance_52, q_up_up, va_hit, va_hit, va_miss (show (2 : Nat) ≠ 3 by decide), hT.2.1]
  generalize hg : va_up (va_up (I 31) 3 (nI s)) 4 (nI s) = g
  have g3 : g 3 = nI s := by rw [← hg, va_miss (by decide), va_hit]
  have g4 : g 4 = nI s := by rw [← hg, va_hit]
  have g2 : g 2 = nI n := by rw [← hg, va_miss (by decide), va_miss (by decide)]; exact hT.2.1
  have go : ∀ k, k ≠ 3 → k ≠ 4 → g k = I 31 k := fun k a b => by rw [← hg, va_miss b, va_miss a]
  have hrow : ∀ k, va_up I 31 g 31 k = g k := fun k => by rw [va_hit]
  have h2r : va_up I 31 g 2 = I 2 := va_miss (by decide)
  have hT' : q_Tc (va_up I 31 g) v n := ⟨hn, by rw [hrow]; exact g2, fun k hk => by rw [h2r]; exact hT.2.2 k hk⟩
  have hJid : q_up J 31 7 (J 31 7) = J := q_up_eq rfl
  by_cases hlt : s < n
  · obtain ⟨hv, h2⟩ := hT.2.2 _ hlt
    have hin : q_in (nI s) 1600 = true := q_in_nI (by omega) (by omega)
    rw [if_pos (nI_lt hlt (by omega)), eX9_advance_77, hrow, g4, hin, nI_n (by omega), h2r, h2, Bool.true_and, q_ck_tt]
    cases hl : qLe (v s) with
    | true =>
      obtain ⟨h5, h6⟩ := q_byL hv hl
      obtain ⟨f, e1, e2, e3, e4⟩ := q_takeWord (L := L) hT' hK (by rw [hrow]; exact g3) (by rw [hrow]; exact g4) (Nat.le_of_lt hlt)
      rw [if_neg h5, eX9_advance_93, if_neg h6, eX9_advance_99, e1]
      refine ⟨f, qwc v n s, ?_, ?_, ?_⟩
      · rw [va_up_up]
        simp only [Option.bind_some, Option.toList_some, Option.toList_none, List.nil_append, List.cons_append, q_ck_tt, Bool.and_true, Bool.true_and, if_true, if_false, reduceCtorEq]
        rw [eX9_advance_103, eX9_advance_156]
      · intro k a b c d; rw [e2 k a c d, hrow, go k a b]
      · refine ⟨by rw [e2 4 (by decide) (by decide) (by decide), hrow, g4, hs], Or.inr (Or.inl ?_)⟩
        rw [hs]
        exact ⟨hlt, hl, e3, rfl, e4⟩
    | false =>
      have hrest : ∃ (f : Nat → Int32) (w : Int64), kX9_advance 106 [some (.ref 31), some (.int (qby (v s)))] [] (qm (va_up I 31 g) J (3, 17, 17, 2, L)) = some (none, qm (va_up I 31 f) (q_up J 31 7 w) (3, 17, 17, 2, L)) ∧ (∀ k, k ≠ 3 → k ≠ 4 → k ≠ 5 → k ≠ 6 → f k = I 31 k) ∧ q_Ct v n p (f 3) (f 4) (f 5) (f 6) w := by
        rw [eX9_advance_106]
        cases hd : qDi (v s) with
        | true =>
          obtain ⟨h5, h6⟩ := q_byD hv hd
          have e1 := q_takeNumber (J := J) (L := L) hT' (by rw [hrow]; exact g3) (by rw [hrow]; exact g4) (Nat.le_of_lt hlt)
          rw [va_up_up, va_hit] at e1
          generalize hF : va_up (va_up (va_up g 6 (nI (qnv v n s))) 3 (nI (qne v n s))) 5 (if 4 < qne v n s - s ∨ (qne v n s < n ∧ qLe (v (qne v n s)) = true) then (1 : Int32) else 4) = F at e1
          rw [if_neg h5, eX9_advance_112, if_neg h6, eX9_advance_118, e1]
          refine ⟨F, J 31 7, ?_, ?_, ?_, Or.inr (Or.inr (Or.inl ?_))⟩
          · rw [hJid]
            simp only [Option.bind_some, Option.toList_some, Option.toList_none, List.nil_append, List.cons_append, q_ck_tt, Bool.and_true, Bool.true_and, if_true, if_false, reduceCtorEq]
            rw [eX9_advance_122, eX9_advance_156]
          · intro k a b c d; rw [← hF, va_miss c, va_miss a, va_miss d, go k a b]
          · rw [← hF, va_miss (by decide), va_miss (by decide), va_miss (by decide), g4, hs]
          · rw [hs]
            refine ⟨hlt, hl, hd, ?_, ?_, ?_⟩
            · rw [← hF, va_miss (by decide), va_hit]
            · rw [← hF, va_miss (by decide), va_miss (by decide), va_hit]
            · rw [← hF, va_hit]
        | false =>
          have h125 : kX9_advance 125 [some (.ref 31), some (.int (qby (v s)))] [] (qm (va_up I 31 g) J (3, 17, 17, 2, L)) = some (none, qm (va_up I 31 (va_up (va_up (va_up g 5 (if qSn (v s) = true then 5 else 1)) 6 (qby (v s))) 3 (nI (s + 1)))) J (3, 17, 17, 2, L)) := by
            have hfin : ∀ x : Int32, kX9_advance 138 [some (.ref 31), some (.int (qby (v s)))] [.int x, .ref 31] (qm (va_up I 31 g) J (3, 17, 17, 2, L)) = some (none, qm (va_up I 31 (va_up (va_up (va_up g 5 x) 6 (qby (v s))) 3 (nI (s + 1)))) J (3, 17, 17, 2, L)) := fun x => by
              rw [eX9_advance_138, eX9_advance_156, hrow, g3, q_up_up, q_up_up, q_up_up, show nI s + 1 = nI (s + 1) from nI_add s 1]
            rw [eX9_advance_125, fX9_isSignByte, q_by_sg _ hv]
            simp only [Option.bind_some, Option.toList_some, Option.toList_none, List.nil_append, List.cons_append, q_ck_tt, Bool.and_true, Bool.true_and, if_true, if_false, reduceCtorEq]
            cases hg : qSn (v s) with
            | true =>
              simp only [Option.bind_some, Option.toList_some, Option.toList_none, List.nil_append, List.cons_append, q_ck_tt, Bool.and_true, Bool.true_and, if_true, if_false, reduceCtorEq]
              rw [eX9_advance_130]
              rw [if_neg (by decide), eX9_advance_133, hfin]
            | false =>
              simp only [Option.bind_some, Option.toList_some, Option.toList_none, List.nil_append, List.cons_append, q_ck_tt, Bool.and_true, Bool.true_and, if_true, if_false, reduceCtorEq]
              rw [eX9_advance_130]
              rw [if_pos (by decide), eX9_advance_137, hfin]
          have hout : ∃ (f : Nat → Int32) (w : Int64), kX9_advance 125 [some (.ref 31), some (.int (qby (v s)))] [] (qm (va_up I 31 g) J (3, 17, 17, 2, L)) = some (none, qm (va_up I 31 f) (q_up J 31 7 w) (3, 17, 17, 2, L)) ∧ (∀ k, k ≠ 3 → k ≠ 4 → k ≠ 5 → k ≠ 6 → f k = I 31 k) ∧ q_Ct v n p (f 3) (f 4) (f 5) (f 6) w := by
            refine ⟨va_up (va_up (va_up g 5 (if qSn (v s) = true then 5 else 1)) 6 (qby (v s))) 3 (nI (s + 1)), J 31 7, by rw [hJid]; exact h125, ?_, ?_, Or.inr (Or.inr (Or.inr ?_))⟩
            · intro k a b c d; rw [va_miss a, va_miss d, va_miss c, go k a b]
            · rw [va_miss (by decide), va_miss (by decide), va_miss (by decide), g4, hs]
            · rw [hs]
              refine ⟨hlt, hl, hd, ?_, ?_, ?_⟩
              · rw [va_miss (by decide), va_hit]
              · rw [va_hit]
              · rw [va_miss (by decide), va_miss (by decide), va_hit]
          rcases q_byE hv hd with h5 | ⟨h5, h6⟩
          · rw [if_pos h5]; exact hout
          · rw [if_neg h5, eX9_advance_112, if_pos h6]; exact hout
      rcases q_byN hv hl with h5 | ⟨h5, h6⟩
      · rw [if_pos h5]; exact hrest
      · rw [if_neg h5, eX9_advance_93, if_pos h6]; exact hrest
  · have hsn : s = n := by omega
    rw [if_neg (nI_nlt (by omega) (by omega)), eX9_advance_71, q_up_up]
    refine ⟨va_up g 5 0, J 31 7, by rw [hJid], ?_, ?_, Or.inl ?_⟩
    · intro k a b c d; rw [va_miss c, go k a b]
    · rw [va_miss (by decide), g4, hs]
    · rw [hs]
      exact ⟨hsn, va_hit, by rw [va_miss (by decide), g3, hsn]⟩
