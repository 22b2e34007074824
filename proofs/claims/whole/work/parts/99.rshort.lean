/-! ===== lines: shorts ===== -/
theorem q_pf_lp {I : Nat → Nat → Int32} {J : Nat → Nat → Int64} {e : QP} (hS : q_Sta I) {lo hi : Nat} (hl : lo < 6) (hh : hi < 6) : ∀ (f i : Nat), i + f = 14 → ∃ p, p < 15 ∧ kX3_pairOf 15 [none, none, some (.int (nI lo)), some (.int (nI hi)), some (.int (nI i))] [] (qm I J e) = some (some (.int (nI p)), qm I J e) ∧ (p = 14 ∨ (qla p = lo ∧ qob p = hi)) ∧ ∀ j, i ≤ j → j < p → ¬ (qla j = lo ∧ qob j = hi) := by
  intro f
  induction f with
  | zero =>
    intro i hi'
    have : i = 14 := by omega
    subst this
    refine ⟨14, by omega, ?_, Or.inl rfl, fun j a b => by omega⟩
    rw [eX3_pairOf_15, if_neg (by decide), eX3_pairOf_48]
  | succ f ih =>
    intro i hif
    have h2 : nI i + 1 = nI (i + 1) := nI_add i 1
    obtain ⟨t1, t2, t3, t4⟩ := qla_t i (by omega)
    have h42 : kX3_pairOf 42 [none, none, some (.int (nI lo)), some (.int (nI hi)), some (.int (nI i))] [] (qm I J e) = kX3_pairOf 15 [none, none, some (.int (nI lo)), some (.int (nI hi)), some (.int (nI (i + 1)))] [] (qm I J e) := by rw [eX3_pairOf_42, h2]
    obtain ⟨p, p1, p2, p3, p4⟩ := ih (i + 1) (by omega)
    have hgo : kX3_pairOf 15 [none, none, some (.int (nI lo)), some (.int (nI hi)), some (.int (nI i))] [] (qm I J e) = if nI (qla i) = nI lo then (if nI (qob i) = nI hi then some (some (.int (nI i)), qm I J e) else some (some (.int (nI p)), qm I J e)) else some (some (.int (nI p)), qm I J e) := by
      rw [eX3_pairOf_15, if_pos (show nI i < (14 : Int32) from nI_lt (b := 14) (by omega) (by omega)), eX3_pairOf_22, q_in_nI (by omega) (by omega), nI_n (by omega), Bool.true_and, q_ck_tt, hS.2.1, t1, h42, p2, eX3_pairOf_32, q_in_nI (by omega) (by omega), nI_n (by omega), Bool.true_and, q_ck_tt, hS.2.2.1, t2, h42, p2, eX3_pairOf_48]
    by_cases g1 : qla i = lo
    · by_cases g2 : qob i = hi
      · rw [if_pos (by rw [g1]), if_pos (by rw [g2])] at hgo
        exact ⟨i, by omega, hgo, Or.inr ⟨g1, g2⟩, fun j a b => by omega⟩
      · rw [if_pos (by rw [g1]), if_neg (fun g => g2 (nI_inj (by omega) (by omega) g))] at hgo
        refine ⟨p, p1, hgo, p3, fun j a b g => ?_⟩
        by_cases hj : j = i
        · subst hj; exact g2 g.2
        · exact p4 j (by omega) b g
    · rw [if_neg (fun g => g1 (nI_inj (by omega) (by omega) g))] at hgo
      refine ⟨p, p1, hgo, p3, fun j a b g => ?_⟩
      by_cases hj : j = i
      · subst hj; exact g1 g.1
      · exact p4 j (by omega) b g
theorem fX3_pairOf {I : Nat → Nat → Int32} {J : Nat → Nat → Int64} {e : QP} (hS : q_Sta I) {a b : Nat} (ha : a < 6) (hb : b < 6) : ∃ p, p < 15 ∧ mX3_pairOf [.int (nI a), .int (nI b)] (qm I J e) = some (some (.int (nI p)), qm I J e) ∧ (a ≠ b → (a = qla p ∧ b = qob p) ∨ (b = qla p ∧ a = qob p)) := by
  have h0 : mX3_pairOf [.int (nI a), .int (nI b)] (qm I J e) = kX3_pairOf 15 [none, none, some (.int (nI (min a b))), some (.int (nI (max a b))), some (.int (nI 0))] [] (qm I J e) := by
    rw [bX3_pairOf, eX3_pairOf_0]
    have e1 : (if nI b < nI a then nI b else nI a) = nI (min a b) := by
      by_cases g : b < a
      · rw [if_pos (nI_lt g (by omega)), show min a b = b by omega]
      · rw [if_neg (nI_nlt (by omega) (by omega)), show min a b = a by omega]
    have e2 : (if nI a < nI b then nI b else nI a) = nI (max a b) := by
      by_cases g : a < b
      · rw [if_pos (nI_lt g (by omega)), show max a b = b by omega]
      · rw [if_neg (nI_nlt (by omega) (by omega)), show max a b = a by omega]
    rw [e1, e2]
    rfl
  obtain ⟨p, p1, p2, p3, p4⟩ := q_pf_lp (J := J) (e := e) hS (lo := min a b) (hi := max a b) (by omega) (by omega) 14 0 rfl
  refine ⟨p, p1, h0.trans p2, fun hab => ?_⟩
  have key : qla p = min a b ∧ qob p = max a b := by
    rcases p3 with g | g
    · rcases q_pair a ha b hb with g0 | ⟨p', q1, q2⟩
      · exact absurd g0 hab
      · obtain ⟨-, -, u3, -⟩ := qla_t p' q1
        have q3 : qla p' = min a b ∧ qob p' = max a b := by
          rcases q2 with ⟨x, y⟩ | ⟨x, y⟩ <;> omega
        by_cases hp : p' = 14
        · rw [g, ← hp]; exact q3
        · exact absurd q3 (p4 p' (by omega) (by omega))
    · exact g
  obtain ⟨k1, k2⟩ := key
  by_cases g : a < b
  · exact Or.inl (by omega)
  · exact Or.inr (by omega)
theorem b_bit0 (x : Int32) {p : Nat} (hp : p < 32) : (x &&& ((1 : Int32) <<< (nI p &&& 31)) = 0) ↔ bt x p = false := by
  rw [b_zero]
  constructor
  · intro h
    have := h p hp
    rw [b_and, b_bit hp, decide_eq_true rfl, Bool.and_true] at this
    exact this
  · intro h i hi
    rw [b_and, b_bit hp]
    by_cases g : i = p
    · rw [g, h]; rfl
    · rw [decide_eq_false g, Bool.and_false]
theorem q_prj : ∀ p, p < 15 → ∀ q, q < 15 → 6 * qla p + qob p = 6 * qla q + qob q → p = q := by decide +kernel
theorem q_FR_sht {N : Nat} {F F' f f' : Nat → Int32} (hN : N ≤ 6) (h : q_FR N F f) {p : Nat} (hp : p < 15) (hq : qob p < N) (hi : Bool) (hf : f (29 + (6 * qla p + qob p)) = 0) (e0 : F' 0 = F 0) (e1 : F' 1 = F 1) (e3 : F' 3 = if hi then F 3 else F 3 ||| ((1 : Int32) <<< (nI p &&& 31))) (e4 : F' 4 = if hi then F 4 ||| ((1 : Int32) <<< (nI p &&& 31)) else F 4) (g1 : f' (29 + (6 * qla p + qob p)) = if hi then 2 else 1) (g2 : ∀ k, k < 6 → f' (19 + k) = f (19 + k)) (g3 : ∀ k, k ≠ 6 * qla p + qob p → f' (29 + k) = f (29 + k)) : q_FR N F' f' := by
  obtain ⟨a, b, c, d⟩ := h
  refine ⟨fun k hk => ?_, fun k hk => ?_, fun q hq' => ?_, fun k hk => ?_⟩
  · rw [e0, e1, g2 k (by omega)]; exact a k hk
  · rw [e0, e1]; exact b k hk
  · by_cases hqp : q = p
    · subst hqp
      obtain ⟨c1, c2, c3, c4⟩ := c q hq'
      rw [hf] at c2 c3
      rw [g1, e3, e4]
      cases hi with
      | true =>
        rw [if_pos rfl, if_pos rfl, if_pos rfl, b_or, b_bit (by omega), c2, c3, decide_eq_true (rfl : q = q)]
        exact ⟨Or.inr (Or.inr rfl), by decide, by decide, fun g => absurd g (by omega)⟩
      | false =>
        rw [if_neg (by decide), if_neg (by decide), if_neg (by decide), b_or, b_bit (by omega), c2, c3, decide_eq_true (rfl : q = q)]
        exact ⟨Or.inr (Or.inl rfl), by decide, by decide, fun g => absurd g (by omega)⟩
    · rw [g3 _ (fun g => hqp (q_prj q hq' p hp g)), e3, e4]
      have hx : bt (if hi then F 3 else F 3 ||| ((1 : Int32) <<< (nI p &&& 31))) q = bt (F 3) q := by
        cases hi
        · rw [if_neg (by decide), b_or, b_bit (by omega), decide_eq_false hqp, Bool.or_false]
        · rfl
      have hy : bt (if hi then F 4 ||| ((1 : Int32) <<< (nI p &&& 31)) else F 4) q = bt (F 4) q := by
        cases hi
        · rfl
        · rw [if_pos rfl, b_or, b_bit (by omega), decide_eq_false hqp, Bool.or_false]
      rw [hx, hy]
      exact c q hq'
  · rw [e3, e4]
    cases hi
    · rw [if_neg (by decide), if_neg (by decide), b_or, b_bit (by omega), decide_eq_false (show ¬ k = p by omega), Bool.or_false]
      exact d k hk
    · rw [if_pos rfl, if_pos rfl, b_or, b_bit (by omega), decide_eq_false (show ¬ k = p by omega), Bool.or_false]
      exact d k hk
theorem fX12_oldName_f {R : Nat → Nat → Int32} {K : Nat → Nat → Int64} {e : QP} (hf : (0 : Int32) < R 64 2) (a b : Int32) : mX12_oldName [.ref 64, .int a, .int b] (qm R K e) = some (some (.int 0), qm R K e) := by
  rw [bX12_oldName, eX12_oldName_0, if_pos hf, eX12_oldName_7]
theorem q_sh125_f {R : Nat → Nat → Int32} {K : Nat → Nat → Int64} {e : QP} (hf : (0 : Int32) < R 64 2) (a : Int32) : kX12_readShort 125 [some (.ref 64), none, none, some (.int a)] [] (qm R K e) = some (none, qm R K e) := by
  rw [eX12_readShort_125, if_pos hf, eX12_readShort_132]
theorem q_sh82_f {R : Nat → Nat → Int32} {K : Nat → Nat → Int64} {e : QP} (hf : (0 : Int32) < R 64 2) (a : Int32) : kX12_readShort 82 [some (.ref 64), none, none, some (.int a)] [] (qm R K e) = some (none, qm R K e) := by
  rw [eX12_readShort_82, if_neg (q_pos_ne hf), eX12_readShort_93, if_neg (q_pos_ne hf), q_sh125_f hf]
theorem q_sh34_f {R : Nat → Nat → Int32} {K : Nat → Nat → Int64} {e : QP} (hf : (0 : Int32) < R 64 2) (a b : Int32) : kX12_readShort 34 [some (.ref 64), some (.int a), none, none] [.int b] (qm R K e) = some (none, qm R K e) := by
  have h55 : ∀ x : Int32, kX12_readShort 55 [some (.ref 64), some (.int a), some (.int b), none] [.int x] (qm R K e) = some (none, qm R K e) := fun x => by rw [eX12_readShort_55, if_neg (q_pos_ne hf), q_sh82_f hf]
  rw [eX12_readShort_34]
  by_cases g : a < b
  · rw [if_pos g, eX12_readShort_40, h55]
  · rw [if_neg g, eX12_readShort_49, h55]
theorem q_short : q_Line mX9_shortLine mX12_readShort := by
  intro v n s L C J R K e D N cl h h2 hB hS
  obtain ⟨C1, J1, R1, K1, s1, e1, e2, e3, e4, e5⟩ := q_adv (L := L) (e := e) h (by rw [h2]; decide) (by rw [h2]; decide)
  obtain ⟨hB6, n1, n2⟩ := q_BR_ad hB e3
  have hC5 : C1 17 5 = nI N := hB6.1.2.1.1
  have hR47 : R1 64 47 = nI N := hB6.1.2.1.2.1
  have hN : N ≤ 6 := hB6.1.2.1.2.2
  have ho := q_oldName_22 (L := L) (e := e) e5 n2 hN
  rw [show nI 4 = (4 : Int32) from rfl] at ho
  have hc0 : mX9_shortLine [.ref 31] (qm C J (3, 17, 17, 2, L)) = (mX9_atOldName [.ref 31, .ref 22, .int (nI N)] (qm C1 J1 (3, 17, 17, 2, L))).bind (fun r => kX9_shortLine 22 [some (.ref 31), none, none, none] (r.1.toList ++ []) r.2) := by
    rw [bX9_shortLine, eX9_shortLine_0, e1]
    simp only [Option.bind_some, Option.toList_some, Option.toList_none, List.nil_append, List.cons_append, q_ck_tt, Bool.and_true, Bool.true_and, if_true, if_false, reduceCtorEq]
    rw [eX9_shortLine_4, hC5]
  have hr0 : mX12_readShort [.ref 64] (qm R K e) = (mX12_oldName [.ref 64, .int 4, .int (nI N)] (qm R1 K1 e)).bind (fun r => kX12_readShort 13 [some (.ref 64), none, none, none] (r.1.toList ++ []) r.2) := by
    rw [bX12_readShort, eX12_readShort_0, e2]
    simp only [Option.bind_some, Option.toList_some, Option.toList_none, List.nil_append, List.cons_append, q_ck_tt, Bool.and_true, Bool.true_and, if_true, if_false, reduceCtorEq]
    rw [eX12_readShort_4, hR47]
  refine q_Res.mono ?_ e3.gf (Nat.le_of_lt e4)
  rcases ho with ⟨i, hi, h3, o1, o2⟩ | ⟨C', R', o1, o2, o3, o4⟩
  · obtain ⟨C2, J2, R2, K2, s2, f1, f2, f3, f4, f5⟩ := q_adv (L := L) (e := e) e5 (by rw [h3]; decide) (by rw [h3]; decide)
    obtain ⟨hB62, n12, n22⟩ := q_BR_ad ⟨hB6, n1, n2⟩ f3
    have hC52 : C2 17 5 = nI N := hB62.1.2.1.1
    have hR472 : R2 64 47 = nI N := hB62.1.2.1.2.1
    have hc1 : mX9_shortLine [.ref 31] (qm C J (3, 17, 17, 2, L)) = (mX9_atOldName [.ref 31, .ref 22, .int (nI N)] (qm C2 J2 (3, 17, 17, 2, L))).bind (fun r => kX9_shortLine 52 [some (.ref 31), some (.int (nI i)), none, none] (r.1.toList ++ []) r.2) := by
      rw [hc0, o1]
      simp only [Option.bind_some, Option.toList_some, Option.toList_none, List.nil_append, List.cons_append, q_ck_tt, Bool.and_true, Bool.true_and, if_true, if_false, reduceCtorEq]
      rw [eX9_shortLine_22, if_neg (nI_ne_m1 (by omega)), eX9_shortLine_30, f1]
      simp only [Option.bind_some, Option.toList_some, Option.toList_none, List.nil_append, List.cons_append, q_ck_tt, Bool.and_true, Bool.true_and, if_true, if_false, reduceCtorEq]
      rw [eX9_shortLine_34, hC52]
    have hr1 : mX12_readShort [.ref 64] (qm R K e) = (mX12_oldName [.ref 64, .int 4, .int (nI N)] (qm R2 K2 e)).bind (fun r => kX12_readShort 34 [some (.ref 64), some (.int (nI i)), none, none] (r.1.toList ++ []) r.2) := by
      rw [hr0, o2]
      simp only [Option.bind_some, Option.toList_some, Option.toList_none, List.nil_append, List.cons_append, q_ck_tt, Bool.and_true, Bool.true_and, if_true, if_false, reduceCtorEq]
      rw [eX12_readShort_13, if_pos e5.ok, eX12_readShort_21, f2]
      simp only [Option.bind_some, Option.toList_some, Option.toList_none, List.nil_append, List.cons_append, q_ck_tt, Bool.and_true, Bool.true_and, if_true, if_false, reduceCtorEq]
      rw [eX12_readShort_25, hR472]
    refine q_Res.mono ?_ f3.gf (Nat.le_of_lt f4)
    have ho2 := q_oldName_22 (L := L) (e := e) f5 n22 hN
    rw [show nI 4 = (4 : Int32) from rfl] at ho2
    rcases ho2 with ⟨j, hj, h32, p1, p2⟩ | ⟨C', R', p1, p2, p3, p4⟩
    · have hS2 : q_Sta C2 := ⟨fun k => by rw [f3.1.1 1000 (by decide), e3.1.1 1000 (by decide)]; exact hS.1 k, fun k => by rw [f3.1.1 1001 (by decide), e3.1.1 1001 (by decide)]; exact hS.2.1 k, fun k => by rw [f3.1.1 1002 (by decide), e3.1.1 1002 (by decide)]; exact hS.2.2.1 k, fun k => by rw [f3.1.1 1003 (by decide), e3.1.1 1003 (by decide)]; exact hS.2.2.2 k⟩
      obtain ⟨p, hp, pq, pr⟩ := fX3_pairOf (J := J2) (e := (3, 17, 17, 2, L)) hS2 (a := i) (b := j) (by omega) (by omega)
      have htw : (if nI i < nI j then kX12_readShort 40 [some (.ref 64), some (.int (nI i)), some (.int (nI j)), none] [] (qm R2 K2 e) else kX12_readShort 49 [some (.ref 64), some (.int (nI i)), some (.int (nI j)), none] [] (qm R2 K2 e)) = kX12_readShort 55 [some (.ref 64), some (.int (nI i)), some (.int (nI j)), none] [.int (nI (qtw i j))] (qm R2 K2 e) := by
        have h6 : ∀ a b : Nat, (6 : Int32) * nI a + nI b = nI (6 * a + b) := fun a b => by rw [show (6 : Int32) * nI a = nI (6 * a) from (Int32.ofNat_mul 6 a).symm, nI_add]
        unfold qtw
        by_cases g : i < j
        · rw [if_pos (nI_lt g (by omega)), if_pos g, eX12_readShort_40, h6]
        · rw [if_neg (nI_nlt (by omega) (by omega)), if_neg g, eX12_readShort_49, h6]
      have hr2 : mX12_readShort [.ref 64] (qm R K e) = kX12_readShort 63 [some (.ref 64), some (.int (nI i)), some (.int (nI j)), some (.int (nI (qtw i j)))] [] (qm R2 K2 e) := by
        rw [hr1, p2]
        simp only [Option.bind_some, Option.toList_some, Option.toList_none, List.nil_append, List.cons_append, q_ck_tt, Bool.and_true, Bool.true_and, if_true, if_false, reduceCtorEq]
        rw [eX12_readShort_34, htw, eX12_readShort_55, if_pos f5.ok]
      have hc2 : mX9_shortLine [.ref 31] (qm C J (3, 17, 17, 2, L)) = if nI i = nI j then kX9_shortLine 99 [some (.ref 31), none, none, none] [] (qm C2 J2 (3, 17, 17, 2, L)) else kX9_shortLine 73 [some (.ref 31), none, none, some (.int ((1 : Int32) <<< (nI p &&& 31)))] [] (qm C2 J2 (3, 17, 17, 2, L)) := by
        rw [hc1, p1]
        simp only [Option.bind_some, Option.toList_some, Option.toList_none, List.nil_append, List.cons_append, q_ck_tt, Bool.and_true, Bool.true_and, if_true, if_false, reduceCtorEq]
        rw [eX9_shortLine_52, if_neg (nI_ne_m1 (by omega)), eX9_shortLine_60, pq]
        simp only [Option.bind_some, Option.toList_some, Option.toList_none, List.nil_append, List.cons_append, q_ck_tt, Bool.and_true, Bool.true_and, if_true, if_false, reduceCtorEq]
        rw [eX9_shortLine_66]
      have hbad : mX9_shortLine [.ref 31] (qm C J (3, 17, 17, 2, L)) = kX9_shortLine 99 [some (.ref 31), none, none, none] [] (qm C2 J2 (3, 17, 17, 2, L)) → mX12_readShort [.ref 64] (qm R K e) = kX12_readShort 77 [some (.ref 64), none, none, some (.int (nI (qtw i j)))] [] (qm R2 K2 e) → q_Res v n s2 L e C2 J2 R2 K2 (mX9_shortLine [.ref 31] (qm C J (3, 17, 17, 2, L))) (mX12_readShort [.ref 64] (qm R K e)) := by
        intro hx hy
        obtain ⟨C', R', a1, a2, a3, a4, _, _⟩ := q_refw L e f5 3 (by decide)
        refine Or.inr ⟨C', J2, R', K2, ?_, ?_, a4.1, a3⟩
        · rw [hx, eX9_shortLine_99, a1]
          simp only [Option.bind_some, Option.toList_some, Option.toList_none, List.nil_append, List.cons_append, q_ck_tt, Bool.and_true, Bool.true_and, if_true, if_false, reduceCtorEq]
          rw [eX9_shortLine_104]
          rfl
        · rw [hy, eX12_readShort_77, a2]
          simp only [Option.bind_some, Option.toList_some, Option.toList_none, List.nil_append, List.cons_append, q_ck_tt, Bool.and_true, Bool.true_and, if_true, if_false, reduceCtorEq]
          exact q_sh82_f a3.2.1 _
      by_cases hij : i = j
      · subst hij
        exact hbad (by rw [hc2, if_pos rfl]) (by rw [hr2, eX12_readShort_63, if_pos rfl])
      · have hpr := pr hij
        obtain ⟨tw1, -⟩ := qtw_p hp hpr
        obtain ⟨hF, hop, hok⟩ := hB62.2.2.2.1
        obtain ⟨q1, q2, q3, q4⟩ := hF.2.2.1 p hp
        rw [qrd_29] at q1 q2 q3 q4
        have hne : ¬ nI i = nI j := fun g => hij (nI_inj (by omega) (by omega) g)
        have hlt36 : qtw i j < 36 := qtw_lt (by omega) (by omega)
        rw [if_neg hne, eX9_shortLine_73] at hc2
        rw [eX12_readShort_63, if_neg hne, eX12_readShort_68, q_in_nI hlt36 (by omega), nI_n (by omega), Bool.true_and, q_ck_tt, tw1] at hr2
        by_cases hz : R2 82 (6 * qla p + qob p) = 0
        · rw [hz] at q2 q3 hr2
          rw [if_neg (by decide)] at hr2
          have hbit : ((C2 27 3 ||| C2 27 4) &&& ((1 : Int32) <<< (nI p &&& 31))) = 0 := (b_bit0 _ (by omega)).mpr (by rw [b_or, q2, q3]; decide)
          rw [if_pos hbit] at hc2
          obtain ⟨C3, J3, R3, K3, s3, g1, g2, g3, g4, g5⟩ := q_adv (L := L) (e := e) f5 (by rw [h32]; decide) (by rw [h32]; decide)
          have hB63 := q_B6_ad hB62 g3
          have n13 := q_Nm_ad n12 (by decide) g3
          have n23 := q_Nm_ad n22 (by decide) g3
          rw [eX9_shortLine_105, g1] at hc2
          simp only [Option.bind_some, Option.toList_some, Option.toList_none, List.nil_append, List.cons_append, q_ck_tt, Bool.and_true, Bool.true_and, if_true, if_false, reduceCtorEq] at hc2
          rw [eX12_readShort_82, if_pos f5.ok, eX12_readShort_89, g2] at hr2
          simp only [Option.bind_some, Option.toList_some, Option.toList_none, List.nil_append, List.cons_append, q_ck_tt, Bool.and_true, Bool.true_and, if_true, if_false, reduceCtorEq] at hr2
          rw [eX12_readShort_93, if_pos g5.ok, eX12_readShort_100, fX12_isWord] at hr2
          simp only [Option.bind_some, Option.toList_some, Option.toList_none, List.nil_append, List.cons_append, q_ck_tt, Bool.and_true, Bool.true_and, if_true, if_false, reduceCtorEq] at hr2
          rw [eX9_shortLine_109, fX9_atKey] at hc2
          simp only [Option.bind_some, Option.toList_some, Option.toList_none, List.nil_append, List.cons_append, q_ck_tt, Bool.and_true, Bool.true_and, if_true, if_false, reduceCtorEq] at hc2
          have hk10 := g5.key (k := 10) (by decide)
          rw [show qKW 10 = 7106423 by decide +kernel, show nI 10 = (10 : Int32) from rfl] at hk10
          have hk11 := g5.key (k := 11) (by decide)
          rw [show qKW 11 = 1751738216 by decide +kernel, show nI 11 = (11 : Int32) from rfl] at hk11
          rw [hk10] at hr2
          refine q_Res.mono ?_ g3.gf (Nat.le_of_lt g4)
          have hfin : ∀ hb : Bool, C3 31 5 = 2 → mX9_shortLine [.ref 31] (qm C J (3, 17, 17, 2, L)) = kX9_shortLine 171 [some (.ref 31), none, none, none] [] (qm (if hb then q_up C3 27 4 (C3 27 4 ||| ((1 : Int32) <<< (nI p &&& 31))) else q_up C3 27 3 (C3 27 3 ||| ((1 : Int32) <<< (nI p &&& 31)))) J3 (3, 17, 17, 2, L)) → mX12_readShort [.ref 64] (qm R K e) = kX12_readShort 153 [some (.ref 64), none, none, none] [.int (if hb then 2 else 1), .int (nI (6 * qla p + qob p)), .ref 82] (qm R3 K3 e) → q_Res v n s3 L e C3 J3 R3 K3 (mX9_shortLine [.ref 31] (qm C J (3, 17, 17, 2, L))) (mX12_readShort [.ref 64] (qm R K e)) := by
            intro hb h5 hx hy
            generalize hCx : (if hb then q_up C3 27 4 (C3 27 4 ||| ((1 : Int32) <<< (nI p &&& 31))) else q_up C3 27 3 (C3 27 3 ||| ((1 : Int32) <<< (nI p &&& 31)))) = Cx at hx
            have cxo : ∀ q, q ≠ 27 → Cx q = C3 q := fun q x1 => by
              rw [← hCx]
              cases hb
              · rw [if_neg (by decide), q_up_at3 _ _ x1]
              · rw [if_pos rfl, q_up_at3 _ _ x1]
            have cx27 : ∀ k, k ≠ 3 → k ≠ 4 → Cx 27 k = C3 27 k := fun k x1 x2 => by
              rw [← hCx]
              cases hb
              · rw [if_neg (by decide), q_up_at2 _ _ x1]
              · rw [if_pos rfl, q_up_at2 _ _ x2]
            have cx3 : Cx 27 3 = if hb then C3 27 3 else C3 27 3 ||| ((1 : Int32) <<< (nI p &&& 31)) := by
              rw [← hCx]
              cases hb
              · rw [if_neg (by decide), if_neg (by decide), q_up_at1]
              · rw [if_pos rfl, if_pos rfl, q_up_at2 _ _ (by decide)]
            have cx4 : Cx 27 4 = if hb then C3 27 4 ||| ((1 : Int32) <<< (nI p &&& 31)) else C3 27 4 := by
              rw [← hCx]
              cases hb
              · rw [if_neg (by decide), if_neg (by decide), q_up_at2 _ _ (by decide)]
              · rw [if_pos rfl, if_pos rfl, q_up_at1]
            generalize hRx : q_up R3 82 (6 * qla p + qob p) (if hb then 2 else 1) = Rx
            have rxo : ∀ q, q ≠ 82 → Rx q = R3 q := fun q x1 => by rw [← hRx, q_up_at3 _ _ x1]
            have hpx : q_Pt v n Cx J3 Rx K3 s3 := q_Pt_eq g5 (cxo 2 (by decide)) (fun k _ _ => by rw [cxo 31 (by decide)]) rfl rfl (rxo 65 (by decide)) (fun k _ _ _ => by rw [rxo 64 (by decide)]) rfl
            obtain ⟨C4, J4, R4, K4, s4, k1, k2, k3, k4, k5⟩ := q_adv (L := L) (e := e) hpx (by rw [cxo 31 (by decide), h5]; decide) (by rw [cxo 31 (by decide), h5]; decide)
            have hBx : q_B6 Cx Rx D N cl := by
              refine q_B6_f hB63 (cxo 17 (by decide)) (fun q _ _ x3 => cxo q x3) (fun d _ => ⟨by rw [cxo 19 (by decide)], by rw [cxo 20 (by decide)], by rw [cxo 21 (by decide)]⟩) (fun k _ _ => by rw [cxo 31 (by decide)]) (fun q _ _ => rxo q (by omega)) (fun d _ => ⟨by rw [rxo 74 (by decide)], by rw [rxo 75 (by decide)], by rw [rxo 76 (by decide)]⟩) ⟨rxo 67 (by decide), rxo 68 (by decide)⟩ (fun k _ => by rw [rxo 64 (by decide)]) ?_
              obtain ⟨hF3, hop3, hok3⟩ := hB63.2.2.2.1
              refine ⟨q_FR_sht hN hF3 hp ?_ hb ?_ (cx27 0 (by decide) (by decide)) (cx27 1 (by decide) (by decide)) cx3 cx4 ?_ ?_ ?_, ?_, ?_⟩
              · rcases hpr with ⟨-, y⟩ | ⟨-, y⟩
                · rw [← y]; exact hj
                · rw [← y]; exact hi
              · rw [qrd_29, g3.2.2.1.1 82 (by decide)]; exact hz
              · rw [qrd_29, ← hRx, q_up_at1]
              · intro k hk
                rw [qrd_19 _ _ _ hk, qrd_19 _ _ _ hk, rxo 80 (by decide)]
              · intro k hk
                rw [qrd_29, qrd_29, ← hRx, q_up_at2 _ _ hk]
              · intro x hx
                rw [cx27 2 (by decide) (by decide), rxo 81 (by decide), cxo 17 (by decide)]
                exact hop3 x hx
              · intro d hd
                rw [rxo 81 (by decide)]
                exact hok3 d hd
            refine Or.inl ⟨C4, J4, R4, K4, D, N, cl, s4, ?_, ?_, ?_, k4, k5, q_BR_ad ⟨hBx, n13, n23⟩ k3⟩
            · rw [hx, eX9_shortLine_171, k1]
              simp only [Option.bind_some, Option.toList_some, Option.toList_none, List.nil_append, List.cons_append, q_ck_tt, Bool.and_true, Bool.true_and, if_true, if_false, reduceCtorEq]
              rw [eX9_shortLine_175]
            · rw [hy, eX12_readShort_153, q_in_nI (by omega) (by omega), nI_n (by omega), Bool.true_and, q_ck_tt, hRx, k2]
              simp only [Option.bind_some, Option.toList_some, Option.toList_none, List.nil_append, List.cons_append, q_ck_tt, Bool.and_true, Bool.true_and, if_true, if_false, reduceCtorEq]
              rw [eX12_readShort_158]
            · refine q_Gf_trans ?_ k3.gf
              rw [← hRx, ← hCx]
              refine q_Gf_R rfl ?_
              cases hb
              · rw [if_neg (by decide)]; exact q_Gf_C (by omega) (q_Gf_refl C3 J3 R3 K3)
              · rw [if_pos rfl]; exact q_Gf_C (by omega) (q_Gf_refl C3 J3 R3 K3)
          cases hb : (decide (C3 31 5 = 2) && decide (C3 31 6 = 10)) with
          | true =>
            have hb' : C3 31 5 = 2 ∧ C3 31 6 = 10 := by simpa using hb
            rw [hb, eX9_shortLine_115, if_neg (by decide), eX9_shortLine_118] at hc2
            rw [hb, eX12_readShort_107, if_neg (by decide), eX12_readShort_125, g5.ok, if_neg (by decide), eX12_readShort_133, fX12_isWord, hk10, hb] at hr2
            simp only [Option.bind_some, Option.toList_some, Option.toList_none, List.nil_append, List.cons_append, q_ck_tt, Bool.and_true, Bool.true_and, if_true, if_false, reduceCtorEq] at hr2
            rw [eX12_readShort_145, if_neg (by decide), eX12_readShort_148] at hr2
            exact hfin false hb'.1 hc2 hr2
          | false =>
            rw [hb, eX9_shortLine_115, if_pos (by rfl), eX9_shortLine_137, fX9_atKey] at hc2
            simp only [Option.bind_some, Option.toList_some, Option.toList_none, List.nil_append, List.cons_append, q_ck_tt, Bool.and_true, Bool.true_and, if_true, if_false, reduceCtorEq] at hc2
            rw [hb, eX12_readShort_107, if_pos (by rfl), eX12_readShort_110, fX12_isWord, hk11] at hr2
            simp only [Option.bind_some, Option.toList_some, Option.toList_none, List.nil_append, List.cons_append, q_ck_tt, Bool.and_true, Bool.true_and, if_true, if_false, reduceCtorEq] at hr2
            cases hb2 : (decide (C3 31 5 = 2) && decide (C3 31 6 = 11)) with
            | true =>
              have hb2' : C3 31 5 = 2 ∧ C3 31 6 = 11 := by simpa using hb2
              rw [hb2, eX9_shortLine_143, if_neg (by decide), eX9_shortLine_146] at hc2
              rw [hb2, eX12_readShort_117, if_neg (by decide), eX12_readShort_125, g5.ok, if_neg (by decide), eX12_readShort_133, fX12_isWord, hk10, hb] at hr2
              simp only [Option.bind_some, Option.toList_some, Option.toList_none, List.nil_append, List.cons_append, q_ck_tt, Bool.and_true, Bool.true_and, if_true, if_false, reduceCtorEq] at hr2
              rw [eX12_readShort_145, if_pos (by rfl), eX12_readShort_152] at hr2
              exact hfin true hb2'.1 hc2 hr2
            | false =>
              rw [hb2, eX9_shortLine_143, if_pos (by rfl)] at hc2
              rw [hb2, eX12_readShort_117, if_pos (by rfl)] at hr2
              obtain ⟨C', R', a1, a2, a3, a4, _, _⟩ := q_refw L e g5 2 (by decide)
              refine Or.inr ⟨C', J3, R', K3, ?_, ?_, a4.1, a3⟩
              · rw [hc2, eX9_shortLine_165, a1]
                simp only [Option.bind_some, Option.toList_some, Option.toList_none, List.nil_append, List.cons_append, q_ck_tt, Bool.and_true, Bool.true_and, if_true, if_false, reduceCtorEq]
                rw [eX9_shortLine_170]
                rfl
              · rw [hr2, eX12_readShort_120, a2]
                simp only [Option.bind_some, Option.toList_some, Option.toList_none, List.nil_append, List.cons_append, q_ck_tt, Bool.and_true, Bool.true_and, if_true, if_false, reduceCtorEq]
                exact q_sh125_f a3.2.1 _
        · have hpos : (0 : Int32) < R2 82 (6 * qla p + qob p) := by
            rcases q1 with g | g | g
            · exact absurd g hz
            · rw [g]; decide
            · rw [g]; decide
          have hbit : ¬ ((C2 27 3 ||| C2 27 4) &&& ((1 : Int32) <<< (nI p &&& 31))) = 0 := fun g => by
            have g' := (b_bit0 _ (by omega)).mp g
            rw [b_or, q2, q3] at g'
            rcases q1 with x | x | x
            · exact hz x
            · rw [x] at g'; exact absurd g' (by decide)
            · rw [x] at g'; exact absurd g' (by decide)
          rw [if_neg hbit] at hc2
          rw [if_pos hpos, ← tw1] at hr2
          exact hbad hc2 hr2
    · refine Or.inr ⟨C', J2, R', K2, ?_, ?_, p4.1, p3⟩
      · rw [hc1, p1]
        simp only [Option.bind_some, Option.toList_some, Option.toList_none, List.nil_append, List.cons_append, q_ck_tt, Bool.and_true, Bool.true_and, if_true, if_false, reduceCtorEq]
        rw [eX9_shortLine_52, if_pos rfl, eX9_shortLine_58]
      · rw [hr1, p2]
        simp only [Option.bind_some, Option.toList_some, Option.toList_none, List.nil_append, List.cons_append, q_ck_tt, Bool.and_true, Bool.true_and, if_true, if_false, reduceCtorEq]
        exact q_sh34_f p3.2.1 _ _
  · refine Or.inr ⟨C', J1, R', K1, ?_, ?_, o4.1, o3⟩
    · rw [hc0, o1]
      simp only [Option.bind_some, Option.toList_some, Option.toList_none, List.nil_append, List.cons_append, q_ck_tt, Bool.and_true, Bool.true_and, if_true, if_false, reduceCtorEq]
      rw [eX9_shortLine_22, if_pos rfl, eX9_shortLine_28]
    · rw [hr0, o2]
      simp only [Option.bind_some, Option.toList_some, Option.toList_none, List.nil_append, List.cons_append, q_ck_tt, Bool.and_true, Bool.true_and, if_true, if_false, reduceCtorEq]
      rw [eX12_readShort_13, if_neg (q_pos_ne o3.2.1), eX12_readShort_25, fX12_oldName_f o3.2.1]
      simp only [Option.bind_some, Option.toList_some, Option.toList_none, List.nil_append, List.cons_append, q_ck_tt, Bool.and_true, Bool.true_and, if_true, if_false, reduceCtorEq]
      exact q_sh34_f o3.2.1 _ _
