/-! ===== lines: what an open cell reads ===== -/
theorem q_B6_o {C R C' R' : Nat → Nat → Int32} {D N : Nat} {cl : Nat → Nat} (h : q_B6 C R D N cl) (cc : ∀ p, 17 ≤ p → p ≤ 27 → C' p = C p) (c31 : ∀ k, 10 ≤ k → k ≤ 12 → C' 31 k = C 31 k)
    (rr : ∀ p, 74 ≤ p → p ≤ 82 → R' p = R p) (r64 : ∀ k, (k = 3 ∨ (46 ≤ k ∧ k ≤ 55)) → R' 64 k = R 64 k) (ho : q_Ro C' R') : q_B6 C' R' D N cl := by
  obtain ⟨h1, h2, h3, h4, h5, h6⟩ := h
  refine ⟨?_, ?_, ?_, ?_, ho, ?_⟩
  · unfold q_Rn
    rw [cc 17 (by omega) (by omega), cc 19 (by omega) (by omega), cc 20 (by omega) (by omega), cc 21 (by omega) (by omega), rr 74 (by omega) (by omega), rr 75 (by omega) (by omega), rr 76 (by omega) (by omega), r64 46 (by omega), r64 47 (by omega)]
    exact h1
  · unfold q_Rk
    rw [cc 17 (by omega) (by omega), cc 23 (by omega) (by omega), cc 24 (by omega) (by omega), cc 26 (by omega) (by omega), rr 77 (by omega) (by omega), rr 78 (by omega) (by omega)]
    exact h2
  · unfold q_Rs2
    rw [cc 25 (by omega) (by omega), rr 79 (by omega) (by omega)]
    exact h3
  · have hq : qrd R' N = qrd R N := by
      funext k
      unfold qrd
      rw [rr 80 (by omega) (by omega), rr 81 (by omega) (by omega), rr 82 (by omega) (by omega)]
    unfold q_Rf
    rw [hq, cc 27 (by omega) (by omega), cc 17 (by omega) (by omega), rr 81 (by omega) (by omega)]
    exact h4
  · unfold q_Rz
    rw [cc 17 (by omega) (by omega), c31 10 (by omega) (by omega), c31 11 (by omega) (by omega), c31 12 (by omega) (by omega), r64 3 (by omega), r64 54 (by omega), r64 55 (by omega), r64 48 (by omega), r64 49 (by omega)]
    exact h6
theorem q_floats {v : Nat → Nat} {n s L : Nat} {C : Nat → Nat → Int32} {J : Nat → Nat → Int64} {R : Nat → Nat → Int32} {K : Nat → Nat → Int64} {e : QP} {D N : Nat} {cl : Nat → Nat} (h : q_Pt v n C J R K s) (h2 : C 31 5 = 2) (hB : q_BR C J R K D N cl) (h0 : R 64 24 = 0) : q_Res v n s L e C J R K (mX9_floatsLine [.ref 31] (qm C J (3, 17, 17, 2, L))) (mX12_formula [.ref 64] (qm R K e)) := by
  obtain ⟨hB6, n1, n2⟩ := hB
  obtain ⟨o1, o2, o3⟩ := hB6.2.2.2.2.1
  rw [h0] at o1
  have ho : C 28 2 = 0 ∧ R 64 20 = 0 := by
    rcases o3 with ⟨-, a, b⟩ | ⟨a, -⟩
    · exact ⟨a, b⟩
    · rw [h0] at a; exact absurd a (by decide)
  have hp0 : q_Pt v n (q_up C 31 9 1) J R K s := q_Pt_eq h (q_up_at3 _ _ (by decide)) (fun k _ _ => by rw [q_up_at2 _ _ (by omega)]) rfl rfl rfl (fun _ _ _ _ => rfl) rfl
  have h5 : q_up C 31 9 1 31 5 = 2 := by rw [q_up_at2 _ _ (by decide)]; exact h2
  obtain ⟨C1, J1, R1, K1, s1, f1, f2, f3, f4, f5⟩ := q_adv (L := L) (e := e) hp0 (by rw [h5]; decide) (by rw [h5]; decide)
  generalize hRx : q_up (q_up (q_up (q_up (q_up R1 64 24 1) 64 17 0) 64 19 0) 64 23 0) 64 22 0 = Rx
  have rxo : ∀ p, p ≠ 64 → Rx p = R1 p := fun p x => by rw [← hRx, q_up_at3 _ _ x, q_up_at3 _ _ x, q_up_at3 _ _ x, q_up_at3 _ _ x, q_up_at3 _ _ x]
  have rx6 : ∀ k, k ≠ 17 → k ≠ 19 → k ≠ 22 → k ≠ 23 → k ≠ 24 → Rx 64 k = R1 64 k := fun k a b c d f => by rw [← hRx, q_up_at2 _ _ c, q_up_at2 _ _ d, q_up_at2 _ _ b, q_up_at2 _ _ a, q_up_at2 _ _ f]
  have c28 : C1 28 = C 28 := by rw [f3.1.1 28 (by decide), q_up_at3 _ _ (by decide)]
  have r20 : R1 64 20 = 0 := by rw [f3.2.2.1.2 20 (by decide) (by decide) (by decide) (by decide)]; exact ho.2
  have hF : q_Fs v n C1 J1 Rx K1 s1 [] [] 0 0 0 0 := by
    refine ⟨q_Pt_eq f5 rfl (fun _ _ _ => rfl) rfl rfl (rxo 65 (by decide)) (fun k _ _ _ => rx6 k (by omega) (by omega) (by omega) (by omega) (by omega)) rfl, ⟨fun i hi => absurd hi (Nat.not_lt_zero i), ?_⟩, ⟨?_, ?_, fun _ => 0, fun _ => 0, fun k hk => absurd hk (Nat.not_lt_zero k), fun j hj => absurd hj (Nat.not_lt_zero j), fun k hk => absurd hk (Nat.not_lt_zero k), rfl⟩, ⟨?_, ?_, ?_, by omega⟩, ?_, Nat.le_refl _, Nat.le_refl _⟩
    · rw [← hRx, q_up_at2 _ _ (by decide), q_up_at2 _ _ (by decide), q_up_at1]; rfl
    · rw [c28, ho.1]; rfl
    · rw [← hRx, q_up_at2 _ _ (by decide), q_up_at2 _ _ (by decide), q_up_at2 _ _ (by decide), q_up_at1]; rfl
    · rw [c28, o2, ho.2]; rfl
    · rw [rx6 20 (by decide) (by decide) (by decide) (by decide) (by decide), r20]; rfl
    · rw [← hRx, q_up_at1]; rfl
    · rw [← hRx, q_up_at2 _ _ (by decide), q_up_at1]; rfl
  have hc0 : mX9_floatsLine [.ref 31] (qm C J (3, 17, 17, 2, L)) = (mX9_either 80 [.ref 31, .int (nI 0)] (qm C1 J1 (3, 17, 17, 2, L))).bind (fun r => kX9_floatsLine 27 [some (.ref 31)] (r.1.toList ++ []) r.2) := by
    rw [bX9_floatsLine, eX9_floatsLine_0, o1, if_pos rfl, eX9_floatsLine_13, f1]
    simp only [Option.bind_some, Option.toList_some, Option.toList_none, List.nil_append, List.cons_append, q_ck_tt, Bool.and_true, Bool.true_and, if_true, if_false, reduceCtorEq]
    rw [eX9_floatsLine_22]
    rfl
  have hr0 : mX12_formula [.ref 64] (qm R K e) = (kX12_unit 2 [some (.ref 64), some (.int 1), none] [] (qm Rx K1 e)).bind (fun r => kX12_formula 33 [some (.ref 64), none, none] (r.1.toList ++ []) r.2) := by
    rw [bX12_formula, eX12_formula_0, f2]
    simp only [Option.bind_some, Option.toList_some, Option.toList_none, List.nil_append, List.cons_append, q_ck_tt, Bool.and_true, Bool.true_and, if_true, if_false, reduceCtorEq]
    rw [eX12_formula_4, eX12_formula_26, hRx, bX12_unit, eX12_unit_0]
  have hlv := (q_levels 80).1 v n s1 L C1 J1 Rx K1 e [] 0 0 0 0 (fun r => kX12_formula 33 [some (.ref 64), none, none] (r.1.toList ++ []) r.2) (fun R K => by
    show kX12_formula 33 [some (.ref 64), none, none] [] (qm R K e) = _
    rw [eX12_formula_33]
    rfl) hF (by decide) (by decide) (by decide) (Or.inl rfl) (fun g => absurd g (by decide))
  have gx0 : q_Gf C J R K C1 J1 Rx K1 := by
    rw [← hRx]
    exact q_Gf_R rfl (q_Gf_R rfl (q_Gf_R rfl (q_Gf_R rfl (q_Gf_R rfl (q_Gf_trans (q_Gf_C (by omega) (q_Gf_refl C J R K)) f3.gf)))))
  rcases hlv with ⟨C2, J2, R2, K2, s2, P, r2, u2, d1, d2, d3, d4, d5, d6, d7, d8, d9⟩ | ⟨C2, J2, R2, K2, d1, d2, d3, d4⟩
  · have hp2 := d5.pt
    have hbl : (P ++ []).length ≤ 160 := by rw [List.append_nil]; omega
    have hbk : mX12_hasBracket [.ref 64] (qm R2 K2 e) = some (some (.int 0), qm R2 K2 e) := by
      rw [fX12_hasBracket K2 e d5.2.1.2 hbl]
      have : qAny (P ++ []).length (fun i => decide (R2 71 i = 20)) = false := by
        cases hq : qAny (P ++ []).length (fun i => decide (R2 71 i = 20)) with
        | false => rfl
        | true =>
          obtain ⟨k, k1, k2⟩ := qAny_iff.mp hq
          have hk2 : R2 71 k = 20 := of_decide_eq_true k2
          rw [List.append_nil] at k1
          have g := d5.2.1.1 (P.length - 1 - k) (by rw [List.append_nil]; omega)
          rw [List.append_nil, show P.length - 1 - (P.length - 1 - k) = k by omega, hk2] at g
          have hm : (20 : Int32) ∈ P := by
            have hlt : P.length - 1 - k < P.length := by omega
            have hg : P.getD (P.length - 1 - k) 0 = P[P.length - 1 - k] := by simp [List.getD, hlt]
            rw [g, hg]
            exact List.getElem_mem _
          exact absurd rfl (d6 20 hm).2
      rw [this]
      rfl
    obtain ⟨R3, k1, k2, k3, k4⟩ := q_closeF e d5 0 (by omega) (Or.inl rfl) (fun x hx => ⟨Nat.zero_le _, (d6 x hx).2⟩) hbl (by omega)
    have k1' : mX12_close [.ref 64, .int 0] (qm R2 K2 e) = some (none, qm R3 K2 e) := k1
    have h157 : kX12_formula 157 [some (.ref 64), none, none] [] (qm R2 K2 e) = some (none, qm R3 K2 e) := by
      rw [eX12_formula_157, eX12_formula_159, eX12_formula_35, if_pos rfl, eX12_formula_162, if_pos hp2.ok, eX12_formula_169, hbk]
      simp only [Option.bind_some, Option.toList_some, Option.toList_none, List.nil_append, List.cons_append, q_ck_tt, Bool.and_true, Bool.true_and, if_true, if_false, reduceCtorEq]
      rw [eX12_formula_173, if_pos rfl, eX12_formula_181, if_pos hp2.ok, eX12_formula_188, k1']
      simp only [Option.bind_some, Option.toList_some, Option.toList_none, List.nil_append, List.cons_append, q_ck_tt, Bool.and_true, Bool.true_and, if_true, if_false, reduceCtorEq]
      rw [eX12_formula_193v1]
    have h99 : kX12_formula 99 [some (.ref 64), some (.int 1), some (.int (qsg (C2 31 5) (C2 31 6)))] [] (qm R2 K2 e) = some (none, qm R3 K2 e) := by
      rw [eX12_formula_99]
      by_cases h0 : qsg (C2 31 5) (C2 31 6) = 0
      · rw [if_pos h0, h157]
      · have h4r : qti (qsg (C2 31 5) (C2 31 6)) = 4 ∧ qhr P = true := by
          rcases d7 with g | g | ⟨g, -, g3⟩
          · exact absurd g h0
          · have := qti_le (qsg (C2 31 5) (C2 31 6)); omega
          · exact ⟨g, g3⟩
        rw [if_neg h0, eX12_formula_103, fX12_tight]
        simp only [Option.bind_some, Option.toList_some, Option.toList_none, List.nil_append, List.cons_append, q_ck_tt, Bool.and_true, Bool.true_and, if_true, if_false, reduceCtorEq]
        rw [eX12_formula_107, if_pos (show nI (qti (qsg (C2 31 5) (C2 31 6))) = (4 : Int32) by rw [h4r.1]; rfl), eX12_formula_111, fX12_hasRelation K2 e d5.2.1.1 d5.2.1.2 hbl, qhr_app h4r.2]
        simp only [Option.bind_some, Option.toList_some, Option.toList_none, List.nil_append, List.cons_append, q_ck_tt, Bool.and_true, Bool.true_and, if_true, if_false, reduceCtorEq]
        rw [eX12_formula_115, if_neg (by decide), h157]
    have hH : q_H e R2 K2 = some (none, qm R3 K2 e) := by
      unfold q_H
      rw [eX12_formula_35, if_neg (by decide), eX12_formula_39, if_pos hp2.ok, eX12_formula_46, fX12_sign e hp2]
      simp only [Option.bind_some, Option.toList_some, Option.toList_none, List.nil_append, List.cons_append, q_ck_tt, Bool.and_true, Bool.true_and, if_true, if_false, reduceCtorEq]
      rw [eX12_formula_50]
      by_cases g : R2 64 6 = 41
      · rw [if_pos g, eX12_formula_60, hbk]
        simp only [Option.bind_some, Option.toList_some, Option.toList_none, List.nil_append, List.cons_append, q_ck_tt, Bool.and_true, Bool.true_and, if_true, if_false, reduceCtorEq]
        rw [eX12_formula_64, if_pos rfl, h99]
      · rw [if_neg g, h99]
    have gx := q_Gx_trans d3 k2
    refine Or.inl ⟨C2, J2, R3, K2, D, N, cl, s2, ?_, by rw [hr0, d2, hH], q_Gf_trans gx0 gx.gf, by omega, k4.pt, ?_, ?_, ?_⟩
    · rw [hc0, d1]
      simp only [Option.bind_some, Option.toList_some, Option.toList_none, List.nil_append, List.cons_append, q_ck_tt, Bool.and_true, Bool.true_and, if_true, if_false, reduceCtorEq]
      rw [eX9_floatsLine_27]
      rfl
    · refine q_B6_o hB6 (fun p a b => by rw [gx.1.1 p (by omega) (by omega) (by omega), f3.1.1 p (by omega), q_up_at3 _ _ (by omega)]) (fun k a b => by rw [gx.1.2 k (by omega) (by omega) (by omega) (by omega), f3.1.2 k (by omega) (by omega) (by omega) (by omega), q_up_at2 _ _ (by omega)]) (fun p a b => by rw [gx.2.2.1.1 p (by omega) (by omega) (by omega) (by omega), rxo p (by omega), f3.2.2.1.1 p (by omega)]) (fun k a => by rw [gx.2.2.1.2 k (by omega) (by omega) (by omega) (by omega) (by omega) (by omega) (by omega) (by omega) (by omega), rx6 k (by omega) (by omega) (by omega) (by omega) (by omega), f3.2.2.1.2 k (by omega) (by omega) (by omega) (by omega)]) ?_
      have h9 : C2 31 9 = 1 := by rw [gx.1.2 9 (by decide) (by decide) (by decide) (by decide), f3.1.2 9 (by decide) (by decide) (by decide) (by decide), q_up_at1]
      have h24 : R3 64 24 = 1 := by rw [gx.2.2.1.2 24 (by decide) (by decide) (by decide) (by decide) (by decide) (by decide) (by decide) (by decide) (by decide), ← hRx, q_up_at2 _ _ (by decide), q_up_at2 _ _ (by decide), q_up_at2 _ _ (by decide), q_up_at2 _ _ (by decide), q_up_at1]
      obtain ⟨-, -, ⟨c1, c2, Sv, Av, c3, -, c5, c6⟩, ⟨u1, u3, -, u4⟩, -, -, h7⟩ := k4
      rw [List.length_nil, Nat.add_zero] at c1 c5 c6 h7
      refine ⟨by rw [h9, h24], by rw [u1, u3], Or.inr ⟨h24, r2 + P.length, by omega, c1, c2, ?_, ?_⟩⟩
      · exact (qdep_c (fun i hi => (c3 i hi).1.symm)).trans c6
      · intro k hk
        have hcc : ∀ j, j ≤ r2 + P.length → qdep (R3 67) j = qdep Sv j := fun j hj => qdep_c (fun i hi => (c3 i (by omega)).1.symm)
        rw [← (c3 k hk).1, ← (c3 k hk).2, hcc k (by omega), hcc (k + 1) (by omega)]
        exact c5 k hk
    · exact q_Nm_eq (q_Nm_ad n1 (by decide) f3) (fun i _ => by rw [gx.2.1 18 (by decide)]) (fun i _ => by rw [gx.2.2.2 66 (by decide)])
    · exact q_Nm_eq (q_Nm_ad n2 (by decide) f3) (fun i _ => by rw [gx.2.1 22 (by decide)]) (fun i _ => by rw [gx.2.2.2 66 (by decide)])
  · refine Or.inr ⟨C2, J2, R2, K2, ?_, by rw [hr0]; exact d2, q_Gf_trans gx0 d3, d4⟩
    rw [hc0, d1]
    simp only [Option.bind_some, Option.toList_some, Option.toList_none, List.nil_append, List.cons_append, q_ck_tt, Bool.and_true, Bool.true_and, if_true, if_false, reduceCtorEq]
    rw [eX9_floatsLine_27]
    rfl
/-! ===== one line ===== -/
theorem q_rl210_f {R : Nat → Nat → Int32} (K : Nat → Nat → Int64) (e : QP) (hf : (0 : Int32) < R 64 2) : kX12_readLine 210 [some (.ref 64)] [] (qm R K e) = some (none, qm R K e) := by
  rw [eX12_readLine_210, if_neg (q_pos_ne hf), eX12_readLine_231, if_neg (q_pos_ne hf), eX12_readLine_242]
theorem q_semi {v : Nat → Nat} {n s L : Nat} {e : QP} {C : Nat → Nat → Int32} {J : Nat → Nat → Int64} {R : Nat → Nat → Int32} {K : Nat → Nat → Int64} {x Y Z : Option QR} {tail : QR → Option QR} (hx : q_Res v n s L e C J R K x Y) (T0 : ∀ C' J', tail (some (.int 0), qm C' J' (3, 17, 17, 2, L)) = some (some (.int 0), qm C' J' (3, 17, 17, 2, L)))
    (T1 : ∀ C' J' C'' J'' (b : Bool), mX9_takeSign [.ref 31, .int 59] (qm C' J' (3, 17, 17, 2, L)) = some (some (.int (qb b)), qm C'' J'' (3, 17, 17, 2, L)) → tail (some (.int 1), qm C' J' (3, 17, 17, 2, L)) = some (some (.int (qb b)), qm C'' J'' (3, 17, 17, 2, L))) (hZ : ∀ R' K', Y = some (none, qm R' K' e) → Z = kX12_readLine 210 [some (.ref 64)] [] (qm R' K' e)) : q_Res v n (s + 1) L e C J R K (x.bind tail) Z := by
  rcases hx with ⟨C', J', R', K', D', N', cl', s', e1, e2, e3, e4, e5, e6⟩ | ⟨C', J', R', K', e1, e2, e3, e4⟩
  · have hz := hZ R' K' e2
    rw [e1]
    rcases q_tkSign (L := L) (e := e) e5 (k := 59) (by decide) (by decide) (a := 59) rfl with ⟨t5, t6, t7, C3, J3, R5, K5, s5, t1, t2, t3, t4, t8⟩ | ⟨t0, C3, R3, t1, t2, t3, t4⟩
    · refine Or.inl ⟨C3, J3, R5, K5, D', N', cl', s5, T1 C' J' C3 J3 true t1, ?_, q_Gf_trans e3 t3.gf, by omega, t8, q_BR_ad e6 t3⟩
      rw [hz, eX12_readLine_210, if_pos e5.ok, eX12_readLine_217, if_pos t7, eX12_readLine_231, if_pos e5.ok, eX12_readLine_238, t2]
      simp only [Option.bind_some, Option.toList_some, Option.toList_none, List.nil_append, List.cons_append, q_ck_tt, Bool.and_true, Bool.true_and, if_true, if_false, reduceCtorEq]
      rw [eX12_readLine_242v1]
    · refine Or.inr ⟨C3, J', R3, K', T1 C' J' C3 J' false t1, ?_, q_Gf_trans e3 t4.1, t3⟩
      rw [hz, eX12_readLine_210, if_pos e5.ok, eX12_readLine_217, if_neg t0, eX12_readLine_226, t2]
      simp only [Option.bind_some, Option.toList_some, Option.toList_none, List.nil_append, List.cons_append, q_ck_tt, Bool.and_true, Bool.true_and, if_true, if_false, reduceCtorEq]
      rw [eX12_readLine_231, if_neg (q_pos_ne t3.2.1), eX12_readLine_242]
  · rw [e1]
    exact Or.inr ⟨C', J', R', K', T0 C' J', by rw [hZ R' K' e2, q_rl210_f K' e e4.2.1], e3, e4⟩
theorem q_lineD {v : Nat → Nat} {n s L : Nat} {C : Nat → Nat → Int32} {J : Nat → Nat → Int64} {R : Nat → Nat → Int32} {K : Nat → Nat → Int64} {e : QP} {D N : Nat} {cl : Nat → Nat} (h : q_Pt v n C J R K s) (hB : q_BR C J R K D N cl) (hS : q_Sta C) : q_Res v n (s + 1) L e C J R K (mX9_line [.ref 31] (qm C J (3, 17, 17, 2, L))) (mX12_readLine [.ref 64] (qm R K e)) := by
  have hw : ∀ (j : Nat) (w : Int64) (a : Int32), j < 21 → w = qKW j → a = nI j → mX12_isWord [.ref 64, .long w] (qm R K e) = some (some (.int (qb (decide (C 31 5 = 2) && decide (C 31 6 = a)))), qm R K e) := by
    intro j w a hj hw ha
    rw [fX12_isWord, hw, ha, h.key hj]
  have hD : C 17 0 = nI D ∧ R 64 46 = nI D ∧ D ≤ 4 := hB.1.1.1
  have hN : C 17 5 = nI N ∧ R 64 47 = nI N ∧ N ≤ 6 := hB.1.1.2.1
  have hO : C 31 9 = R 64 24 := hB.1.2.2.2.2.1.1
  have hz1 : C 31 10 = R 64 54 := hB.1.2.2.2.2.2.1.1
  have hz2 : C 31 11 = R 64 55 := hB.1.2.2.2.2.2.2.1.1
  -- both refuse
  obtain ⟨Cr, Rr, b1, b2, b3, b4, _, _⟩ := q_refw L e h 2 (by decide)
  have hbad : ∀ X Y : Option QR, X = some (some (.int 0), qm Cr J (3, 17, 17, 2, L)) → Y = kX12_readLine 205 [some (.ref 64)] [] (qm R K e) → q_Res v n (s + 1) L e C J R K X Y := by
    intro X Y hX hY
    refine Or.inr ⟨Cr, J, Rr, K, hX, ?_, b4.1, b3⟩
    rw [hY, eX12_readLine_205, b2]
    simp only [Option.bind_some, Option.toList_some, Option.toList_none, List.nil_append, List.cons_append, q_ck_tt, Bool.and_true, Bool.true_and, if_true, if_false, reduceCtorEq]
    exact q_rl210_f K e b3.2.1
  have n0 : (decide (C 31 5 = 2) && decide (C 31 6 = 0)) = false → kX12_readLine 0 [some (.ref 64)] [] (qm R K e) = kX12_readLine 25 [some (.ref 64)] [] (qm R K e) := by
    intro g
    rw [eX12_readLine_0, hw 0 110386941092709 0 (by decide) (by decide +kernel) rfl, g]
    simp only [Option.bind_some, Option.toList_some, Option.toList_none, List.nil_append, List.cons_append, q_ck_tt, Bool.and_true, Bool.true_and, if_true, if_false, reduceCtorEq]
    rw [eX12_readLine_7, if_pos (by rfl)]
  have y0 : (decide (C 31 5 = 2) && decide (C 31 6 = 0)) = true → kX12_readLine 0 [some (.ref 64)] [] (qm R K e) = kX12_readLine 10 [some (.ref 64)] [] (qm R K e) := by
    intro g
    rw [eX12_readLine_0, hw 0 110386941092709 0 (by decide) (by decide +kernel) rfl, g]
    simp only [Option.bind_some, Option.toList_some, Option.toList_none, List.nil_append, List.cons_append, q_ck_tt, Bool.and_true, Bool.true_and, if_true, if_false, reduceCtorEq]
    rw [eX12_readLine_7, if_neg (by decide)]
  have n4 : (decide (C 31 5 = 2) && decide (C 31 6 = 4)) = false → kX12_readLine 25 [some (.ref 64)] [] (qm R K e) = kX12_readLine 51 [some (.ref 64)] [] (qm R K e) := by
    intro g
    rw [eX12_readLine_25, hw 4 7234932 4 (by decide) (by decide +kernel) rfl, g]
    simp only [Option.bind_some, Option.toList_some, Option.toList_none, List.nil_append, List.cons_append, q_ck_tt, Bool.and_true, Bool.true_and, if_true, if_false, reduceCtorEq]
    rw [eX12_readLine_32, if_pos (by rfl)]
  have y4 : (decide (C 31 5 = 2) && decide (C 31 6 = 4)) = true → kX12_readLine 25 [some (.ref 64)] [] (qm R K e) = kX12_readLine 35 [some (.ref 64)] [] (qm R K e) := by
    intro g
    rw [eX12_readLine_25, hw 4 7234932 4 (by decide) (by decide +kernel) rfl, g]
    simp only [Option.bind_some, Option.toList_some, Option.toList_none, List.nil_append, List.cons_append, q_ck_tt, Bool.and_true, Bool.true_and, if_true, if_false, reduceCtorEq]
    rw [eX12_readLine_32, if_neg (by decide)]
  have n9 : (decide (C 31 5 = 2) && decide (C 31 6 = 9)) = false → kX12_readLine 51 [some (.ref 64)] [] (qm R K e) = kX12_readLine 68 [some (.ref 64)] [] (qm R K e) := by
    intro g
    rw [eX12_readLine_51, hw 9 495673373300 9 (by decide) (by decide +kernel) rfl, g]
    simp only [Option.bind_some, Option.toList_some, Option.toList_none, List.nil_append, List.cons_append, q_ck_tt, Bool.and_true, Bool.true_and, if_true, if_false, reduceCtorEq]
    rw [eX12_readLine_58, if_pos (by rfl)]
  have y9 : (decide (C 31 5 = 2) && decide (C 31 6 = 9)) = true → kX12_readLine 51 [some (.ref 64)] [] (qm R K e) = kX12_readLine 61 [some (.ref 64)] [] (qm R K e) := by
    intro g
    rw [eX12_readLine_51, hw 9 495673373300 9 (by decide) (by decide +kernel) rfl, g]
    simp only [Option.bind_some, Option.toList_some, Option.toList_none, List.nil_append, List.cons_append, q_ck_tt, Bool.and_true, Bool.true_and, if_true, if_false, reduceCtorEq]
    rw [eX12_readLine_58, if_neg (by decide)]
  have n12 : (decide (C 31 5 = 2) && decide (C 31 6 = 12)) = false → kX12_readLine 68 [some (.ref 64)] [] (qm R K e) = kX12_readLine 85 [some (.ref 64)] [] (qm R K e) := by
    intro g
    rw [eX12_readLine_68, hw 12 1869636974 12 (by decide) (by decide +kernel) rfl, g]
    simp only [Option.bind_some, Option.toList_some, Option.toList_none, List.nil_append, List.cons_append, q_ck_tt, Bool.and_true, Bool.true_and, if_true, if_false, reduceCtorEq]
    rw [eX12_readLine_75, if_pos (by rfl)]
  have y12 : (decide (C 31 5 = 2) && decide (C 31 6 = 12)) = true → kX12_readLine 68 [some (.ref 64)] [] (qm R K e) = kX12_readLine 78 [some (.ref 64)] [] (qm R K e) := by
    intro g
    rw [eX12_readLine_68, hw 12 1869636974 12 (by decide) (by decide +kernel) rfl, g]
    simp only [Option.bind_some, Option.toList_some, Option.toList_none, List.nil_append, List.cons_append, q_ck_tt, Bool.and_true, Bool.true_and, if_true, if_false, reduceCtorEq]
    rw [eX12_readLine_75, if_neg (by decide)]
  have n13 : (decide (C 31 5 = 2) && decide (C 31 6 = 13)) = false → kX12_readLine 85 [some (.ref 64)] [] (qm R K e) = kX12_readLine 102 [some (.ref 64)] [] (qm R K e) := by
    intro g
    rw [eX12_readLine_85, hw 13 495875089259 13 (by decide) (by decide +kernel) rfl, g]
    simp only [Option.bind_some, Option.toList_some, Option.toList_none, List.nil_append, List.cons_append, q_ck_tt, Bool.and_true, Bool.true_and, if_true, if_false, reduceCtorEq]
    rw [eX12_readLine_92, if_pos (by rfl)]
  have y13 : (decide (C 31 5 = 2) && decide (C 31 6 = 13)) = true → kX12_readLine 85 [some (.ref 64)] [] (qm R K e) = kX12_readLine 95 [some (.ref 64)] [] (qm R K e) := by
    intro g
    rw [eX12_readLine_85, hw 13 495875089259 13 (by decide) (by decide +kernel) rfl, g]
    simp only [Option.bind_some, Option.toList_some, Option.toList_none, List.nil_append, List.cons_append, q_ck_tt, Bool.and_true, Bool.true_and, if_true, if_false, reduceCtorEq]
    rw [eX12_readLine_92, if_neg (by decide)]
  have n14 : (decide (C 31 5 = 2) && decide (C 31 6 = 14)) = false → kX12_readLine 102 [some (.ref 64)] [] (qm R K e) = kX12_readLine 126 [some (.ref 64)] [] (qm R K e) := by
    intro g
    rw [eX12_readLine_102, hw 14 112615911158899 14 (by decide) (by decide +kernel) rfl, g]
    simp only [Option.bind_some, Option.toList_some, Option.toList_none, List.nil_append, List.cons_append, q_ck_tt, Bool.and_true, Bool.true_and, if_true, if_false, reduceCtorEq]
    rw [eX12_readLine_109, if_pos (by rfl)]
  have y14 : (decide (C 31 5 = 2) && decide (C 31 6 = 14)) = true → kX12_readLine 102 [some (.ref 64)] [] (qm R K e) = kX12_readLine 112 [some (.ref 64)] [] (qm R K e) := by
    intro g
    rw [eX12_readLine_102, hw 14 112615911158899 14 (by decide) (by decide +kernel) rfl, g]
    simp only [Option.bind_some, Option.toList_some, Option.toList_none, List.nil_append, List.cons_append, q_ck_tt, Bool.and_true, Bool.true_and, if_true, if_false, reduceCtorEq]
    rw [eX12_readLine_109, if_neg (by decide)]
  have n15 : (decide (C 31 5 = 2) && decide (C 31 6 = 15)) = false → kX12_readLine 126 [some (.ref 64)] [] (qm R K e) = kX12_readLine 165 [some (.ref 64)] [] (qm R K e) := by
    intro g
    rw [eX12_readLine_126, hw 15 474315584357 15 (by decide) (by decide +kernel) rfl, g]
    simp only [Option.bind_some, Option.toList_some, Option.toList_none, List.nil_append, List.cons_append, q_ck_tt, Bool.and_true, Bool.true_and, if_true, if_false, reduceCtorEq]
    rw [eX12_readLine_133, if_pos (by rfl)]
  have y15 : (decide (C 31 5 = 2) && decide (C 31 6 = 15)) = true → kX12_readLine 126 [some (.ref 64)] [] (qm R K e) = kX12_readLine 136 [some (.ref 64)] [] (qm R K e) := by
    intro g
    rw [eX12_readLine_126, hw 15 474315584357 15 (by decide) (by decide +kernel) rfl, g]
    simp only [Option.bind_some, Option.toList_some, Option.toList_none, List.nil_append, List.cons_append, q_ck_tt, Bool.and_true, Bool.true_and, if_true, if_false, reduceCtorEq]
    rw [eX12_readLine_133, if_neg (by decide)]
  have n16 : (decide (C 31 5 = 2) && decide (C 31 6 = 16)) = false → kX12_readLine 165 [some (.ref 64)] [] (qm R K e) = kX12_readLine 205 [some (.ref 64)] [] (qm R K e) := by
    intro g
    rw [eX12_readLine_165, hw 16 1685217655 16 (by decide) (by decide +kernel) rfl, g]
    simp only [Option.bind_some, Option.toList_some, Option.toList_none, List.nil_append, List.cons_append, q_ck_tt, Bool.and_true, Bool.true_and, if_true, if_false, reduceCtorEq]
    rw [eX12_readLine_172, if_pos (by rfl)]
  have y16 : (decide (C 31 5 = 2) && decide (C 31 6 = 16)) = true → kX12_readLine 165 [some (.ref 64)] [] (qm R K e) = kX12_readLine 175 [some (.ref 64)] [] (qm R K e) := by
    intro g
    rw [eX12_readLine_165, hw 16 1685217655 16 (by decide) (by decide +kernel) rfl, g]
    simp only [Option.bind_some, Option.toList_some, Option.toList_none, List.nil_append, List.cons_append, q_ck_tt, Bool.and_true, Bool.true_and, if_true, if_false, reduceCtorEq]
    rw [eX12_readLine_172, if_neg (by decide)]
  by_cases h2 : C 31 5 = 2
  · have ne : ∀ a b : Int32, C 31 6 = a → a ≠ b → (decide (C 31 5 = 2) && decide (C 31 6 = b)) = false := fun a b g g2 => by rw [g, decide_eq_false g2, Bool.and_false]
    have eq : ∀ a : Int32, C 31 6 = a → (decide (C 31 5 = 2) && decide (C 31 6 = a)) = true := fun a g => by rw [decide_eq_true h2, decide_eq_true g]; rfl
    have hc14 : mX9_line [.ref 31] (qm C J (3, 17, 17, 2, L)) = kX9_line 14 [some (.ref 31)] [] (qm C J (3, 17, 17, 2, L)) := by rw [bX9_line, eX9_line_0, if_pos h2]
    have hr0 : mX12_readLine [.ref 64] (qm R K e) = kX12_readLine 0 [some (.ref 64)] [] (qm R K e) := by rw [bX12_readLine]
    rw [eX9_line_14] at hc14
    by_cases k0 : C 31 6 = 0
    · rw [if_pos k0, eX9_line_100] at hc14
      by_cases hl : D < 4
      · rw [hc14]
        refine q_semi (tail := fun r => kX9_line 104 [some (.ref 31)] (r.1.toList ++ []) r.2) ?_ (fun C' J' => by
            show kX9_line 104 [some (.ref 31)] [.int 0] (qm C' J' (3, 17, 17, 2, L)) = _
            rw [eX9_line_104, if_pos rfl, eX9_line_120, eX9_line_121]
            rfl) (fun C' J' C'' J'' b hb => by
            show kX9_line 104 [some (.ref 31)] [.int 1] (qm C' J' (3, 17, 17, 2, L)) = _
            rw [eX9_line_104, if_neg (by decide), eX9_line_107, hb]
            simp only [Option.bind_some, Option.toList_some, Option.toList_none, List.nil_append, List.cons_append, q_ck_tt, Bool.and_true, Bool.true_and, if_true, if_false, reduceCtorEq]
            cases b with
            | true =>
              rw [eX9_line_113, if_neg (by decide), eX9_line_116, eX9_line_121]
              rfl
            | false =>
              rw [eX9_line_113, if_pos (by rfl), eX9_line_120, eX9_line_121]
              rfl) (Y := mX12_readDevice [.ref 64] (qm R K e)) (fun R' K' hY => ?_)
        · exact q_dev h h2 hB hl
        · rw [hr0, y0 (eq 0 k0), eX12_readLine_10, hD.2.1, if_pos (show nI D < (4 : Int32) from nI_lt (b := 4) hl (by omega)), eX12_readLine_18, hY]
          simp only [Option.bind_some, Option.toList_some, Option.toList_none, List.nil_append, List.cons_append, q_ck_tt, Bool.and_true, Bool.true_and, if_true, if_false, reduceCtorEq]
          rw [eX12_readLine_22]
      · refine hbad _ _ ?_ ?_
        · rw [hc14, bX9_deviceLine, eX9_deviceLine_0, hD.1, if_neg (show ¬ nI D < (4 : Int32) from nI_nlt (b := 4) (by omega) (by have := hD.2.2; omega)), eX9_deviceLine_13, b1]
          simp only [Option.bind_some, Option.toList_some, Option.toList_none, List.nil_append, List.cons_append, q_ck_tt, Bool.and_true, Bool.true_and, if_true, if_false, reduceCtorEq]
          rw [eX9_deviceLine_18]
          show (some (some (Value.int 0), qm Cr J (3, 17, 17, 2, L)) : Option QR).bind _ = _
          simp only [Option.bind_some, Option.toList_some, Option.toList_none, List.nil_append, List.cons_append, q_ck_tt, Bool.and_true, Bool.true_and, if_true, if_false, reduceCtorEq]
          rw [eX9_line_104, if_pos rfl, eX9_line_120, eX9_line_121]
          rfl
        · rw [hr0, y0 (eq 0 k0), eX12_readLine_10, hD.2.1, if_neg (show ¬ nI D < (4 : Int32) from nI_nlt (b := 4) (by omega) (by have := hD.2.2; omega)), n4 (ne 0 4 k0 (by decide)), n9 (ne 0 9 k0 (by decide)), n12 (ne 0 12 k0 (by decide)), n13 (ne 0 13 k0 (by decide)), n14 (ne 0 14 k0 (by decide)), n15 (ne 0 15 k0 (by decide)), n16 (ne 0 16 k0 (by decide))]
    by_cases k4 : C 31 6 = 4
    · rw [if_neg k0, if_pos k4, eX9_line_122] at hc14
      by_cases hl : N < 6
      · rw [hc14]
        refine q_semi (tail := fun r => kX9_line 126 [some (.ref 31)] (r.1.toList ++ []) r.2) ?_ (fun C' J' => by
            show kX9_line 126 [some (.ref 31)] [.int 0] (qm C' J' (3, 17, 17, 2, L)) = _
            rw [eX9_line_126, if_pos rfl, eX9_line_142, eX9_line_143]
            rfl) (fun C' J' C'' J'' b hb => by
            show kX9_line 126 [some (.ref 31)] [.int 1] (qm C' J' (3, 17, 17, 2, L)) = _
            rw [eX9_line_126, if_neg (by decide), eX9_line_129, hb]
            simp only [Option.bind_some, Option.toList_some, Option.toList_none, List.nil_append, List.cons_append, q_ck_tt, Bool.and_true, Bool.true_and, if_true, if_false, reduceCtorEq]
            cases b with
            | true =>
              rw [eX9_line_135, if_neg (by decide), eX9_line_138, eX9_line_143]
              rfl
            | false =>
              rw [eX9_line_135, if_pos (by rfl), eX9_line_142, eX9_line_143]
              rfl) (Y := mX12_readNet [.ref 64] (qm R K e)) (fun R' K' hY => ?_)
        · exact q_netq h h2 hB hl
        · rw [hr0, n0 (ne 4 0 k4 (by decide)), y4 (eq 4 k4), eX12_readLine_35, hN.2.1, if_pos (show nI N < (6 : Int32) from nI_lt (b := 6) hl (by omega)), eX12_readLine_44, hY]
          simp only [Option.bind_some, Option.toList_some, Option.toList_none, List.nil_append, List.cons_append, q_ck_tt, Bool.and_true, Bool.true_and, if_true, if_false, reduceCtorEq]
          rw [eX12_readLine_48]
      · refine hbad _ _ ?_ ?_
        · rw [hc14, bX9_netLine, eX9_netLine_0, hN.1, if_neg (show ¬ nI N < (6 : Int32) from nI_nlt (b := 6) (by omega) (by have := hN.2.2; omega)), eX9_netLine_14, b1]
          simp only [Option.bind_some, Option.toList_some, Option.toList_none, List.nil_append, List.cons_append, q_ck_tt, Bool.and_true, Bool.true_and, if_true, if_false, reduceCtorEq]
          rw [eX9_netLine_19]
          show (some (some (Value.int 0), qm Cr J (3, 17, 17, 2, L)) : Option QR).bind _ = _
          simp only [Option.bind_some, Option.toList_some, Option.toList_none, List.nil_append, List.cons_append, q_ck_tt, Bool.and_true, Bool.true_and, if_true, if_false, reduceCtorEq]
          rw [eX9_line_126, if_pos rfl, eX9_line_142, eX9_line_143]
          rfl
        · rw [hr0, n0 (ne 4 0 k4 (by decide)), y4 (eq 4 k4), eX12_readLine_35, hN.2.1, if_neg (show ¬ nI N < (6 : Int32) from nI_nlt (b := 6) (by omega) (by have := hN.2.2; omega)), n9 (ne 4 9 k4 (by decide)), n12 (ne 4 12 k4 (by decide)), n13 (ne 4 13 k4 (by decide)), n14 (ne 4 14 k4 (by decide)), n15 (ne 4 15 k4 (by decide)), n16 (ne 4 16 k4 (by decide))]
    by_cases k9 : C 31 6 = 9
    · rw [if_neg k0, if_neg k4, if_pos k9, eX9_line_144] at hc14
      rw [hc14]
      refine q_semi (tail := fun r => kX9_line 148 [some (.ref 31)] (r.1.toList ++ []) r.2) ?_ (fun C' J' => by
          show kX9_line 148 [some (.ref 31)] [.int 0] (qm C' J' (3, 17, 17, 2, L)) = _
          rw [eX9_line_148, if_pos rfl, eX9_line_164, eX9_line_165]
          rfl) (fun C' J' C'' J'' b hb => by
          show kX9_line 148 [some (.ref 31)] [.int 1] (qm C' J' (3, 17, 17, 2, L)) = _
          rw [eX9_line_148, if_neg (by decide), eX9_line_151, hb]
          simp only [Option.bind_some, Option.toList_some, Option.toList_none, List.nil_append, List.cons_append, q_ck_tt, Bool.and_true, Bool.true_and, if_true, if_false, reduceCtorEq]
          cases b with
          | true =>
            rw [eX9_line_157, if_neg (by decide), eX9_line_160, eX9_line_165]
            rfl
          | false =>
            rw [eX9_line_157, if_pos (by rfl), eX9_line_164, eX9_line_165]
            rfl) (Y := mX12_readShort [.ref 64] (qm R K e)) (fun R' K' hY => ?_)
      · exact q_short v n s L C J R K e D N cl h h2 hB hS
      · rw [hr0, n0 (ne 9 0 k9 (by decide)), n4 (ne 9 4 k9 (by decide)), y9 (eq 9 k9), eX12_readLine_61, hY]
        simp only [Option.bind_some, Option.toList_some, Option.toList_none, List.nil_append, List.cons_append, q_ck_tt, Bool.and_true, Bool.true_and, if_true, if_false, reduceCtorEq]
        rw [eX12_readLine_65]
    by_cases k12 : C 31 6 = 12
    · rw [if_neg k0, if_neg k4, if_neg k9, if_pos k12, eX9_line_166] at hc14
      rw [hc14]
      refine q_semi (tail := fun r => kX9_line 170 [some (.ref 31)] (r.1.toList ++ []) r.2) ?_ (fun C' J' => by
          show kX9_line 170 [some (.ref 31)] [.int 0] (qm C' J' (3, 17, 17, 2, L)) = _
          rw [eX9_line_170, if_pos rfl, eX9_line_186, eX9_line_187]
          rfl) (fun C' J' C'' J'' b hb => by
          show kX9_line 170 [some (.ref 31)] [.int 1] (qm C' J' (3, 17, 17, 2, L)) = _
          rw [eX9_line_170, if_neg (by decide), eX9_line_173, hb]
          simp only [Option.bind_some, Option.toList_some, Option.toList_none, List.nil_append, List.cons_append, q_ck_tt, Bool.and_true, Bool.true_and, if_true, if_false, reduceCtorEq]
          cases b with
          | true =>
            rw [eX9_line_179, if_neg (by decide), eX9_line_182, eX9_line_187]
            rfl
          | false =>
            rw [eX9_line_179, if_pos (by rfl), eX9_line_186, eX9_line_187]
            rfl) (Y := mX12_readOpen [.ref 64] (qm R K e)) (fun R' K' hY => ?_)
      · exact q_open v n s L C J R K e D N cl h h2 hB hS
      · rw [hr0, n0 (ne 12 0 k12 (by decide)), n4 (ne 12 4 k12 (by decide)), n9 (ne 12 9 k12 (by decide)), y12 (eq 12 k12), eX12_readLine_78, hY]
        simp only [Option.bind_some, Option.toList_some, Option.toList_none, List.nil_append, List.cons_append, q_ck_tt, Bool.and_true, Bool.true_and, if_true, if_false, reduceCtorEq]
        rw [eX12_readLine_82]
    by_cases k13 : C 31 6 = 13
    · rw [if_neg k0, if_neg k4, if_neg k9, if_neg k12, if_pos k13, eX9_line_188] at hc14
      rw [hc14]
      refine q_semi (tail := fun r => kX9_line 192 [some (.ref 31)] (r.1.toList ++ []) r.2) ?_ (fun C' J' => by
          show kX9_line 192 [some (.ref 31)] [.int 0] (qm C' J' (3, 17, 17, 2, L)) = _
          rw [eX9_line_192, if_pos rfl, eX9_line_208, eX9_line_209]
          rfl) (fun C' J' C'' J'' b hb => by
          show kX9_line 192 [some (.ref 31)] [.int 1] (qm C' J' (3, 17, 17, 2, L)) = _
          rw [eX9_line_192, if_neg (by decide), eX9_line_195, hb]
          simp only [Option.bind_some, Option.toList_some, Option.toList_none, List.nil_append, List.cons_append, q_ck_tt, Bool.and_true, Bool.true_and, if_true, if_false, reduceCtorEq]
          cases b with
          | true =>
            rw [eX9_line_201, if_neg (by decide), eX9_line_204, eX9_line_209]
            rfl
          | false =>
            rw [eX9_line_201, if_pos (by rfl), eX9_line_208, eX9_line_209]
            rfl) (Y := mX12_readStuck [.ref 64] (qm R K e)) (fun R' K' hY => ?_)
      · exact q_stuck v n s L C J R K e D N cl h h2 hB hS
      · rw [hr0, n0 (ne 13 0 k13 (by decide)), n4 (ne 13 4 k13 (by decide)), n9 (ne 13 9 k13 (by decide)), n12 (ne 13 12 k13 (by decide)), y13 (eq 13 k13), eX12_readLine_95, hY]
        simp only [Option.bind_some, Option.toList_some, Option.toList_none, List.nil_append, List.cons_append, q_ck_tt, Bool.and_true, Bool.true_and, if_true, if_false, reduceCtorEq]
        rw [eX12_readLine_99]
    by_cases k14 : C 31 6 = 14
    · rw [if_neg k0, if_neg k4, if_neg k9, if_neg k12, if_neg k13, if_pos k14, eX9_line_210] at hc14
      by_cases hl : R 64 24 = 0
      · rw [hc14]
        refine q_semi (tail := fun r => kX9_line 214 [some (.ref 31)] (r.1.toList ++ []) r.2) ?_ (fun C' J' => by
            show kX9_line 214 [some (.ref 31)] [.int 0] (qm C' J' (3, 17, 17, 2, L)) = _
            rw [eX9_line_214, if_pos rfl, eX9_line_230, eX9_line_231]
            rfl) (fun C' J' C'' J'' b hb => by
            show kX9_line 214 [some (.ref 31)] [.int 1] (qm C' J' (3, 17, 17, 2, L)) = _
            rw [eX9_line_214, if_neg (by decide), eX9_line_217, hb]
            simp only [Option.bind_some, Option.toList_some, Option.toList_none, List.nil_append, List.cons_append, q_ck_tt, Bool.and_true, Bool.true_and, if_true, if_false, reduceCtorEq]
            cases b with
            | true =>
              rw [eX9_line_223, if_neg (by decide), eX9_line_226, eX9_line_231]
              rfl
            | false =>
              rw [eX9_line_223, if_pos (by rfl), eX9_line_230, eX9_line_231]
              rfl) (Y := mX12_formula [.ref 64] (qm R K e)) (fun R' K' hY => ?_)
        · exact q_floats h h2 hB hl
        · rw [hr0, n0 (ne 14 0 k14 (by decide)), n4 (ne 14 4 k14 (by decide)), n9 (ne 14 9 k14 (by decide)), n12 (ne 14 12 k14 (by decide)), n13 (ne 14 13 k14 (by decide)), y14 (eq 14 k14), eX12_readLine_112, if_pos hl, eX12_readLine_119, hY]
          simp only [Option.bind_some, Option.toList_some, Option.toList_none, List.nil_append, List.cons_append, q_ck_tt, Bool.and_true, Bool.true_and, if_true, if_false, reduceCtorEq]
          rw [eX12_readLine_123]
      · refine hbad _ _ ?_ ?_
        · rw [hc14, bX9_floatsLine, eX9_floatsLine_0, hO, if_neg hl, eX9_floatsLine_7, b1]
          simp only [Option.bind_some, Option.toList_some, Option.toList_none, List.nil_append, List.cons_append, q_ck_tt, Bool.and_true, Bool.true_and, if_true, if_false, reduceCtorEq]
          rw [eX9_floatsLine_12]
          show (some (some (Value.int 0), qm Cr J (3, 17, 17, 2, L)) : Option QR).bind _ = _
          simp only [Option.bind_some, Option.toList_some, Option.toList_none, List.nil_append, List.cons_append, q_ck_tt, Bool.and_true, Bool.true_and, if_true, if_false, reduceCtorEq]
          rw [eX9_line_214, if_pos rfl, eX9_line_230, eX9_line_231]
          rfl
        · rw [hr0, n0 (ne 14 0 k14 (by decide)), n4 (ne 14 4 k14 (by decide)), n9 (ne 14 9 k14 (by decide)), n12 (ne 14 12 k14 (by decide)), n13 (ne 14 13 k14 (by decide)), y14 (eq 14 k14), eX12_readLine_112, if_neg hl, n15 (ne 14 15 k14 (by decide)), n16 (ne 14 16 k14 (by decide))]
    by_cases k15 : C 31 6 = 15
    · rw [if_neg k0, if_neg k4, if_neg k9, if_neg k12, if_neg k13, if_neg k14, if_pos k15, eX9_line_232] at hc14
      by_cases hl : R 64 54 = 0
      · obtain ⟨Y, y1, y2⟩ := q_noise (L := L) (e := e) h h2 k15 hB (hz1.trans hl)
        rw [hc14]
        refine q_semi (tail := fun r => kX9_line 236 [some (.ref 31)] (r.1.toList ++ []) r.2) ?_ (fun C' J' => by
            show kX9_line 236 [some (.ref 31)] [.int 0] (qm C' J' (3, 17, 17, 2, L)) = _
            rw [eX9_line_236, if_pos rfl, eX9_line_252, eX9_line_253]
            rfl) (fun C' J' C'' J'' b hb => by
            show kX9_line 236 [some (.ref 31)] [.int 1] (qm C' J' (3, 17, 17, 2, L)) = _
            rw [eX9_line_236, if_neg (by decide), eX9_line_239, hb]
            simp only [Option.bind_some, Option.toList_some, Option.toList_none, List.nil_append, List.cons_append, q_ck_tt, Bool.and_true, Bool.true_and, if_true, if_false, reduceCtorEq]
            cases b with
            | true =>
              rw [eX9_line_245, if_neg (by decide), eX9_line_248, eX9_line_253]
              rfl
            | false =>
              rw [eX9_line_245, if_pos (by rfl), eX9_line_252, eX9_line_253]
              rfl) (Y := Y) (fun R' K' hY => ?_)
        · exact y1
        · rw [hr0, n0 (ne 15 0 k15 (by decide)), n4 (ne 15 4 k15 (by decide)), n9 (ne 15 9 k15 (by decide)), n12 (ne 15 12 k15 (by decide)), n13 (ne 15 13 k15 (by decide)), n14 (ne 15 14 k15 (by decide)), y15 (eq 15 k15), eX12_readLine_136, if_pos hl, y2 R' K' hY]
      · refine hbad _ _ ?_ ?_
        · rw [hc14, bX9_noiseLine, eX9_noiseLine_0, hz1, if_neg hl, eX9_noiseLine_7, b1]
          simp only [Option.bind_some, Option.toList_some, Option.toList_none, List.nil_append, List.cons_append, q_ck_tt, Bool.and_true, Bool.true_and, if_true, if_false, reduceCtorEq]
          rw [eX9_noiseLine_12]
          show (some (some (Value.int 0), qm Cr J (3, 17, 17, 2, L)) : Option QR).bind _ = _
          simp only [Option.bind_some, Option.toList_some, Option.toList_none, List.nil_append, List.cons_append, q_ck_tt, Bool.and_true, Bool.true_and, if_true, if_false, reduceCtorEq]
          rw [eX9_line_236, if_pos rfl, eX9_line_252, eX9_line_253]
          rfl
        · rw [hr0, n0 (ne 15 0 k15 (by decide)), n4 (ne 15 4 k15 (by decide)), n9 (ne 15 9 k15 (by decide)), n12 (ne 15 12 k15 (by decide)), n13 (ne 15 13 k15 (by decide)), n14 (ne 15 14 k15 (by decide)), y15 (eq 15 k15), eX12_readLine_136, if_neg hl, n16 (ne 15 16 k15 (by decide))]
    by_cases k16 : C 31 6 = 16
    · rw [if_neg k0, if_neg k4, if_neg k9, if_neg k12, if_neg k13, if_neg k14, if_neg k15, if_pos k16, eX9_line_254] at hc14
      by_cases hl : R 64 55 = 0
      · obtain ⟨Y, y1, y2⟩ := q_draw (L := L) (e := e) h h2 k16 hB (hz2.trans hl)
        rw [hc14]
        refine q_semi (tail := fun r => kX9_line 258 [some (.ref 31)] (r.1.toList ++ []) r.2) ?_ (fun C' J' => by
            show kX9_line 258 [some (.ref 31)] [.int 0] (qm C' J' (3, 17, 17, 2, L)) = _
            rw [eX9_line_258, if_pos rfl, eX9_line_274, eX9_line_275]
            rfl) (fun C' J' C'' J'' b hb => by
            show kX9_line 258 [some (.ref 31)] [.int 1] (qm C' J' (3, 17, 17, 2, L)) = _
            rw [eX9_line_258, if_neg (by decide), eX9_line_261, hb]
            simp only [Option.bind_some, Option.toList_some, Option.toList_none, List.nil_append, List.cons_append, q_ck_tt, Bool.and_true, Bool.true_and, if_true, if_false, reduceCtorEq]
            cases b with
            | true =>
              rw [eX9_line_267, if_neg (by decide), eX9_line_270, eX9_line_275]
              rfl
            | false =>
              rw [eX9_line_267, if_pos (by rfl), eX9_line_274, eX9_line_275]
              rfl) (Y := Y) (fun R' K' hY => ?_)
        · exact y1
        · rw [hr0, n0 (ne 16 0 k16 (by decide)), n4 (ne 16 4 k16 (by decide)), n9 (ne 16 9 k16 (by decide)), n12 (ne 16 12 k16 (by decide)), n13 (ne 16 13 k16 (by decide)), n14 (ne 16 14 k16 (by decide)), n15 (ne 16 15 k16 (by decide)), y16 (eq 16 k16), eX12_readLine_175, if_pos hl, y2 R' K' hY]
      · refine hbad _ _ ?_ ?_
        · rw [hc14, bX9_drawLine, eX9_drawLine_0, hz2, if_neg hl, eX9_drawLine_7, b1]
          simp only [Option.bind_some, Option.toList_some, Option.toList_none, List.nil_append, List.cons_append, q_ck_tt, Bool.and_true, Bool.true_and, if_true, if_false, reduceCtorEq]
          rw [eX9_drawLine_12]
          show (some (some (Value.int 0), qm Cr J (3, 17, 17, 2, L)) : Option QR).bind _ = _
          simp only [Option.bind_some, Option.toList_some, Option.toList_none, List.nil_append, List.cons_append, q_ck_tt, Bool.and_true, Bool.true_and, if_true, if_false, reduceCtorEq]
          rw [eX9_line_258, if_pos rfl, eX9_line_274, eX9_line_275]
          rfl
        · rw [hr0, n0 (ne 16 0 k16 (by decide)), n4 (ne 16 4 k16 (by decide)), n9 (ne 16 9 k16 (by decide)), n12 (ne 16 12 k16 (by decide)), n13 (ne 16 13 k16 (by decide)), n14 (ne 16 14 k16 (by decide)), n15 (ne 16 15 k16 (by decide)), y16 (eq 16 k16), eX12_readLine_175, if_neg hl]
    have nn : ∀ b : Int32, ¬ C 31 6 = b → (decide (C 31 5 = 2) && decide (C 31 6 = b)) = false := fun b g => by rw [decide_eq_false g, Bool.and_false]
    refine hbad _ _ ?_ ?_
    · rw [hc14, if_neg k0, if_neg k4, if_neg k9, if_neg k12, if_neg k13, if_neg k14, if_neg k15, if_neg k16, eX9_line_276, b1]
      simp only [Option.bind_some, Option.toList_some, Option.toList_none, List.nil_append, List.cons_append, q_ck_tt, Bool.and_true, Bool.true_and, if_true, if_false, reduceCtorEq]
      rw [eX9_line_281]
      rfl
    · rw [hr0, n0 (nn 0 k0), n4 (nn 4 k4), n9 (nn 9 k9), n12 (nn 12 k12), n13 (nn 13 k13), n14 (nn 14 k14), n15 (nn 15 k15), n16 (nn 16 k16)]
  · have nn : ∀ b : Int32, (decide (C 31 5 = 2) && decide (C 31 6 = b)) = false := fun b => by rw [decide_eq_false h2, Bool.false_and]
    refine hbad _ _ ?_ ?_
    · rw [bX9_line, eX9_line_0, if_neg h2, eX9_line_8, b1]
      simp only [Option.bind_some, Option.toList_some, Option.toList_none, List.nil_append, List.cons_append, q_ck_tt, Bool.and_true, Bool.true_and, if_true, if_false, reduceCtorEq]
      rw [eX9_line_13]
      rfl
    · rw [bX12_readLine, n0 (nn 0), n4 (nn 4), n9 (nn 9), n12 (nn 12), n13 (nn 13), n14 (nn 14), n15 (nn 15), n16 (nn 16)]
