/-! ===== the formula: putting, signs ===== -/
noncomputable def q_H (e : QP) (R : Nat → Nat → Int32) (K : Nat → Nat → Int64) : Option QR := kX12_formula 35 [some (.ref 64), some (.int 1), none] [] (qm R K e)
theorem q_H_f {R : Nat → Nat → Int32} (K : Nat → Nat → Int64) (e : QP) (hf : (0 : Int32) < R 64 2) : q_H e R K = some (none, qm R K e) := by
  unfold q_H
  rw [eX12_formula_35, if_neg (by decide), eX12_formula_39, if_neg (q_pos_ne hf), eX12_formula_162, if_neg (q_pos_ne hf), eX12_formula_181, if_neg (q_pos_ne hf), eX12_formula_193]
theorem q_Fs.pt {v : Nat → Nat} {n : Nat} {C : Nat → Nat → Int32} {J : Nat → Nat → Int64} {R : Nat → Nat → Int32} {K : Nat → Nat → Int64} {s : Nat} {S P : List Int32} {r u w dp : Nat} (h : q_Fs v n C J R K s S P r u w dp) : q_Pt v n C J R K s := h.1
theorem q_getD_l {P : List Int32} {x : Int32} {j : Nat} (h : j < P.length) : (P ++ [x]).getD j 0 = P.getD j 0 := by
  simp [List.getD, List.getElem?_append, h]
theorem q_getD_e {P : List Int32} {x : Int32} : (P ++ [x]).getD P.length 0 = x := by
  simp [List.getD]
theorem q_put_g {v : Nat → Nat} {n L : Nat} {C : Nat → Nat → Int32} {J : Nat → Nat → Int64} {R : Nat → Nat → Int32} {K : Nat → Nat → Int64} {s : Nat} {S P : List Int32} {r u w dp w1 dp1 : Nat} {x c : Int32} (ho : q_Op c (qe1 x) (qe2 x)) (h : q_Fs v n C J R K s (x :: S) P r u w dp) (hw : w + qnts P = w1 + qnts (P ++ [x])) (hd : (x = 21 ∧ dp1 = dp ∧ 1 ≤ dp) ∨ (x ≠ 21 ∧ dp1 + 1 = dp ∧ 2 ≤ dp)) (hsz : r + P.length + 1 ≤ 9 * u) :
    ∃ C', mX4_put [.ref 28, .int c] (qm C J (3, 17, 17, 2, L)) = some (none, qm C' J (3, 17, 17, 2, L)) ∧ q_Gx C J R K C' J R K ∧ C' 31 = C 31 ∧ q_Fs v n C' J R K s S (P ++ [x]) r u w1 dp1 := by
  obtain ⟨h1, ⟨h2, h3⟩, ⟨c1, c2, Sv, Av, c3, c4, c5, c6⟩, ⟨u1, u2, u3, u4⟩, h5, h6, h7⟩ := h
  have hz : r + P.length < 300 := by omega
  refine ⟨q_up (q_up C 29 (r + P.length) c) 28 2 (nI (r + P.length + 1)), fX4_put J _ c1 hz c, ⟨⟨fun p _ b d => by rw [q_up_at3 _ _ b, q_up_at3 _ _ d], fun k _ _ _ _ => by rw [q_up_at3 _ _ (by decide), q_up_at3 _ _ (by decide)]⟩, fun _ _ => rfl, ⟨fun _ _ _ _ _ => rfl, fun _ _ _ _ _ _ _ _ _ _ => rfl⟩, fun _ _ => rfl⟩, by rw [q_up_at3 _ _ (by decide), q_up_at3 _ _ (by decide)], ?_⟩
  have hl : (P ++ [x]).length = P.length + 1 := by rw [List.length_append]; rfl
  have ha : P ++ [x] ++ S = P ++ x :: S := by rw [List.append_assoc]; rfl
  have hdp : qdep (va_up Sv (r + P.length) (qe1 x)) (r + P.length + 1) = dp1 := by
    show (if va_up Sv (r + P.length) (qe1 x) (r + P.length) = 0 ∨ va_up Sv (r + P.length) (qe1 x) (r + P.length) = 1 then qdep (va_up Sv (r + P.length) (qe1 x)) (r + P.length) + 1 else if va_up Sv (r + P.length) (qe1 x) (r + P.length) = 2 then qdep (va_up Sv (r + P.length) (qe1 x)) (r + P.length) else qdep (va_up Sv (r + P.length) (qe1 x)) (r + P.length) - 1) = dp1
    rw [va_hit, qdep_c (S := Sv) (fun i hi => va_miss (by omega)), c6]
    unfold qe1
    rcases hd with ⟨g1, g2, g3⟩ | ⟨g1, g2, g3⟩
    · rw [if_pos g1, if_neg (by decide), if_pos rfl, g2]
    · rw [if_neg g1, if_neg (by decide), if_neg (by decide)]; omega
  refine ⟨?_, ⟨by rw [ha]; exact h2, by rw [ha]; exact h3⟩, ⟨?_, c2, va_up Sv (r + P.length) (qe1 x), va_up Av (r + P.length) (qe2 x), fun k hk => ?_, fun j hj => ?_, ?_, ?_⟩, ⟨?_, u2, u3, u4⟩, by rw [← hw]; exact h5, by omega, by rw [hl]; omega⟩
  · exact q_Pt_eq h1 (by rw [q_up_at3 _ _ (by decide), q_up_at3 _ _ (by decide)]) (fun k _ _ => by rw [q_up_at3 _ _ (by decide), q_up_at3 _ _ (by decide)]) rfl rfl rfl (fun _ _ _ _ => rfl) rfl
  · rw [q_up_at1, hl]; rfl
  · rw [va_miss (by omega), va_miss (by omega)]; exact c3 k hk
  · rw [hl] at hj
    by_cases hjl : j = P.length
    · subst hjl
      rw [va_hit, va_hit, q_getD_e]; exact ⟨rfl, rfl⟩
    · rw [va_miss (by omega), va_miss (by omega), q_getD_l (by omega)]
      exact c4 j (by omega)
  · rw [hl, q_up_at3 _ _ (by decide), q_up_va, va_hit]
    refine q_Fm_up c5 ho hdp (by omega) (fun g => ?_) (fun g => ?_)
    · rw [c6]; omega
    · rw [c6]
      rcases hd with ⟨g1, g2, g3⟩ | ⟨g1, g2, g3⟩
      · unfold qe1 at g; rw [if_pos g1] at g; exact absurd g (by decide)
      · exact g3
  · rw [hl]; exact hdp
  · rw [q_up_at2 _ _ (by decide), q_up_at3 _ _ (by decide)]; exact u1
theorem q_sgO {x c : Int32} (h : (x, c) ∈ qSg) : q_Op c (qe1 x) (qe2 x) ∧ x ≠ 21 ∧ x ≠ 20 := by
  have h21 : x ≠ 21 ∧ x ≠ 20 := (by decide : ∀ p ∈ qSg, p.1 ≠ 21 ∧ p.1 ≠ 20) _ h
  refine ⟨Or.inr (Or.inr (Or.inr ⟨?_, ?_⟩)), h21⟩
  · unfold qe1; rw [if_neg h21.1]
  · unfold qe2; rw [if_neg h21.1]; exact h
theorem q_put {v : Nat → Nat} {n L : Nat} {C : Nat → Nat → Int32} {J : Nat → Nat → Int64} {R : Nat → Nat → Int32} {K : Nat → Nat → Int64} {s : Nat} {S P : List Int32} {r u w dp : Nat} {x c : Int32} (hx : (x, c) ∈ qSg) (h : q_Fs v n C J R K s (x :: S) P r u w (dp + 2)) (hsz : r + P.length + 1 ≤ 9 * u) :
    ∃ C', mX4_put [.ref 28, .int c] (qm C J (3, 17, 17, 2, L)) = some (none, qm C' J (3, 17, 17, 2, L)) ∧ q_Gx C J R K C' J R K ∧ C' 31 = C 31 ∧ q_Fs v n C' J R K s S (P ++ [x]) r u w (dp + 1) := by
  obtain ⟨ho, h21, -⟩ := q_sgO hx
  refine q_put_g ho h ?_ (Or.inr ⟨h21, rfl, by omega⟩) hsz
  rw [qnts_app]
  show w + qnts P = w + (qnts P + ((if x = 21 then 1 else 0) + 0))
  rw [if_neg h21]
  rfl
theorem q_putN {v : Nat → Nat} {n L : Nat} {C : Nat → Nat → Int32} {J : Nat → Nat → Int64} {R : Nat → Nat → Int32} {K : Nat → Nat → Int64} {s : Nat} {S P : List Int32} {r u w dp : Nat} (h : q_Fs v n C J R K s (21 :: S) P r u (w + 1) (dp + 1)) (hsz : r + P.length + 1 ≤ 9 * u) :
    ∃ C', mX4_put [.ref 28, .int (-5)] (qm C J (3, 17, 17, 2, L)) = some (none, qm C' J (3, 17, 17, 2, L)) ∧ q_Gx C J R K C' J R K ∧ C' 31 = C 31 ∧ q_Fs v n C' J R K s S (P ++ [21]) r u w (dp + 1) := by
  refine q_put_g (Or.inr (Or.inr (Or.inl ⟨rfl, rfl⟩))) h ?_ (Or.inl ⟨rfl, rfl, by omega⟩) hsz
  rw [qnts_app]
  show w + 1 + qnts P = w + (qnts P + ((if (21 : Int32) = 21 then 1 else 0) + 0))
  rw [if_pos rfl]
  omega
/-- the code after a closing: the virtual code stands in the reference's rows -/
theorem q_Cd_close {C R R' : Nat → Nat → Int32} {P : List Int32} {r dp : Nat} (h : q_Cd C R P r dp) (h17 : R' 64 17 = nI (r + P.length)) (h1 : ∀ k, k < r → R' 67 k = R 67 k ∧ R' 68 k = R 68 k) (h2 : ∀ j, j < P.length → R' 67 (r + j) = qe1 (P.getD j 0) ∧ R' 68 (r + j) = qe2 (P.getD j 0)) : q_Cd C R' [] (r + P.length) dp := by
  obtain ⟨c1, c2, S, A, c3, c4, c5, c6⟩ := h
  refine ⟨c1, h17, S, A, fun k hk => ?_, fun j hj => absurd hj (Nat.not_lt_zero j), c5, c6⟩
  by_cases hkr : k < r
  · rw [(h1 k hkr).1, (h1 k hkr).2]; exact c3 k hkr
  · have a := c4 (k - r) (by omega)
    have b := h2 (k - r) (by omega)
    rw [show r + (k - r) = k by omega] at a b
    exact ⟨a.1.trans b.1.symm, a.2.trans b.2.symm⟩
theorem q_Cd_eq {C R C' R' : Nat → Nat → Int32} {P : List Int32} {r dp : Nat} (h : q_Cd C R P r dp) (a : C' 28 2 = C 28 2) (b : R' 64 17 = R 64 17) (c : C' 29 = C 29) (d : R' 67 = R 67 ∧ R' 68 = R 68) : q_Cd C' R' P r dp := by
  obtain ⟨c1, c2, S, A, c3, c4, c5, c6⟩ := h
  refine ⟨a.trans c1, b.trans c2, S, A, ?_, c4, by rw [c]; exact c5, c6⟩
  rw [d.1, d.2]
  exact c3
/-- everything open is closed -/
theorem q_closeF {v : Nat → Nat} {n : Nat} {C : Nat → Nat → Int32} {J : Nat → Nat → Int64} {R : Nat → Nat → Int32} {K : Nat → Nat → Int64} {s : Nat} {S P : List Int32} {r u w dp : Nat} (e : QP) (h : q_Fs v n C J R K s S P r u w dp) (t : Nat) (ht : t ≤ 6) (hS : q_Top S t) (hP : ∀ x ∈ P, t ≤ qti x ∧ x ≠ 20) (hb : (P ++ S).length ≤ 160) (hw : w ≤ 1000) :
    ∃ R', mX12_close [.ref 64, .int (nI t)] (qm R K e) = some (none, qm R' K e) ∧ q_Gx C J R K C J R' K ∧ (∀ k, k ≠ 17 → k ≠ 19 → k ≠ 23 → R' 64 k = R 64 k) ∧ q_Fs v n C J R' K s S [] (r + P.length) u w dp := by
  obtain ⟨h1, ⟨h2, h3⟩, hc, ⟨u1, u2, u3, u4⟩, h5, h6, h7⟩ := h
  obtain ⟨R', t1, t2, t3, t4, t5, t6, t7, t8⟩ := q_close K e t hS ht P R r w h2 h3 hb hc.2.1 (by omega) h5 hw hP
  refine ⟨R', by rw [bX12_close]; exact t1, ⟨⟨fun _ _ _ _ => rfl, fun _ _ _ _ _ => rfl⟩, fun _ _ => rfl, ⟨fun p a b c _ => t2 p a b c, fun k _ _ _ _ a b _ _ c => t3 k a b c⟩, fun _ _ => rfl⟩, t3, ?_, ⟨?_, t4⟩, q_Cd_close hc t5 t7 t8, ⟨u1, by rw [t3 20 (by decide) (by decide) (by decide)]; exact u2, by rw [t3 22 (by decide) (by decide) (by decide)]; exact u3, u4⟩, t6, h6, h7⟩
  · exact q_Pt_eq h1 rfl (fun _ _ _ => rfl) rfl rfl (t2 65 (by decide) (by decide) (by decide)) (fun k _ _ _ => t3 k (by omega) (by omega) (by omega)) rfl
  · rw [t2 71 (by decide) (by decide) (by decide)]
    have : ∀ (P : List Int32), q_Sk (R 71) (P ++ S) → q_Sk (R 71) S := by
      intro P
      induction P with
      | nil => exact fun g => g
      | cons x P ih => exact fun g => ih (q_Sk_tail g).1
    exact this P h2
/-- a token on, nothing else -/
theorem q_Fs_ad {v : Nat → Nat} {n : Nat} {C : Nat → Nat → Int32} {J : Nat → Nat → Int64} {R : Nat → Nat → Int32} {K : Nat → Nat → Int64} {C' : Nat → Nat → Int32} {J' : Nat → Nat → Int64} {R' : Nat → Nat → Int32} {K' : Nat → Nat → Int64} {s s' : Nat} {S P : List Int32} {r u w dp : Nat} (h : q_Fs v n C J R K s S P r u w dp) (a : q_Ad C J R K C' J' R' K') (hp : q_Pt v n C' J' R' K' s') : q_Fs v n C' J' R' K' s' S P r u w dp := by
  obtain ⟨h1, ⟨h2, h3⟩, hc, ⟨u1, u2, u3, u4⟩, h5, h6, h7⟩ := h
  obtain ⟨⟨a1, -⟩, -, ⟨a4, a5⟩, -⟩ := a
  refine ⟨hp, ⟨by rw [a4 71 (by decide)]; exact h2, by rw [a5 19 (by decide) (by decide) (by decide) (by decide)]; exact h3⟩, q_Cd_eq hc (by rw [a1 28 (by decide)]) (a5 17 (by decide) (by decide) (by decide) (by decide)) (a1 29 (by decide)) ⟨a4 67 (by decide), a4 68 (by decide)⟩, ⟨by rw [a1 28 (by decide)]; exact u1, by rw [a5 20 (by decide) (by decide) (by decide) (by decide)]; exact u2, by rw [a5 22 (by decide) (by decide) (by decide) (by decide)]; exact u3, u4⟩, by rw [a5 23 (by decide) (by decide) (by decide) (by decide)]; exact h5, h6, h7⟩
/-- something is laid on the stack -/
theorem q_Fs_push {v : Nat → Nat} {n : Nat} {C : Nat → Nat → Int32} {J : Nat → Nat → Int64} {R : Nat → Nat → Int32} {K : Nat → Nat → Int64} {s : Nat} {S : List Int32} {r u w dp : Nat} (h : q_Fs v n C J R K s S [] r u w dp) (x : Int32) : q_Fs v n C J (q_up (q_up R 71 S.length x) 64 19 (nI (S.length + 1))) K s (x :: S) [] r u w dp := by
  obtain ⟨h1, ⟨h2, h3⟩, hc, ⟨u1, u2, u3, u4⟩, h5, h6, h7⟩ := h
  refine ⟨q_Pt_eq h1 rfl (fun _ _ _ => rfl) rfl rfl (by rw [q_up_at3 _ _ (by decide), q_up_at3 _ _ (by decide)]) (fun k _ _ _ => by rw [q_up_at2 _ _ (by omega), q_up_at3 _ _ (by decide)]) rfl, ⟨?_, ?_⟩, q_Cd_eq hc rfl (by rw [q_up_at2 _ _ (by decide), q_up_at3 _ _ (by decide)]) rfl ⟨by rw [q_up_at3 _ _ (by decide), q_up_at3 _ _ (by decide)], by rw [q_up_at3 _ _ (by decide), q_up_at3 _ _ (by decide)]⟩, ⟨u1, by rw [q_up_at2 _ _ (by decide), q_up_at3 _ _ (by decide)]; exact u2, by rw [q_up_at2 _ _ (by decide), q_up_at3 _ _ (by decide)]; exact u3, u4⟩, by rw [q_up_at2 _ _ (by decide), q_up_at3 _ _ (by decide)]; exact h5, h6, h7⟩
  · rw [q_up_at3 _ _ (by decide), q_up_va, va_hit]
    exact q_Sk_push h2 x
  · rw [q_up_at1]; rfl
/-- a sign between two parts: close what binds as tight, lay it, go on to the next part -/
theorem q_op {v : Nat → Nat} {n L : Nat} {C : Nat → Nat → Int32} {J : Nat → Nat → Int64} {R : Nat → Nat → Int32} {K : Nat → Nat → Int64} {s : Nat} {S P : List Int32} {r u w dp : Nat} (e : QP) (h : q_Fs v n C J R K s S P r u w dp) (x : Int32) (hx : qsg (C 31 5) (C 31 6) = x) (hx0 : x ≠ 0) (hS : q_Top S (qti x)) (hP : ∀ y ∈ P, qti x ≤ qti y ∧ y ≠ 20) (hr : qti x = 4 → qhr (P ++ S) = false) (hb : (P ++ S).length < 160) (hw : w ≤ 1000) :
    ∃ (C1 : Nat → Nat → Int32) (J1 : Nat → Nat → Int64) (R1 : Nat → Nat → Int32) (K1 : Nat → Nat → Int64) (s1 : Nat) (c : QR → Option QR), mX9_advance [.ref 31] (qm C J (3, 17, 17, 2, L)) = some (none, qm C1 J1 (3, 17, 17, 2, L)) ∧ (∀ R K, c (none, qm R K e) = q_H e R K) ∧ q_H e R K = (kX12_unit 2 [some (.ref 64), some (.int 1), none] [] (qm R1 K1 e)).bind c ∧ q_Gx C J R K C1 J1 R1 K1 ∧ s < s1 ∧ q_Fs v n C1 J1 R1 K1 s1 (x :: S) [] (r + P.length) u w dp := by
  have hp := h.pt
  have h41 : ¬ R 64 6 = 41 := fun g => by
    have := hp.sgn (k := 41) (by decide) (by decide)
    rw [decide_eq_true (show R 64 6 = nI 41 from g)] at this
    have h2 : C 31 5 = 5 ∧ C 31 6 = nI 41 := by simpa using this.symm
    rw [h2.1, h2.2] at hx
    exact hx0 (hx.symm.trans (by decide))
  have h5 : C 31 5 = 2 ∨ C 31 5 = 5 := by
    rcases q_sgc hp with g | ⟨-, g, -⟩ | ⟨-, g, -⟩ | ⟨g, -⟩
    · exact absurd (hx.symm.trans g) hx0
    · exact Or.inl g
    · exact Or.inl g
    · exact Or.inr g
  have hne0 : C 31 5 ≠ 0 ∧ C 31 5 ≠ 1 := by
    rcases h5 with g | g <;> rw [g] <;> decide
  obtain ⟨R2, k1, k2, k3, k4⟩ := q_closeF e h (qti x) (qti_le x).2 hS hP (by omega) hw
  have hlS : S.length < 160 := by rw [List.length_append] at hb; omega
  have k5 := q_Fs_push k4 x
  have hp2 := k5.pt
  obtain ⟨C1, J1, R1, K1, s1, f1, f2, f3, f4, f5⟩ := q_adv (L := L) (e := e) hp2 hne0.1 hne0.2
  have k19 : R2 64 19 = nI S.length := by
    have := k4.2.1.2
    rw [List.nil_append] at this
    exact this
  refine ⟨C1, J1, R1, K1, s1, fun r => kX12_formula 154 [some (.ref 64), some (.int 1), some (.int x)] (r.1.toList ++ []) r.2, f1, fun R K => ?_, ?_, ?_, f4, q_Fs_ad k5 f3 f5⟩
  · unfold q_H
    show kX12_formula 154 [some (.ref 64), some (.int 1), some (.int x)] [] (qm R K e) = _
    rw [eX12_formula_154, eX12_formula_159]
  · have h118 : q_H e R K = kX12_formula 118 [some (.ref 64), some (.int 1), some (.int x)] [] (qm R K e) := by
      unfold q_H
      rw [eX12_formula_35, if_neg (by decide), eX12_formula_39, if_pos hp.ok, eX12_formula_46, fX12_sign e hp, hx]
      simp only [Option.bind_some, Option.toList_some, Option.toList_none, List.nil_append, List.cons_append, q_ck_tt, Bool.and_true, Bool.true_and, if_true, if_false, reduceCtorEq]
      rw [eX12_formula_50, if_neg h41, eX12_formula_99, if_neg hx0, eX12_formula_103, fX12_tight]
      simp only [Option.bind_some, Option.toList_some, Option.toList_none, List.nil_append, List.cons_append, q_ck_tt, Bool.and_true, Bool.true_and, if_true, if_false, reduceCtorEq]
      rw [eX12_formula_107]
      by_cases h4 : qti x = 4
      · rw [if_pos (show nI (qti x) = (4 : Int32) by rw [h4]; rfl), eX12_formula_111, fX12_hasRelation K e h.2.1.1 h.2.1.2 (by omega), hr h4]
        simp only [Option.bind_some, Option.toList_some, Option.toList_none, List.nil_append, List.cons_append, q_ck_tt, Bool.and_true, Bool.true_and, if_true, if_false, reduceCtorEq]
        rw [eX12_formula_115, if_pos (by rfl)]
      · rw [if_neg (show ¬ nI (qti x) = (4 : Int32) from fun g => h4 (nI_inj (b := 4) (by have := qti_le x; omega) (by omega) g))]
    rw [h118, eX12_formula_118, fX12_tight]
    simp only [Option.bind_some, Option.toList_some, Option.toList_none, List.nil_append, List.cons_append, q_ck_tt, Bool.and_true, Bool.true_and, if_true, if_false, reduceCtorEq]
    rw [eX12_formula_123, k1]
    simp only [Option.bind_some, Option.toList_some, Option.toList_none, List.nil_append, List.cons_append, q_ck_tt, Bool.and_true, Bool.true_and, if_true, if_false, reduceCtorEq]
    rw [eX12_formula_126, k19, q_in_nI hlS (by omega), nI_n (by omega), Bool.true_and, q_ck_tt, show nI S.length + 1 = nI (S.length + 1) from nI_add _ 1, f2]
    simp only [Option.bind_some, Option.toList_some, Option.toList_none, List.nil_append, List.cons_append, q_ck_tt, Bool.and_true, Bool.true_and, if_true, if_false, reduceCtorEq]
    rw [eX12_formula_150, bX12_unit, eX12_unit_0]
  · refine q_Gx_trans k2 (q_Gx_trans ⟨⟨fun _ _ _ _ => rfl, fun _ _ _ _ _ => rfl⟩, fun _ _ => rfl, ⟨fun p a b c d => by rw [q_up_at3 _ _ a, q_up_at3 _ _ d], fun k _ _ _ _ _ a _ _ _ => by rw [q_up_at2 _ _ a, q_up_at3 _ _ (by decide)]⟩, fun _ _ => rfl⟩ (q_Gx_ad f3))
