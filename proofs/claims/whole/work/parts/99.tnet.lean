/-! ===== lines: nets ===== -/
theorem fX12_readCell_f {R : Nat → Nat → Int32} {K : Nat → Nat → Int64} {e : QP} (hf : (0 : Int32) < R 64 2) : mX12_readCell [.ref 64] (qm R K e) = some (some (.int 0), qm R K e) := by
  rw [bX12_readCell, eX12_readCell_0, fX12_oldName_f hf]
  simp only [Option.bind_some, Option.toList_some, Option.toList_none, List.nil_append, List.cons_append, q_ck_tt, Bool.and_true, Bool.true_and, if_true, if_false, reduceCtorEq]
  rw [eX12_readCell_9, if_neg (q_pos_ne hf), eX12_readCell_21, if_pos hf, eX12_readCell_28, eX12_readCell_45, if_pos hf, eX12_readCell_53, eX12_readCell_63]
theorem fX12_readOwnCell_f {R : Nat → Nat → Int32} {K : Nat → Nat → Int64} {e : QP} (hf : (0 : Int32) < R 64 2) (a : Int32) : mX12_readOwnCell [.ref 64, .int a] (qm R K e) = some (none, qm R K e) := by
  rw [bX12_readOwnCell, eX12_readOwnCell_0, fX12_readCell_f hf]
  simp only [Option.bind_some, Option.toList_some, Option.toList_none, List.nil_append, List.cons_append, q_ck_tt, Bool.and_true, Bool.true_and, if_true, if_false, reduceCtorEq]
  rw [eX12_readOwnCell_4, if_neg (q_pos_ne hf), eX12_readOwnCell_26, if_pos hf, eX12_readOwnCell_33]
section NF
variable {R : Nat → Nat → Int32} {K : Nat → Nat → Int64} {e : QP} {N : Nat}
theorem q_nt96_f (hf : (0 : Int32) < R 64 2) (h47 : R 64 47 = nI N) (hN : N < 6) : ∃ R', kX12_readNet 96 [some (.ref 64), none] [] (qm R K e) = some (none, qm R' K e) ∧ q_Sc R R' := by
  refine ⟨q_up R 79 N (-1), ?_, q_Sc_up rfl (by omega) (q_Sc_refl R)⟩
  rw [eX12_readNet_96, h47, q_in_nI (by omega) (by omega), nI_n (by omega), Bool.true_and, q_ck_tt, if_neg (q_pos_ne hf), eX12_readNet_141, q_up_at3 _ _ (show (64 : Nat) ≠ 79 by decide), if_pos hf, eX12_readNet_148]
theorem q_nt61_f (hf : (0 : Int32) < R 64 2) (h47 : R 64 47 = nI N) (hN : N < 6) (a : Int32) : ∃ R', kX12_readNet 61 [some (.ref 64), some (.int a)] [] (qm R K e) = some (none, qm R' K e) ∧ q_Sc R R' := by
  obtain ⟨R', h1, h2⟩ := q_nt96_f (K := K) (e := e) hf h47 hN
  exact ⟨R', by rw [eX12_readNet_61, if_neg (q_pos_ne hf), h1], h2⟩
theorem q_nt54_f (hf : (0 : Int32) < R 64 2) (h47 : R 64 47 = nI N) (hN : N < 6) : ∃ R', kX12_readNet 54 [some (.ref 64), none] [] (qm R K e) = some (none, qm R' K e) ∧ q_Sc R R' := by
  obtain ⟨R', h1, h2⟩ := q_nt61_f (K := K) (e := e) hf h47 hN 1
  refine ⟨R', ?_, h2⟩
  rw [eX12_readNet_54, fX12_readOwnCell_f hf]
  simp only [Option.bind_some, Option.toList_some, Option.toList_none, List.nil_append, List.cons_append, q_ck_tt, Bool.and_true, Bool.true_and, if_true, if_false, reduceCtorEq]
  rw [eX12_readNet_59, h1]
theorem q_nt47_f (hf : (0 : Int32) < R 64 2) (h47 : R 64 47 = nI N) (hN : N < 6) : ∃ R', kX12_readNet 47 [some (.ref 64), none] [] (qm R K e) = some (none, qm R' K e) ∧ q_Sc R R' := by
  obtain ⟨R', h1, h2⟩ := q_nt54_f (K := K) (e := e) hf h47 hN
  refine ⟨R', ?_, h2⟩
  rw [eX12_readNet_47, fX12_want_f hf]
  simp only [Option.bind_some, Option.toList_some, Option.toList_none, List.nil_append, List.cons_append, q_ck_tt, Bool.and_true, Bool.true_and, if_true, if_false, reduceCtorEq]
  exact h1
theorem q_nt21_f (hf : (0 : Int32) < R 64 2) (h47 : R 64 47 = nI N) (hN : N < 6) : ∃ R', kX12_readNet 21 [some (.ref 64), none] [] (qm R K e) = some (none, qm R' K e) ∧ q_Sc R R' := by
  obtain ⟨R', h1, h2⟩ := q_nt47_f (K := K) (e := e) hf h47 hN
  exact ⟨R', by rw [eX12_readNet_21, if_neg (q_pos_ne hf), h1], h2⟩
theorem q_nt16_f (hf : (0 : Int32) < R 64 2) (h47 : R 64 47 = nI N) (hN : N < 6) : ∃ R', kX12_readNet 16 [some (.ref 64), none] [] (qm R K e) = some (none, qm R' K e) ∧ q_Sc R R' := by
  obtain ⟨R', h1, h2⟩ := q_nt21_f (K := K) (e := e) hf h47 hN
  refine ⟨R', ?_, h2⟩
  rw [eX12_readNet_16, fX12_readOwnCell_f hf]
  simp only [Option.bind_some, Option.toList_some, Option.toList_none, List.nil_append, List.cons_append, q_ck_tt, Bool.and_true, Bool.true_and, if_true, if_false, reduceCtorEq]
  exact h1
theorem q_nt9_f (hf : (0 : Int32) < R 64 2) (h47 : R 64 47 = nI N) (hN : N < 6) : ∃ R', kX12_readNet 9 [some (.ref 64), none] [] (qm R K e) = some (none, qm R' K e) ∧ q_Sc R R' := by
  obtain ⟨R', h1, h2⟩ := q_nt16_f (K := K) (e := e) hf h47 hN
  refine ⟨R', ?_, h2⟩
  rw [eX12_readNet_9, fX12_want_f hf]
  simp only [Option.bind_some, Option.toList_some, Option.toList_none, List.nil_append, List.cons_append, q_ck_tt, Bool.and_true, Bool.true_and, if_true, if_false, reduceCtorEq]
  exact h1
end NF
/-- a net half read: cells of net N are laid, the net isn't counted yet -/
def q_Rh (C R : Nat → Nat → Int32) (D N : Nat) (cl : Nat → Nat) : Prop :=
  (∀ x, x < 24 → (C 26 x = -1 ∨ ∃ n, n < N + 1 ∧ C 26 x = nI n) ∧ (C 26 x ≠ -1 → x < 6 * D ∧ x % 6 < cl (x / 6) ∧ (R 78 x = 0 ∨ R 78 x = 1))) ∧
  (∀ x, x < 6 * D → R 77 x = C 26 x) ∧
  (∀ n, n < 6 → ∀ x, x < 32 → bt (C 23 n) x = (decide (x < 24) && (decide (C 26 x = nI n) && decide (R 78 x = 0))) ∧ bt (C 24 n) x = (decide (x < 24) && (decide (C 26 x = nI n) && decide (R 78 x = 1)))) ∧
  (∀ x, x < 32 → bt (C 17 11) x = (decide (x < 24) && (!decide (C 26 x = -1) && (!decide (C 26 x = nI N) && decide (R 78 x = 1))))) ∧
  (∀ n, n < N → ∃ x, x < 24 ∧ C 26 x = nI n ∧ R 78 x = 1) ∧ fb_ct (bt (C 17 11)) 24 ≤ 3 * N
/-- what else is told of the board -/
def q_O5 (C R : Nat → Nat → Int32) (D N : Nat) (cl : Nat → Nat) : Prop := q_Rn C R D N cl ∧ q_Rs2 C R N ∧ q_Rf C R D N ∧ q_Ro C R ∧ q_Rz C R
theorem q_O5_st {C R C' R' : Nat → Nat → Int32} {D N : Nat} {cl : Nat → Nat} (h : q_O5 C R D N cl) (c17 : C' 17 = C 17) (cc : ∀ p, 19 ≤ p → p ≤ 29 → p ≠ 23 → p ≠ 24 → p ≠ 26 → C' p = C p) (c31 : ∀ k, 9 ≤ k → k ≤ 12 → C' 31 k = C 31 k)
    (rr : ∀ p, (p = 67 ∨ p = 68 ∨ (74 ≤ p ∧ p ≤ 76) ∨ (79 ≤ p ∧ p ≤ 82)) → R' p = R p) (r64 : ∀ k, (k = 3 ∨ k = 17 ∨ k = 20 ∨ k = 24 ∨ (46 ≤ k ∧ k ≤ 55)) → R' 64 k = R 64 k) : q_O5 C' R' D N cl := by
  obtain ⟨h1, h3, h4, h5, h6⟩ := h
  refine ⟨?_, ?_, ?_, ?_, ?_⟩
  · unfold q_Rn
    rw [c17, cc 19 (by omega) (by omega) (by omega) (by omega) (by omega), cc 20 (by omega) (by omega) (by omega) (by omega) (by omega), cc 21 (by omega) (by omega) (by omega) (by omega) (by omega), r64 46 (by omega), r64 47 (by omega), rr 74 (by omega), rr 75 (by omega), rr 76 (by omega)]
    exact h1
  · unfold q_Rs2
    rw [cc 25 (by omega) (by omega) (by omega) (by omega) (by omega), rr 79 (by omega)]
    exact h3
  · have hq : qrd R' N = qrd R N := by
      funext k
      unfold qrd
      rw [rr 80 (by omega), rr 81 (by omega), rr 82 (by omega)]
    unfold q_Rf
    rw [hq, cc 27 (by omega) (by omega) (by omega) (by omega) (by omega), c17, rr 81 (by omega)]
    exact h4
  · unfold q_Ro
    rw [cc 28 (by omega) (by omega) (by omega) (by omega) (by omega), cc 29 (by omega) (by omega) (by omega) (by omega) (by omega), rr 67 (by omega), rr 68 (by omega), c31 9 (by omega) (by omega), r64 24 (by omega), r64 20 (by omega), r64 17 (by omega)]
    exact h5
  · unfold q_Rz
    rw [c17, c31 10 (by omega) (by omega), c31 11 (by omega) (by omega), c31 12 (by omega) (by omega), r64 3 (by omega), r64 54 (by omega), r64 55 (by omega), r64 48 (by omega), r64 49 (by omega)]
    exact h6
theorem q_O5_ad {C R C' R' : Nat → Nat → Int32} {J J' K K' : Nat → Nat → Int64} {D N : Nat} {cl : Nat → Nat} (h : q_O5 C R D N cl) (a : q_Ad C J R K C' J' R' K') : q_O5 C' R' D N cl := by
  obtain ⟨⟨a1, a2⟩, -, ⟨a4, a5⟩, -⟩ := a
  exact q_O5_st h (a1 17 (by decide)) (fun p _ _ _ _ _ => a1 p (by omega)) (fun k _ _ => a2 k (by omega) (by omega) (by omega) (by omega)) (fun p _ => a4 p (by omega)) (fun k _ => a5 k (by omega) (by omega) (by omega) (by omega))
theorem q_Rh_eq {C R C' R' : Nat → Nat → Int32} {D N : Nat} {cl : Nat → Nat} (h : q_Rh C R D N cl) (c17 : C' 17 = C 17) (c23 : C' 23 = C 23) (c24 : C' 24 = C 24) (c26 : C' 26 = C 26) (r77 : R' 77 = R 77) (r78 : R' 78 = R 78) : q_Rh C' R' D N cl := by
  unfold q_Rh
  rw [c17, c23, c24, c26, r77, r78]
  exact h
theorem q_Rh_ad {C R C' R' : Nat → Nat → Int32} {J J' K K' : Nat → Nat → Int64} {D N : Nat} {cl : Nat → Nat} (h : q_Rh C R D N cl) (a : q_Ad C J R K C' J' R' K') : q_Rh C' R' D N cl :=
  q_Rh_eq h (a.1.1 17 (by decide)) (a.1.1 23 (by decide)) (a.1.1 24 (by decide)) (a.1.1 26 (by decide)) (a.2.2.1.1 77 (by decide)) (a.2.2.1.1 78 (by decide))
theorem q_Rh_of {C R : Nat → Nat → Int32} {D N : Nat} {cl : Nat → Nat} (hN : N < 6) (h : q_Rk C R D N cl) : q_Rh C R D N cl := by
  obtain ⟨a, b, c, d, f, g⟩ := h
  have hne : ∀ x, x < 24 → C 26 x ≠ nI N := fun x hx he => by
    rcases (a x hx).1 with g | ⟨k, k1, k2⟩
    · exact nI_ne_m1 (i := N) (by omega) (by rw [← he]; exact g)
    · have := nI_inj (by omega) (by omega) (k2.symm.trans he)
      omega
  refine ⟨fun x hx => ⟨?_, (a x hx).2⟩, b, c, fun x hx => ?_, f, g⟩
  · rcases (a x hx).1 with g | ⟨k, k1, k2⟩
    · exact Or.inl g
    · exact Or.inr ⟨k, by omega, k2⟩
  · rw [d x hx]
    by_cases hx2 : x < 24
    · rw [decide_eq_false (hne x hx2)]; rfl
    · rw [decide_eq_false hx2, Bool.false_and, Bool.false_and]
/-- one cell more of net N -/
theorem q_Rh_up {C R C' R' : Nat → Nat → Int32} {D N x : Nat} {cl : Nat → Nat} (hN : N < 6) (hD : D ≤ 4) (h : q_Rh C R D N cl) (hx : x < 6 * D) (hc : x % 6 < cl (x / 6)) (h0 : C 26 x = -1) (kd : Bool) (c17 : C' 17 = C 17) (c26 : C' 26 = va_up (C 26) x (nI N)) (c23 : C' 23 = if kd then C 23 else va_up (C 23) N (C 23 N ||| ((1 : Int32) <<< (nI x &&& 31)))) (c24 : C' 24 = if kd then va_up (C 24) N (C 24 N ||| ((1 : Int32) <<< (nI x &&& 31))) else C 24) (r77 : R' 77 = va_up (R 77) x (nI N)) (r78 : R' 78 = va_up (R 78) x (qb kd)) : q_Rh C' R' D N cl := by
  obtain ⟨a, b, c, d, f, g⟩ := h
  have hm1 : ∀ k, k < 6 → ¬ nI k = -1 := fun k hk => nI_ne_m1 (by omega)
  have h01 : ∀ b : Bool, qb b = 0 ∨ qb b = 1 := fun b => by cases b <;> simp [qb]
  unfold q_Rh
  rw [c17, c26, r77, r78]
  refine ⟨fun y hy => ?_, fun y hy => ?_, fun k hk y hy => ?_, fun y hy => ?_, fun k hk => ?_, g⟩
  · by_cases hyx : y = x
    · subst hyx
      rw [va_hit, va_hit]
      exact ⟨Or.inr ⟨N, by omega, rfl⟩, fun _ => ⟨hx, hc, h01 kd⟩⟩
    · rw [va_miss hyx, va_miss hyx]; exact a y hy
  · by_cases hyx : y = x
    · subst hyx; rw [va_hit, va_hit]
    · rw [va_miss hyx, va_miss hyx]; exact b y hy
  · obtain ⟨m1, m2⟩ := c k hk y hy
    by_cases hyx : y = x
    · subst hyx
      rw [h0, decide_eq_false (show ¬ (-1 : Int32) = nI k from fun g => hm1 k hk g.symm), Bool.false_and, Bool.and_false] at m1 m2
      rw [va_hit, va_hit, c23, c24, decide_eq_true (show y < 24 by omega)]
      by_cases hkN : k = N
      · subst hkN
        cases kd
        · rw [if_neg (by decide), if_neg (by decide), va_hit, b_or, m1, m2, b_bit (by omega)]
          simp [qb]
        · rw [if_pos rfl, if_pos rfl, va_hit, b_or, m1, m2, b_bit (by omega)]
          simp [qb]
      · have hne : ¬ nI N = nI k := fun g => hkN (nI_inj (by omega) (by omega) g).symm
        rw [decide_eq_false hne]
        cases kd
        · rw [if_neg (by decide), if_neg (by decide), va_miss hkN, m1, m2]; exact ⟨rfl, rfl⟩
        · rw [if_pos rfl, if_pos rfl, va_miss hkN, m1, m2]; exact ⟨rfl, rfl⟩
    · rw [va_miss hyx, va_miss hyx, c23, c24]
      by_cases hkN : k = N
      · subst hkN
        cases kd
        · rw [if_neg (by decide), if_neg (by decide), va_hit, b_or, b_bit (by omega), decide_eq_false hyx, Bool.or_false]; exact ⟨m1, m2⟩
        · rw [if_pos rfl, if_pos rfl, va_hit, b_or, b_bit (by omega), decide_eq_false hyx, Bool.or_false]; exact ⟨m1, m2⟩
      · cases kd
        · rw [if_neg (by decide), if_neg (by decide), va_miss hkN]; exact ⟨m1, m2⟩
        · rw [if_pos rfl, if_pos rfl, va_miss hkN]; exact ⟨m1, m2⟩
  · rw [d y hy]
    by_cases hyx : y = x
    · subst hyx
      rw [va_hit, va_hit, h0, decide_eq_true (rfl : nI N = nI N), decide_eq_true (rfl : (-1 : Int32) = -1)]
      simp
    · rw [va_miss hyx, va_miss hyx]
  · obtain ⟨y, y1, y2, y3⟩ := f k hk
    have hyx : y ≠ x := fun g => by
      rw [g, h0] at y2
      exact hm1 k (by omega) y2.symm
    exact ⟨y, y1, by rw [va_miss hyx]; exact y2, by rw [va_miss hyx]; exact y3⟩
theorem q_own0 {v : Nat → Nat} {n s L : Nat} {C : Nat → Nat → Int32} {J : Nat → Nat → Int64} {R : Nat → Nat → Int32} {K : Nat → Nat → Int64} {e : QP} {D N : Nat} {cl : Nat → Nat} (h : q_Pt v n C J R K s) (hO : q_O5 C R D N cl) (hM : q_Rh C R D N cl) (hN : N < 6) (n1 : q_Nm J K 18 0 D) :
    (∃ (C' : Nat → Nat → Int32) (J' : Nat → Nat → Int64) (R' : Nat → Nat → Int32) (K' : Nat → Nat → Int64) (s' : Nat) (x : Nat), mX9_cellOfNet [.ref 31, .int (nI N), .ref 23] (qm C J (3, 17, 17, 2, L)) = some (some (.int 1), qm C' J' (3, 17, 17, 2, L)) ∧ mX12_readOwnCell [.ref 64, .int 0] (qm R K e) = some (none, qm R' K' e) ∧ q_Gf C J R K C' J' R' K' ∧ s < s' ∧ q_Pt v n C' J' R' K' s' ∧ q_O5 C' R' D N cl ∧ q_Rh C' R' D N cl ∧ (J' 18 = J 18 ∧ J' 22 = J 22 ∧ K' 66 = K 66) ∧ x < 24 ∧ C' 26 x = nI N ∧ R' 78 x = 0 ∧ C' 24 N = C 24 N) ∨
    (∃ (C' : Nat → Nat → Int32) (J' : Nat → Nat → Int64) (R' : Nat → Nat → Int32) (K' : Nat → Nat → Int64), mX9_cellOfNet [.ref 31, .int (nI N), .ref 23] (qm C J (3, 17, 17, 2, L)) = some (some (.int 0), qm C' J' (3, 17, 17, 2, L)) ∧ mX12_readOwnCell [.ref 64, .int 0] (qm R K e) = some (none, qm R' K' e) ∧ q_Fl C' R' ∧ q_Gb C J R K C' J' R' K') := by
  have hD : D ≤ 4 := hO.1.1.2.2
  have h47 : R 64 47 = nI N := hO.1.2.1.2.1
  rcases q_celq (L := L) (e := e) h hO.1 n1 with ⟨x, C1, J1, R1, K1, s1, x1, x2, a1, a2, a3, a4, a5, a6⟩ | ⟨C', J', R', K', a1, a2, a3, a4⟩
  · have hx : x < 24 := by omega
    have hO1 := q_O5_ad hO a3
    have hM1 := q_Rh_ad hM a3
    have h471 : R1 64 47 = nI N := hO1.1.2.1.2.1
    have hc0 : mX9_cellOfNet [.ref 31, .int (nI N), .ref 23] (qm C J (3, 17, 17, 2, L)) = if C1 26 x = -1 then kX9_cellOfNet 31 [some (.ref 31), some (.int (nI N)), some (.ref 23), some (.int (nI x))] [] (qm C1 J1 (3, 17, 17, 2, L)) else kX9_cellOfNet 25 [some (.ref 31), none, none, none] [] (qm C1 J1 (3, 17, 17, 2, L)) := by
      rw [bX9_cellOfNet_31_23, eX9_cellOfNet_31_23_0, a1]
      simp only [Option.bind_some, Option.toList_some, Option.toList_none, List.nil_append, List.cons_append, q_ck_tt, Bool.and_true, Bool.true_and, if_true, if_false, reduceCtorEq]
      rw [eX9_cellOfNet_31_23_4, if_neg (nI_ne_m1 (by omega)), eX9_cellOfNet_31_23_12, q_in_nI (by omega) (by omega), nI_n (by omega), Bool.true_and, q_ck_tt]
    have hr0 : mX12_readOwnCell [.ref 64, .int 0] (qm R K e) = if C1 26 x < 0 then kX12_readOwnCell 26 [some (.ref 64), some (.int 0), some (.int (nI x))] [] (qm R1 K1 e) else kX12_readOwnCell 21 [some (.ref 64), some (.int 0), some (.int (nI x))] [] (qm R1 K1 e) := by
      rw [bX12_readOwnCell, eX12_readOwnCell_0, a2]
      simp only [Option.bind_some, Option.toList_some, Option.toList_none, List.nil_append, List.cons_append, q_ck_tt, Bool.and_true, Bool.true_and, if_true, if_false, reduceCtorEq]
      rw [eX12_readOwnCell_4, if_pos a5.ok, eX12_readOwnCell_12, q_in_nI (by omega) (by omega), nI_n (by omega), Bool.true_and, q_ck_tt, hM1.2.1 x x1]
    by_cases hm : C1 26 x = -1
    · rw [hm, if_pos rfl] at hc0
      rw [hm, if_pos (by decide), eX12_readOwnCell_26, a5.ok, if_neg (by decide), eX12_readOwnCell_34, q_in_nI (by omega) (by omega), nI_n (by omega), h471] at hr0
      simp only [Option.bind_some, Option.toList_some, Option.toList_none, List.nil_append, List.cons_append, q_ck_tt, Bool.and_true, Bool.true_and, if_true, if_false, reduceCtorEq] at hr0
      rw [eX9_cellOfNet_31_23_31, q_in_nI (by omega) (by omega), q_in_nI (by omega) (by omega), nI_n (by omega), nI_n (by omega)] at hc0
      simp only [Option.bind_some, Option.toList_some, Option.toList_none, List.nil_append, List.cons_append, q_ck_tt, Bool.and_true, Bool.true_and, if_true, if_false, reduceCtorEq] at hc0
      rw [eX9_cellOfNet_31_23_49, q_in_nI (by omega) (by omega), nI_n (by omega), Bool.true_and, q_ck_tt] at hc0
      generalize hCx : q_up (q_up C1 26 x (nI N)) 23 N (C1 23 N ||| ((1 : Int32) <<< (nI x &&& 31))) = Cx at hc0
      generalize hRx : q_up (q_up R1 77 x (nI N)) 78 x 0 = Rx at hr0
      have cxo : ∀ p, p ≠ 26 → p ≠ 23 → Cx p = C1 p := fun p y z => by rw [← hCx, q_up_at3 _ _ z, q_up_at3 _ _ y]
      have rxo : ∀ p, p ≠ 77 → p ≠ 78 → Rx p = R1 p := fun p y z => by rw [← hRx, q_up_at3 _ _ z, q_up_at3 _ _ y]
      have cx26 : Cx 26 = va_up (C1 26) x (nI N) := by rw [← hCx, q_up_at3 _ _ (by decide), q_up_va, va_hit]
      have cxw : Cx 23 = va_up (C1 23) N (C1 23 N ||| ((1 : Int32) <<< (nI x &&& 31))) := by rw [← hCx, q_up_va, va_hit, q_up_at3 _ _ (by decide)]
      have rx77 : Rx 77 = va_up (R1 77) x (nI N) := by rw [← hRx, q_up_at3 _ _ (by decide), q_up_va, va_hit]
      have rx78 : Rx 78 = va_up (R1 78) x 0 := by rw [← hRx, q_up_va, va_hit, q_up_at3 _ _ (by decide)]
      have hpx : q_Pt v n Cx J1 Rx K1 s1 := q_Pt_eq a5 (cxo 2 (by decide) (by decide)) (fun k _ _ => by rw [cxo 31 (by decide) (by decide)]) rfl rfl (rxo 65 (by decide) (by decide)) (fun k _ _ _ => by rw [rxo 64 (by decide) (by decide)]) rfl
      obtain ⟨C4, J4, R4, K4, s4, k1, k2, k3, k4, k5⟩ := q_adv (L := L) (e := e) hpx (by rw [cxo 31 (by decide) (by decide), a6]; decide) (by rw [cxo 31 (by decide) (by decide), a6]; decide)
      have hOx : q_O5 Cx Rx D N cl := q_O5_st hO1 (cxo 17 (by decide) (by decide)) (fun p _ _ _ _ _ => cxo p (by omega) (by omega)) (fun k _ _ => by rw [cxo 31 (by decide) (by decide)]) (fun p _ => rxo p (by omega) (by omega)) (fun k _ => by rw [rxo 64 (by decide) (by decide)])
      have hMx : q_Rh Cx Rx D N cl := q_Rh_up hN hD hM1 x1 x2 hm false (cxo 17 (by decide) (by decide)) cx26 cxw (cxo 24 (by decide) (by decide)) rx77 rx78
      refine Or.inl ⟨C4, J4, R4, K4, s4, x, ?_, ?_, ?_, by omega, k5, q_O5_ad hOx k3, q_Rh_ad hMx k3, ⟨?_, ?_, ?_⟩, hx, ?_, ?_, ?_⟩
      · rw [hc0, k1]
        simp only [Option.bind_some, Option.toList_some, Option.toList_none, List.nil_append, List.cons_append, q_ck_tt, Bool.and_true, Bool.true_and, if_true, if_false, reduceCtorEq]
        rw [eX9_cellOfNet_31_23_54]
      · rw [hr0, k2]
        simp only [Option.bind_some, Option.toList_some, Option.toList_none, List.nil_append, List.cons_append, q_ck_tt, Bool.and_true, Bool.true_and, if_true, if_false, reduceCtorEq]
        rw [eX12_readOwnCell_55]
      · refine q_Gf_trans a3.gf (q_Gf_trans ?_ k3.gf)
        rw [← hRx, ← hCx]
        exact q_Gf_R rfl (q_Gf_R rfl (q_Gf_C (by omega) (q_Gf_C (by omega) (q_Gf_refl C1 J1 R1 K1))))
      · rw [k3.2.1 18 (by decide), a3.2.1 18 (by decide)]
      · rw [k3.2.1 22 (by decide), a3.2.1 22 (by decide)]
      · rw [k3.2.2.2 66 (by decide), a3.2.2.2 66 (by decide)]
      · rw [k3.1.1 26 (by decide), cx26, va_hit]
      · rw [k3.2.2.1.1 78 (by decide), rx78, va_hit]
      · rw [k3.1.1 24 (by decide), cxo 24 (by decide) (by decide), a3.1.1 24 (by decide)]
    · rw [if_neg hm] at hc0
      have hnn : ¬ C1 26 x < 0 := by
        rcases (hM1.1 x hx).1 with g | ⟨k, k1, k2⟩
        · exact absurd g hm
        · rw [k2]; exact nI_pos (by omega)
      rw [if_neg hnn] at hr0
      obtain ⟨C', R', b1, b2, b3, b4, _, _⟩ := q_refw L e a5 3 (by decide)
      refine Or.inr ⟨C', J1, R', K1, ?_, ?_, b3, q_Gb_ad a3 b4⟩
      · rw [hc0, eX9_cellOfNet_31_23_25, b1]
        simp only [Option.bind_some, Option.toList_some, Option.toList_none, List.nil_append, List.cons_append, q_ck_tt, Bool.and_true, Bool.true_and, if_true, if_false, reduceCtorEq]
        rw [eX9_cellOfNet_31_23_30]
        rfl
      · rw [hr0, eX12_readOwnCell_21, b2]
        simp only [Option.bind_some, Option.toList_some, Option.toList_none, List.nil_append, List.cons_append, q_ck_tt, Bool.and_true, Bool.true_and, if_true, if_false, reduceCtorEq]
        rw [eX12_readOwnCell_26, if_pos b3.2.1, eX12_readOwnCell_33]
  · refine Or.inr ⟨C', J', R', K', ?_, ?_, a3, a4⟩
    · rw [bX9_cellOfNet_31_23, eX9_cellOfNet_31_23_0, a1]
      simp only [Option.bind_some, Option.toList_some, Option.toList_none, List.nil_append, List.cons_append, q_ck_tt, Bool.and_true, Bool.true_and, if_true, if_false, reduceCtorEq]
      rw [eX9_cellOfNet_31_23_4, if_pos rfl, eX9_cellOfNet_31_23_10]
    · rw [bX12_readOwnCell, eX12_readOwnCell_0, a2]
      simp only [Option.bind_some, Option.toList_some, Option.toList_none, List.nil_append, List.cons_append, q_ck_tt, Bool.and_true, Bool.true_and, if_true, if_false, reduceCtorEq]
      rw [eX12_readOwnCell_4, if_neg (q_pos_ne a3.2.1), eX12_readOwnCell_26, if_pos a3.2.1, eX12_readOwnCell_33]
theorem q_own1 {v : Nat → Nat} {n s L : Nat} {C : Nat → Nat → Int32} {J : Nat → Nat → Int64} {R : Nat → Nat → Int32} {K : Nat → Nat → Int64} {e : QP} {D N : Nat} {cl : Nat → Nat} (h : q_Pt v n C J R K s) (hO : q_O5 C R D N cl) (hM : q_Rh C R D N cl) (hN : N < 6) (n1 : q_Nm J K 18 0 D) :
    (∃ (C' : Nat → Nat → Int32) (J' : Nat → Nat → Int64) (R' : Nat → Nat → Int32) (K' : Nat → Nat → Int64) (s' : Nat) (x : Nat), mX9_cellOfNet [.ref 31, .int (nI N), .ref 24] (qm C J (3, 17, 17, 2, L)) = some (some (.int 1), qm C' J' (3, 17, 17, 2, L)) ∧ mX12_readOwnCell [.ref 64, .int 1] (qm R K e) = some (none, qm R' K' e) ∧ q_Gf C J R K C' J' R' K' ∧ s < s' ∧ q_Pt v n C' J' R' K' s' ∧ q_O5 C' R' D N cl ∧ q_Rh C' R' D N cl ∧ (J' 18 = J 18 ∧ J' 22 = J 22 ∧ K' 66 = K 66) ∧ x < 24 ∧ C' 26 x = nI N ∧ R' 78 x = 1 ∧ C' 24 N = C 24 N ||| ((1 : Int32) <<< (nI x &&& 31))) ∨
    (∃ (C' : Nat → Nat → Int32) (J' : Nat → Nat → Int64) (R' : Nat → Nat → Int32) (K' : Nat → Nat → Int64), mX9_cellOfNet [.ref 31, .int (nI N), .ref 24] (qm C J (3, 17, 17, 2, L)) = some (some (.int 0), qm C' J' (3, 17, 17, 2, L)) ∧ mX12_readOwnCell [.ref 64, .int 1] (qm R K e) = some (none, qm R' K' e) ∧ q_Fl C' R' ∧ q_Gb C J R K C' J' R' K') := by
  have hD : D ≤ 4 := hO.1.1.2.2
  have h47 : R 64 47 = nI N := hO.1.2.1.2.1
  rcases q_celq (L := L) (e := e) h hO.1 n1 with ⟨x, C1, J1, R1, K1, s1, x1, x2, a1, a2, a3, a4, a5, a6⟩ | ⟨C', J', R', K', a1, a2, a3, a4⟩
  · have hx : x < 24 := by omega
    have hO1 := q_O5_ad hO a3
    have hM1 := q_Rh_ad hM a3
    have h471 : R1 64 47 = nI N := hO1.1.2.1.2.1
    have hc0 : mX9_cellOfNet [.ref 31, .int (nI N), .ref 24] (qm C J (3, 17, 17, 2, L)) = if C1 26 x = -1 then kX9_cellOfNet 31 [some (.ref 31), some (.int (nI N)), some (.ref 24), some (.int (nI x))] [] (qm C1 J1 (3, 17, 17, 2, L)) else kX9_cellOfNet 25 [some (.ref 31), none, none, none] [] (qm C1 J1 (3, 17, 17, 2, L)) := by
      rw [bX9_cellOfNet_31_24, eX9_cellOfNet_31_24_0, a1]
      simp only [Option.bind_some, Option.toList_some, Option.toList_none, List.nil_append, List.cons_append, q_ck_tt, Bool.and_true, Bool.true_and, if_true, if_false, reduceCtorEq]
      rw [eX9_cellOfNet_31_24_4, if_neg (nI_ne_m1 (by omega)), eX9_cellOfNet_31_24_12, q_in_nI (by omega) (by omega), nI_n (by omega), Bool.true_and, q_ck_tt]
    have hr0 : mX12_readOwnCell [.ref 64, .int 1] (qm R K e) = if C1 26 x < 0 then kX12_readOwnCell 26 [some (.ref 64), some (.int 1), some (.int (nI x))] [] (qm R1 K1 e) else kX12_readOwnCell 21 [some (.ref 64), some (.int 1), some (.int (nI x))] [] (qm R1 K1 e) := by
      rw [bX12_readOwnCell, eX12_readOwnCell_0, a2]
      simp only [Option.bind_some, Option.toList_some, Option.toList_none, List.nil_append, List.cons_append, q_ck_tt, Bool.and_true, Bool.true_and, if_true, if_false, reduceCtorEq]
      rw [eX12_readOwnCell_4, if_pos a5.ok, eX12_readOwnCell_12, q_in_nI (by omega) (by omega), nI_n (by omega), Bool.true_and, q_ck_tt, hM1.2.1 x x1]
    by_cases hm : C1 26 x = -1
    · rw [hm, if_pos rfl] at hc0
      rw [hm, if_pos (by decide), eX12_readOwnCell_26, a5.ok, if_neg (by decide), eX12_readOwnCell_34, q_in_nI (by omega) (by omega), nI_n (by omega), h471] at hr0
      simp only [Option.bind_some, Option.toList_some, Option.toList_none, List.nil_append, List.cons_append, q_ck_tt, Bool.and_true, Bool.true_and, if_true, if_false, reduceCtorEq] at hr0
      rw [eX9_cellOfNet_31_24_31, q_in_nI (by omega) (by omega), q_in_nI (by omega) (by omega), nI_n (by omega), nI_n (by omega)] at hc0
      simp only [Option.bind_some, Option.toList_some, Option.toList_none, List.nil_append, List.cons_append, q_ck_tt, Bool.and_true, Bool.true_and, if_true, if_false, reduceCtorEq] at hc0
      rw [eX9_cellOfNet_31_24_49, q_in_nI (by omega) (by omega), nI_n (by omega), Bool.true_and, q_ck_tt] at hc0
      generalize hCx : q_up (q_up C1 26 x (nI N)) 24 N (C1 24 N ||| ((1 : Int32) <<< (nI x &&& 31))) = Cx at hc0
      generalize hRx : q_up (q_up R1 77 x (nI N)) 78 x 1 = Rx at hr0
      have cxo : ∀ p, p ≠ 26 → p ≠ 24 → Cx p = C1 p := fun p y z => by rw [← hCx, q_up_at3 _ _ z, q_up_at3 _ _ y]
      have rxo : ∀ p, p ≠ 77 → p ≠ 78 → Rx p = R1 p := fun p y z => by rw [← hRx, q_up_at3 _ _ z, q_up_at3 _ _ y]
      have cx26 : Cx 26 = va_up (C1 26) x (nI N) := by rw [← hCx, q_up_at3 _ _ (by decide), q_up_va, va_hit]
      have cxw : Cx 24 = va_up (C1 24) N (C1 24 N ||| ((1 : Int32) <<< (nI x &&& 31))) := by rw [← hCx, q_up_va, va_hit, q_up_at3 _ _ (by decide)]
      have rx77 : Rx 77 = va_up (R1 77) x (nI N) := by rw [← hRx, q_up_at3 _ _ (by decide), q_up_va, va_hit]
      have rx78 : Rx 78 = va_up (R1 78) x 1 := by rw [← hRx, q_up_va, va_hit, q_up_at3 _ _ (by decide)]
      have hpx : q_Pt v n Cx J1 Rx K1 s1 := q_Pt_eq a5 (cxo 2 (by decide) (by decide)) (fun k _ _ => by rw [cxo 31 (by decide) (by decide)]) rfl rfl (rxo 65 (by decide) (by decide)) (fun k _ _ _ => by rw [rxo 64 (by decide) (by decide)]) rfl
      obtain ⟨C4, J4, R4, K4, s4, k1, k2, k3, k4, k5⟩ := q_adv (L := L) (e := e) hpx (by rw [cxo 31 (by decide) (by decide), a6]; decide) (by rw [cxo 31 (by decide) (by decide), a6]; decide)
      have hOx : q_O5 Cx Rx D N cl := q_O5_st hO1 (cxo 17 (by decide) (by decide)) (fun p _ _ _ _ _ => cxo p (by omega) (by omega)) (fun k _ _ => by rw [cxo 31 (by decide) (by decide)]) (fun p _ => rxo p (by omega) (by omega)) (fun k _ => by rw [rxo 64 (by decide) (by decide)])
      have hMx : q_Rh Cx Rx D N cl := q_Rh_up hN hD hM1 x1 x2 hm true (cxo 17 (by decide) (by decide)) cx26 (cxo 23 (by decide) (by decide)) cxw rx77 rx78
      refine Or.inl ⟨C4, J4, R4, K4, s4, x, ?_, ?_, ?_, by omega, k5, q_O5_ad hOx k3, q_Rh_ad hMx k3, ⟨?_, ?_, ?_⟩, hx, ?_, ?_, ?_⟩
      · rw [hc0, k1]
        simp only [Option.bind_some, Option.toList_some, Option.toList_none, List.nil_append, List.cons_append, q_ck_tt, Bool.and_true, Bool.true_and, if_true, if_false, reduceCtorEq]
        rw [eX9_cellOfNet_31_24_54]
      · rw [hr0, k2]
        simp only [Option.bind_some, Option.toList_some, Option.toList_none, List.nil_append, List.cons_append, q_ck_tt, Bool.and_true, Bool.true_and, if_true, if_false, reduceCtorEq]
        rw [eX12_readOwnCell_55]
      · refine q_Gf_trans a3.gf (q_Gf_trans ?_ k3.gf)
        rw [← hRx, ← hCx]
        exact q_Gf_R rfl (q_Gf_R rfl (q_Gf_C (by omega) (q_Gf_C (by omega) (q_Gf_refl C1 J1 R1 K1))))
      · rw [k3.2.1 18 (by decide), a3.2.1 18 (by decide)]
      · rw [k3.2.1 22 (by decide), a3.2.1 22 (by decide)]
      · rw [k3.2.2.2 66 (by decide), a3.2.2.2 66 (by decide)]
      · rw [k3.1.1 26 (by decide), cx26, va_hit]
      · rw [k3.2.2.1.1 78 (by decide), rx78, va_hit]
      · rw [k3.1.1 24 (by decide), cxw, va_hit, a3.1.1 24 (by decide)]
    · rw [if_neg hm] at hc0
      have hnn : ¬ C1 26 x < 0 := by
        rcases (hM1.1 x hx).1 with g | ⟨k, k1, k2⟩
        · exact absurd g hm
        · rw [k2]; exact nI_pos (by omega)
      rw [if_neg hnn] at hr0
      obtain ⟨C', R', b1, b2, b3, b4, _, _⟩ := q_refw L e a5 3 (by decide)
      refine Or.inr ⟨C', J1, R', K1, ?_, ?_, b3, q_Gb_ad a3 b4⟩
      · rw [hc0, eX9_cellOfNet_31_24_25, b1]
        simp only [Option.bind_some, Option.toList_some, Option.toList_none, List.nil_append, List.cons_append, q_ck_tt, Bool.and_true, Bool.true_and, if_true, if_false, reduceCtorEq]
        rw [eX9_cellOfNet_31_24_30]
        rfl
      · rw [hr0, eX12_readOwnCell_21, b2]
        simp only [Option.bind_some, Option.toList_some, Option.toList_none, List.nil_append, List.cons_append, q_ck_tt, Bool.and_true, Bool.true_and, if_true, if_false, reduceCtorEq]
        rw [eX12_readOwnCell_26, if_pos b3.2.1, eX12_readOwnCell_33]
  · refine Or.inr ⟨C', J', R', K', ?_, ?_, a3, a4⟩
    · rw [bX9_cellOfNet_31_24, eX9_cellOfNet_31_24_0, a1]
      simp only [Option.bind_some, Option.toList_some, Option.toList_none, List.nil_append, List.cons_append, q_ck_tt, Bool.and_true, Bool.true_and, if_true, if_false, reduceCtorEq]
      rw [eX9_cellOfNet_31_24_4, if_pos rfl, eX9_cellOfNet_31_24_10]
    · rw [bX12_readOwnCell, eX12_readOwnCell_0, a2]
      simp only [Option.bind_some, Option.toList_some, Option.toList_none, List.nil_append, List.cons_append, q_ck_tt, Bool.and_true, Bool.true_and, if_true, if_false, reduceCtorEq]
      rw [eX12_readOwnCell_4, if_neg (q_pos_ne a3.2.1), eX12_readOwnCell_26, if_pos a3.2.1, eX12_readOwnCell_33]
