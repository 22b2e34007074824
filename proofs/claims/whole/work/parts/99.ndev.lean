/-! ===== lines: a device ===== -/
theorem q_num_le {m b : Nat} (hm : m ≤ 9999) (h : ¬ nI b < nI m) : m ≤ b := by
  by_cases g : m ≤ b
  · exact g
  · exact absurd (nI_lt (by omega) (by omega)) h
theorem q_num_ge {m b : Nat} (hb : b ≤ 9999) (h : ¬ nI m < nI b) : b ≤ m := by
  by_cases g : b ≤ m
  · exact g
  · exact absurd (nI_lt (by omega) (by omega)) h
/-- what the reference may still lay once it has refused -/
def q_Sc (R R' : Nat → Nat → Int32) : Prop := (∀ p k, q_scR p k = false → R' p k = R p k) ∧ R' 64 2 = R 64 2 ∧ R' 64 3 = R 64 3
theorem q_Sc_refl (R : Nat → Nat → Int32) : q_Sc R R := ⟨fun _ _ _ => rfl, rfl, rfl⟩
theorem q_Sc_up {R R' : Nat → Nat → Int32} {p k : Nat} {x : Int32} (hp : q_scR p k = true) (h6 : p ≠ 64 ∨ (k ≠ 2 ∧ k ≠ 3)) (h : q_Sc R R') : q_Sc R (q_up R' p k x) := by
  refine ⟨fun q j hq => ?_, ?_, ?_⟩
  · by_cases h1 : q = p
    · subst h1
      by_cases h2 : j = k
      · subst h2; rw [hp] at hq; cases hq
      · rw [q_up_at2 _ _ h2]; exact h.1 q j hq
    · rw [q_up_at3 _ _ h1]; exact h.1 q j hq
  · by_cases h1 : p = 64
    · subst h1; rw [q_up_at2 _ _ (by omega)]; exact h.2.1
    · rw [q_up_at3 _ _ (fun g => h1 g.symm)]; exact h.2.1
  · by_cases h1 : p = 64
    · subst h1; rw [q_up_at2 _ _ (by omega)]; exact h.2.2
    · rw [q_up_at3 _ _ (fun g => h1 g.symm)]; exact h.2.2
theorem q_Sc_trans {R R1 R2 : Nat → Nat → Int32} (h : q_Sc R R1) (g : q_Sc R1 R2) : q_Sc R R2 := ⟨fun p k hp => (g.1 p k hp).trans (h.1 p k hp), g.2.1.trans h.2.1, g.2.2.trans h.2.2⟩
theorem q_Bad.of {L : Nat} {e : QP} {C : Nat → Nat → Int32} {J : Nat → Nat → Int64} {R : Nat → Nat → Int32} {K : Nat → Nat → Int64} {C' : Nat → Nat → Int32} {J' : Nat → Nat → Int64} {R1 R' : Nat → Nat → Int32} {K' : Nat → Nat → Int64} {x y : Option QR} (hx : x = some (some (.int 0), qm C' J' (3, 17, 17, 2, L))) (hg : q_Gf C J R K C' J' R1 K') (hf : q_Fl C' R1) (hy : y = some (none, qm R' K' e)) (hs : q_Sc R1 R') : q_Bad L e C J R K x y :=
  ⟨C', J', R', K', hx, hy, ⟨hg.1, fun p k hp => (hs.1 p k hp).trans (hg.2.1 p k hp), hg.2.2⟩, by rw [hs.2.1]; exact hf.1, by rw [hs.2.1]; exact hf.2.1, by rw [hs.2.2]; exact hf.2.2⟩
theorem q_dv73_f {R : Nat → Nat → Int32} {K : Nat → Nat → Int64} {e : QP} {D : Nat} (hf : (0 : Int32) < R 64 2) (h46 : R 64 46 = nI D) (hD : D < 4) : ∃ R', kX12_readDevice 73 [some (.ref 64), none] [] (qm R K e) = some (none, qm R' K e) ∧ q_Sc R R' := by
  refine ⟨q_up R 76 D 0, ?_, q_Sc_up rfl (by omega) (q_Sc_refl R)⟩
  rw [eX12_readDevice_73, fX12_toldBy_f hf]
  simp only [Option.bind_some, Option.toList_some, Option.toList_none, List.nil_append, List.cons_append, q_ck_tt, Bool.and_true, Bool.true_and, if_true, if_false, reduceCtorEq]
  rw [eX12_readDevice_91, h46, q_in_nI (by omega) (by omega), nI_n (by omega), Bool.true_and, q_ck_tt, if_pos hf, eX12_readDevice_99]
theorem q_dv9_f {R : Nat → Nat → Int32} {K : Nat → Nat → Int64} {e : QP} {D : Nat} (hf : (0 : Int32) < R 64 2) (h46 : R 64 46 = nI D) (hD : D < 4) : ∃ R', kX12_readDevice 9 [some (.ref 64), none] [] (qm R K e) = some (none, qm R' K e) ∧ q_Sc R R' := by
  obtain ⟨R', h1, h2⟩ := q_dv73_f (R := q_up (q_up R 74 D 0) 75 D (-1)) (K := K) (e := e) (D := D) (by rw [q_up_at3 _ _ (by decide), q_up_at3 _ _ (by decide)]; exact hf) (by rw [q_up_at3 _ _ (by decide), q_up_at3 _ _ (by decide)]; exact h46) hD
  have h3 : q_Sc R (q_up (q_up R 74 D 0) 75 D (-1)) := q_Sc_up rfl (by omega) (q_Sc_up rfl (by omega) (q_Sc_refl R))
  refine ⟨R', ?_, fun p k hp => (h2.1 p k hp).trans (h3.1 p k hp), h2.2.1.trans h3.2.1, h2.2.2.trans h3.2.2⟩
  rw [eX12_readDevice_9, fX12_toldBy_f hf]
  simp only [Option.bind_some, Option.toList_some, Option.toList_none, List.nil_append, List.cons_append, q_ck_tt, Bool.and_true, Bool.true_and, if_true, if_false, reduceCtorEq]
  rw [eX12_readDevice_26, h46, q_in_nI (by omega) (by omega), nI_n (by omega)]
  simp only [Option.bind_some, Option.toList_some, Option.toList_none, List.nil_append, List.cons_append, q_ck_tt, Bool.and_true, Bool.true_and, if_true, if_false, reduceCtorEq]
  rw [if_neg (q_pos_ne hf), h1]
theorem q_FR_c {N : Nat} {F f f' : Nat → Int32} (h : q_FR N F f) (h1 : ∀ k, k < 6 → f' (19 + k) = f (19 + k)) (hN : N ≤ 6) (h2 : ∀ k, f' (29 + k) = f (29 + k)) : q_FR N F f' := by
  obtain ⟨a, b, c, d⟩ := h
  refine ⟨fun n hn => by rw [h1 n (by omega)]; exact a n hn, b, fun p hp => by rw [h2]; exact c p hp, d⟩
theorem qrd_19 (R : Nat → Nat → Int32) (N k : Nat) (hk : k < 6) : qrd R N (19 + k) = if k < N then R 80 k else -1 := by
  unfold qrd
  rw [if_neg (by omega), if_pos (by omega), show 19 + k - 19 = k by omega]
theorem qrd_29 (R : Nat → Nat → Int32) (N k : Nat) : qrd R N (29 + k) = R 82 k := by
  unfold qrd
  rw [if_neg (by omega), if_neg (by omega), if_neg (by omega), show 29 + k - 29 = k by omega]
theorem q_B6_dev {C R C' R' : Nat → Nat → Int32} {D N : Nat} {cl : Nat → Nat} (h : q_B6 C R D N cl) (hD : D < 4) {m : Nat} (hm : m ≤ 6)
    (c170 : C' 17 0 = nI (D + 1)) (c17 : ∀ k, k ≠ 0 → C' 17 k = C 17 k) (cc : ∀ p, 23 ≤ p → p ≤ 29 → C' p = C p) (cd : ∀ d, d < D → C' 19 d = C 19 d ∧ C' 20 d = C 20 d ∧ C' 21 d = C 21 d) (c31 : ∀ k, 9 ≤ k → k ≤ 12 → C' 31 k = C 31 k)
    (new : C' 19 D = R' 74 D ∧ C' 20 D = R' 75 D ∧ C' 21 D = nI m ∧ R' 76 D = nI m ∧ (∃ k : Nat, 2 ≤ k ∧ k ≤ 4 ∧ R' 74 D = nI k) ∧ (R' 75 D = -1 ∨ ∃ k : Nat, k < 128 ∧ R' 75 D = nI k))
    (rr : ∀ p, (p = 78 ∨ p = 79 ∨ p = 80 ∨ p = 82) → R' p = R p) (r77 : ∀ x, x < 6 * D → R' 77 x = R 77 x) (r77n : ∀ x, 6 * D ≤ x → x < 6 * (D + 1) → R' 77 x = -1) (r81 : ∀ d, d < D → R' 81 d = R 81 d) (r81n : R' 81 D = 0)
    (rd : ∀ d, d < D → R' 74 d = R 74 d ∧ R' 75 d = R 75 d ∧ R' 76 d = R 76 d) (r6 : R' 67 = R 67 ∧ R' 68 = R 68) (r46 : R' 64 46 = nI (D + 1)) (r64 : ∀ k, (k = 3 ∨ k = 17 ∨ k = 20 ∨ k = 24 ∨ (47 ≤ k ∧ k ≤ 55)) → R' 64 k = R 64 k) : q_B6 C' R' (D + 1) N (va_up cl D m) := by
  obtain ⟨h1, h2, h3, h4, h5, h6⟩ := h
  refine ⟨?_, ?_, ?_, ?_, ?_, ?_⟩
  · obtain ⟨a, b, c⟩ := h1
    refine ⟨⟨c170, r46, by omega⟩, by rw [c17 5 (by decide), r64 47 (by omega)]; exact b, fun d hd => ?_⟩
    by_cases hdD : d = D
    · subst hdD
      rw [va_hit]
      exact ⟨new.1, new.2.1, new.2.2.1, new.2.2.2.1, hm, new.2.2.2.2.1, new.2.2.2.2.2⟩
    · obtain ⟨x1, x2, x3⟩ := cd d (by omega)
      obtain ⟨y1, y2, y3⟩ := rd d (by omega)
      rw [x1, x2, x3, y1, y2, y3, va_miss hdD]
      exact c d (by omega)
  · obtain ⟨a, b, c, d, f⟩ := h2
    unfold q_Rk
    rw [c17 11 (by decide), cc 23 (by omega) (by omega), cc 24 (by omega) (by omega), cc 26 (by omega) (by omega), rr 78 (by omega)]
    refine ⟨fun x hx => ⟨(a x hx).1, fun hne => ?_⟩, fun x hx => ?_, c, d, f⟩
    · obtain ⟨a1, a2, a3⟩ := (a x hx).2 hne
      have hq : x / 6 ≠ D := by omega
      rw [va_miss hq]
      exact ⟨by omega, a2, a3⟩
    · by_cases hx6 : x < 6 * D
      · rw [r77 x hx6]; exact b x hx6
      · rw [r77n x (by omega) hx]
        by_cases hne : C 26 x = -1
        · exact hne.symm
        · have := ((a x (by omega)).2 hne).1
          omega
  · unfold q_Rs2
    rw [cc 25 (by omega) (by omega), rr 79 (by omega)]
    exact h3
  · obtain ⟨a, b, c⟩ := h4
    have hN := h1.2.1.2.2
    unfold q_Rf
    rw [cc 27 (by omega) (by omega), c17 11 (by decide)]
    refine ⟨q_FR_c a (fun k hk => ?_) hN (fun k => ?_), fun x hx => ⟨?_, (b x hx).2⟩, fun d hd => ?_⟩
    · rw [qrd_19 _ _ _ hk, qrd_19 _ _ _ hk, rr 80 (by omega)]
    · rw [qrd_29, qrd_29, rr 82 (by omega)]
    · rw [(b x hx).1]
      by_cases hx6 : x < 6 * D
      · rw [decide_eq_true hx6, decide_eq_true (show x < 6 * (D + 1) by omega), r81 (x / 6) (by omega)]
      · rw [decide_eq_false hx6, Bool.false_and]
        by_cases hx7 : x < 6 * (D + 1)
        · rw [show x / 6 = D by omega, r81n, b_0, Bool.and_false]
        · rw [decide_eq_false hx7, Bool.false_and]
    · by_cases hdD : d = D
      · subst hdD; exact ⟨0, by omega, r81n⟩
      · rw [r81 d (by omega)]; exact c d (by omega)
  · unfold q_Ro
    rw [cc 28 (by omega) (by omega), cc 29 (by omega) (by omega), r6.1, r6.2, c31 9 (by omega) (by omega), r64 24 (by omega), r64 20 (by omega), r64 17 (by omega)]
    exact h5
  · unfold q_Rz
    rw [c17 14 (by decide), c17 15 (by decide), c31 10 (by omega) (by omega), c31 11 (by omega) (by omega), c31 12 (by omega) (by omega), r64 3 (by omega), r64 54 (by omega), r64 55 (by omega), r64 48 (by omega), r64 49 (by omega)]
    exact h6
/-- the reference lays the cells of a new device -/
theorem q_dv100 {R : Nat → Nat → Int32} {K : Nat → Nat → Int64} {e : QP} {D : Nat} (h46 : R 64 46 = nI D) (hD : D < 4) : kX12_readDevice 100 [some (.ref 64), none] [] (qm R K e) = some (none, qm (q_up (q_up (va_up R 77 (fun x => if 6 * D ≤ x ∧ x < 6 * D + 6 then -1 else R 77 x)) 81 D 0) 64 46 (nI (D + 1))) K e) := by
  have hst : ∀ i, i < 6 → kX12_readDevice 102 [some (.ref 64), some (.int (nI i))] [] (qm (va_up R 77 (fun x => if 6 * D ≤ x ∧ x < 6 * D + i then -1 else R 77 x)) K e) = kX12_readDevice 102 [some (.ref 64), some (.int (nI (i + 1)))] [] (qm (va_up R 77 (fun x => if 6 * D ≤ x ∧ x < 6 * D + (i + 1) then -1 else R 77 x)) K e) := by
    intro i hi
    have h2 : nI i + 1 = nI (i + 1) := nI_add i 1
    have h6 : (6 : Int32) * nI D + nI i = nI (6 * D + i) := by rw [show (6 : Int32) * nI D = nI (6 * D) from (Int32.ofNat_mul 6 D).symm, nI_add]
    rw [eX12_readDevice_102, if_pos (show nI i < (6 : Int32) from nI_lt (b := 6) hi (by omega)), eX12_readDevice_108, va_miss (show (64 : Nat) ≠ 77 by decide), h46, h6, q_in_nI (by omega) (by omega), nI_n (by omega), Bool.true_and, q_ck_tt, h2, q_up_up]
    congr 3
    congr 1
    funext x
    by_cases hx : x = 6 * D + i
    · subst hx; rw [va_hit, if_pos (by omega)]
    · rw [va_miss hx]
      by_cases h3 : 6 * D ≤ x ∧ x < 6 * D + i
      · rw [if_pos h3, if_pos (by omega)]
      · rw [if_neg h3, if_neg (by omega)]
  have hl := q_for (fun i (a : Nat → Int32) => kX12_readDevice 102 [some (.ref 64), some (.int (nI i))] [] (qm (va_up R 77 a) K e)) 6 (fun i x => if 6 * D ≤ x ∧ x < 6 * D + i then -1 else R 77 x) hst
  have h0 : (fun x => if 6 * D ≤ x ∧ x < 6 * D + 0 then -1 else R 77 x) = R 77 := by
    funext x
    rw [if_neg (by omega)]
  rw [h0, va_up_id] at hl
  rw [eX12_readDevice_100]
  refine Eq.trans hl ?_
  rw [eX12_readDevice_102, if_neg (by decide), eX12_readDevice_129, va_miss (show (64 : Nat) ≠ 77 by decide), h46, q_in_nI (by omega) (by omega), nI_n (by omega), Bool.true_and, q_ck_tt, show nI D + 1 = nI (D + 1) from nI_add D 1]
theorem q_dev144 {v : Nat → Nat} {n s L : Nat} {C : Nat → Nat → Int32} {J : Nat → Nat → Int64} {R : Nat → Nat → Int32} {K : Nat → Nat → Int64} {e : QP} {D N : Nat} {cl : Nat → Nat} (h : q_Pt v n C J R K s) (hB : q_B6 C R D N cl) (n1 : q_Nm J K 18 0 (D + 1)) (n2 : q_Nm J K 22 4 N) (hD : D < 4) (h19 : C 19 D = R 74 D) (h20 : C 20 D = R 75 D) (h74 : ∃ k : Nat, 2 ≤ k ∧ k ≤ 4 ∧ R 74 D = nI k) (h75 : R 75 D = -1 ∨ ∃ k : Nat, k < 128 ∧ R 75 D = nI k) :
    q_Res v n s L e C J R K (kX9_deviceLine 144 [some (.ref 31), some (.int (nI D))] [] (qm C J (3, 17, 17, 2, L))) (kX12_readDevice 73 [some (.ref 64), none] [] (qm R K e)) := by
  have hC0 : C 17 0 = nI D := hB.1.1.1
  have hR46 : R 64 46 = nI D := hB.1.1.2.1
  rcases q_tNum (L := L) (e := e) h (k := 3) (by decide) (c := 3) (w := 426903366771) rfl (by decide +kernel) 0 6 with ⟨C1, J1, R1, K1, s1, m, a1, a2, a3, a4, ⟨m1, m2, m3, m4, m5⟩, a6, a7, a8⟩ | ⟨C', R', x, a1, a2, a3, a4, a5⟩ | ⟨C1, J1, C', R', K', x, a1, a2, a3, a4, a5, a6⟩
  · have hm : m ≤ 6 := q_num_le (b := 6) m1 m5
    have hp : q_Pt v n (q_up (q_up C1 21 D (nI m)) 17 0 (nI (D + 1))) J1 R1 K1 s1 := q_Pt_eq a8 (by rw [q_up_at3 _ _ (by decide), q_up_at3 _ _ (by decide)]) (fun k _ _ => by rw [q_up_at3 _ _ (by decide), q_up_at3 _ _ (by decide)]) rfl rfl rfl (fun _ _ _ _ => rfl) rfl
    have h5 : q_up (q_up C1 21 D (nI m)) 17 0 (nI (D + 1)) 31 5 = 4 := by rw [q_up_at3 _ _ (by decide), q_up_at3 _ _ (by decide)]; exact m2
    obtain ⟨C2, J2, R2, K2, s2, f1, f2, f3, f4, f5⟩ := q_adv (L := L) (e := e) hp (by rw [h5]; decide) (by rw [h5]; decide)
    have c1 : C1 17 0 = nI D := by rw [a6.1.1 17 (by decide)]; exact hC0
    have r2 : R2 64 46 = nI D := by rw [f3.2.2.1.2 46 (by decide) (by decide) (by decide) (by decide), a6.2.2.1.2 46 (by decide) (by decide) (by decide) (by decide)]; exact hR46
    have hcl : kX9_deviceLine 144 [some (.ref 31), some (.int (nI D))] [] (qm C J (3, 17, 17, 2, L)) = some (some (.int 1), qm C2 J2 (3, 17, 17, 2, L)) := by
      rw [eX9_deviceLine_144, a1]
      simp only [Option.bind_some, Option.toList_some, Option.toList_none, List.nil_append, List.cons_append, q_ck_tt, Bool.and_true, Bool.true_and, if_true, if_false, reduceCtorEq]
      rw [eX9_deviceLine_149, if_neg (by decide), eX9_deviceLine_152, a3]
      simp only [Option.bind_some, Option.toList_some, Option.toList_none, List.nil_append, List.cons_append, q_ck_tt, Bool.and_true, Bool.true_and, if_true, if_false, reduceCtorEq]
      rw [eX9_deviceLine_159, if_neg (by decide), eX9_deviceLine_164, q_in_nI (by omega) (by omega), nI_n (by omega), Bool.true_and, q_ck_tt, m3, c1, show nI D + 1 = nI (D + 1) from nI_add D 1, eX9_deviceLine_190, f1]
      simp only [Option.bind_some, Option.toList_some, Option.toList_none, List.nil_append, List.cons_append, q_ck_tt, Bool.and_true, Bool.true_and, if_true, if_false, reduceCtorEq]
      rw [eX9_deviceLine_194]
    have hrf : kX12_readDevice 73 [some (.ref 64), none] [] (qm R K e) = some (none, qm (q_up (q_up (va_up (q_up R2 76 D (nI m)) 77 (fun x => if 6 * D ≤ x ∧ x < 6 * D + 6 then -1 else q_up R2 76 D (nI m) 77 x)) 81 D 0) 64 46 (nI (D + 1))) K2 e) := by
      rw [eX12_readDevice_73, a4 R2 K2 f2]
      simp only [Option.bind_some, Option.toList_some, Option.toList_none, List.nil_append, List.cons_append, q_ck_tt, Bool.and_true, Bool.true_and, if_true, if_false, reduceCtorEq]
      rw [hR46, eX12_readDevice_91, q_in_nI (by omega) (by omega), nI_n (by omega), Bool.true_and, q_ck_tt, f5.ok, if_neg (by decide)]
      exact q_dv100 (by rw [q_up_at3 _ _ (by decide)]; exact r2) hD
    have cf : ∀ p, p ≠ 31 → p ≠ 17 → p ≠ 21 → C2 p = C p := fun p x1 x2 x3 => by rw [f3.1.1 p x1, q_up_at3 _ _ x2, q_up_at3 _ _ x3, a6.1.1 p x1]
    have rf : ∀ p, p ≠ 64 → R2 p = R p := fun p x1 => by rw [f3.2.2.1.1 p x1, a6.2.2.1.1 p x1]
    have rf6 : ∀ k, k ≠ 4 → k ≠ 6 → k ≠ 7 → k ≠ 8 → R2 64 k = R 64 k := fun k x1 x2 x3 x4 => by rw [f3.2.2.1.2 k x1 x2 x3 x4, a6.2.2.1.2 k x1 x2 x3 x4]
    generalize hRe : q_up (q_up (va_up (q_up R2 76 D (nI m)) 77 (fun x => if 6 * D ≤ x ∧ x < 6 * D + 6 then -1 else q_up R2 76 D (nI m) 77 x)) 81 D 0) 64 46 (nI (D + 1)) = Re at hrf
    have re64 : ∀ k, k ≠ 46 → Re 64 k = R2 64 k := fun k hk => by rw [← hRe, q_up_at2 _ _ hk, q_up_at3 _ _ (by decide), va_miss (by decide), q_up_at3 _ _ (by decide)]
    have reo : ∀ p, p ≠ 64 → p ≠ 81 → p ≠ 77 → p ≠ 76 → Re p = R2 p := fun p x1 x2 x3 x4 => by rw [← hRe, q_up_at3 _ _ x1, q_up_at3 _ _ x2, va_miss x3, q_up_at3 _ _ x4]
    have re76 : Re 76 = va_up (R2 76) D (nI m) := by rw [← hRe, q_up_at3 _ _ (by decide), q_up_at3 _ _ (by decide), va_miss (by decide), q_up_va, va_hit]
    have re77 : ∀ x, Re 77 x = if 6 * D ≤ x ∧ x < 6 * D + 6 then -1 else R2 77 x := fun x => by rw [← hRe, q_up_at3 _ _ (by decide), q_up_at3 _ _ (by decide), va_hit, q_up_at3 _ _ (by decide)]
    have re81 : Re 81 = va_up (R2 81) D 0 := by rw [← hRe, q_up_at3 _ _ (by decide), q_up_va, va_hit, va_miss (by decide), q_up_at3 _ _ (by decide)]
    have re46 : Re 64 46 = nI (D + 1) := by rw [← hRe, q_up_at1]
    have gR : q_Gf C J R K C2 J2 Re K2 := by
      have g0 : q_Gf C J R K C2 J2 R2 K2 := q_Gf_trans (q_Gf_C (by omega) (q_Gf_C (by omega) a6.gf)) f3.gf
      refine ⟨g0.1, fun p k hp => ?_, g0.2.2⟩
      rw [← g0.2.1 p k hp]
      by_cases x1 : p = 64
      · subst x1
        exact re64 k (fun g => by subst g; cases hp)
      · rw [reo p x1 (fun g => by subst g; cases hp) (fun g => by subst g; cases hp) (fun g => by subst g; cases hp)]
    refine Or.inl ⟨C2, J2, Re, K2, D + 1, N, va_up cl D m, s2, hcl, hrf, gR, by omega, ?_, ?_, ?_, ?_⟩
    · exact q_Pt_eq f5 rfl (fun _ _ _ => rfl) rfl rfl (reo 65 (by decide) (by decide) (by decide) (by decide)) (fun k _ _ _ => re64 k (by omega)) rfl
    · refine q_B6_dev hB hD hm ?_ ?_ ?_ ?_ ?_ ?_ ?_ ?_ ?_ ?_ ?_ ?_ ?_ re46 ?_
      · rw [f3.1.1 17 (by decide), q_up_at1]
      · intro k hk; rw [f3.1.1 17 (by decide), q_up_at2 _ _ hk, q_up_at3 _ _ (by decide), a6.1.1 17 (by decide)]
      · intro p x1 x2; exact cf p (by omega) (by omega) (by omega)
      · intro d hd
        exact ⟨by rw [cf 19 (by decide) (by decide) (by decide)], by rw [cf 20 (by decide) (by decide) (by decide)], by rw [f3.1.1 21 (by decide), q_up_at3 _ _ (by decide), q_up_at2 _ _ (by omega), a6.1.1 21 (by decide)]⟩
      · intro k x1 x2; rw [f3.1.2 k (by omega) (by omega) (by omega) (by omega), q_up_at3 _ _ (by decide), q_up_at3 _ _ (by decide), a6.1.2 k (by omega) (by omega) (by omega) (by omega)]
      · rw [reo 74 (by decide) (by decide) (by decide) (by decide), reo 75 (by decide) (by decide) (by decide) (by decide), rf 74 (by decide), rf 75 (by decide), re76, va_hit, cf 19 (by decide) (by decide) (by decide), cf 20 (by decide) (by decide) (by decide), f3.1.1 21 (by decide), q_up_at3 _ _ (by decide), q_up_at1]
        exact ⟨h19, h20, rfl, rfl, h74, h75⟩
      · intro p hp; rw [reo p (by omega) (by omega) (by omega) (by omega), rf p (by omega)]
      · intro x hx; rw [re77, if_neg (by omega), rf 77 (by decide)]
      · intro x x1 x2; rw [re77, if_pos (by omega)]
      · intro d hd; rw [re81, va_miss (by omega), rf 81 (by decide)]
      · rw [re81, va_hit]
      · intro d hd
        exact ⟨by rw [reo 74 (by decide) (by decide) (by decide) (by decide), rf 74 (by decide)], by rw [reo 75 (by decide) (by decide) (by decide) (by decide), rf 75 (by decide)], by rw [re76, va_miss (by omega), rf 76 (by decide)]⟩
      · exact ⟨by rw [reo 67 (by decide) (by decide) (by decide) (by decide), rf 67 (by decide)], by rw [reo 68 (by decide) (by decide) (by decide) (by decide), rf 68 (by decide)]⟩
      · intro k hk; rw [re64 k (by omega), rf6 k (by omega) (by omega) (by omega) (by omega)]
    · exact q_Nm_ad (q_Nm_ad n1 (by decide) a6) (by decide) f3
    · exact q_Nm_ad (q_Nm_ad n2 (by decide) a6) (by decide) f3
  · obtain ⟨R'', b1, b2⟩ : ∃ R'', kX12_readDevice 73 [some (.ref 64), none] [] (qm R K e) = some (none, qm R'' K e) ∧ q_Sc R' R'' := by
      refine ⟨q_up R' 76 D x, ?_, q_Sc_up rfl (by omega) (q_Sc_refl R')⟩
      rw [eX12_readDevice_73, a3]
      simp only [Option.bind_some, Option.toList_some, Option.toList_none, List.nil_append, List.cons_append, q_ck_tt, Bool.and_true, Bool.true_and, if_true, if_false, reduceCtorEq]
      rw [hR46, eX12_readDevice_91, q_in_nI (by omega) (by omega), nI_n (by omega), Bool.true_and, q_ck_tt, if_pos a4.2.1, eX12_readDevice_99]
    refine Or.inr (q_Bad.of (C' := C') (J' := J) ?_ a5.1 a4 b1 b2)
    rw [eX9_deviceLine_144, a1]
    simp only [Option.bind_some, Option.toList_some, Option.toList_none, List.nil_append, List.cons_append, q_ck_tt, Bool.and_true, Bool.true_and, if_true, if_false, reduceCtorEq]
    rw [eX9_deviceLine_149, if_pos rfl, eX9_deviceLine_162]
  · obtain ⟨R'', b1, b2⟩ : ∃ R'', kX12_readDevice 73 [some (.ref 64), none] [] (qm R K e) = some (none, qm R'' K' e) ∧ q_Sc R' R'' := by
      refine ⟨q_up R' 76 D x, ?_, q_Sc_up rfl (by omega) (q_Sc_refl R')⟩
      rw [eX12_readDevice_73, a4]
      simp only [Option.bind_some, Option.toList_some, Option.toList_none, List.nil_append, List.cons_append, q_ck_tt, Bool.and_true, Bool.true_and, if_true, if_false, reduceCtorEq]
      rw [hR46, eX12_readDevice_91, q_in_nI (by omega) (by omega), nI_n (by omega), Bool.true_and, q_ck_tt, if_pos a5.2.1, eX12_readDevice_99]
    refine Or.inr (q_Bad.of (C' := C') (J' := J1) ?_ a6.1 a5 b1 b2)
    rw [eX9_deviceLine_144, a1]
    simp only [Option.bind_some, Option.toList_some, Option.toList_none, List.nil_append, List.cons_append, q_ck_tt, Bool.and_true, Bool.true_and, if_true, if_false, reduceCtorEq]
    rw [eX9_deviceLine_149, if_neg (by decide), eX9_deviceLine_152, a3]
    simp only [Option.bind_some, Option.toList_some, Option.toList_none, List.nil_append, List.cons_append, q_ck_tt, Bool.and_true, Bool.true_and, if_true, if_false, reduceCtorEq]
    rw [eX9_deviceLine_159, if_pos rfl, eX9_deviceLine_162]
