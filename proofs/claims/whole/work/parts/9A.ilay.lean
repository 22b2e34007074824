/-! ===== board(): receivers, what was told ===== -/
theorem q_ct_flat {A : Nat → Bool} {m : Nat} : ∀ {n : Nat}, m ≤ n → (∀ k, m ≤ k → k < n → A k = false) → fb_ct A n = fb_ct A m := by
  intro n
  induction n with
  | zero => intro h _; rw [show m = 0 by omega]
  | succ n ih =>
    intro h hA
    by_cases g : m = n + 1
    · rw [g]
    · rw [fb_ct_succ, ih (by omega) (fun k a b => hA k a (by omega)), hA n (by omega) (by omega)]; rfl
def q_Pp (A : Nat → Bool) (R : Nat → Nat → Int32) (x : Nat) (M : Nat → Nat → Int32) : Prop := (∀ p, p ≠ 64 → p ≠ 92 → M p = R p) ∧ (∀ k, k ≠ 57 → M 64 k = R 64 k) ∧ M 64 57 = nI (fb_ct A x) ∧ ∀ r, r < fb_ct A x → ∃ y, y < 24 ∧ M 92 r = nI y ∧ A y = true ∧ fb_ct A y = r
theorem q_layR {R : Nat → Nat → Int32} (K : Nat → Nat → Int64) (e : QP) {D : Nat} {A : Nat → Bool} {cl : Nat → Nat} (hD : D ≤ 4) (h50 : R 64 50 = nI D) (h85 : ∀ d, d < D → R 85 d = nI (cl d) ∧ cl d ≤ 6) (hA : ∀ d, d < D → ∀ c, c < cl d → A (6 * d + c) = (!decide (R 86 (6 * d + c) < 0) && !decide (R 87 (6 * d + c) = 0))) (hN : ∀ x, x < 24 → A x = true → x < 6 * D ∧ x % 6 < cl (x / 6)) (h18 : fb_ct A 24 ≤ 18) :
    ∃ R', mX12_layReceivers [.ref 64] (qm R K e) = some (none, qm R' K e) ∧ (∀ p, p ≠ 64 → p ≠ 92 → R' p = R p) ∧ (∀ k, k ≠ 57 → R' 64 k = R 64 k) ∧ R' 64 57 = nI (fb_ct A 24) ∧ ∃ rc : Nat → Nat, ∀ r, r < fb_ct A 24 → R' 92 r = nI (rc r) ∧ rc r < 24 ∧ A (rc r) = true ∧ fb_ct A (rc r) = r := by
  have hle : ∀ x, x ≤ 24 → fb_ct A x ≤ 18 := fun x hx => Nat.le_trans (fb_ct_mono A hx) h18
  have hAf : ∀ d, d < D → ∀ k, 6 * d + cl d ≤ k → k < 6 * (d + 1) → A k = false := by
    intro d hd k h1 h2
    cases hk : A k with
    | false => rfl
    | true =>
      have := hN k (by omega) hk
      rw [show k / 6 = d by omega] at this
      omega
  have hin : ∀ d M, d < D → q_Pp A R (6 * d) M → ∃ M', q_Pp A R (6 * (d + 1)) M' ∧ kX12_layReceivers 7 [some (.ref 64), some (.int (nI d)), none, none] [] (qm M K e) = kX12_layReceivers 7 [some (.ref 64), some (.int (nI (d + 1))), none, none] [] (qm M' K e) := by
    intro d M hd hM
    obtain ⟨hcl1, hcl2⟩ := h85 d hd
    obtain ⟨M1, a1, a2⟩ := q_inv_for (fun c (M : Nat → Nat → Int32) => kX12_layReceivers 17 [some (.ref 64), some (.int (nI d)), some (.int (nI c)), none] [] (qm M K e)) (fun c M => q_Pp A R (6 * d + c) M) (cl d) (fun c M hc hM => by
      obtain ⟨m1, m2, m3, m4⟩ := hM
      have hx : 6 * d + c < 24 := by omega
      have h6 : (6 : Int32) * nI d + nI c = nI (6 * d + c) := by rw [show (6 : Int32) * nI d = nI (6 * d) from (Int32.ofNat_mul 6 d).symm, nI_add]
      have hc1 : nI c + 1 = nI (c + 1) := nI_add c 1
      have hAx := hA d hd c hc
      have hsu : fb_ct A (6 * d + (c + 1)) = fb_ct A (6 * d + c) + (if A (6 * d + c) then 1 else 0) := fb_ct_succ A (6 * d + c)
      have hst : kX12_layReceivers 17 [some (.ref 64), some (.int (nI d)), some (.int (nI c)), none] [] (qm M K e) = if R 86 (6 * d + c) < 0 then kX12_layReceivers 17 [some (.ref 64), some (.int (nI d)), some (.int (nI (c + 1))), none] [] (qm M K e) else if R 87 (6 * d + c) = 0 then kX12_layReceivers 17 [some (.ref 64), some (.int (nI d)), some (.int (nI (c + 1))), none] [] (qm M K e) else kX12_layReceivers 17 [some (.ref 64), some (.int (nI d)), some (.int (nI (c + 1))), none] [] (qm (q_up (q_up M 92 (fb_ct A (6 * d + c)) (nI (6 * d + c))) 64 57 (nI (fb_ct A (6 * d + c) + 1))) K e) := by
        rw [eX12_layReceivers_17, q_in_nI (show d < 4 by omega) (by omega), nI_n (by omega), Bool.true_and, q_ck_tt, m1 85 (by decide) (by decide), hcl1, if_pos (nI_lt hc (by omega)), eX12_layReceivers_27, h6, q_in_nI hx (by omega), nI_n (by omega), Bool.true_and, q_ck_tt, m1 86 (by decide) (by decide), eX12_layReceivers_75, hc1, eX12_layReceivers_43, q_in_nI hx (by omega), nI_n (by omega), Bool.true_and, q_ck_tt, m1 87 (by decide) (by decide), eX12_layReceivers_52, eX12_layReceivers_75, hc1, eX12_layReceivers_55, m3, q_in_nI (show fb_ct A (6 * d + c) < 24 by have := hle (6 * d + c) (by omega); omega) (by omega), nI_n (by have := hle (6 * d + c) (by omega); omega), Bool.true_and, q_ck_tt, show nI (fb_ct A (6 * d + c)) + 1 = nI (fb_ct A (6 * d + c) + 1) from nI_add _ 1, eX12_layReceivers_75, hc1]
      cases hb : A (6 * d + c) with
      | true =>
        rw [hb] at hAx hsu
        have g1 : ¬ R 86 (6 * d + c) < 0 ∧ ¬ R 87 (6 * d + c) = 0 := by simpa using hAx.symm
        rw [if_neg g1.1, if_neg g1.2] at hst
        have hsu' : fb_ct A (6 * d + (c + 1)) = fb_ct A (6 * d + c) + 1 := hsu
        refine ⟨_, ⟨fun p x y => by rw [q_up_at3 _ _ x, q_up_at3 _ _ y]; exact m1 p x y, fun k x => by rw [q_up_at2 _ _ x, q_up_at3 _ _ (by decide)]; exact m2 k x, by rw [q_up_at1, hsu'], fun r hr => ?_⟩, hst⟩
        rw [q_up_at3 _ _ (by decide)]
        by_cases g : r = fb_ct A (6 * d + c)
        · subst g
          exact ⟨6 * d + c, hx, q_up_at1 _ _ _ _, hb, rfl⟩
        · rw [q_up_at2 _ _ g]; exact m4 r (by omega)
      | false =>
        rw [hb] at hAx hsu
        have hsu' : fb_ct A (6 * d + (c + 1)) = fb_ct A (6 * d + c) := hsu
        refine ⟨M, ⟨m1, m2, by rw [hsu']; exact m3, by rw [hsu']; exact m4⟩, ?_⟩
        by_cases g1 : R 86 (6 * d + c) < 0
        · rw [if_pos g1] at hst; exact hst
        · by_cases g2 : R 87 (6 * d + c) = 0
          · rw [if_neg g1, if_pos g2] at hst; exact hst
          · rw [decide_eq_false g1, decide_eq_false g2] at hAx; cases hAx) (cl d) 0 M (by omega) hM
    have a2' : kX12_layReceivers 17 [some (.ref 64), some (.int (nI d)), some (.int 0), none] [] (qm M K e) = kX12_layReceivers 17 [some (.ref 64), some (.int (nI d)), some (.int (nI (cl d))), none] [] (qm M1 K e) := a2
    have hfl : fb_ct A (6 * (d + 1)) = fb_ct A (6 * d + cl d) := q_ct_flat (by omega) (hAf d hd)
    refine ⟨M1, ⟨a1.1, a1.2.1, by rw [hfl]; exact a1.2.2.1, by rw [hfl]; exact a1.2.2.2⟩, ?_⟩
    rw [eX12_layReceivers_7, hM.2.1 50 (by decide), h50, if_pos (nI_lt hd (by omega)), eX12_layReceivers_15, a2', eX12_layReceivers_17, q_in_nI (show d < 4 by omega) (by omega), nI_n (by omega), Bool.true_and, q_ck_tt, a1.1 85 (by decide) (by decide), hcl1, if_neg (nI_nlt (Nat.le_refl _) (by omega)), eX12_layReceivers_81, show nI d + 1 = nI (d + 1) from nI_add d 1]
  obtain ⟨R1, a1, a2⟩ := q_inv_for (fun d (M : Nat → Nat → Int32) => kX12_layReceivers 7 [some (.ref 64), some (.int (nI d)), none, none] [] (qm M K e)) (fun d M => q_Pp A R (6 * d) M) D (fun d M hd hM => hin d M hd hM) D 0 (q_up R 64 57 0) (by omega) ⟨fun p x _ => q_up_at3 _ _ x, fun k x => q_up_at2 _ _ x, q_up_at1 _ _ _ _, fun r hr => absurd hr (Nat.not_lt_zero r)⟩
  have a2' : kX12_layReceivers 7 [some (.ref 64), some (.int 0), none, none] [] (qm (q_up R 64 57 0) K e) = kX12_layReceivers 7 [some (.ref 64), some (.int (nI D)), none, none] [] (qm R1 K e) := a2
  have hfl : fb_ct A 24 = fb_ct A (6 * D) := q_ct_flat (by omega) (fun k h1 h2 => by
    cases hk : A k with
    | false => rfl
    | true => have := hN k h2 hk; omega)
  refine ⟨R1, ?_, a1.1, a1.2.1, by rw [hfl]; exact a1.2.2.1, fun r => (R1 92 r).toNatClampNeg, fun r hr => ?_⟩
  · rw [bX12_layReceivers, eX12_layReceivers_0, a2', eX12_layReceivers_7, a1.2.1 50 (by decide), h50, if_neg (nI_nlt (Nat.le_refl _) (by omega)), eX12_layReceivers_87]
  · rw [hfl] at hr
    obtain ⟨y, y1, y2, y3, y4⟩ := a1.2.2.2 r hr
    have hy : (R1 92 r).toNatClampNeg = y := by rw [y2, nI_n (by omega)]
    dsimp only
    rw [hy]
    exact ⟨y2, y1, y3, y4⟩
theorem q_layT {R : Nat → Nat → Int32} (K : Nat → Nat → Int64) (e : QP) {D N : Nat} (hD : D ≤ 4) (hN : N ≤ 6) (h50 : R 64 50 = nI D) (h51 : R 64 51 = nI N) :
    ∃ R', mX12_layTold [.ref 64] (qm R K e) = some (none, qm R' K e) ∧ (∀ p, p ≠ 93 → R' p = R p) ∧ (R' 93 0 = 0 ∧ R' 93 1 = 0 ∧ R' 93 2 = R 64 53) ∧ (∀ k, 7 ≤ k → k < 19 → R' 93 k = 0) ∧ (∀ d, d < D → R' 93 (3 + d) = qRs (R 84 d) (R 83 d) ∧ R' 93 (25 + d) = R 90 d) ∧ (∀ a, a < 6 → R' 93 (19 + a) = if a < N then R 89 a else -1) ∧ ∀ a, a < 36 → R' 93 (29 + a) = R 91 a := by
  have ad : ∀ (c : Int32) (m i : Nat), c = nI m → c + nI i = nI (m + i) := fun c m i h => by rw [h, nI_add]
  obtain ⟨R1, ⟨a1, a2⟩, a3⟩ := q_inv_for (fun i (M : Nat → Nat → Int32) => kX12_layTold 2 [some (.ref 64), some (.int (nI i))] [] (qm M K e)) (fun i M => (∀ p, p ≠ 93 → M p = R p) ∧ ∀ k, k < i → M 93 k = 0) 65 (fun i M hi hM => by
    refine ⟨q_up M 93 i 0, ⟨fun p x => by rw [q_up_at3 _ _ x]; exact hM.1 p x, fun k hk => ?_⟩, ?_⟩
    · by_cases g : k = i
      · subst g; rw [q_up_at1]
      · rw [q_up_at2 _ _ g]; exact hM.2 k (by omega)
    · show kX12_layTold 2 _ _ _ = kX12_layTold 2 _ _ _
      rw [eX12_layTold_2, if_pos (show nI i < (65 : Int32) from nI_lt (b := 65) hi (by omega)), eX12_layTold_8, q_in_nI (show i < 65 by omega) (by omega), nI_n (by omega), Bool.true_and, q_ck_tt, show nI i + 1 = nI (i + 1) from nI_add i 1]) 65 0 R (by omega) ⟨fun _ _ => rfl, fun k hk => absurd hk (Nat.not_lt_zero k)⟩
  have a3' : kX12_layTold 2 [some (.ref 64), some (.int 0)] [] (qm R K e) = kX12_layTold 2 [some (.ref 64), some (.int (nI 65))] [] (qm R1 K e) := a3
  obtain ⟨R2, ⟨b1, b2, b3, b4⟩, b5⟩ := q_inv_for (fun i (M : Nat → Nat → Int32) => kX12_layTold 33 [some (.ref 64), some (.int (nI i))] [] (qm M K e)) (fun i M => (∀ p, p ≠ 93 → M p = R p) ∧ (M 93 0 = 0 ∧ M 93 1 = 0 ∧ M 93 2 = R 64 53) ∧ (∀ k, 7 ≤ k → k < 19 → M 93 k = 0) ∧ ∀ d, d < i → M 93 (3 + d) = qRs (R 84 d) (R 83 d) ∧ M 93 (25 + d) = R 90 d) D (fun i M hi hM => by
    obtain ⟨m1, m2, m3, m4⟩ := hM
    refine ⟨q_up (q_up M 93 (3 + i) (qRs (R 84 i) (R 83 i))) 93 (25 + i) (R 90 i), ⟨fun p x => by rw [q_up_at3 _ _ x, q_up_at3 _ _ x]; exact m1 p x, ?_, fun k x y => by rw [q_up_at2 _ _ (by omega), q_up_at2 _ _ (by omega)]; exact m3 k x y, fun d hd => ?_⟩, ?_⟩
    · rw [q_up_at2 _ _ (by omega), q_up_at2 _ _ (by omega), q_up_at2 _ _ (by omega), q_up_at2 _ _ (by omega), q_up_at2 _ _ (by omega), q_up_at2 _ _ (by omega)]; exact m2
    · by_cases g : d = i
      · subst g
        exact ⟨by rw [q_up_at2 _ _ (by omega), q_up_at1], by rw [q_up_at1]⟩
      · have h := m4 d (by omega)
        exact ⟨by rw [q_up_at2 _ _ (by omega), q_up_at2 _ _ (by omega)]; exact h.1, by rw [q_up_at2 _ _ (by omega), q_up_at2 _ _ (by omega)]; exact h.2⟩
    · show kX12_layTold 33 _ _ _ = kX12_layTold 33 _ _ _
      rw [eX12_layTold_33, m1 64 (by decide), h50, if_pos (nI_lt hi (by omega)), eX12_layTold_41, fX12_restOrder M K e (show i < 4 by omega), m1 84 (by decide), m1 83 (by decide)]
      simp only [Option.bind_some, Option.toList_some, Option.toList_none, List.nil_append, List.cons_append, q_ck_tt, Bool.and_true, Bool.true_and, if_true, if_false, reduceCtorEq]
      rw [ad 3 3 i rfl, eX12_layTold_53, ad 25 25 i rfl, q_in_nI (show 25 + i < 65 by omega) (by omega), q_in_nI (show i < 4 by omega) (by omega), q_in_nI (show 3 + i < 65 by omega) (by omega), nI_n (by omega), nI_n (by omega), nI_n (by omega)]
      simp only [Option.bind_some, Option.toList_some, Option.toList_none, List.nil_append, List.cons_append, q_ck_tt, Bool.and_true, Bool.true_and, if_true, if_false, reduceCtorEq]
      rw [m1 90 (by decide), show nI i + 1 = nI (i + 1) from nI_add i 1]) D 0 (q_up R1 93 2 (R 64 53)) (by omega) ⟨fun p x => by rw [q_up_at3 _ _ x]; exact a1 p x, ⟨by rw [q_up_at2 _ _ (by decide)]; exact a2 0 (by omega), by rw [q_up_at2 _ _ (by decide)]; exact a2 1 (by omega), q_up_at1 _ _ _ _⟩, fun k x y => by rw [q_up_at2 _ _ (by omega)]; exact a2 k (by omega), fun d hd => absurd hd (Nat.not_lt_zero d)⟩
  have b5' : kX12_layTold 33 [some (.ref 64), some (.int 0)] [] (qm (q_up R1 93 2 (R 64 53)) K e) = kX12_layTold 33 [some (.ref 64), some (.int (nI D))] [] (qm R2 K e) := b5
  obtain ⟨R3, ⟨c1, c2, c3⟩, c5⟩ := q_inv_for (fun i (M : Nat → Nat → Int32) => kX12_layTold 77 [some (.ref 64), some (.int (nI i))] [] (qm M K e)) (fun i M => (∀ p, p ≠ 93 → M p = R p) ∧ (∀ k, (k < 19 ∨ 25 ≤ k) → M 93 k = R2 93 k) ∧ ∀ a, a < i → M 93 (19 + a) = if a < N then R 89 a else -1) 6 (fun i M hi hM => by
    obtain ⟨m1, m2, m3⟩ := hM
    refine ⟨q_up M 93 (19 + i) (if i < N then R 89 i else -1), ⟨fun p x => by rw [q_up_at3 _ _ x]; exact m1 p x, fun k hk => by rw [q_up_at2 _ _ (by omega)]; exact m2 k hk, fun a ha => ?_⟩, ?_⟩
    · by_cases g : a = i
      · subst g; rw [q_up_at1]
      · rw [q_up_at2 _ _ (by omega)]; exact m3 a (by omega)
    · show kX12_layTold 77 _ _ _ = kX12_layTold 77 _ _ _
      have h109 : ∀ x : Int32, kX12_layTold 109 [some (.ref 64), some (.int (nI i))] [.int x, .int (nI (19 + i)), .ref 93] (qm M K e) = kX12_layTold 77 [some (.ref 64), some (.int (nI (i + 1)))] [] (qm (q_up M 93 (19 + i) x) K e) := fun x => by
        rw [eX12_layTold_109, q_in_nI (show 19 + i < 65 by omega) (by omega), nI_n (by omega), Bool.true_and, q_ck_tt, show nI i + 1 = nI (i + 1) from nI_add i 1]
      rw [eX12_layTold_77, if_pos (show nI i < (6 : Int32) from nI_lt (b := 6) hi (by omega)), eX12_layTold_83, m1 64 (by decide), h51, ad 19 19 i rfl]
      by_cases g : i < N
      · rw [if_pos (nI_lt g (by omega)), if_pos g, eX12_layTold_99, q_in_nI (show i < 6 by omega) (by omega), nI_n (by omega), Bool.true_and, q_ck_tt, m1 89 (by decide), h109]
      · rw [if_neg (nI_nlt (by omega) (by omega)), if_neg g, eX12_layTold_108, h109]) 6 0 R2 (by omega) ⟨b1, fun _ _ => rfl, fun a ha => absurd ha (Nat.not_lt_zero a)⟩
  have c5' : kX12_layTold 77 [some (.ref 64), some (.int 0)] [] (qm R2 K e) = kX12_layTold 77 [some (.ref 64), some (.int (nI 6))] [] (qm R3 K e) := c5
  obtain ⟨R4, ⟨d1, d2, d3⟩, d5⟩ := q_inv_for (fun i (M : Nat → Nat → Int32) => kX12_layTold 118 [some (.ref 64), some (.int (nI i))] [] (qm M K e)) (fun i M => (∀ p, p ≠ 93 → M p = R p) ∧ (∀ k, k < 29 → M 93 k = R3 93 k) ∧ ∀ a, a < i → M 93 (29 + a) = R 91 a) 36 (fun i M hi hM => by
    obtain ⟨m1, m2, m3⟩ := hM
    refine ⟨q_up M 93 (29 + i) (R 91 i), ⟨fun p x => by rw [q_up_at3 _ _ x]; exact m1 p x, fun k hk => by rw [q_up_at2 _ _ (by omega)]; exact m2 k hk, fun a ha => ?_⟩, ?_⟩
    · by_cases g : a = i
      · subst g; rw [q_up_at1]
      · rw [q_up_at2 _ _ (by omega)]; exact m3 a (by omega)
    · show kX12_layTold 118 _ _ _ = kX12_layTold 118 _ _ _
      rw [eX12_layTold_118, if_pos (show nI i < (36 : Int32) from nI_lt (b := 36) hi (by omega)), eX12_layTold_124, ad 29 29 i rfl, q_in_nI (show 29 + i < 65 by omega) (by omega), q_in_nI (show i < 36 by omega) (by omega), nI_n (by omega), nI_n (by omega)]
      simp only [Option.bind_some, Option.toList_some, Option.toList_none, List.nil_append, List.cons_append, q_ck_tt, Bool.and_true, Bool.true_and, if_true, if_false, reduceCtorEq]
      rw [m1 91 (by decide), show nI i + 1 = nI (i + 1) from nI_add i 1]) 36 0 R3 (by omega) ⟨c1, fun _ _ => rfl, fun a ha => absurd ha (Nat.not_lt_zero a)⟩
  have d5' : kX12_layTold 118 [some (.ref 64), some (.int 0)] [] (qm R3 K e) = kX12_layTold 118 [some (.ref 64), some (.int (nI 36))] [] (qm R4 K e) := d5
  refine ⟨R4, ?_, d1, ?_, fun k x y => ?_, fun d hd => ⟨?_, ?_⟩, fun a ha => ?_, d3⟩
  · rw [bX12_layTold, eX12_layTold_0, a3', eX12_layTold_2, if_neg (by decide), eX12_layTold_21, a1 64 (by decide), b5', eX12_layTold_33, b1 64 (by decide), h50, if_neg (nI_nlt (Nat.le_refl _) (by omega)), eX12_layTold_75, c5', eX12_layTold_77, if_neg (by decide), eX12_layTold_116, d5', eX12_layTold_118, if_neg (by decide), eX12_layTold_145]
  · rw [d2 0 (by omega), d2 1 (by omega), d2 2 (by omega), c2 0 (by omega), c2 1 (by omega), c2 2 (by omega)]; exact b2
  · rw [d2 k (by omega), c2 k (by omega)]; exact b3 k x y
  · rw [d2 _ (by omega), c2 _ (by omega)]; exact (b4 d hd).1
  · rw [d2 _ (by omega), c2 _ (by omega)]; exact (b4 d hd).2
  · rw [d2 _ (by omega)]; exact c3 a ha
