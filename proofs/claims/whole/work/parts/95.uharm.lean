/-! ===== how many faults; single, harm, about ===== -/
theorem q_ct2 {p a : Nat → Bool} : ∀ K, (∀ k, k < K → (if p (2 * k) then 1 else 0) + (if p (2 * k + 1) then 1 else 0) = (if a k then 1 else 0 : Nat)) → fb_ct p (2 * K) = fb_ct a K
  | 0, _ => rfl
  | K + 1, h => by
    have ih := q_ct2 K (fun k hk => h k (by omega))
    have h1 := h K (by omega)
    rw [show 2 * (K + 1) = 2 * K + 1 + 1 by omega, fb_ct_succ, fb_ct_succ, ih, fb_ct_succ]
    omega
theorem q_ct_enum {A : Nat → Bool} {en : Nat → Nat} {m : Nat} (h : ∀ r, r < fb_ct A m → A (en r) = true ∧ fb_ct A (en r) = r) (g : Nat → Bool) : ∀ x, x ≤ m → fb_ct (fun r => g (en r)) (fb_ct A x) = fb_ct (fun y => A y && g y) x
  | 0, _ => rfl
  | x + 1, hx => by
    have ih := q_ct_enum h g x (by omega)
    rw [fb_ct_succ (fun y => A y && g y) x, ← ih]
    have h1 := fb_ct_succ A x
    cases hA : A x with
    | false =>
      rw [hA] at h1
      rw [h1]
      rfl
    | true =>
      rw [hA, if_pos rfl] at h1
      have h2 := fb_ct_mono A hx
      obtain ⟨h3, h4⟩ := h (fb_ct A x) (by omega)
      have he : en (fb_ct A x) = x := fb_ct_kth_one h3 hA h4
      rw [h1, fb_ct_succ]
      rw [he, Bool.true_and]
section SH
variable {I : Nat → Nat → Int32} {J : Nat → Nat → Int64} {e : QP} {rb tx L : Nat} {D N : Nat} {cl : Nat → Nat} {RM : Nat} {rc : Nat → Nat} {F f : Nat → Int32}
theorem q_cnt (h : q_Core I D N cl RM rc) (hq : q_FQ D N (bt (I 3 11)) F f) : fb_ct (qth N RM rc F) (qSN N RM) = fb_ct (bt (F 0)) 32 + fb_ct (bt (F 2)) 32 + fb_ct (bt (F 3 ||| F 4)) 32 := by
  have hN := h.n6
  have hD := h.d4
  obtain ⟨-, h18, hrc, hct⟩ := h.br
  obtain ⟨⟨f1, f2, f3, f4⟩, fn, fo, fd⟩ := hq
  have hsn : qSN N RM = (2 * N + RM) + 2 * qK N := by rw [qSN_SF, qK2 hN]; rfl
  rw [hsn, fb_ct_split, fb_ct_split]
  have p1 : fb_ct (qth N RM rc F) (2 * N) = fb_ct (bt (F 0)) 32 := by
    have a1 : fb_ct (bt (F 0)) 32 = fb_ct (bt (F 0)) N := by
      have := q_ct_cut (p := bt (F 0)) (m := N) (32 - N) (fun x x1 _ => (f2 x x1).1)
      rw [show N + (32 - N) = 32 by omega] at this
      exact this
    rw [a1]
    refine q_ct2 N (fun k hk => ?_)
    unfold qth
    rw [if_pos (show 2 * k < 2 * N by omega), if_pos (show 2 * k + 1 < 2 * N by omega), show 2 * k / 2 = k by omega, show (2 * k + 1) / 2 = k by omega, show 2 * k % 2 = 0 by omega, show (2 * k + 1) % 2 = 1 by omega]
    cases bt (F 0) k <;> cases bt (F 1) k <;> rfl
  have p2 : fb_ct (fun k => qth N RM rc F (2 * N + k)) RM = fb_ct (bt (F 2)) 32 := by
    have a1 : fb_ct (bt (F 2)) 32 = fb_ct (bt (F 2)) 24 := q_ct_cut (p := bt (F 2)) (m := 24) 8 (fun x x1 x2 => by rw [(fo x (by omega)).1, decide_eq_false (by omega), Bool.false_and])
    have a2 : fb_ct (bt (F 2)) 24 = fb_ct (fun y => bt (I 3 11) y && bt (F 2) y) 24 := fb_ct_cong (fun y hy => by
      cases hb : bt (F 2) y with
      | false => rw [Bool.and_false]
      | true => rw [(fo y (by omega)).2 hb]; rfl)
    rw [a1, a2, ← q_ct_enum (en := rc) (m := 24) (fun r hr => ⟨(hrc r (by omega)).2.2.1, (hrc r (by omega)).2.2.2⟩) (bt (F 2)) 24 (Nat.le_refl _), hct]
    refine fb_ct_cong (fun k hk => ?_)
    unfold qth
    rw [if_neg (by omega), if_pos (by unfold qSF; omega), Nat.add_sub_cancel_left]
  have p3 : fb_ct (fun k => qth N RM rc F (2 * N + RM + k)) (2 * qK N) = fb_ct (bt (F 3 ||| F 4)) 32 := by
    obtain ⟨e1, e2⟩ := qpp_t N (by omega)
    have a1 : fb_ct (bt (F 3 ||| F 4)) 32 = fb_ct (bt (F 3 ||| F 4)) 15 := q_ct_cut (p := bt (F 3 ||| F 4)) (m := 15) 17 (fun x x1 x2 => by rw [b_or, (f4 x x1).1, (f4 x x1).2]; rfl)
    have a2 : fb_ct (bt (F 3 ||| F 4)) 15 = fb_ct (fun y => (fun p => decide (qob p < N)) y && bt (F 3 ||| F 4) y) 15 := fb_ct_cong (fun y hy => by
      dsimp only
      by_cases c : qob y < N
      · rw [decide_eq_true c, Bool.true_and]
      · obtain ⟨-, g2, g3, g4⟩ := f3 y hy
        have g := g4 (by omega)
        rw [b_or, g2, g3, g]
        rw [decide_eq_false c]
        rfl)
    rw [a1, a2, ← q_ct_enum (A := fun p => decide (qob p < N)) (en := qpp N) (m := 15) (fun r hr => ⟨decide_eq_true (e1 r (by omega)).2.1, (e1 r (by omega)).2.2⟩) (bt (F 3 ||| F 4)) 15 (Nat.le_refl _), e2]
    refine q_ct2 (qK N) (fun k hk => ?_)
    obtain ⟨g1, g2, g3, -⟩ := f3 (qpp N k) (e1 k hk).1
    unfold qth
    rw [if_neg (show ¬ 2 * N + RM + 2 * k < 2 * N by omega), if_neg (show ¬ 2 * N + RM + (2 * k + 1) < 2 * N by omega), if_neg (show ¬ 2 * N + RM + 2 * k < qSF N RM by unfold qSF; omega), if_neg (show ¬ 2 * N + RM + (2 * k + 1) < qSF N RM by unfold qSF; omega)]
    rw [show 2 * N + RM + 2 * k - qSF N RM = 2 * k by unfold qSF; omega, show 2 * N + RM + (2 * k + 1) - qSF N RM = 2 * k + 1 by unfold qSF; omega, show 2 * k / 2 = k by omega, show (2 * k + 1) / 2 = k by omega, show 2 * k % 2 = 0 by omega, show (2 * k + 1) % 2 = 1 by omega, if_neg (show ¬ (0 : Nat) = 1 by decide), if_pos (show (1 : Nat) = 1 from rfl), b_or, g2, g3]
    rcases g1 with g | g | g <;> rw [g] <;> decide
  rw [p1, p2, p3]
theorem fX3_count : mX3_count [.ref 42] (qm I J e) = some (some (.int (nI (fb_ct (bt (I 42 0)) 32 + fb_ct (bt (I 42 2)) 32 + fb_ct (bt (I 42 3 ||| I 42 4)) 32))), qm I J e) := by
  rw [bX3_count, eX3_count_0, fJ6_bitCount]
  simp only [Option.bind_some, Option.toList_some, Option.toList_none, List.nil_append, List.cons_append, q_ck_tt, Bool.and_true, Bool.true_and, if_true, if_false, reduceCtorEq]
  rw [eX3_count_7, fJ6_bitCount]
  simp only [Option.bind_some, Option.toList_some, Option.toList_none, List.nil_append, List.cons_append, q_ck_tt, Bool.and_true, Bool.true_and, if_true, if_false, reduceCtorEq]
  rw [eX3_count_14, fJ6_bitCount]
  simp only [Option.bind_some, Option.toList_some, Option.toList_none, List.nil_append, List.cons_append, q_ck_tt, Bool.and_true, Bool.true_and, if_true, if_false, reduceCtorEq]
  rw [eX3_count_27, nI_add, nI_add]
theorem q_Rs.sm (h : q_Rs I D N RM rc) : mX12_singleMany [.ref 64] (qm I J e) = some (some (.int (nI (qSN N RM))), qm I J e) := by
  rw [bX12_singleMany, eX12_singleMany_0, bX12_shortFrom, eX12_shortFrom_0, h.m51, h.2.1, show (2 : Int32) = nI 2 from rfl, pk_mul, nI_add]
  simp only [Option.bind_some, Option.toList_some, Option.toList_none, List.nil_append, List.cons_append, q_ck_tt, Bool.and_true, Bool.true_and, if_true, if_false, reduceCtorEq]
  rw [eX12_singleMany_4, h.m51, qN1 h.n6, nI_add]
  rfl
theorem q_Rs.is (h : q_Rs I D N RM rc) (a : Int32) : mX12_isSingle [.ref 64, .int a] (qm I J e) = some (some (.int (qb (q_in a (qSN N RM)))), qm I J e) := by
  have h60 := h.s60
  rw [bX12_isSingle, eX12_isSingle_0, h.sm]
  simp only [Option.bind_some, Option.toList_some, Option.toList_none, List.nil_append, List.cons_append, q_ck_tt, Bool.and_true, Bool.true_and, if_true, if_false, reduceCtorEq]
  rw [eX12_isSingle_6, fX12_isIn0 I J e a (show qSN N RM < 2 ^ 30 by omega)]
  simp only [Option.bind_some, Option.toList_some, Option.toList_none, List.nil_append, List.cons_append, q_ck_tt, Bool.and_true, Bool.true_and, if_true, if_false, reduceCtorEq]
  rw [eX12_isSingle_11]
  simp only [Option.bind_some, Option.toList_some, Option.toList_none, List.nil_append, List.cons_append, q_ck_tt, Bool.and_true, Bool.true_and, if_true, if_false, reduceCtorEq, qb_ck]
theorem fX12_faultMany (h : q_Rs I D N RM rc) {A : Nat → Bool} (hq : q_FQ D N A F (I 94)) : mX12_faultMany [.ref 64] (qm I J e) = some (some (.int (nI (fb_ct (qth N RM rc F) (qSN N RM)))), qm I J e) := by
  have h60 := h.s60
  have hst : ∀ s, s < qSN N RM → (fun s (y : Nat) => kX12_faultMany 4 [some (.ref 64), some (.int (nI y)), some (.int (nI s))] [] (qm I J e)) s (fb_ct (qth N RM rc F) s) = (fun s (y : Nat) => kX12_faultMany 4 [some (.ref 64), some (.int (nI y)), some (.int (nI s))] [] (qm I J e)) (s + 1) (fb_ct (qth N RM rc F) (s + 1)) := by
    intro s hs
    show kX12_faultMany 4 _ _ _ = kX12_faultMany 4 _ _ _
    rw [eX12_faultMany_4, h.sm]
    simp only [Option.bind_some, Option.toList_some, Option.toList_none, List.nil_append, List.cons_append, q_ck_tt, Bool.and_true, Bool.true_and, if_true, if_false, reduceCtorEq]
    rw [eX12_faultMany_9, if_pos (nI_lt hs (by omega)), eX12_faultMany_12, fX12_isThere h hq hs]
    simp only [Option.bind_some, Option.toList_some, Option.toList_none, List.nil_append, List.cons_append, q_ck_tt, Bool.and_true, Bool.true_and, if_true, if_false, reduceCtorEq]
    rw [eX12_faultMany_18, fX12_truth]
    simp only [Option.bind_some, Option.toList_some, Option.toList_none, List.nil_append, List.cons_append, q_ck_tt, Bool.and_true, Bool.true_and, if_true, if_false, reduceCtorEq]
    rw [eX12_faultMany_21, nI_1, fb_ct_succ]
    cases qth N RM rc F s with
    | false => rw [show qb false = nI 0 from rfl, nI_add]; rfl
    | true => rw [show qb true = nI 1 from rfl, nI_add]; rfl
  have hf := q_for (fun s (y : Nat) => kX12_faultMany 4 [some (.ref 64), some (.int (nI y)), some (.int (nI s))] [] (qm I J e)) (qSN N RM) (fun s => fb_ct (qth N RM rc F) s) hst
  rw [bX12_faultMany, eX12_faultMany_0]
  refine Eq.trans hf ?_
  show kX12_faultMany 4 _ _ _ = _
  rw [eX12_faultMany_4, h.sm]
  simp only [Option.bind_some, Option.toList_some, Option.toList_none, List.nil_append, List.cons_append, q_ck_tt, Bool.and_true, Bool.true_and, if_true, if_false, reduceCtorEq]
  rw [eX12_faultMany_9, if_neg (nI_nlt (Nat.le_refl _) (by omega)), eX12_faultMany_29]
theorem q_Ch_fq0 {A : Nat → Bool} {c r : Nat → Int32} (h : q_Ch D N A c r) : q_FQ D N A (fun k => c (19 + k)) r := ⟨h.2.2.2.2.1, h.2.2.2.2.2.1, h.2.2.2.2.2.2.1, h.2.2.2.2.2.2.2⟩
theorem q_Ch_fq {A : Nat → Bool} {c r c' r' : Nat → Int32} (hD : D ≤ 4) (h : q_Ch D N A c r) (hc : ∀ k, k < 19 → c' k = c k) (hr : ∀ k, k < 19 → r' k = r k) (hq : q_FQ D N A (fun k => c' (19 + k)) r') : q_Ch D N A c' r' := by
  obtain ⟨h0, h1, h2, h3, -⟩ := h
  refine ⟨?_, ?_, ?_, fun d hd => ?_, hq.1, hq.2.1, hq.2.2.1, hq.2.2.2⟩
  · rw [hc 0 (by omega), hr 0 (by omega)]; exact h0
  · rw [hc 1 (by omega), hr 1 (by omega)]; exact h1
  · rw [hc 2 (by omega), hr 2 (by omega)]; exact h2
  · rw [hc (3 + d) (by omega), hr (3 + d) (by omega), hc (7 + d) (by omega), hr (7 + d) (by omega), hc (11 + d) (by omega), hr (11 + d) (by omega), hc (15 + d) (by omega), hr (15 + d) (by omega)]; exact h3 d hd
theorem q_FQ_row {A : Nat → Bool} (hD : D ≤ 4) (hN : N ≤ 6) {f' : Nat → Int32} (h : q_FQ D N A F f) (he : ∀ k, k < 65 → f' k = f k) : q_FQ D N A F f' := by
  obtain ⟨h1, h2, h3, h4⟩ := h
  refine ⟨q_FR_cong hN h1 he, fun n n1 n2 => ?_, q_Op2_cong hD h3 he, fun d hd => ?_⟩
  · rw [he _ (by omega)]; exact h2 n n1 n2
  · rw [he _ (by omega)]; exact h4 d hd
theorem q_Core.fq (h : q_Core I D N cl RM rc) : q_FQ D N (bt (I 3 11)) (I 42) (I 93) := by
  have h1 := q_Ch_fq0 h.ch
  have : (fun k => qcr I (19 + k)) = I 42 := funext (fun k => qcr_19 I k)
  rw [this] at h1
  exact h1
theorem q_Core.fqA (h : q_Core I D N cl RM rc) (ha : q_Air I) : q_FQ D N (bt (I 3 11)) (I 42) (I 94) := q_FQ_row h.d4 h.n6 h.fq ha
theorem qcl_d : ∀ p, p < 15 → nI (qcl p) / 6 = nI (qla p) ∧ nI (qcl p) % 6 = nI (qob p) := by decide +kernel
theorem q_si39 (h : q_Rs I D N RM rc) {s : Nat} (hs : s < qSN N RM) (w : Int32) : kX12_single 14 [some (.ref 64), some (.int (nI s)), some (.int w), none] [] (qm I J e) = kX12_single 39 [some (.ref 64), some (.int (nI s)), some (.int w), none] [.int (nI (qso N RM s))] (qm I J e) := by
  have h60 := h.s60
  have h60' := h.f60
  have hN := h.n6
  rw [eX12_single_14, fX12_openFrom h]
  simp only [Option.bind_some, Option.toList_some, Option.toList_none, List.nil_append, List.cons_append, q_ck_tt, Bool.and_true, Bool.true_and, if_true, if_false, reduceCtorEq]
  rw [eX12_single_19]
  unfold qso
  by_cases c1 : s < 2 * N
  · rw [if_pos (nI_lt c1 (by omega)), if_pos c1, eX12_single_22]
    rfl
  · rw [if_neg (nI_nlt (by omega) (by omega)), if_neg c1, eX12_single_26, fX12_shortFrom h]
    simp only [Option.bind_some, Option.toList_some, Option.toList_none, List.nil_append, List.cons_append, q_ck_tt, Bool.and_true, Bool.true_and, if_true, if_false, reduceCtorEq]
    rw [eX12_single_31]
    by_cases c2 : s < qSF N RM
    · rw [if_pos (nI_lt c2 (by omega)), if_pos c2, eX12_single_34]
      rfl
    · rw [if_neg (nI_nlt (by omega) (by omega)), if_neg c2, eX12_single_38]
      rfl
theorem o_single (h : q_Core I D N cl RM rc) (a w : Int32) : q_Obs mX11_single mX12_single [.int a, .int w] I J (3, 17, rb, tx, L) := by
  have h10 : ¬ ((1 : Int32) = 0) := by decide
  have h60 := qSN_60 h
  have hN := h.n6
  cases hq : q_in a (qSN N RM) with
  | false =>
    refine ⟨-1, I, I, ?_, ?_, q_Off_refl _, q_Off_refl _⟩
    · rw [bX11_single, eX11_single_0, fX0_hasSingle h, hq]
      simp only [Option.bind_some, Option.toList_some, Option.toList_none, List.nil_append, List.cons_append, q_ck_tt, Bool.and_true, Bool.true_and, if_true, if_false, reduceCtorEq]
      rw [eX11_single_8, if_pos qb_f, eX11_single_11]
    · rw [bX12_single, eX12_single_0, fX12_isSingle h, hq]
      simp only [Option.bind_some, Option.toList_some, Option.toList_none, List.nil_append, List.cons_append, q_ck_tt, Bool.and_true, Bool.true_and, if_true, if_false, reduceCtorEq]
      rw [eX12_single_5, if_pos qb_f, eX12_single_8]
  | true =>
    obtain ⟨s, hs, rfl, -⟩ := q_in_of hq
    obtain ⟨I1, f1, o1, a1, C1⟩ := h.fill J (3, 17, rb, tx, L)
    have hq1 := C1.fqA a1
    have h42 : I1 42 = I 42 := o1.r 42 (fun _ => rfl)
    rw [h42] at hq1
    have hcl : mX11_single [.ref 1, .int (nI s), .int w] (qm I J (3, 17, rb, tx, L)) = kX11_single 13 [some (.ref 1), some (.int (nI s)), some (.int w)] [] (qm I J (3, 17, rb, tx, L)) := by
      rw [bX11_single, eX11_single_0, fX0_hasSingle h, hq]
      simp only [Option.bind_some, Option.toList_some, Option.toList_none, List.nil_append, List.cons_append, q_ck_tt, Bool.and_true, Bool.true_and, if_true, if_false, reduceCtorEq]
      rw [eX11_single_8, qb_t, if_neg h10]
    have hrf : mX12_single [.ref 64, .int (nI s), .int w] (qm I J (3, 17, rb, tx, L)) = kX12_single 39 [some (.ref 64), some (.int (nI s)), some (.int w), none] [.int (nI (qso N RM s))] (qm I1 J (3, 17, rb, tx, L)) := by
      rw [bX12_single, eX12_single_0, fX12_isSingle h, hq]
      simp only [Option.bind_some, Option.toList_some, Option.toList_none, List.nil_append, List.cons_append, q_ck_tt, Bool.and_true, Bool.true_and, if_true, if_false, reduceCtorEq]
      rw [eX12_single_5, qb_t, if_neg h10, eX12_single_10, f1]
      simp only [Option.bind_some, Option.toList_some, Option.toList_none, List.nil_append, List.cons_append, q_ck_tt, Bool.and_true, Bool.true_and, if_true, if_false, reduceCtorEq]
      rw [q_si39 C1.rs hs]
    by_cases c0 : w = 0
    · subst c0
      refine ⟨nI (qso N RM s), I, I1, ?_, ?_, q_Off_refl _, o1⟩
      · rw [hcl, eX11_single_13, if_pos rfl, eX11_single_44, fX0_sortOf h (by omega)]
        simp only [Option.bind_some, Option.toList_some, Option.toList_none, List.nil_append, List.cons_append, q_ck_tt, Bool.and_true, Bool.true_and, if_true, if_false, reduceCtorEq]
        rw [eX11_single_52]
      · rw [hrf, eX12_single_39, if_pos rfl, eX12_single_72]
    · by_cases c1 : w = 1
      · subst c1
        refine ⟨nI (if s < 2 * N then s / 2 else if s < qSF N RM then rc (s - 2 * N) / 6 else qla (qpp N ((s - qSF N RM) / 2))), I, I1, ?_, ?_, q_Off_refl _, o1⟩
        · rw [hcl, eX11_single_13, if_neg c0, if_pos rfl, eX11_single_53, fX0_firstOf h hs]
          simp only [Option.bind_some, Option.toList_some, Option.toList_none, List.nil_append, List.cons_append, q_ck_tt, Bool.and_true, Bool.true_and, if_true, if_false, reduceCtorEq]
          rw [eX11_single_61]
        · rw [hrf, eX12_single_39, if_neg c0, if_pos rfl, eX12_single_74]
          unfold qso
          by_cases d1 : s < 2 * N
          · rw [if_pos d1, if_pos d1, if_pos (show nI 0 = 0 from rfl), eX12_single_78, eX12_single_108, (q_d64 s (by omega)).1]
          · rw [if_neg d1, if_neg d1]
            by_cases d2 : s < qSF N RM
            · have hr : s - 2 * N < RM := by unfold qSF at d2; omega
              have h24 := (h.br.2.2.1 _ hr).2.1
              rw [if_pos d2, if_pos d2, if_neg (show ¬ nI 1 = 0 by decide), eX12_single_84, if_pos (show nI 1 = 1 from rfl), eX12_single_89, fX12_receiverOf C1.rs d1 d2]
              simp only [Option.bind_some, Option.toList_some, Option.toList_none, List.nil_append, List.cons_append, q_ck_tt, Bool.and_true, Bool.true_and, if_true, if_false, reduceCtorEq]
              rw [eX12_single_94, eX12_single_108, (q_d64 _ (by omega)).2.2.1]
            · have hp := ((qpp_t N (by omega)).1 _ (q_sk h hs d2)).1
              rw [if_neg d2, if_neg d2, if_neg (show ¬ nI 2 = 0 by decide), eX12_single_84, if_neg (show ¬ nI 2 = 1 by decide), eX12_single_100, fX12_pairOf C1.rs hs d2]
              simp only [Option.bind_some, Option.toList_some, Option.toList_none, List.nil_append, List.cons_append, q_ck_tt, Bool.and_true, Bool.true_and, if_true, if_false, reduceCtorEq]
              rw [eX12_single_105, eX12_single_108, (qcl_d _ hp).1]
      · by_cases c2 : w = 2
        · subst c2
          refine ⟨nI (if s < 2 * N then s % 2 else if s < qSF N RM then rc (s - 2 * N) % 6 else qob (qpp N ((s - qSF N RM) / 2))), I, I1, ?_, ?_, q_Off_refl _, o1⟩
          · rw [hcl, eX11_single_13, if_neg c0, if_neg c1, if_pos rfl, eX11_single_62, fX0_secondOf h hs]
            simp only [Option.bind_some, Option.toList_some, Option.toList_none, List.nil_append, List.cons_append, q_ck_tt, Bool.and_true, Bool.true_and, if_true, if_false, reduceCtorEq]
            rw [eX11_single_70]
          · rw [hrf, eX12_single_39, if_neg c0, if_neg c1, if_pos rfl, eX12_single_109]
            unfold qso
            by_cases d1 : s < 2 * N
            · rw [if_pos d1, if_pos d1, if_pos (show nI 0 = 0 from rfl), eX12_single_113, eX12_single_143, (q_d64 s (by omega)).2.1]
            · rw [if_neg d1, if_neg d1]
              by_cases d2 : s < qSF N RM
              · have hr : s - 2 * N < RM := by unfold qSF at d2; omega
                have h24 := (h.br.2.2.1 _ hr).2.1
                rw [if_pos d2, if_pos d2, if_neg (show ¬ nI 1 = 0 by decide), eX12_single_119, if_pos (show nI 1 = 1 from rfl), eX12_single_124, fX12_receiverOf C1.rs d1 d2]
                simp only [Option.bind_some, Option.toList_some, Option.toList_none, List.nil_append, List.cons_append, q_ck_tt, Bool.and_true, Bool.true_and, if_true, if_false, reduceCtorEq]
                rw [eX12_single_129, eX12_single_143, (q_d64 _ (by omega)).2.2.2]
              · have hp := ((qpp_t N (by omega)).1 _ (q_sk h hs d2)).1
                rw [if_neg d2, if_neg d2, if_neg (show ¬ nI 2 = 0 by decide), eX12_single_119, if_neg (show ¬ nI 2 = 1 by decide), eX12_single_135, fX12_pairOf C1.rs hs d2]
                simp only [Option.bind_some, Option.toList_some, Option.toList_none, List.nil_append, List.cons_append, q_ck_tt, Bool.and_true, Bool.true_and, if_true, if_false, reduceCtorEq]
                rw [eX12_single_140, eX12_single_143, (qcl_d _ hp).2]
        · by_cases c3 : w = 3
          · subst c3
            refine ⟨qb (qth N RM rc (I 42) s), I, I1, ?_, ?_, q_Off_refl _, o1⟩
            · rw [hcl, eX11_single_13, if_neg c0, if_neg c1, if_neg c2, if_pos rfl, eX11_single_71, fX0_isThere h hs]
              simp only [Option.bind_some, Option.toList_some, Option.toList_none, List.nil_append, List.cons_append, q_ck_tt, Bool.and_true, Bool.true_and, if_true, if_false, reduceCtorEq]
              rw [eX11_single_86]
              cases qth N RM rc (I 42) s with
              | false => rw [if_pos qb_f, eX11_single_93, eX11_single_94]; rfl
              | true => rw [if_neg (show ¬ qb true = 0 by decide), eX11_single_89, eX11_single_94]; rfl
            · rw [hrf, eX12_single_39, if_neg c0, if_neg c1, if_neg c2, if_pos rfl, eX12_single_144, fX12_isThere C1.rs hq1 hs]
              simp only [Option.bind_some, Option.toList_some, Option.toList_none, List.nil_append, List.cons_append, q_ck_tt, Bool.and_true, Bool.true_and, if_true, if_false, reduceCtorEq]
              rw [eX12_single_149, fX12_truth]
              simp only [Option.bind_some, Option.toList_some, Option.toList_none, List.nil_append, List.cons_append, q_ck_tt, Bool.and_true, Bool.true_and, if_true, if_false, reduceCtorEq]
              rw [eX12_single_152]
          · refine ⟨-1, I, I1, ?_, ?_, q_Off_refl _, o1⟩
            · rw [hcl, eX11_single_13, if_neg c0, if_neg c1, if_neg c2, if_neg c3, eX11_single_95]
            · rw [hrf, eX12_single_39, if_neg c0, if_neg c1, if_neg c2, if_neg c3, eX12_single_153]
theorem qTr_lo {b : Bool} {s k : Nat} (hN : N ≤ 6) (hk : k < 19) : qTr N RM rc f b s k = f k := by
  unfold qTr
  split
  · exact va_miss (by omega)
  · split
    · exact va_miss (by omega)
    · exact va_miss (by omega)
theorem q_Pa_off {I' : Nat → Nat → Int32} (hp : q_Pa I D N (bt (I 3 11))) (o : q_Off I I') : q_Pa I' D N (bt (I' 3 11)) := by
  rw [o.r 3 (fun _ => rfl)]
  refine q_Pa_rows hp (fun p hp => o.r p ?_)
  simp only [List.mem_cons, List.not_mem_nil, or_false] at hp
  rcases hp with rfl | rfl | rfl | rfl | rfl <;> intro k <;> rfl
theorem q_actB {C' : Nat → Nat → Int32} (h : q_Core I D N cl RM rc) (hp : q_Pa I D N (bt (I 3 11))) (hC : ∀ p k, q_scr p k = false → (p < 37 ∨ 42 < p) → C' p k = I p k) : ∃ I1, mX8_keep [.ref 44, .ref 37] (qm C' J e) = some (none, qm I1 J e) ∧ (∀ p k, q_scr p k = false → (p < 37 ∨ 42 < p) → p ≠ 44 → p ≠ 45 → I1 p k = I p k) ∧ (∀ p, p ≠ 44 → p ≠ 45 → I1 p = C' p) ∧ ∀ I0, q_Off I1 I0 → ∃ M1, mX12_act [.ref 64] (qm I0 J e) = some (none, qm M1 J e) ∧ q_Core (qmx I M1) D N cl RM rc ∧ q_Frm I M1 ∧
    ∀ I', q_Off M1 I' → q_Ch D N (bt (I 3 11)) (qcr C') (I' 94) → ∃ I2, mX12_keepAir [.ref 64] (qm I' J e) = some (none, qm I2 J e) ∧ q_Core I2 D N cl RM rc ∧ q_Pa I2 D N (bt (I2 3 11)) ∧ q_Frm I I2 ∧ I2 94 = I' 94 ∧ I2 42 = C' 42 := by
  have hD := h.d4
  have hN := h.n6
  obtain ⟨old, dn, kp, p1, p2, p3, p4, p5, p6, p7, p8, p9⟩ := hp
  have c44 : ∀ k, C' 44 k = I 44 k := fun k => hC 44 k rfl (by omega)
  have c45 : C' 45 = I 45 := funext (fun k => hC 45 k rfl (by omega))
  obtain ⟨I1, k0, k1, k2, k3, k4, k5⟩ := fX8_keep (I := C') (J := J) (e := e) (old := old) (dn := dn) (by rw [c44]; exact p1) (by rw [c44]; exact p3) p2 (by omega)
  have f1 : ∀ p k, q_scr p k = false → (p < 37 ∨ 42 < p) → p ≠ 44 → p ≠ 45 → I1 p k = I p k := fun p k a b c d => by rw [k5 p c d]; exact hC p k a b
  refine ⟨I1, k0, f1, k5, fun I0 o0 => ?_⟩
  have f0 : ∀ p k, q_scr p k = false → (p < 37 ∨ 42 < p) → p ≠ 44 → p ≠ 45 → I0 p k = I p k := fun p k a b c d => by rw [o0 p k a]; exact f1 p k a b c d
  have i64 : I0 64 = I 64 := funext (fun k => f0 64 k rfl (by omega) (by decide) (by decide))
  have i93 : I0 93 = I 93 := funext (fun k => f0 93 k rfl (by omega) (by decide) (by decide))
  have i101 : I0 101 = I 101 := funext (fun k => f0 101 k rfl (by omega) (by decide) (by decide))
  obtain ⟨M1, m0, m1, m2, m3, m4⟩ := fX12_act (I := I0) (J := J) (e := e) (dn := dn) (by omega) (by rw [i64]; exact p7)
  have fM : q_Frm I M1 := by
    intro p k a b c d f g i
    have h94 : p ≠ 94 := fun c => by rw [c] at a; cases a
    by_cases h64 : p = 64
    · obtain ⟨i1, i2⟩ := i h64
      rw [h64, m2, va_miss i2, va_miss i1, i64]
    · rw [m4 p g h64 h94]; exact f0 p k a b c d
  have o0r : ∀ p, 37 ≤ p → p ≤ 42 → I0 p = I1 p := by
    intro p a b
    have : p = 37 ∨ p = 38 ∨ p = 39 ∨ p = 40 ∨ p = 41 ∨ p = 42 := by omega
    rcases this with rfl | rfl | rfl | rfl | rfl | rfl <;> exact o0.r _ (fun _ => rfl)
  have hcm : ∀ p, 37 ≤ p → p ≤ 42 → M1 p = C' p := fun p a b => by rw [m4 p (by omega) (by omega) (by omega), o0r p a b]; exact k5 p (by omega) (by omega)
  have hK : q_Frm I (qmx I M1) := by
    intro p k a b c d f g i
    unfold qmx
    cases hb : (Nat.ble 64 p && Nat.blt p 1000) with
    | false => rfl
    | true =>
      cases h93 : Nat.beq p 93 with
      | true => exact absurd (Nat.eq_of_beq_eq_true h93) f
      | false => exact fM p k a b c d f g i
  refine ⟨M1, m0, q_Core_eq h hK ?_, fM, ?_⟩
  · have : q_Ch D N (bt (I 3 11)) (qcr I) (M1 94) := q_Ch_rc hD hN h.ch (fun k hk => by rw [m3 k hk, i93])
    exact this
  · intro I' oI hch
    have fI : q_Frm I I' := fun p k a b c d f g i => by rw [oI p k a]; exact fM p k a b c d f g i
    have hI2 : ∀ p, p ≠ 93 → (va_up I' 93 (fa_fill (I' 94) (I' 93) 65)) p = I' p := fun p hp => va_miss hp
    have f2 : q_Frm I (va_up I' 93 (fa_fill (I' 94) (I' 93) 65)) := fun p k a b c d f g i => by rw [hI2 p f]; exact fI p k a b c d f g i
    have hq : qcr (va_up I' 93 (fa_fill (I' 94) (I' 93) 65)) = qcr C' := by
      funext k
      show qcr I' k = qcr C' k
      unfold qcr
      rw [oI.r 37 (fun _ => rfl), oI.r 38 (fun _ => rfl), oI.r 39 (fun _ => rfl), oI.r 40 (fun _ => rfl), oI.r 41 (fun _ => rfl), oI.r 42 (fun _ => rfl), hcm 37 (by omega) (by omega), hcm 38 (by omega) (by omega), hcm 39 (by omega) (by omega), hcm 40 (by omega) (by omega), hcm 41 (by omega) (by omega), hcm 42 (by omega) (by omega)]
    have h311 : (va_up I' 93 (fa_fill (I' 94) (I' 93) 65)) 3 11 = I 3 11 := f2 3 11 rfl (by omega) (by decide) (by decide) (by decide) (by decide) (by intro c; cases c)
    have hnew : q_Ch D N (bt (I 3 11)) (qcr C') (fa_fill (I' 94) (I' 93) 65) := q_Ch_rc hD hN hch (fun k hk => fa_fill_in hk)
    refine ⟨_, fX12_keepAir I' J e, q_Core_eq h f2 ?_, ?_, f2, hI2 94 (by decide), by rw [hI2 42 (by decide), oI.r 42 (fun _ => rfl), hcm 42 (by omega) (by omega)]⟩
    · rw [h311, hq, va_hit]; exact hnew
    · rw [h311]
      have r44 : ∀ k, (va_up I' 93 (fa_fill (I' 94) (I' 93) 65)) 44 k = I1 44 k := fun k => by rw [hI2 44 (by decide), oI.r 44 (fun _ => rfl), m4 44 (by decide) (by decide) (by decide), o0.r 44 (fun _ => rfl)]
      refine q_Pa_act (I := I) (c := qcr C') hD hN p2 p5 p6 p9 ?_ ?_ ?_ ?_ ?_ ?_ ?_ ?_
      · rw [r44]; exact k1
      · rw [r44]; exact k2
      · rw [r44]; exact k3
      · rw [hI2 45 (by decide), oI.r 45 (fun _ => rfl), m4 45 (by decide) (by decide) (by decide), o0.r 45 (fun _ => rfl), k4, c45]
      · rw [hI2 101 (by decide), oI.r 101 (fun _ => rfl), m1, i101, i93]
      · rw [hI2 64 (by decide), oI.r 64 (fun _ => rfl), m2, va_miss (by decide), va_hit]
      · rw [hI2 64 (by decide), oI.r 64 (fun _ => rfl), m2, va_hit]
      · rw [va_hit]; exact hnew
theorem o_harm (h : q_Core I D N cl RM rc) (hp : q_Pa I D N (bt (I 3 11))) (a : Int32) : q_Act mX11_harm mX12_harm [.int a] I J (3, 17, rb, tx, L) D N cl RM rc := by
  have h10 : ¬ ((1 : Int32) = 0) := by decide
  have h60 := qSN_60 h
  have hN := h.n6
  have hD := h.d4
  obtain ⟨A1, f1, o1, a1, C1⟩ := h.fill J (3, 17, rb, tx, L)
  have oF : ∀ {A B : Nat → Nat → Int32}, q_Off A B → q_Frm A B := fun o p k a _ _ _ _ _ _ => o p k a
  cases hq : q_in a (qSN N RM) with
  | false =>
    refine ⟨-1, I, A1, ?_, ?_, C1, q_Pa_off hp o1, q_Frm_refl _, oF o1⟩
    · rw [bX11_harm, eX11_harm_0, fX0_hasSingle h, hq]
      simp only [Option.bind_some, Option.toList_some, Option.toList_none, List.nil_append, List.cons_append, q_ck_tt, Bool.and_true, Bool.true_and, if_true, if_false, reduceCtorEq]
      rw [eX11_harm_8, if_pos qb_f, eX11_harm_29]
    · rw [bX12_harm, eX12_harm_0, f1]
      simp only [Option.bind_some, Option.toList_some, Option.toList_none, List.nil_append, List.cons_append, q_ck_tt, Bool.and_true, Bool.true_and, if_true, if_false, reduceCtorEq]
      rw [eX12_harm_4, C1.rs.is, hq]
      simp only [Option.bind_some, Option.toList_some, Option.toList_none, List.nil_append, List.cons_append, q_ck_tt, Bool.and_true, Bool.true_and, if_true, if_false, reduceCtorEq]
      rw [eX12_harm_9, if_pos qb_f, eX12_harm_20]
  | true =>
    obtain ⟨s, hs, rfl, -⟩ := q_in_of hq
    have hq1 := C1.fqA a1
    have h42 : A1 42 = I 42 := o1.r 42 (fun _ => rfl)
    rw [h42] at hq1
    cases hba : qba N RM rc (I 42) s with
    | true =>
      refine ⟨-1, I, A1, ?_, ?_, C1, q_Pa_off hp o1, q_Frm_refl _, oF o1⟩
      · rw [bX11_harm, eX11_harm_0, fX0_hasSingle h, hq]
        simp only [Option.bind_some, Option.toList_some, Option.toList_none, List.nil_append, List.cons_append, q_ck_tt, Bool.and_true, Bool.true_and, if_true, if_false, reduceCtorEq]
        rw [eX11_harm_8, qb_t, if_neg h10, eX11_harm_11, fX0_isBarred h hs, hba]
        simp only [Option.bind_some, Option.toList_some, Option.toList_none, List.nil_append, List.cons_append, q_ck_tt, Bool.and_true, Bool.true_and, if_true, if_false, reduceCtorEq]
        rw [eX11_harm_26, qb_t, if_neg h10, eX11_harm_29]
      · rw [bX12_harm, eX12_harm_0, f1]
        simp only [Option.bind_some, Option.toList_some, Option.toList_none, List.nil_append, List.cons_append, q_ck_tt, Bool.and_true, Bool.true_and, if_true, if_false, reduceCtorEq]
        rw [eX12_harm_4, C1.rs.is, hq]
        simp only [Option.bind_some, Option.toList_some, Option.toList_none, List.nil_append, List.cons_append, q_ck_tt, Bool.and_true, Bool.true_and, if_true, if_false, reduceCtorEq]
        rw [eX12_harm_9, qb_t, if_neg h10, eX12_harm_12, fX12_isBarred C1.rs hq1 hs, hba]
        simp only [Option.bind_some, Option.toList_some, Option.toList_none, List.nil_append, List.cons_append, q_ck_tt, Bool.and_true, Bool.true_and, if_true, if_false, reduceCtorEq]
        rw [eX12_harm_17, qb_t, if_neg h10, eX12_harm_20]
    | false =>
      have hC : ∀ p k, q_scr p k = false → (p < 37 ∨ 42 < p) → (va_up I 42 (qTu N RM rc (I 42) s)) p k = I p k := fun p k _ hp => by rw [va_miss (by omega)]
      obtain ⟨I1, k0, g1, g2, hact⟩ := q_actB (J := J) (e := (3, 17, rb, tx, L)) h hp hC
      have i64 : I1 64 = I 64 := funext (fun k => g1 64 k rfl (by omega) (by decide) (by decide))
      have i92 : I1 92 = I 92 := funext (fun k => g1 92 k rfl (by omega) (by decide) (by decide))
      have i93 : I1 93 = I 93 := funext (fun k => g1 93 k rfl (by omega) (by decide) (by decide))
      have i42 : I1 42 = qTu N RM rc (I 42) s := by rw [g2 42 (by decide) (by decide), va_hit]
      have o0 : q_Off I1 (va_up I1 94 (fa_fill (I1 93) (I1 94) 65)) := q_off_fill I1
      have hf0 : mX12_fill [.ref 64] (qm I1 J (3, 17, rb, tx, L)) = some (none, qm (va_up I1 94 (fa_fill (I1 93) (I1 94) 65)) J (3, 17, rb, tx, L)) := fX12_fill I1 J _
      obtain ⟨M1, m0, hK, fM, hfin⟩ := hact _ o0
      have rs0 : q_Rs (va_up I1 94 (fa_fill (I1 93) (I1 94) 65)) D N RM rc := by
        have := h.rs
        unfold q_Rs at this ⊢
        rw [va_miss (by decide), va_miss (by decide), i64, i92]
        exact this
      have q0 : q_FQ D N (bt (I 3 11)) (I 42) ((va_up I1 94 (fa_fill (I1 93) (I1 94) 65)) 94) := q_FQ_row hD hN h.fq (fun k hk => by rw [va_hit, fa_fill_in hk, i93])
      have rs1 : q_Rs M1 D N RM rc := by
        have := h.rs
        unfold q_Rs at this ⊢
        have e51 : M1 64 51 = I 64 51 := fM 64 51 rfl (by omega) (by decide) (by decide) (by decide) (by decide) (fun _ => ⟨by decide, by decide⟩)
        have e57 : M1 64 57 = I 64 57 := fM 64 57 rfl (by omega) (by decide) (by decide) (by decide) (by decide) (fun _ => ⟨by decide, by decide⟩)
        have e92 : M1 92 = I 92 := funext (fun k => fM 92 k rfl (by omega) (by decide) (by decide) (by decide) (by decide) (by intro c; cases c))
        rw [e51, e57, e92]
        exact this
      have q1 : q_FQ D N (bt (I 3 11)) (I 42) (M1 94) := by
        have h1 := q_Ch_fq0 hK.chm
        have : (fun k => qcr I (19 + k)) = I 42 := funext (fun k => qcr_19 I k)
        rw [this] at h1
        exact h1
      have q2 := q_FQ_turn h q1 hs hba
      have ot : q_Off M1 (va_up M1 94 (qTr N RM rc (M1 94) (qth N RM rc (I 42) s) s)) := q_Off_va M1 rfl _
      have hch : q_Ch D N (bt (I 3 11)) (qcr (va_up I 42 (qTu N RM rc (I 42) s))) ((va_up M1 94 (qTr N RM rc (M1 94) (qth N RM rc (I 42) s) s)) 94) := by
        refine q_Ch_fq hD hK.chm (fun k hk => ?_) (fun k hk => ?_) ?_
        · unfold qcr
          rw [va_miss (by decide), va_miss (by decide), va_miss (by decide), va_miss (by decide), va_miss (by decide)]
          have : k < 3 ∨ k < 7 ∨ k < 11 ∨ k < 15 ∨ k < 19 := by omega
          by_cases c1 : k < 3
          · rw [if_pos c1, if_pos c1]
          · rw [if_neg c1, if_neg c1]
            by_cases c2 : k < 7
            · rw [if_pos c2, if_pos c2]
            · rw [if_neg c2, if_neg c2]
              by_cases c3 : k < 11
              · rw [if_pos c3, if_pos c3]
              · rw [if_neg c3, if_neg c3]
                by_cases c4 : k < 15
                · rw [if_pos c4, if_pos c4]
                · rw [if_neg c4, if_neg c4, if_pos hk, if_pos hk]
        · rw [va_hit, qTr_lo hN hk]
        · have : (fun k => qcr (va_up I 42 (qTu N RM rc (I 42) s)) (19 + k)) = qTu N RM rc (I 42) s := funext (fun k => by rw [qcr_19, va_hit])
          rw [this, va_hit]
          exact q2
      obtain ⟨I2, n0, n1, n2, n3, n4, n5⟩ := hfin _ ot hch
      rw [va_hit] at n4 n5
      have q3 : q_FQ D N (bt (I 3 11)) (qTu N RM rc (I 42) s) (I2 94) := by rw [n4]; exact q2
      refine ⟨nI (fb_ct (qth N RM rc (qTu N RM rc (I 42) s)) (qSN N RM)), I1, I2, ?_, ?_, n1, n2, ?_, n3⟩
      · rw [bX11_harm, eX11_harm_0, fX0_hasSingle h, hq]
        simp only [Option.bind_some, Option.toList_some, Option.toList_none, List.nil_append, List.cons_append, q_ck_tt, Bool.and_true, Bool.true_and, if_true, if_false, reduceCtorEq]
        rw [eX11_harm_8, qb_t, if_neg h10, eX11_harm_11, fX0_isBarred h hs, hba]
        simp only [Option.bind_some, Option.toList_some, Option.toList_none, List.nil_append, List.cons_append, q_ck_tt, Bool.and_true, Bool.true_and, if_true, if_false, reduceCtorEq]
        rw [eX11_harm_26, if_pos qb_f, eX11_harm_31, fX0_turnSingle_42 h hs]
        simp only [Option.bind_some, Option.toList_some, Option.toList_none, List.nil_append, List.cons_append, q_ck_tt, Bool.and_true, Bool.true_and, if_true, if_false, reduceCtorEq]
        rw [eX11_harm_46, k0]
        simp only [Option.bind_some, Option.toList_some, Option.toList_none, List.nil_append, List.cons_append, q_ck_tt, Bool.and_true, Bool.true_and, if_true, if_false, reduceCtorEq]
        rw [eX11_harm_57, fX3_count, i42, ← q_cnt h q2]
        simp only [Option.bind_some, Option.toList_some, Option.toList_none, List.nil_append, List.cons_append, q_ck_tt, Bool.and_true, Bool.true_and, if_true, if_false, reduceCtorEq]
        rw [eX11_harm_67]
      · rw [bX12_harm, eX12_harm_0, hf0]
        simp only [Option.bind_some, Option.toList_some, Option.toList_none, List.nil_append, List.cons_append, q_ck_tt, Bool.and_true, Bool.true_and, if_true, if_false, reduceCtorEq]
        rw [eX12_harm_4, rs0.is, hq]
        simp only [Option.bind_some, Option.toList_some, Option.toList_none, List.nil_append, List.cons_append, q_ck_tt, Bool.and_true, Bool.true_and, if_true, if_false, reduceCtorEq]
        rw [eX12_harm_9, qb_t, if_neg h10, eX12_harm_12, fX12_isBarred rs0 q0 hs, hba]
        simp only [Option.bind_some, Option.toList_some, Option.toList_none, List.nil_append, List.cons_append, q_ck_tt, Bool.and_true, Bool.true_and, if_true, if_false, reduceCtorEq]
        rw [eX12_harm_17, if_pos qb_f, eX12_harm_22, m0]
        simp only [Option.bind_some, Option.toList_some, Option.toList_none, List.nil_append, List.cons_append, q_ck_tt, Bool.and_true, Bool.true_and, if_true, if_false, reduceCtorEq]
        rw [eX12_harm_26, fX12_turn rs1 q1 hs]
        simp only [Option.bind_some, Option.toList_some, Option.toList_none, List.nil_append, List.cons_append, q_ck_tt, Bool.and_true, Bool.true_and, if_true, if_false, reduceCtorEq]
        rw [eX12_harm_31, n0]
        simp only [Option.bind_some, Option.toList_some, Option.toList_none, List.nil_append, List.cons_append, q_ck_tt, Bool.and_true, Bool.true_and, if_true, if_false, reduceCtorEq]
        rw [eX12_harm_35, fX12_faultMany n1.rs q3]
        simp only [Option.bind_some, Option.toList_some, Option.toList_none, List.nil_append, List.cons_append, q_ck_tt, Bool.and_true, Bool.true_and, if_true, if_false, reduceCtorEq]
        rw [eX12_harm_39]
      · intro p k a b c d f g i
        exact g1 p k a b c d
theorem o_about (h : q_Core I D N cl RM rc) (hp : q_Pa I D N (bt (I 3 11))) (htp : q_Tp I) (hly : q_Ly I) (htm : q_Tm I) (hnt : q_Nt I N RM rc) (hnz : I 3 14 = I 64 52) (hun : I 14 3 = I 64 21) (a : Int32) : q_Obs mX11_about mX12_about [.int a] I J (3, 17, rb, tx, L) := by
  obtain ⟨⟨s0, s, hs, j0⟩, ⟨z0, ck, hck, j1⟩, ⟨d0, sd, hsd, j2⟩, -⟩ := h.ch
  have i0 : I 37 0 = nI s := by rw [← j0]; exact s0
  have i1 : I 37 1 = nI ck := by rw [← j1]; exact z0
  have i2 : I 37 2 = nI sd := by rw [← j2]; exact d0
  obtain ⟨old, dn, kp, -, -, p3, p4, p5, p6, p7, p8, -⟩ := hp
  obtain ⟨u, hu, u1, u2, -⟩ := htp
  obtain ⟨y, hy, y1, y2, -⟩ := hly
  obtain ⟨t, ht, t1, t2⟩ := htm
  obtain ⟨c, hc, n1, n2, -⟩ := hnt
  by_cases c0 : a = 0
  · subst c0
    refine ⟨nI D, I, I, ?_, ?_, q_Off_refl _, q_Off_refl _⟩
    · rw [bX11_about, eX11_about_0]
      simp +decide only [if_true, if_false]
      rw [eX11_about_72, h.i30]
    · rw [bX12_about, eX12_about_0]
      simp +decide only [if_true, if_false]
      rw [eX12_about_72, h.m50]
  by_cases c1 : a = 1
  · subst c1
    refine ⟨nI N, I, I, ?_, ?_, q_Off_refl _, q_Off_refl _⟩
    · rw [bX11_about, eX11_about_0]
      simp +decide only [if_true, if_false]
      rw [eX11_about_80, h.i35]
    · rw [bX12_about, eX12_about_0]
      simp +decide only [if_true, if_false]
      rw [eX12_about_77, h.m51]
  by_cases c3 : a = 3
  · subst c3
    refine ⟨nI s, I, I, ?_, ?_, q_Off_refl _, q_Off_refl _⟩
    · rw [bX11_about, eX11_about_0]
      simp +decide only [if_true, if_false]
      rw [eX11_about_99, i0]
    · rw [bX12_about, eX12_about_0]
      simp +decide only [if_true, if_false]
      rw [eX12_about_87, j0]
  by_cases c4 : a = 4
  · subst c4
    refine ⟨nI ck, I, I, ?_, ?_, q_Off_refl _, q_Off_refl _⟩
    · rw [bX11_about, eX11_about_0]
      simp +decide only [if_true, if_false]
      rw [eX11_about_107, i1]
    · rw [bX12_about, eX12_about_0]
      simp +decide only [if_true, if_false]
      rw [eX12_about_94, j1]
  by_cases c5 : a = 5
  · subst c5
    refine ⟨nI sd, I, I, ?_, ?_, q_Off_refl _, q_Off_refl _⟩
    · rw [bX11_about, eX11_about_0]
      simp +decide only [if_true, if_false]
      rw [eX11_about_115, i2]
    · rw [bX12_about, eX12_about_0]
      simp +decide only [if_true, if_false]
      rw [eX12_about_101, j2]
  by_cases c8 : a = 8
  · subst c8
    refine ⟨nI c, I, I, ?_, ?_, q_Off_refl _, q_Off_refl _⟩
    · rw [bX11_about, eX11_about_0]
      simp +decide only [if_true, if_false]
      rw [eX11_about_139, n1]
    · rw [bX12_about, eX12_about_0]
      simp +decide only [if_true, if_false]
      rw [eX12_about_118, n2]
  by_cases c9 : a = 9
  · subst c9
    refine ⟨nI t, I, I, ?_, ?_, q_Off_refl _, q_Off_refl _⟩
    · rw [bX11_about, eX11_about_0]
      simp +decide only [if_true, if_false]
      rw [eX11_about_147, t1]
    · rw [bX12_about, eX12_about_0]
      simp +decide only [if_true, if_false]
      rw [eX12_about_123, t2]
  by_cases c10 : a = 10
  · subst c10
    refine ⟨nI u, I, I, ?_, ?_, q_Off_refl _, q_Off_refl _⟩
    · rw [bX11_about, eX11_about_0]
      simp +decide only [if_true, if_false]
      rw [eX11_about_152, u1]
    · rw [bX12_about, eX12_about_0]
      simp +decide only [if_true, if_false]
      rw [eX12_about_128, u2]
  by_cases c11 : a = 11
  · subst c11
    refine ⟨I 64 21, I, I, ?_, ?_, q_Off_refl _, q_Off_refl _⟩
    · rw [bX11_about, eX11_about_0]
      simp +decide only [if_true, if_false]
      rw [eX11_about_157, hun]
    · rw [bX12_about, eX12_about_0]
      simp +decide only [if_true, if_false]
      rw [eX12_about_133]
  by_cases c12 : a = 12
  · subst c12
    refine ⟨nI y, I, I, ?_, ?_, q_Off_refl _, q_Off_refl _⟩
    · rw [bX11_about, eX11_about_0]
      simp +decide only [if_true, if_false]
      rw [eX11_about_168, y1]
    · rw [bX12_about, eX12_about_0]
      simp +decide only [if_true, if_false]
      rw [eX12_about_138, y2]
  by_cases c13 : a = 13
  · subst c13
    refine ⟨I 64 52, I, I, ?_, ?_, q_Off_refl _, q_Off_refl _⟩
    · rw [bX11_about, eX11_about_0]
      simp +decide only [if_true, if_false]
      rw [eX11_about_173, hnz]
    · rw [bX12_about, eX12_about_0]
      simp +decide only [if_true, if_false]
      rw [eX12_about_143]
  by_cases c2 : a = 2
  · subst c2
    obtain ⟨I1, f1, o1, a1, C1⟩ := h.fill J (3, 17, rb, tx, L)
    have hq1 := C1.fqA a1
    have h42 : I1 42 = I 42 := o1.r 42 (fun _ => rfl)
    rw [h42] at hq1
    refine ⟨nI (fb_ct (qth N RM rc (I 42)) (qSN N RM)), I, I1, ?_, ?_, q_Off_refl _, o1⟩
    · rw [bX11_about, eX11_about_0]
      simp +decide only [if_true, if_false]
      rw [eX11_about_88, fX3_count, ← q_cnt C1 hq1]
      simp only [Option.bind_some, Option.toList_some, Option.toList_none, List.nil_append, List.cons_append, q_ck_tt, Bool.and_true, Bool.true_and, if_true, if_false, reduceCtorEq]
      rw [eX11_about_98]
    · rw [bX12_about, eX12_about_0]
      simp +decide only [if_true, if_false]
      rw [eX12_about_82, bX12_faultsNow, eX12_faultsNow_0, f1]
      simp only [Option.bind_some, Option.toList_some, Option.toList_none, List.nil_append, List.cons_append, q_ck_tt, Bool.and_true, Bool.true_and, if_true, if_false, reduceCtorEq]
      rw [eX12_faultsNow_4, fX12_faultMany C1.rs hq1]
      simp only [Option.bind_some, Option.toList_some, Option.toList_none, List.nil_append, List.cons_append, q_ck_tt, Bool.and_true, Bool.true_and, if_true, if_false, reduceCtorEq]
      rw [eX12_faultsNow_8]
      simp only [Option.bind_some, Option.toList_some, Option.toList_none, List.nil_append, List.cons_append, q_ck_tt, Bool.and_true, Bool.true_and, if_true, if_false, reduceCtorEq]
      rw [eX12_about_86]
  by_cases c6 : a = 6
  · subst c6
    refine ⟨nI dn, I, I, ?_, ?_, q_Off_refl _, q_Off_refl _⟩
    · rw [bX11_about, eX11_about_0]
      simp +decide only [if_true, if_false]
      rw [eX11_about_123, bX8_undoable, eX8_undoable_0, p3]
      simp only [Option.bind_some, Option.toList_some, Option.toList_none, List.nil_append, List.cons_append, q_ck_tt, Bool.and_true, Bool.true_and, if_true, if_false, reduceCtorEq]
      rw [eX11_about_130]
    · rw [bX12_about, eX12_about_0]
      simp +decide only [if_true, if_false]
      rw [eX12_about_108, p7]
  by_cases c7 : a = 7
  · subst c7
    refine ⟨nI (kp - dn), I, I, ?_, ?_, q_Off_refl _, q_Off_refl _⟩
    · rw [bX11_about, eX11_about_0]
      simp +decide only [if_true, if_false]
      rw [eX11_about_131, bX8_redoable, eX8_redoable_0, p3, p4, nI_sb p5]
      simp only [Option.bind_some, Option.toList_some, Option.toList_none, List.nil_append, List.cons_append, q_ck_tt, Bool.and_true, Bool.true_and, if_true, if_false, reduceCtorEq]
      rw [eX11_about_138]
    · rw [bX12_about, eX12_about_0]
      simp +decide only [if_true, if_false]
      rw [eX12_about_113, p8]
  refine ⟨-1, I, I, ?_, ?_, q_Off_refl _, q_Off_refl _⟩
  · rw [bX11_about, eX11_about_0, if_neg c0, if_neg c1, if_neg c2, if_neg c3, if_neg c4, if_neg c5, if_neg c6, if_neg c7, if_neg c8, if_neg c9, if_neg c10, if_neg c11, if_neg c12, if_neg c13, eX11_about_181]
  · rw [bX12_about, eX12_about_0, if_neg c0, if_neg c1, if_neg c2, if_neg c3, if_neg c4, if_neg c5, if_neg c6, if_neg c7, if_neg c8, if_neg c9, if_neg c10, if_neg c11, if_neg c12, if_neg c13, eX12_about_148]
end SH
