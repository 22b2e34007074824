/-! ===== lines: open cells ===== -/
theorem fX0_isReceiver17 {I : Nat → Nat → Int32} {J : Nat → Nat → Int64} {e : QP} {x : Nat} (hx : x < 32) : mX0_isReceiver [.ref 17, .int (nI x)] (qm I J e) = some (some (.int (qb (bt (I 17 11) x))), qm I J e) := by
  simp only [bX0_isReceiver_17, eX0_isReceiver_17_0, eX0_isReceiver_17_15, eX0_isReceiver_17_11, eX0_isReceiver_17_16, b_tst0 _ hx]
  cases bt (I 17 11) x <;> simp [q_ck, qb]
theorem q_op74_f {R : Nat → Nat → Int32} {K : Nat → Nat → Int64} {e : QP} (hf : (0 : Int32) < R 64 2) (a b : Int32) : kX12_readOpen 74 [some (.ref 64), none, some (.int a), some (.int b)] [] (qm R K e) = some (none, qm R K e) := by
  rw [eX12_readOpen_74, if_pos hf, eX12_readOpen_81]
theorem q_op44_f {R : Nat → Nat → Int32} {K : Nat → Nat → Int64} {e : QP} (hf : (0 : Int32) < R 64 2) (x a b : Int32) : kX12_readOpen 44 [some (.ref 64), some (.int x), some (.int a), some (.int b)] [] (qm R K e) = some (none, qm R K e) := by
  rw [eX12_readOpen_44, if_neg (q_pos_ne hf), q_op74_f hf]
theorem q_open : q_Line mX9_openLine mX12_readOpen := by
  intro v n s L C J R K e D N cl h h2 hB _
  obtain ⟨C1, J1, R1, K1, s1, e1, e2, e3, e4, e5⟩ := q_adv (L := L) (e := e) h (by rw [h2]; decide) (by rw [h2]; decide)
  obtain ⟨hB6, n1, n2⟩ := q_BR_ad hB e3
  have hD : D ≤ 4 := hB6.1.1.2.2
  have hc0 : mX9_openLine [.ref 31] (qm C J (3, 17, 17, 2, L)) = (mX9_atCell [.ref 31] (qm C1 J1 (3, 17, 17, 2, L))).bind (fun r => kX9_openLine 8 [some (.ref 31), none] (r.1.toList ++ []) r.2) := by
    rw [bX9_openLine, eX9_openLine_0, e1]
    simp only [Option.bind_some, Option.toList_some, Option.toList_none, List.nil_append, List.cons_append, q_ck_tt, Bool.and_true, Bool.true_and, if_true, if_false, reduceCtorEq]
    rw [eX9_openLine_4]
  have hr0 : mX12_readOpen [.ref 64] (qm R K e) = (mX12_readCell [.ref 64] (qm R1 K1 e)).bind (fun r => kX12_readOpen 8 [some (.ref 64), none, none, none] (r.1.toList ++ []) r.2) := by
    rw [bX12_readOpen, eX12_readOpen_0, e2]
    simp only [Option.bind_some, Option.toList_some, Option.toList_none, List.nil_append, List.cons_append, q_ck_tt, Bool.and_true, Bool.true_and, if_true, if_false, reduceCtorEq]
    rw [eX12_readOpen_4]
  refine q_Res.mono ?_ e3.gf (Nat.le_of_lt e4)
  rcases q_celq (L := L) (e := e) e5 hB6.1 n1 with ⟨x, C2, J2, R2, K2, s2, x1, x2, a1, a2, a3, a4, a5, a6⟩ | ⟨C', J', R', K', a1, a2, a3, a4⟩
  · have hx : x < 24 := by omega
    have hB62 := q_B6_ad hB6 a3
    have n12 := q_Nm_ad n1 (by decide) a3
    have n22 := q_Nm_ad n2 (by decide) a3
    obtain ⟨hF, hop, hok⟩ := hB62.2.2.2.1
    obtain ⟨rc1, rc2, rc3, rc4, rc5⟩ := hB62.2.1
    obtain ⟨dv, md⟩ := q_d6 x hx
    have hbt : bt (C2 27 2) x = bt (R2 81 (x / 6)) (x % 6) := by rw [(hop x (by omega)).1, decide_eq_true x1, Bool.true_and]
    have hc1 : mX9_openLine [.ref 31] (qm C J (3, 17, 17, 2, L)) = if bt (C2 27 2) x = false then kX9_openLine 39 [some (.ref 31), some (.int (nI x))] [] (qm C2 J2 (3, 17, 17, 2, L)) else kX9_openLine 33 [some (.ref 31), none] [] (qm C2 J2 (3, 17, 17, 2, L)) := by
      rw [hc0, a1]
      simp only [Option.bind_some, Option.toList_some, Option.toList_none, List.nil_append, List.cons_append, q_ck_tt, Bool.and_true, Bool.true_and, if_true, if_false, reduceCtorEq]
      rw [eX9_openLine_8, if_neg (nI_ne_m1 (by omega)), eX9_openLine_16, b_tst _ (by omega)]
      cases bt (C2 27 2) x <;> rfl
    have hr1 : mX12_readOpen [.ref 64] (qm R K e) = kX12_readOpen 36 [some (.ref 64), some (.int (nI x)), some (.int (nI (x / 6))), some (.int (nI (x % 6)))] [.int (qb (bt (C2 27 2) x))] (qm R2 K2 e) := by
      rw [hr0, a2]
      simp only [Option.bind_some, Option.toList_some, Option.toList_none, List.nil_append, List.cons_append, q_ck_tt, Bool.and_true, Bool.true_and, if_true, if_false, reduceCtorEq]
      rw [eX12_readOpen_8, if_pos a5.ok, dv, md, eX12_readOpen_26, q_in_nI (by omega) (by omega), nI_n (by omega), Bool.true_and, q_ck_tt, fX12_has _ _ _ _ (show x % 6 < 32 by omega), ← hbt]
      simp only [Option.bind_some, Option.toList_some, Option.toList_none, List.nil_append, List.cons_append, q_ck_tt, Bool.and_true, Bool.true_and, if_true, if_false, reduceCtorEq]
    refine q_Res.mono ?_ a3.gf (Nat.le_of_lt a4)
    cases hb : bt (C2 27 2) x with
    | true =>
      rw [hb, if_neg (by decide)] at hc1
      rw [hb, eX12_readOpen_36, if_neg (by decide)] at hr1
      obtain ⟨C', R', b1, b2, b3, b4, _, _⟩ := q_refw L e a5 3 (by decide)
      refine Or.inr ⟨C', J2, R', K2, ?_, ?_, b4.1, b3⟩
      · rw [hc1, eX9_openLine_33, b1]
        simp only [Option.bind_some, Option.toList_some, Option.toList_none, List.nil_append, List.cons_append, q_ck_tt, Bool.and_true, Bool.true_and, if_true, if_false, reduceCtorEq]
        rw [eX9_openLine_38]
        rfl
      · rw [hr1, eX12_readOpen_39, b2]
        simp only [Option.bind_some, Option.toList_some, Option.toList_none, List.nil_append, List.cons_append, q_ck_tt, Bool.and_true, Bool.true_and, if_true, if_false, reduceCtorEq]
        exact q_op44_f b3.2.1 _ _ _
    | false =>
      rw [hb, if_pos rfl, eX9_openLine_39, fX0_isReceiver17 (by omega)] at hc1
      simp only [Option.bind_some, Option.toList_some, Option.toList_none, List.nil_append, List.cons_append, q_ck_tt, Bool.and_true, Bool.true_and, if_true, if_false, reduceCtorEq] at hc1
      rw [hb, eX12_readOpen_36, if_pos (by rfl), eX12_readOpen_44, if_pos a5.ok, eX12_readOpen_51, q_in_nI (by omega) (by omega), nI_n (by omega), Bool.true_and, q_ck_tt, rc2 x x1] at hr1
      have hbad : bt (C2 17 11) x = false → mX12_readOpen [.ref 64] (qm R K e) = kX12_readOpen 69 [some (.ref 64), none, some (.int (nI (x / 6))), some (.int (nI (x % 6)))] [] (qm R2 K2 e) → q_Res v n s2 L e C2 J2 R2 K2 (mX9_openLine [.ref 31] (qm C J (3, 17, 17, 2, L))) (mX12_readOpen [.ref 64] (qm R K e)) := by
        intro hz hy
        rw [hz, eX9_openLine_47, if_pos (by rfl)] at hc1
        obtain ⟨C', R', b1, b2, b3, b4, _, _⟩ := q_refw L e a5 5 (by decide)
        refine Or.inr ⟨C', J2, R', K2, ?_, ?_, b4.1, b3⟩
        · rw [hc1, eX9_openLine_50, b1]
          simp only [Option.bind_some, Option.toList_some, Option.toList_none, List.nil_append, List.cons_append, q_ck_tt, Bool.and_true, Bool.true_and, if_true, if_false, reduceCtorEq]
          rw [eX9_openLine_55]
          rfl
        · rw [hy, eX12_readOpen_69, b2]
          simp only [Option.bind_some, Option.toList_some, Option.toList_none, List.nil_append, List.cons_append, q_ck_tt, Bool.and_true, Bool.true_and, if_true, if_false, reduceCtorEq]
          exact q_op74_f b3.2.1 _ _
      have h11 := rc4 x (by omega)
      rw [decide_eq_true hx, Bool.true_and] at h11
      by_cases hm : C2 26 x = -1
      · rw [hm, if_pos (by decide)] at hr1
        exact hbad (by rw [h11, hm]; rfl) hr1
      · obtain ⟨-, -, h78⟩ := (rc1 x hx).2 hm
        have hnn : ¬ C2 26 x < 0 := by
          rcases (rc1 x hx).1 with g | ⟨k, k1, k2⟩
          · exact absurd g hm
          · rw [k2]; exact nI_pos (by have := hB62.1.2.1.2.2; omega)
        rw [if_neg hnn, eX12_readOpen_60, q_in_nI (by omega) (by omega), nI_n (by omega), Bool.true_and, q_ck_tt] at hr1
        rcases h78 with h78 | h78
        · rw [h78, if_pos rfl] at hr1
          exact hbad (by rw [h11, h78]; simp) hr1
        · rw [h78, if_neg (by decide), eX12_readOpen_74, a5.ok, if_neg (by decide)] at hr1
          rw [h78, decide_eq_false hm] at h11
          rw [h11, show (!false && decide ((1 : Int32) = 1)) = true from rfl, eX9_openLine_47, if_neg (by decide)] at hc1
          generalize hCx : q_up C2 27 2 (C2 27 2 ||| ((1 : Int32) <<< (nI x &&& 31))) = Cx
          generalize hRx : q_up R2 81 (x / 6) (R2 81 (x / 6) ||| ((1 : Int32) <<< (nI (x % 6) &&& 31))) = Rx
          have cxo : ∀ p, p ≠ 27 → Cx p = C2 p := fun p y => by rw [← hCx, q_up_at3 _ _ y]
          have cx27 : ∀ k, k ≠ 2 → Cx 27 k = C2 27 k := fun k y => by rw [← hCx, q_up_at2 _ _ y]
          have rxo : ∀ p, p ≠ 81 → Rx p = R2 p := fun p y => by rw [← hRx, q_up_at3 _ _ y]
          have hpx : q_Pt v n Cx J2 Rx K2 s2 := q_Pt_eq a5 (cxo 2 (by decide)) (fun k _ _ => by rw [cxo 31 (by decide)]) rfl rfl (rxo 65 (by decide)) (fun k _ _ _ => by rw [rxo 64 (by decide)]) rfl
          obtain ⟨C4, J4, R4, K4, s4, k1, k2, k3, k4, k5⟩ := q_adv (L := L) (e := e) hpx (by rw [cxo 31 (by decide), a6]; decide) (by rw [cxo 31 (by decide), a6]; decide)
          have hBx : q_B6 Cx Rx D N cl := by
            refine q_B6_f hB62 (cxo 17 (by decide)) (fun q _ _ x3 => cxo q x3) (fun d _ => ⟨by rw [cxo 19 (by decide)], by rw [cxo 20 (by decide)], by rw [cxo 21 (by decide)]⟩) (fun k _ _ => by rw [cxo 31 (by decide)]) (fun q _ _ => rxo q (by omega)) (fun d _ => ⟨by rw [rxo 74 (by decide)], by rw [rxo 75 (by decide)], by rw [rxo 76 (by decide)]⟩) ⟨rxo 67 (by decide), rxo 68 (by decide)⟩ (fun k _ => by rw [rxo 64 (by decide)]) ⟨?_, ?_, ?_⟩
            · obtain ⟨f1, f2, f3, f4⟩ := hF
              refine ⟨fun k hk => ?_, fun k hk => ?_, fun p hp => ?_, fun k hk => ?_⟩
              · rw [cx27 0 (by decide), cx27 1 (by decide), qrd_19 _ _ _ (by have := hB62.1.2.1.2.2; omega), rxo 80 (by decide), ← qrd_19 R2 N k (by have := hB62.1.2.1.2.2; omega)]
                exact f1 k hk
              · rw [cx27 0 (by decide), cx27 1 (by decide)]; exact f2 k hk
              · rw [cx27 3 (by decide), cx27 4 (by decide), qrd_29, rxo 82 (by decide), ← qrd_29 R2 N]
                exact f3 p hp
              · rw [cx27 3 (by decide), cx27 4 (by decide)]; exact f4 k hk
            · intro y hy
              have h27 : Cx 27 2 = C2 27 2 ||| ((1 : Int32) <<< (nI x &&& 31)) := by rw [← hCx, q_up_at1]
              rw [h27, b_or, b_bit (by omega), cxo 17 (by decide)]
              constructor
              · rw [(hop y hy).1]
                by_cases hyx : y / 6 = x / 6
                · rw [← hRx, hyx, q_up_at1, b_or, b_bit (by omega)]
                  by_cases hy6 : y < 6 * D
                  · rw [decide_eq_true hy6, Bool.true_and, Bool.true_and, show (decide (y = x)) = decide (y % 6 = x % 6) from decide_eq_decide.mpr (by omega)]
                  · rw [decide_eq_false hy6, Bool.false_and, Bool.false_and, decide_eq_false (show ¬ y = x by omega)]; rfl
                · rw [← hRx, q_up_at2 _ _ hyx, decide_eq_false (show ¬ y = x by omega), Bool.or_false]
              · intro hyb
                cases hq : bt (C2 27 2) y with
                | true => exact (hop y hy).2 hq
                | false =>
                  rw [hq, Bool.false_or] at hyb
                  rw [of_decide_eq_true hyb, rc4 x (by omega), decide_eq_true hx, Bool.true_and, decide_eq_false hm, h78]; rfl
            · intro d hd
              obtain ⟨k, hk, hk2⟩ := hok d hd
              by_cases hdx : d = x / 6
              · subst hdx
                rw [← hRx, q_up_at1]
                refine q_of_bits (m := 6) (by omega) (fun i h6 h32 => ?_)
                rw [b_or, b_bit (by omega), hk2, decide_eq_false (show ¬ i = x % 6 by omega), Bool.or_false]
                exact nI_bits (n := 6) (by omega) (by omega) i h6
              · rw [← hRx, q_up_at2 _ _ hdx]; exact ⟨k, hk, hk2⟩
          refine Or.inl ⟨C4, J4, R4, K4, D, N, cl, s4, ?_, ?_, ?_, k4, k5, q_BR_ad ⟨hBx, n12, n22⟩ k3⟩
          · rw [hc1, eX9_openLine_56, hCx, k1]
            simp only [Option.bind_some, Option.toList_some, Option.toList_none, List.nil_append, List.cons_append, q_ck_tt, Bool.and_true, Bool.true_and, if_true, if_false, reduceCtorEq]
            rw [eX9_openLine_78]
          · rw [hr1, eX12_readOpen_82, q_in_nI (by omega) (by omega), nI_n (by omega)]
            simp only [Option.bind_some, Option.toList_some, Option.toList_none, List.nil_append, List.cons_append, q_ck_tt, Bool.and_true, Bool.true_and, if_true, if_false, reduceCtorEq]
            rw [hRx, k2]
            simp only [Option.bind_some, Option.toList_some, Option.toList_none, List.nil_append, List.cons_append, q_ck_tt, Bool.and_true, Bool.true_and, if_true, if_false, reduceCtorEq]
            rw [eX12_readOpen_98]
          · refine q_Gf_trans ?_ k3.gf
            rw [← hRx, ← hCx]
            exact q_Gf_R rfl (q_Gf_C (by omega) (q_Gf_refl C2 J2 R2 K2))
  · refine Or.inr ⟨C', J', R', K', ?_, ?_, a4.1, a3⟩
    · rw [hc0, a1]
      simp only [Option.bind_some, Option.toList_some, Option.toList_none, List.nil_append, List.cons_append, q_ck_tt, Bool.and_true, Bool.true_and, if_true, if_false, reduceCtorEq]
      rw [eX9_openLine_8, if_pos rfl, eX9_openLine_14]
    · rw [hr0, a2]
      simp only [Option.bind_some, Option.toList_some, Option.toList_none, List.nil_append, List.cons_append, q_ck_tt, Bool.and_true, Bool.true_and, if_true, if_false, reduceCtorEq]
      rw [eX12_readOpen_8, if_neg (q_pos_ne a3.2.1)]
      exact q_op44_f a3.2.1 _ _ _
