/-! ===== board(), of both ===== -/
theorem q_qm_inj {C C' : Nat → Nat → Int32} {J J' : Nat → Nat → Int64} {e : QP} (h : qm C J e = qm C' J' e) : C = C' ∧ J = J' := ⟨congrArg (fun M : QM => M.1) h, congrArg (fun M : QM => M.2.1) h⟩
theorem q_some_inj {x x' : Int32} {M M' : QM} (h : (some (some (Value.int x), M) : Option QR) = some (some (Value.int x'), M')) : x = x' ∧ M = M' := by
  injection h with h
  injection h with h1 h2
  injection h1 with h1
  injection h1 with h1
  exact ⟨h1, h2⟩
theorem c_board : q_Call (q_Q q_Ky) mX11_board mX12_board [] := by
  intro I J rb tx L hQ
  obtain ⟨hKy, D0, N0, cl0, RM0, rc0, hcore, hpa, hbx, htp, hft, hly, htm, hnd, hun, hnt, hlb, hfr⟩ := hQ
  obtain ⟨t, ht, t1, t2, t3⟩ := htp
  have hv : ∀ k, k < t → (I 65 k).toNatClampNeg < 256 ∧ I 2 k = qby (I 65 k).toNatClampNeg ∧ I 65 k = nI (I 65 k).toNatClampNeg := by
    intro k hk
    obtain ⟨w, w1, w2, w3⟩ := q_by_of (t3 k hk).2
    have hw : I 65 k = nI w := (t3 k hk).1.trans w3
    have hc : (I 65 k).toNatClampNeg = w := by rw [hw, nI_n (by omega)]
    rw [hc]
    exact ⟨w1, w2, hw⟩
  have hrd : ∀ (R : Nat → Nat → Int32) (K : Nat → Nat → Int64) (e : QP), R 64 1 = nI t → R 65 = I 65 → ∃ (x : Int32) (C' : Nat → Nat → Int32) (J' : Nat → Nat → Int64) (R' : Nat → Nat → Int32) (K' : Nat → Nat → Int64), mX9_readBoard [.ref 31, .ref 2, .int (nI t), .ref 17] (qm I J (3, 17, rb, tx, L)) = some (some (.int x), qm C' J' (3, 17, 17, 2, L)) ∧ mX12_readAll [.ref 64] (qm R K e) = some (none, qm R' K' e) ∧ (∀ p, (p < 17 ∨ 31 < p) → C' p = I p ∧ J' p = J p) ∧ (∀ p k, q_scR p k = false → ¬ (p = 64 ∧ k = 1) → ¬ (p = 64 ∧ k = 5) → R' p k = R p k) ∧ (∀ p, p ≠ 64 → p ≠ 66 → K' p = K p) ∧ R' 64 1 = 0 ∧ ((x = 0 ∧ R' 64 2 = 0 ∧ ∃ D N cl, q_BR C' J' R' K' D N cl) ∨ (x = C' 31 12 ∧ q_Fl C' R')) := by
    intro R K e h1 h65
    exact q_readT (v := fun k => (I 65 k).toNatClampNeg) ht (fun k hk => ⟨(hv k hk).1, (hv k hk).2.1⟩) hKy hcore.st h1 (fun k hk => by rw [h65]; exact (hv k hk).2.2)
  obtain ⟨x, C, J1, R0, K0, a1, -, a3, -, -, -, a7⟩ := hrd I J (3, 17, 17, 2, L) t2 rfl
  have hc0 : mX11_board [.ref 1] (qm I J (3, 17, rb, tx, L)) = kX11_board 20 [some (.ref 1), none] [.int x, .ref 1] (qm C J1 (3, 17, 17, 2, L)) := by
    rw [bX11_board, eX11_board_0, t1, a1]
    simp only [Option.bind_some, Option.toList_some, Option.toList_none, List.nil_append, List.cons_append, q_ck_tt, Bool.and_true, Bool.true_and, if_true, if_false, reduceCtorEq]
  have c64 : C 64 1 = nI t := by rw [(a3 64 (by omega)).1]; exact t2
  have c65 : C 65 = I 65 := (a3 65 (by omega)).1
  by_cases hx : x = 0
  · -- a board that is told rightly
    subst hx
    have hBR : ∃ D N cl, q_BR C J1 R0 K0 D N cl := by
      rcases a7 with ⟨-, -, h⟩ | ⟨h, h2⟩
      · exact h
      · have h3 : R0 64 2 = 0 := h2.1.symm.trans h.symm
        have h4 := h2.2.1
        rw [h3] at h4
        exact absurd h4 (by decide)
    generalize hCs : q_up (q_up (q_up C 1 13 0) 1 14 (-1)) 1 1 0 = Cs
    have cso : ∀ p, p ≠ 1 → Cs p = C p := fun p y => by rw [← hCs, q_up_at3 _ _ y, q_up_at3 _ _ y, q_up_at3 _ _ y]
    have hc1 : mX11_board [.ref 1] (qm I J (3, 17, rb, tx, L)) = kX11_board 77 [some (.ref 1), some (.ref 3)] [] (qm Cs J1 (17, 3, 17, 2, L)) := by
      rw [hc0, eX11_board_20, if_pos rfl, eX11_board_31, eX11_board_42, q_up_at1, if_pos rfl, hCs, eX11_board_59, eX11_board_72]
    obtain ⟨D, N, cl, hB0⟩ := hBR
    obtain ⟨I1, b1, b2, b3, b4, b5, b6, b7, b8, b9, b10, b11, b12⟩ := q_tailC (I := Cs) (J := J1) (L := L) (D := D) (by rw [cso 17 (by decide)]; exact hB0.1.1.1.1) hB0.1.1.1.2.2 (fun d hd => by
      rw [cso 20 (by decide)]
      have h := hB0.1.1.2.2 d hd
      rw [h.2.1]
      exact h.2.2.2.2.2.2)
    have i1o : ∀ p, p ≠ 1 → (p < 17 ∨ 31 < p) → (p < 37 ∨ 42 < p) → p ≠ 44 → p ≠ 45 → p ≠ 47 → p ≠ 52 → p ≠ 56 → I1 p = I p := fun p a c d f g i j k => by rw [b2 p a d f g i j k, cso p a, (a3 p c).1]
    have i1c : ∀ p, 17 ≤ p → p ≤ 31 → I1 p = C p := fun p a c => by rw [b2 p (by omega) (by omega) (by omega) (by omega) (by omega) (by omega) (by omega), cso p (by omega)]
    have h64 : I1 64 = I 64 := i1o 64 (by decide) (by omega) (by omega) (by decide) (by decide) (by decide) (by decide) (by decide)
    obtain ⟨x2, C2, J2, R2, K2, d1, d2, d3, d4, d5, d6, d7⟩ := hrd I1 J1 (17, 3, 17, 2, L) (by rw [h64]; exact t2) (i1o 65 (by decide) (by omega) (by omega) (by decide) (by decide) (by decide) (by decide) (by decide))
    obtain ⟨hx2, hM⟩ := q_some_inj (a1.symm.trans d1)
    obtain ⟨hC, hJ⟩ := q_qm_inj hM
    subst hx2
    subst hC
    subst hJ
    have hgood : R2 64 2 = 0 ∧ ∃ D N cl, q_BR C J1 R2 K2 D N cl := by
      rcases d7 with ⟨-, h, h2⟩ | ⟨h, h2⟩
      · exact ⟨h, h2⟩
      · have : R2 64 2 = 0 := h2.1.symm.trans h.symm
        have h3 := h2.2.1
        rw [this] at h3
        exact absurd h3 (by decide)
    obtain ⟨g2, D', N', cl', hB⟩ := hgood
    have hDD : D' = D := by
      have h1 := hB.1.1.1.1
      have h2 := hB0.1.1.1.1
      exact nI_inj (by have := hB.1.1.1.2.2; omega) (by have := hB0.1.1.1.2.2; omega) (h1.symm.trans h2)
    subst hDD
    obtain ⟨R3, z, rc, e1, e2, e3, e4, e5, e6, e7, e8, e9, e10, e11, e12, e13, e14, e15⟩ := q_tailR (17, 3, 17, 2, L) hB g2
    have r3o : ∀ p, p < 64 → R3 p = I1 p := fun p hp => by
      rw [e2 p (by omega) (by omega) (by omega) (by omega) (by omega)]
      funext k
      exact d4 p k (by
        unfold q_scR
        have q1 : ∀ q, p ≠ q → Nat.beq p q = false := fun q y => by
          cases hq : Nat.beq p q with
          | false => rfl
          | true => exact absurd (Nat.eq_of_beq_eq_true hq) y
        have q2 : Nat.ble 74 p = false := by
          cases hq : Nat.ble 74 p with
          | false => rfl
          | true => have := Nat.le_of_ble_eq_true hq; omega
        rw [q1 67 (by omega), q1 68 (by omega), q1 71 (by omega), q2, q1 64 (by omega)]
        rfl) (by omega) (by omega)
    have r364 : ∀ k, k ≠ 18 → k ≠ 21 → k ≠ 25 → k ≠ 50 → k ≠ 51 → k ≠ 52 → k ≠ 53 → k ≠ 57 → k ≠ 62 → k ≠ 68 → k ≠ 69 → k ≠ 79 → k ≠ 1 → k ≠ 5 → q_scR 64 k = false → R3 64 k = I 64 k := fun k x1 x2 x3 x4 x5 x6 x7 x8 x9 x10 x11 x12 x13 x14 x15 => by
      rw [e3 k x1 x2 x3 x4 x5 x6 x7 x8 x9 x10 x11 x12, d4 64 k x15 (by omega) (by omega), h64]
    have rbig : ∀ p, (94 < p ∧ p ≠ 112) → R3 p = I p := fun p hp => by
      rw [e2 p (by omega) (by omega) (by omega) (by omega) (by omega), ← i1o p (by omega) (by omega) (by omega) (by omega) (by omega) (by omega) (by omega) (by omega)]
      funext k
      exact d4 p k (by
        unfold q_scR
        have q1 : ∀ q, p ≠ q → Nat.beq p q = false := fun q y => by
          cases hq : Nat.beq p q with
          | false => rfl
          | true => exact absurd (Nat.eq_of_beq_eq_true hq) y
        have q2 : Nat.ble p 82 = false := by
          cases hq : Nat.ble p 82 with
          | false => rfl
          | true => have := Nat.le_of_ble_eq_true hq; omega
        rw [q1 67 (by omega), q1 68 (by omega), q1 71 (by omega), q2, q1 64 (by omega), Bool.and_false]
        rfl) (by omega) (by omega)
    have hrh : ∀ p, (p < 3 ∨ 30 < p) → q_rh p = p := fun p hp => by unfold q_rh; rw [if_neg (by omega), if_neg (by omega)]
    refine ⟨nI D', (17, 3, 17, 2, L), I1, J1, R3, K2, hc1.trans b1, ?_, Or.inr ⟨rfl, rfl, ?_⟩, rfl, i1o 1004 (by decide) (by omega) (by omega) (by decide) (by decide) (by decide) (by decide) (by decide), rbig 1004 (by omega)⟩
    · show mX12_board [.ref 64] (qm I1 J1 (17, 3, 17, 2, L)) = _
      rw [bX12_board, eX12_board_0, d2]
      simp only [Option.bind_some, Option.toList_some, Option.toList_none, List.nil_append, List.cons_append, q_ck_tt, Bool.and_true, Bool.true_and, if_true, if_false, reduceCtorEq]
      exact e1
    · have key : ∀ H : Nat → Nat → Int32, (∀ p, H p = R3 (q_rh p)) → q_Q q_Ky H (fun p => K2 (q_rh p)) := ?_
      · exact key _ (fun _ => rfl)
      intro H hH
      have hro : ∀ p, (p < 3 ∨ 30 < p) → H p = R3 p := fun p hp => by rw [hH p, hrh p hp]
      refine q_goodQ (C := C) (R := R2) (J := J1) (K := K2) (z := z) (rc := rc) hB (fun p x1 x2 => ?_) ?_ ?_ ?_ ?_ ?_ ?_ ?_ ?_ ?_ ?_ ?_ ?_ ?_ ?_ ?_ ?_ ?_ ?_ ?_ ?_ ?_ ?_ ?_ ?_ ?_ ?_ ?_
      · rw [hH p, show q_rh p = p + 14 by unfold q_rh; rw [if_pos (by omega)], r3o (p + 14) (by omega), i1c (p + 14) (by omega) (by omega)]
      · intro k hk
        show K2 (q_rh 32) k = _
        rw [hrh 32 (by omega), d5 32 (by decide) (by decide), (a3 32 (by omega)).2]
        exact hKy k hk
      · have hst := hcore.st
        unfold q_Sta
        rw [hro 1000 (by omega), hro 1001 (by omega), hro 1002 (by omega), hro 1003 (by omega), rbig 1000 (by omega), rbig 1001 (by omega), rbig 1002 (by omega), rbig 1003 (by omega)]
        exact hst
      · rw [hro 64 (by omega), r364 27 (by decide) (by decide) (by decide) (by decide) (by decide) (by decide) (by decide) (by decide) (by decide) (by decide) (by decide) (by decide) (by decide) (by decide) rfl]
        exact hcore.on
      · rw [hro 64 (by omega)]; exact e4
      · rw [hro 64 (by omega), hro 69 (by omega), hro 70 (by omega)]; exact e5
      · rw [hro 83 (by omega), hro 84 (by omega), hro 85 (by omega)]; exact e6
      · rw [hro 86 (by omega), hro 87 (by omega)]; exact e7
      · rw [hro 88 (by omega)]; exact e8
      · rw [hro 64 (by omega), hro 92 (by omega)]; exact e9
      · rw [hro 93 (by omega)]; exact e10
      · rw [hro 93 (by omega)]; exact e11
      · rw [hro 93 (by omega)]; exact e12
      · rw [hro 93 (by omega)]; exact e13
      · rw [hro 93 (by omega)]; exact e14
      · rw [hro 112 (by omega)]; exact e15
      · rw [hro 1 (by omega), hro 64 (by omega), r3o 1 (by omega), b3.2 1 (by decide), b3.2 13 (by decide), b3.2 14 (by decide)]
        refine ⟨by rw [← hCs, q_up_at1], b3.1, ?_, ?_, ?_⟩
        · rw [← hCs, q_up_at2 _ _ (by decide), q_up_at2 _ _ (by decide), q_up_at1, e3 2 (by decide) (by decide) (by decide) (by decide) (by decide) (by decide) (by decide) (by decide) (by decide) (by decide) (by decide) (by decide), g2]
        · rw [← hCs, q_up_at2 _ _ (by decide), q_up_at1, e3 3 (by decide) (by decide) (by decide) (by decide) (by decide) (by decide) (by decide) (by decide) (by decide) (by decide) (by decide) (by decide), hB.1.2.2.2.2.2.2.2.2]
        · rw [e3 1 (by decide) (by decide) (by decide) (by decide) (by decide) (by decide) (by decide) (by decide) (by decide) (by decide) (by decide) (by decide), d6]
      · obtain ⟨t', y1, y2, y3⟩ := htm
        refine ⟨t', y1, ?_, ?_⟩
        · rw [hro 1 (by omega), r3o 1 (by omega), b3.2 15 (by decide), ← hCs, q_up_at2 _ _ (by decide), q_up_at2 _ _ (by decide), q_up_at2 _ _ (by decide), (a3 1 (by omega)).1]
          exact y2
        · rw [hro 64 (by omega), r364 80 (by decide) (by decide) (by decide) (by decide) (by decide) (by decide) (by decide) (by decide) (by decide) (by decide) (by decide) (by decide) (by decide) (by decide) rfl]
          exact y3
      · rw [hro 37 (by omega), r3o 37 (by omega), ← cso 17 (by decide)]; exact b4
      · rw [hro 39 (by omega), hro 40 (by omega), hro 41 (by omega), r3o 39 (by omega), r3o 40 (by omega), r3o 41 (by omega)]; exact b5
      · rw [hro 38 (by omega), r3o 38 (by omega), ← cso 20 (by decide), ← cso 19 (by decide)]; exact b6
      · rw [hro 42 (by omega), r3o 42 (by omega), ← cso 27 (by decide)]; exact b7
      · rw [hro 44 (by omega), r3o 44 (by omega)]; exact b8
      · intro k hk
        have hq : qcr H = qcr I1 := by
          funext k
          unfold qcr
          rw [hro 37 (by omega), hro 38 (by omega), hro 39 (by omega), hro 40 (by omega), hro 41 (by omega), hro 42 (by omega), r3o 37 (by omega), r3o 38 (by omega), r3o 39 (by omega), r3o 40 (by omega), r3o 41 (by omega), r3o 42 (by omega)]
        rw [hq, hro 45 (by omega), r3o 45 (by omega)]
        exact b9 k hk
      · rw [hro 47 (by omega), r3o 47 (by omega)]; exact b10
      · rw [hro 56 (by omega), r3o 56 (by omega)]; exact b11
      · rw [hro 52 (by omega), r3o 52 (by omega)]; exact b12
      · exact q_k_fr hfr (by rw [hro 95 (by omega), rbig 95 (by omega)])
  · -- both refuse
    have hfl0 : x = C 31 12 ∧ q_Fl C R0 := by
      rcases a7 with ⟨h, -⟩ | h
      · exact absurd h hx
      · exact h
    generalize hI1 : q_up (q_up (q_up C 1 13 x) 1 14 (C 31 13)) 1 1 0 = I1
    have i1o : ∀ p, p ≠ 1 → I1 p = C p := fun p y => by rw [← hI1, q_up_at3 _ _ y, q_up_at3 _ _ y, q_up_at3 _ _ y]
    have i1i : ∀ p, p ≠ 1 → (p < 17 ∨ 31 < p) → I1 p = I p := fun p y c => by rw [i1o p y, (a3 p c).1]
    have hc1 : mX11_board [.ref 1] (qm I J (3, 17, rb, tx, L)) = some (some (.int (-1)), qm I1 J1 (3, 17, 17, 2, L)) := by
      rw [hc0, eX11_board_20, if_neg hx, eX11_board_35, eX11_board_42, q_up_at1, if_neg hx, q_up_at3 _ _ (show (31 : Nat) ≠ 1 by decide), hI1, eX11_board_57]
    obtain ⟨x2, C2, J2, R2, K2, d1, d2, d3, d4, d5, d6, d7⟩ := hrd I1 J1 (3, 17, 17, 2, L) (by rw [i1o 64 (by decide)]; exact c64) (by rw [i1o 65 (by decide)]; exact c65)
    obtain ⟨hx2, hM⟩ := q_some_inj (a1.symm.trans d1)
    obtain ⟨hC, hJ⟩ := q_qm_inj hM
    subst hx2
    subst hC
    subst hJ
    have hfl : x = C 31 12 ∧ q_Fl C R2 := by
      rcases d7 with ⟨h, -⟩ | h
      · exact absurd h hx
      · exact h
    have r2o : ∀ p, p ≠ 1 → (p < 17 ∨ 31 < p) → p ≠ 64 → p ≠ 67 → p ≠ 68 → p ≠ 71 → (p < 74 ∨ 82 < p) → R2 p = I p := fun p y0 y c1 c2 c3 c4 c5 => by
      rw [← i1i p y0 y]
      funext k
      exact d4 p k (by
        unfold q_scR
        have q1 : ∀ q, p ≠ q → Nat.beq p q = false := fun q y => by
          cases hq : Nat.beq p q with
          | false => rfl
          | true => exact absurd (Nat.eq_of_beq_eq_true hq) y
        have q2 : (Nat.ble 74 p && Nat.ble p 82) = false := by
          cases hq : (Nat.ble 74 p && Nat.ble p 82) with
          | false => rfl
          | true =>
            have h1 := Nat.le_of_ble_eq_true (Bool.and_eq_true_iff.mp hq).1
            have h2 := Nat.le_of_ble_eq_true (Bool.and_eq_true_iff.mp hq).2
            omega
        rw [q1 67 c2, q1 68 c3, q1 71 c4, q2, q1 64 c1]
        rfl) (by omega) (by omega)
    have r21 : R2 1 = I1 1 := by
      funext k
      exact d4 1 k rfl (by omega) (by omega)
    have r264 : ∀ k, k ≠ 1 → k ≠ 5 → q_scR 64 k = false → R2 64 k = I 64 k := fun k y1 y2 y3 => by rw [d4 64 k y3 (by omega) (by omega), i1i 64 (by decide) (by omega)]
    have i11 : ∀ k, k ≠ 1 → k ≠ 13 → k ≠ 14 → R2 1 k = I 1 k := fun k y1 y2 y3 => by rw [r21, ← hI1, q_up_at2 _ _ y1, q_up_at2 _ _ y3, q_up_at2 _ _ y2, (a3 1 (by omega)).1]
    have r : ∀ p, p ≠ 1 → (p < 17 ∨ 31 < p) → p ≠ 64 → p ≠ 67 → p ≠ 68 → p ≠ 71 → (p < 74 ∨ 82 < p) → R2 p = I p := r2o
    have g : ∀ p, (p ≠ 1 ∧ (p < 17 ∨ 31 < p) ∧ p ≠ 64 ∧ p ≠ 67 ∧ p ≠ 68 ∧ p ≠ 71 ∧ (p < 74 ∨ 82 < p)) → R2 p = I p := fun p h => r p h.1 h.2.1 h.2.2.1 h.2.2.2.1 h.2.2.2.2.1 h.2.2.2.2.2.1 h.2.2.2.2.2.2
    have c : ∀ k, k ≠ 1 → k ≠ 5 → q_scR 64 k = false → R2 64 k = I 64 k := r264
    refine ⟨-1, (3, 17, 17, 2, L), I1, J1, R2, K2, hc1, ?_, Or.inl ⟨rfl, rfl, ?_, D0, N0, cl0, RM0, rc0, ?_, ?_, ?_, ?_, ?_, ?_, ?_, ?_, ?_, ?_, ?_, ?_⟩, rfl, i1i 1004 (by decide) (by omega), g 1004 (by omega)⟩
    · show mX12_board [.ref 64] (qm I1 J1 (3, 17, 17, 2, L)) = _
      rw [bX12_board, eX12_board_0, d2]
      simp only [Option.bind_some, Option.toList_some, Option.toList_none, List.nil_append, List.cons_append, q_ck_tt, Bool.and_true, Bool.true_and, if_true, if_false, reduceCtorEq]
      rw [eX12_board_4, if_pos hfl.2.2.1, eX12_board_11]
    · intro k hk
      rw [d5 32 (by decide) (by decide), (a3 32 (by omega)).2]
      exact hKy k hk
    · exact q_k_core hcore (c 18 (by decide) (by decide) rfl) (c 25 (by decide) (by decide) rfl) (c 27 (by decide) (by decide) rfl) (c 50 (by decide) (by decide) rfl) (c 51 (by decide) (by decide) rfl) (c 57 (by decide) (by decide) rfl) (g 3 (by omega)) (g 5 (by omega)) (g 6 (by omega)) (g 7 (by omega)) (g 9 (by omega)) (g 10 (by omega)) (g 11 (by omega)) (g 12 (by omega)) (g 14 (by omega)) (g 15 (by omega)) (g 37 (by omega)) (g 38 (by omega)) (g 39 (by omega)) (g 40 (by omega)) (g 41 (by omega)) (g 42 (by omega)) (g 69 (by omega)) (g 70 (by omega)) (g 83 (by omega)) (g 84 (by omega)) (g 85 (by omega)) (g 86 (by omega)) (g 87 (by omega)) (g 88 (by omega)) (g 92 (by omega)) (g 93 (by omega)) (g 1000 (by omega)) (g 1001 (by omega)) (g 1002 (by omega)) (g 1003 (by omega))
    · exact q_k_pa hpa (c 68 (by decide) (by decide) rfl) (c 69 (by decide) (by decide) rfl) (by rw [g 3 (by omega)]) (g 44 (by omega)) (g 45 (by omega)) (g 93 (by omega)) (g 101 (by omega))
    · exact q_k_bx hbx (by rw [g 3 (by omega)]) (g 46 (by omega)) (g 47 (by omega)) (g 112 (by omega)) (g 113 (by omega))
    · exact ⟨0, by omega, by rw [r21, ← hI1, q_up_at1]; rfl, d6, fun k hk => absurd hk (Nat.not_lt_zero k)⟩
    · refine ⟨?_, ?_⟩
      · rw [r21, ← hI1, q_up_at2 _ _ (by decide), q_up_at2 _ _ (by decide), q_up_at1, hfl.1]; exact hfl.2.1
      · rw [r21, ← hI1, q_up_at2 _ _ (by decide), q_up_at1]; exact hfl.2.2.2
    · exact q_k_ly hly (i11 12 (by decide) (by decide) (by decide)) (c 62 (by decide) (by decide) rfl) (g 63 (by omega)) (g 96 (by omega))
    · exact q_k_tm htm (i11 15 (by decide) (by decide) (by decide)) (c 80 (by decide) (by decide) rfl)
    · exact q_k_nd hnd (by rw [g 3 (by omega)]) (c 52 (by decide) (by decide) rfl)
    · exact q_k_un hun (by rw [g 14 (by omega)]) (c 21 (by decide) (by decide) rfl)
    · exact q_k_nt hnt (by rw [g 56 (by omega)]) (c 79 (by decide) (by decide) rfl) (g 57 (by omega)) (g 58 (by omega)) (g 59 (by omega)) (g 60 (by omega)) (g 61 (by omega)) (g 62 (by omega)) (g 105 (by omega)) (g 106 (by omega)) (g 107 (by omega)) (g 108 (by omega)) (g 109 (by omega)) (g 110 (by omega))
    · exact q_k_lb hlb (by rw [g 52 (by omega)]) (by rw [g 14 (by omega)]) (c 18 (by decide) (by decide) rfl) (c 25 (by decide) (by decide) rfl) (by rw [g 3 (by omega)]) (g 53 (by omega)) (g 69 (by omega)) (g 15 (by omega)) (g 70 (by omega)) (g 9 (by omega)) (g 10 (by omega)) (g 11 (by omega)) (g 12 (by omega))
    · exact q_k_fr hfr (g 95 (by omega))
