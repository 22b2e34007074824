/-! ===== an act of both ===== -/
section AD
variable {I C' : Nat → Nat → Int32} {J : Nat → Nat → Int64} {e : QP} {D N : Nat} {cl : Nat → Nat} {RM : Nat} {rc : Nat → Nat} {sz : Nat}
theorem q_actA (h : q_Core I D N cl RM rc) (hp : q_Pa I D N (bt (I 3 11))) (hC : ∀ p k, q_scr p k = false → (p < 37 ∨ 42 < p) → C' p k = I p k) : ∃ I1 M1, mX8_keep [.ref 44, .ref 37] (qm C' J e) = some (none, qm I1 J e) ∧ mX12_act [.ref 64] (qm I1 J e) = some (none, qm M1 J e) ∧ (∀ p k, q_scr p k = false → (p < 37 ∨ 42 < p) → p ≠ 44 → p ≠ 45 → I1 p k = I p k) ∧ (∀ p, p ≠ 44 → p ≠ 45 → I1 p = C' p) ∧ q_Core (qmx I M1) D N cl RM rc ∧ q_Frm I M1 ∧
    ∀ I', q_Off M1 I' → q_Ch D N (bt (I 3 11)) (qcr C') (I' 94) → ∃ I2, mX12_keepAir [.ref 64] (qm I' J e) = some (none, qm I2 J e) ∧ q_Core I2 D N cl RM rc ∧ q_Pa I2 D N (bt (I2 3 11)) ∧ q_Frm I I2 := by
  have hD := h.d4
  have hN := h.n6
  obtain ⟨old, dn, kp, p1, p2, p3, p4, p5, p6, p7, p8, p9⟩ := hp
  have c44 : ∀ k, C' 44 k = I 44 k := fun k => hC 44 k rfl (by omega)
  have c45 : C' 45 = I 45 := funext (fun k => hC 45 k rfl (by omega))
  obtain ⟨I1, k0, k1, k2, k3, k4, k5⟩ := fX8_keep (I := C') (J := J) (e := e) (old := old) (dn := dn) (by rw [c44]; exact p1) (by rw [c44]; exact p3) p2 (by omega)
  have f1 : ∀ p k, q_scr p k = false → (p < 37 ∨ 42 < p) → p ≠ 44 → p ≠ 45 → I1 p k = I p k := fun p k a b c d => by rw [k5 p c d]; exact hC p k a b
  have i64 : I1 64 = I 64 := funext (fun k => f1 64 k rfl (by omega) (by decide) (by decide))
  have i93 : I1 93 = I 93 := funext (fun k => f1 93 k rfl (by omega) (by decide) (by decide))
  have i101 : I1 101 = I 101 := funext (fun k => f1 101 k rfl (by omega) (by decide) (by decide))
  obtain ⟨M1, m0, m1, m2, m3, m4⟩ := fX12_act (I := I1) (J := J) (e := e) (dn := dn) (by omega) (by rw [i64]; exact p7)
  have fM : q_Frm I M1 := by
    intro p k a b c d f g i
    have h94 : p ≠ 94 := fun c => by rw [c] at a; cases a
    by_cases h64 : p = 64
    · obtain ⟨i1, i2⟩ := i h64
      rw [h64, m2, va_miss i2, va_miss i1, i64]
    · rw [m4 p g h64 h94]; exact f1 p k a b c d
  have hcm : ∀ p, 37 ≤ p → p ≤ 42 → M1 p = C' p := fun p a b => by rw [m4 p (by omega) (by omega) (by omega)]; exact k5 p (by omega) (by omega)
  have hK : q_Frm I (qmx I M1) := by
    intro p k a b c d f g i
    unfold qmx
    cases hb : (Nat.ble 64 p && Nat.blt p 1000) with
    | false => rfl
    | true =>
      cases h93 : Nat.beq p 93 with
      | true => exact absurd (Nat.eq_of_beq_eq_true h93) f
      | false => exact fM p k a b c d f g i
  refine ⟨I1, M1, k0, m0, f1, k5, q_Core_eq h hK ?_, fM, ?_⟩
  · have : q_Ch D N (bt (I 3 11)) (qcr I) (M1 94) := q_Ch_rc hD hN h.ch (fun k hk => by rw [m3 k hk, i93])
    exact this
  · intro I' oI hch
    have fI : q_Frm I I' := fun p k a b c d f g i => by rw [oI p k a]; exact fM p k a b c d f g i
    have hI2 : ∀ p, p ≠ 93 → (va_up I' 93 (fa_fill (I' 94) (I' 93) 65)) p = I' p := fun p hp => va_miss hp
    have f2 : q_Frm I (va_up I' 93 (fa_fill (I' 94) (I' 93) 65)) := fun p k a b c d f g i => by rw [hI2 p f]; exact fI p k a b c d f g i
    have hq : qcr (va_up I' 93 (fa_fill (I' 94) (I' 93) 65)) = qcr C' := by
      funext k
      show qcr I' k = qcr C' k
      unfold qcr
      rw [oI.r 37 (fun _ => rfl), oI.r 38 (fun _ => rfl), oI.r 39 (fun _ => rfl), oI.r 40 (fun _ => rfl), oI.r 41 (fun _ => rfl), oI.r 42 (fun _ => rfl), hcm 37 (by omega) (by omega), hcm 38 (by omega) (by omega), hcm 39 (by omega) (by omega), hcm 40 (by omega) (by omega), hcm 41 (by omega) (by omega), hcm 42 (by omega) (by omega)]
    have h311 : (va_up I' 93 (fa_fill (I' 94) (I' 93) 65)) 3 11 = I 3 11 := f2 3 11 rfl (by omega) (by decide) (by decide) (by decide) (by decide) (by intro c; cases c)
    have hnew : q_Ch D N (bt (I 3 11)) (qcr C') (fa_fill (I' 94) (I' 93) 65) := q_Ch_rc hD hN hch (fun k hk => fa_fill_in hk)
    refine ⟨_, fX12_keepAir I' J e, q_Core_eq h f2 ?_, ?_, f2⟩
    · rw [h311, hq, va_hit]; exact hnew
    · rw [h311]
      have r44 : ∀ k, (va_up I' 93 (fa_fill (I' 94) (I' 93) 65)) 44 k = I1 44 k := fun k => by rw [hI2 44 (by decide), oI.r 44 (fun _ => rfl), m4 44 (by decide) (by decide) (by decide)]
      refine q_Pa_act (I := I) (c := qcr C') hD hN p2 p5 p6 p9 ?_ ?_ ?_ ?_ ?_ ?_ ?_ ?_
      · rw [r44]; exact k1
      · rw [r44]; exact k2
      · rw [r44]; exact k3
      · rw [hI2 45 (by decide), oI.r 45 (fun _ => rfl), m4 45 (by decide) (by decide) (by decide), k4, c45]
      · rw [hI2 101 (by decide), oI.r 101 (fun _ => rfl), m1, i101, i93]
      · rw [hI2 64 (by decide), oI.r 64 (fun _ => rfl), m2, va_miss (by decide), va_hit]
      · rw [hI2 64 (by decide), oI.r 64 (fun _ => rfl), m2, va_hit]
      · rw [va_hit]; exact hnew
/-- a call that acts -/
def q_Act (f g : List Value → QM → Option QR) (as : List Value) (I : Nat → Nat → Int32) (J : Nat → Nat → Int64) (e : QP) (D N : Nat) (cl : Nat → Nat) (RM : Nat) (rc : Nat → Nat) : Prop := ∃ (r : Int32) (I1 I2 : Nat → Nat → Int32), f (.ref 1 :: as) (qm I J e) = some (some (.int r), qm I1 J e) ∧ g (.ref 64 :: as) (qm I1 J e) = some (some (.int r), qm I2 J e) ∧ q_Core I2 D N cl RM rc ∧ q_Pa I2 D N (bt (I2 3 11)) ∧ q_Frm I I1 ∧ q_Frm I I2
theorem q_Frm_refl (I : Nat → Nat → Int32) : q_Frm I I := fun _ _ _ _ _ _ _ _ _ => rfl
theorem o_clock {rb tx L : Nat} (h : q_Core I D N cl RM rc) (hp : q_Pa I D N (bt (I 3 11))) (hnz : I 3 14 = I 64 52) (a b : Int32) : q_Act mX11_clock mX12_clock [.int a, .int b] I J (3, 17, rb, tx, L) D N cl RM rc := by
  have h10 : ¬ ((1 : Int32) = 0) := by decide
  obtain ⟨⟨s0, s, hs, s1⟩, ⟨z0, ck, hck, z1⟩, -⟩ := h.ch
  have i0 : I 37 0 = nI s := by rw [← s1]; exact s0
  have i1 : I 37 1 = nI ck := by rw [← z1]; exact z0
  cases hqa : q_in a 2 with
  | false =>
    refine ⟨-2, I, I, ?_, ?_, h, hp, q_Frm_refl _, q_Frm_refl _⟩
    · simp only [bX11_clock, eX11_clock_0, eX11_clock_4, eX11_clock_27, eX11_clock_7, eX11_clock_11, eX11_clock_14, eX11_clock_30, eX11_clock_43, eX11_clock_55, fX11_isBit, hqa, Option.bind_some, Option.toList_some, Option.toList_none, List.nil_append, List.cons_append, q_ck_tt, Bool.and_true, Bool.true_and, if_true, if_false, reduceCtorEq, q_10, eq_self, qb_t, qb_f]
    · simp only [bX12_clock, eX12_clock_0, eX12_clock_6, eX12_clock_30, eX12_clock_9, eX12_clock_15, eX12_clock_18, eX12_clock_33, eX12_clock_37, eX12_clock_43, eX12_clock_48, fX12_isBit, hqa, Option.bind_some, Option.toList_some, Option.toList_none, List.nil_append, List.cons_append, q_ck_tt, Bool.and_true, Bool.true_and, if_true, if_false, reduceCtorEq, q_10, eq_self, qb_t, qb_f]
  | true =>
    cases hqb : q_in b 2 with
    | false =>
      refine ⟨-2, I, I, ?_, ?_, h, hp, q_Frm_refl _, q_Frm_refl _⟩
      · simp only [bX11_clock, eX11_clock_0, eX11_clock_4, eX11_clock_27, eX11_clock_7, eX11_clock_11, eX11_clock_14, eX11_clock_30, eX11_clock_43, eX11_clock_55, fX11_isBit, hqa, hqb, Option.bind_some, Option.toList_some, Option.toList_none, List.nil_append, List.cons_append, q_ck_tt, Bool.and_true, Bool.true_and, if_true, if_false, reduceCtorEq, q_10, eq_self, qb_t, qb_f]
      · simp only [bX12_clock, eX12_clock_0, eX12_clock_6, eX12_clock_30, eX12_clock_9, eX12_clock_15, eX12_clock_18, eX12_clock_33, eX12_clock_37, eX12_clock_43, eX12_clock_48, fX12_isBit, hqa, hqb, Option.bind_some, Option.toList_some, Option.toList_none, List.nil_append, List.cons_append, q_ck_tt, Bool.and_true, Bool.true_and, if_true, if_false, reduceCtorEq, q_10, eq_self, qb_t, qb_f]
    | true =>
      by_cases hc : I 37 1 < 9999
      · have hck2 : ck < 9999 := by
          rw [i1] at hc
          exact (nI_ltI (b := 9999) (by omega) (by decide)).mp hc
        have hbit : ∀ x : Int32, q_in x 2 = true → ∃ c : Bool, x = qb c := by
          intro x hx
          obtain ⟨k, hk, rfl, -⟩ := q_in_of hx
          have : k = 0 ∨ k = 1 := by omega
          rcases this with rfl | rfl
          · exact ⟨false, rfl⟩
          · exact ⟨true, rfl⟩
        obtain ⟨ba, rfl⟩ := hbit a hqa
        obtain ⟨bb, rfl⟩ := hbit b hqb
        obtain ⟨sz, hz⟩ : ∃ sz, q_Fz I sz := h.fo
        obtain ⟨C', t0, t1⟩ := fX1_tick (J := J) (rb := rb) (tx := tx) (L := L) h.bd hz hs i0 ba (qb bb)
        have hT : q_TkS I C' D N sz s ba (qb bb) := t1
        have hC : ∀ p k, q_scr p k = false → (p < 37 ∨ 42 < p) → C' p k = I p k := by
          intro p k a b
          rw [t1.2.2.2.2.2 p (fun c => by rw [c] at a; cases a) (by omega) (by omega) (by omega) (by omega) (by omega)]
        obtain ⟨I1, M1, k0, m0, f1, -, hK, fM, hfin⟩ := q_actA (J := J) (e := (3, 17, rb, tx, L)) h hp hC
        have hz' : q_Fz (qmx I M1) sz := by
          refine q_Fz_eq hz ?_
          intro p k a b c d f g i
          unfold qmx
          cases hb : (Nat.ble 64 p && Nat.blt p 1000) with
          | false => rfl
          | true =>
            cases h93 : Nat.beq p 93 with
            | true => exact absurd (Nat.eq_of_beq_eq_true h93) f
            | false => exact fM p k a b c d f g i
        have r69 : I 69 = M1 69 := funext (fun k => (fM 69 k rfl (by omega) (by decide) (by decide) (by decide) (by decide) (by intro c; cases c)).symm)
        have r70 : I 70 = M1 70 := funext (fun k => (fM 70 k rfl (by omega) (by decide) (by decide) (by decide) (by decide) (by intro c; cases c)).symm)
        have r52 : I 3 14 = M1 64 52 := by rw [hnz]; exact (fM 64 52 rfl (by omega) (by decide) (by decide) (by decide) (by decide) (fun _ => ⟨by decide, by decide⟩)).symm
        obtain ⟨I', g0, g1, g2⟩ := q_clk (J := J) (e := (3, 17, rb, tx, L)) hK hz' r69 r70 r52 hs i0 ⟨ck, by omega, i1⟩ ⟨bb, rfl⟩ hT
        have hch : q_Ch D N (bt (I 3 11)) (qcr C') (I' 94) := by
          have := g2.chm
          have h3 : C' 3 = I 3 := funext (fun k => hC 3 k rfl (by omega))
          rw [h3] at this
          exact this
        obtain ⟨I2, n0, n1, n2, n3⟩ := hfin I' g1 hch
        have i93 : I1 93 1 = I 37 1 := by rw [f1 93 1 rfl (by omega) (by decide) (by decide), z1, i1]
        refine ⟨qTt I D s (qb bb), I1, I2, ?_, ?_, n1, n2, ?_, n3⟩
        · rw [bX11_clock, eX11_clock_0, fX11_isBit, hqa]
          simp only [Option.bind_some, Option.toList_some, Option.toList_none, List.nil_append, List.cons_append, q_ck_tt, Bool.and_true, Bool.true_and, if_true, if_false, reduceCtorEq]
          rw [eX11_clock_4, qb_t, if_neg h10, eX11_clock_7, fX11_isBit, hqb]
          simp only [Option.bind_some, Option.toList_some, Option.toList_none, List.nil_append, List.cons_append, q_ck_tt, Bool.and_true, Bool.true_and, if_true, if_false, reduceCtorEq]
          rw [eX11_clock_11, qb_t, if_neg h10, eX11_clock_14, if_pos hc, eX11_clock_30, t0]
          simp only [Option.bind_some, Option.toList_some, Option.toList_none, List.nil_append, List.cons_append, q_ck_tt, Bool.and_true, Bool.true_and, if_true, if_false, reduceCtorEq]
          rw [eX11_clock_43, k0]
          simp only [Option.bind_some, Option.toList_some, Option.toList_none, List.nil_append, List.cons_append, q_ck_tt, Bool.and_true, Bool.true_and, if_true, if_false, reduceCtorEq]
          rw [eX11_clock_55]
        · rw [bX12_clock, eX12_clock_0, fX12_isBit, hqa]
          simp only [Option.bind_some, Option.toList_some, Option.toList_none, List.nil_append, List.cons_append, q_ck_tt, Bool.and_true, Bool.true_and, if_true, if_false, reduceCtorEq]
          rw [eX12_clock_6, qb_t, if_neg h10, eX12_clock_9, fX12_isBit, hqb]
          simp only [Option.bind_some, Option.toList_some, Option.toList_none, List.nil_append, List.cons_append, q_ck_tt, Bool.and_true, Bool.true_and, if_true, if_false, reduceCtorEq]
          rw [eX12_clock_15, qb_t, if_neg h10, eX12_clock_18, i93, if_pos hc, eX12_clock_33, m0]
          simp only [Option.bind_some, Option.toList_some, Option.toList_none, List.nil_append, List.cons_append, q_ck_tt, Bool.and_true, Bool.true_and, if_true, if_false, reduceCtorEq]
          rw [eX12_clock_37, g0]
          simp only [Option.bind_some, Option.toList_some, Option.toList_none, List.nil_append, List.cons_append, q_ck_tt, Bool.and_true, Bool.true_and, if_true, if_false, reduceCtorEq]
          rw [eX12_clock_43, n0]
          simp only [Option.bind_some, Option.toList_some, Option.toList_none, List.nil_append, List.cons_append, q_ck_tt, Bool.and_true, Bool.true_and, if_true, if_false, reduceCtorEq]
          rw [eX12_clock_48]
        · intro p k a b c d f g i
          exact f1 p k a b c d
      · have i93 : I 93 1 = I 37 1 := by rw [z1, i1]
        refine ⟨-2, I, I, ?_, ?_, h, hp, q_Frm_refl _, q_Frm_refl _⟩
        · simp only [bX11_clock, eX11_clock_0, eX11_clock_4, eX11_clock_27, eX11_clock_7, eX11_clock_11, eX11_clock_14, eX11_clock_30, eX11_clock_43, eX11_clock_55, fX11_isBit, hqa, hqb, Option.bind_some, Option.toList_some, Option.toList_none, List.nil_append, List.cons_append, q_ck_tt, Bool.and_true, Bool.true_and, if_true, if_false, reduceCtorEq, q_10, eq_self, qb_t, qb_f, if_neg hc]
        · simp only [bX12_clock, eX12_clock_0, eX12_clock_6, eX12_clock_30, eX12_clock_9, eX12_clock_15, eX12_clock_18, eX12_clock_33, eX12_clock_37, eX12_clock_43, eX12_clock_48, fX12_isBit, hqa, hqb, Option.bind_some, Option.toList_some, Option.toList_none, List.nil_append, List.cons_append, q_ck_tt, Bool.and_true, Bool.true_and, if_true, if_false, reduceCtorEq, q_10, eq_self, qb_t, qb_f, i93, if_neg hc]
end AD
