/-! ===== calls that look, the easy ones ===== -/
section EA
variable {I : Nat → Nat → Int32} {J : Nat → Nat → Int64} {rb tx L : Nat} {D N : Nat} {cl : Nat → Nat} {RM : Nat} {rc : Nat → Nat}
theorem q_Off.r {I I' : Nat → Nat → Int32} (h : q_Off I I') (p : Nat) (hp : ∀ k, q_scr p k = false) : I' p = I p := q_Off_row h hp
theorem q_Dn_off {I I' : Nat → Nat → Int32} (h : q_Off I I') (D N : Nat) : qDn I' D N = qDn I D N := by
  unfold qDn
  rw [h.r 9 (fun _ => rfl), h.r 11 (fun _ => rfl), h.r 38 (fun _ => rfl), h.r 41 (fun _ => rfl)]
theorem q_Core.fill (h : q_Core I D N cl RM rc) (J : Nat → Nat → Int64) (e : QP) : ∃ I1, mX12_fill [.ref 64] (qm I J e) = some (none, qm I1 J e) ∧ q_Off I I1 ∧ q_Air I1 ∧ q_Core I1 D N cl RM rc :=
  ⟨_, fX12_fill I J e, q_off_fill I, q_air_fill I, q_Core_off h (q_off_fill I)⟩
theorem q_Core.fill2 (h : q_Core I D N cl RM rc) (J : Nat → Nat → Int64) (e : QP) : ∃ I1 I2, mX12_fill [.ref 64] (qm I J e) = some (none, qm I1 J e) ∧ mX12_layDriven [.ref 64] (qm I1 J e) = some (none, qm I2 J e) ∧ q_Off I I2 ∧ q_Air I2 ∧ q_Core I2 D N cl RM rc ∧ ∀ n, n < N → I2 99 n = qb (bt (qdv (I 42) (qDn I D N)) n) ∧ I2 100 n = qb (bt (qLev (I 42) (qDn I D N)) n) := by
  obtain ⟨I1, h1, o1, a1, C1⟩ := h.fill J e
  obtain ⟨d', l', g1, g2⟩ := C1.lay a1 J e
  have o2 : q_Off I1 (va_up (va_up I1 99 d') 100 l') := q_Off_trans (q_Off_va _ rfl _) (q_Off_va _ rfl _)
  refine ⟨I1, _, h1, g1, q_Off_trans o1 o2, fun k hk => a1 k hk, q_Core_off C1 o2, fun n hn => ?_⟩
  obtain ⟨k1, k2⟩ := g2 n hn
  rw [q_Dn_off o1, o1.r 42 (fun _ => rfl)] at k1 k2
  exact ⟨k1, k2⟩
theorem q_ct_cut {p : Nat → Bool} {m : Nat} : ∀ k, (∀ x, m ≤ x → x < m + k → p x = false) → fb_ct p (m + k) = fb_ct p m
  | 0, _ => rfl
  | k + 1, h => by
    rw [← Nat.add_assoc, fb_ct_succ, h (m + k) (by omega) (by omega), q_ct_cut k (fun x h1 h2 => h x h1 (by omega))]
    rfl
theorem q_Core.at (h : q_Core I D N cl RM rc) {x n : Nat} (hx : x < 24) (hn : n < N) (he : I 12 x = nI n) : x < 6 * D := by
  have hN := h.n6
  refine ((q_Bc_1n h.bc hx hn).2 (fun g => ?_)).1
  rw [he] at g
  have := congrArg Int32.toInt g
  rw [nI_toInt (by omega)] at this
  have h3 : ((-1) : Int32).toInt = -1 := by decide
  rw [h3] at this; omega
theorem q_Core.cnt (h : q_Core I D N cl RM rc) {n : Nat} (hn : n < N) : fb_ct (fun x => decide (I 86 x = nI n) && decide (I 87 x = 0)) (6 * D) = fb_ct (bt (I 9 n)) 32 ∧ fb_ct (fun x => decide (I 86 x = nI n) && decide (I 87 x = 1)) (6 * D) = fb_ct (bt (I 10 n)) 32 := by
  have hD := h.d4
  have hz : ∀ x, 6 * D ≤ x → x < 32 → bt (I 9 n) x = false ∧ bt (I 10 n) x = false := by
    intro x h1 h2
    rw [(h.bc.2.2.1 n hn x h2).1, (h.bc.2.2.1 n hn x h2).2]
    by_cases hx : x < 24
    · by_cases he : I 12 x = nI n
      · have := h.at hx hn he; omega
      · rw [decide_eq_false he]; simp
    · rw [decide_eq_false hx]; exact ⟨rfl, rfl⟩
  have he : 32 = 6 * D + (32 - 6 * D) := by omega
  refine ⟨?_, ?_⟩
  · rw [he, q_ct_cut (32 - 6 * D) (fun x h1 h2 => (hz x h1 (by omega)).1)]
    refine fb_ct_cong (fun x hx => ?_)
    rw [(h.bc.2.2.1 n hn x (by omega)).1, h.bc.2.1 x hx, decide_eq_true (show x < 24 by omega)]; rfl
  · rw [he, q_ct_cut (32 - 6 * D) (fun x h1 h2 => (hz x h1 (by omega)).2)]
    refine fb_ct_cong (fun x hx => ?_)
    rw [(h.bc.2.2.1 n hn x (by omega)).2, h.bc.2.1 x hx, decide_eq_true (show x < 24 by omega)]; rfl
theorem o_fault (h : q_Ft I) (a : Int32) : q_Obs mX11_fault mX12_fault [.int a] I J (3, 17, rb, tx, L) := by
  refine ⟨if a = 0 then I 1 13 else if a = 1 then I 1 14 else -1, I, I, ?_, ?_, q_Off_refl _, q_Off_refl _⟩
  · simp only [bX11_fault, eX11_fault_0, eX11_fault_4, eX11_fault_11, eX11_fault_24, eX11_fault_16, eX11_fault_23]
    (repeat' split) <;> rfl
  · simp only [bX12_fault, eX12_fault_0, eX12_fault_4, eX12_fault_11, eX12_fault_24, eX12_fault_16, eX12_fault_23, h.1, h.2]
    (repeat' split) <;> rfl
theorem o_device (hC : q_Core I D N cl RM rc) (a b : Int32) : q_Obs mX11_device mX12_device [.int a, .int b] I J (3, 17, rb, tx, L) := by
  have hD := hC.d4
  cases hq : q_in a D with
  | false =>
    refine ⟨-1, I, I, ?_, ?_, q_Off_refl _, q_Off_refl _⟩
    · simp only [bX11_device, eX11_device_0, eX11_device_8, eX11_device_11, eX11_device_13, eX11_device_143, eX11_device_133, eX11_device_120, eX11_device_110, eX11_device_100, eX11_device_90, eX11_device_80, eX11_device_70, eX11_device_60, eX11_device_132, fX0_hasDevice _ _ _ hD hC.i30, hq, Option.bind_some, Option.toList_some, Option.toList_none, List.nil_append, List.cons_append, q_ck_tt, Bool.and_true, Bool.true_and, if_true, if_false, reduceCtorEq, q_10, eq_self, qb_t, qb_f]
    · simp only [bX12_device, eX12_device_0, eX12_device_5, eX12_device_8, eX12_device_10, eX12_device_14, eX12_device_126, eX12_device_116, eX12_device_110, eX12_device_100, eX12_device_90, eX12_device_81, eX12_device_74, eX12_device_67, eX12_device_60, eX12_device_115, fX12_isDevice _ _ _ hD hC.m50, hq, Option.bind_some, Option.toList_some, Option.toList_none, List.nil_append, List.cons_append, q_ck_tt, Bool.and_true, Bool.true_and, if_true, if_false, reduceCtorEq, q_10, eq_self, qb_t, qb_f]
  | true =>
    obtain ⟨d, hd, rfl, -⟩ := q_in_of hq
    obtain ⟨e1, e2, e3, e4, e5, e6, e7⟩ := hC.bn.2.2 d hd
    obtain ⟨⟨g3, g7, g11, g15⟩, -⟩ := hC.dev hd
    have h4 : q_in (nI d) 4 = true := q_in_nI (by omega) (by omega)
    obtain ⟨I1, f1, o1, a1, C1⟩ := hC.fill J (3, 17, rb, tx, L)
    refine ⟨if b = 0 then I 5 d else if b = 1 then I 6 d else if b = 2 then I 7 d else if b = 3 then I 38 d else if b = 4 then I 39 d else if b = 5 then I 40 d else if b = 6 then qDb (I 38 d) (I 6 d) (I 7 d) else if b = 7 then I 41 d else -1, I, I1, ?_, ?_, q_Off_refl _, o1⟩
    · simp only [bX11_device, eX11_device_0, eX11_device_8, eX11_device_11, eX11_device_13, eX11_device_143, eX11_device_133, eX11_device_120, eX11_device_110, eX11_device_100, eX11_device_90, eX11_device_80, eX11_device_70, eX11_device_60, eX11_device_132, fX0_hasDevice _ _ _ hD hC.i30, hq, Option.bind_some, Option.toList_some, Option.toList_none, List.nil_append, List.cons_append, q_ck_tt, Bool.and_true, Bool.true_and, if_true, if_false, reduceCtorEq, q_10, eq_self, qb_t, qb_f, h4, nI_clamp (show d < 2 ^ 31 by omega), fX1_dataBits I J _ (show d < 4 by omega) (by rw [e2]; exact e7)]
      (repeat' split) <;> rfl
    · have k3 : (3 : Int32) + nI d = nI (3 + d) := by rw [show (3 : Int32) = nI 3 from rfl, nI_add]
      have k7 : (7 : Int32) + nI d = nI (7 + d) := by rw [show (7 : Int32) = nI 7 from rfl, nI_add]
      have k11 : (11 : Int32) + nI d = nI (11 + d) := by rw [show (11 : Int32) = nI 11 from rfl, nI_add]
      have k15 : (15 : Int32) + nI d = nI (15 + d) := by rw [show (15 : Int32) = nI 15 from rfl, nI_add]
      have hA : I1 94 (3 + d) = I 38 d := by rw [a1 _ (by omega), o1.r 93 (fun _ => rfl), g3]
      have hdb := fX12_dataBits I1 J (3, 17, rb, tx, L) (show d < 4 by omega)
      rw [hA, o1.r 84 (fun _ => rfl), o1.r 85 (fun _ => rfl), ← e2, e4, ← e3] at hdb
      simp only [bX12_device, eX12_device_0, eX12_device_5, eX12_device_8, eX12_device_10, eX12_device_14, eX12_device_126, eX12_device_116, eX12_device_110, eX12_device_100, eX12_device_90, eX12_device_81, eX12_device_74, eX12_device_67, eX12_device_60, eX12_device_115, fX12_isDevice _ _ _ hD hC.m50, hq, Option.bind_some, Option.toList_some, Option.toList_none, List.nil_append, List.cons_append, q_ck_tt, Bool.and_true, Bool.true_and, if_true, if_false, reduceCtorEq, q_10, eq_self, qb_t, qb_f, f1, h4, nI_clamp (show d < 2 ^ 31 by omega), hdb, k3, k7, k11, k15, q_in_nI (show 3 + d < 65 by omega) (by omega), q_in_nI (show 7 + d < 65 by omega) (by omega), q_in_nI (show 11 + d < 65 by omega) (by omega), q_in_nI (show 15 + d < 65 by omega) (by omega), nI_clamp (show 3 + d < 2 ^ 31 by omega), nI_clamp (show 7 + d < 2 ^ 31 by omega), nI_clamp (show 11 + d < 2 ^ 31 by omega), nI_clamp (show 15 + d < 2 ^ 31 by omega), o1.r 83 (fun _ => rfl), o1.r 84 (fun _ => rfl), o1.r 85 (fun _ => rfl), o1.r 93 (fun _ => rfl), ← g3, ← g7, ← g11, ← g15, ← e1, ← e2, e3, e4]
      (repeat' split) <;> rfl
theorem o_net (hC : q_Core I D N cl RM rc) (a b : Int32) : q_Obs mX11_net mX12_net [.int a, .int b] I J (3, 17, rb, tx, L) := by
  have hD := hC.d4
  have hN := hC.n6
  cases hq : q_in a N with
  | false =>
    refine ⟨-1, I, I, ?_, ?_, q_Off_refl _, q_Off_refl _⟩
    · simp only [bX11_net, eX11_net_0, eX11_net_8, eX11_net_11, eX11_net_13, eX11_net_193, eX11_net_187, eX11_net_171, eX11_net_151, eX11_net_131, eX11_net_108, eX11_net_98, eX11_net_85, eX11_net_72, eX11_net_192, eX11_net_182, eX11_net_163, eX11_net_143, eX11_net_118, eX11_net_122, eX11_net_97, eX11_net_84, eX11_net_166, eX11_net_146, eX11_net_130, fX0_hasNet _ _ _ hN hC.i35, hq, Option.bind_some, Option.toList_some, Option.toList_none, List.nil_append, List.cons_append, q_ck_tt, Bool.and_true, Bool.true_and, if_true, if_false, reduceCtorEq, q_10, eq_self, qb_t, qb_f]
    · simp only [bX12_net, eX12_net_0, eX12_net_5, eX12_net_8, eX12_net_10, eX12_net_14, eX12_net_18, eX12_net_124, eX12_net_118, eX12_net_109, eX12_net_102, eX12_net_95, eX12_net_85, eX12_net_78, eX12_net_71, eX12_net_64, eX12_net_123, eX12_net_114, eX12_net_77, eX12_net_70, eX12_net_117, fX12_isNet _ _ _ hN hC.m51, hq, Option.bind_some, Option.toList_some, Option.toList_none, List.nil_append, List.cons_append, q_ck_tt, Bool.and_true, Bool.true_and, if_true, if_false, reduceCtorEq, q_10, eq_self, qb_t, qb_f]
  | true =>
    obtain ⟨n, hn, rfl, -⟩ := q_in_of hq
    have h6 : q_in (nI n) 6 = true := q_in_nI (by omega) (by omega)
    have hc := nI_clamp (show n < 2 ^ 31 by omega)
    obtain ⟨I1, I2, f1, f2, o2, a2, C2, hl⟩ := hC.fill2 J (3, 17, rb, tx, L)
    obtain ⟨l1, l2⟩ := hl n hn
    have hdv : mX1_driven [.ref 37, .ref 3] (qm I J (3, 17, rb, tx, L)) = some (some (.int (qDn I D N)), qm I J (3, 17, rb, tx, L)) := fX1_driven I J _ hN hC.i35 hD hC.i30
    refine ⟨if b = 0 then nI (fb_ct (bt (I 9 n)) 32) else if b = 1 then nI (fb_ct (bt (I 10 n)) 32) else if b = 2 then I 11 n else if b = 3 then I 93 (19 + n) else if b = 4 then qb (bt (qdv (I 42) (qDn I D N)) n) else if b = 5 then qb (bt (qLev (I 42) (qDn I D N)) n) else if b = 6 then qb (qAny (6 * D) (fun x => qdo (I 86) (I 87) n x && qdh (I 93) (I 88) x n) && qAny (6 * D) (fun x => qdo (I 86) (I 87) n x && !qdh (I 93) (I 88) x n)) else if b = 7 then qSet N (I2 94) n else -1, I, I2, ?_, ?_, q_Off_refl _, o2⟩
    · have hst : (if (I 42 0 &&& ((1 : Int32) <<< (nI n &&& 31))) = 0 then (-1 : Int32) else qb (bt (I 42 1) n)) = I 93 (19 + n) := by
        obtain ⟨p1, p2, p3⟩ := hC.fr.1 n hn
        by_cases h0 : (I 42 0 &&& ((1 : Int32) <<< (nI n &&& 31))) = 0
        · rw [if_pos h0]
          rw [q_and1b _ (by omega), p2] at h0
          rcases p1 with p | p | p
          · exact p.symm
          · rw [p] at h0; simp +decide at h0
          · rw [p] at h0; simp +decide at h0
        · rw [if_neg h0, p3]
          rw [q_and1b _ (by omega), p2] at h0
          rcases p1 with p | p | p
          · rw [p] at h0; simp +decide at h0
          · rw [p]; decide
          · rw [p]; decide
      have hft : bt (qB N (fun n => !decide ((I 9 n &&& (qDu D N (I 11) (I 9) (I 38) (I 41) ^^^ (-1))) = 0) && !decide ((I 9 n &&& qDu D N (I 11) (I 9) (I 38) (I 41)) = 0))) n = (qAny (6 * D) (fun x => qdo (I 86) (I 87) n x && qdh (I 93) (I 88) x n) && qAny (6 * D) (fun x => qdo (I 86) (I 87) n x && !qdh (I 93) (I 88) x n)) := by
        rw [b_qB _ (by omega) (by omega), decide_eq_true hn, Bool.true_and, q_driven_bit hC.bn hC.bc hC.bs hC.dr hn, q_driving_bit hC.bn hC.bc hC.bs hC.dr hn, Bool.not_not, Bool.not_not, Bool.and_comm]
      have hhn : qHn (I 42 3 ||| I 42 4) n 6 = qSet N (I2 94) n := by
        have := q_FR_set hN (C2.frA a2) hn
        rw [o2.r 42 (fun _ => rfl)] at this
        exact this
      rw [← hst]
      simp only [bX11_net, eX11_net_0, eX11_net_8, eX11_net_11, eX11_net_13, eX11_net_193, eX11_net_187, eX11_net_171, eX11_net_151, eX11_net_131, eX11_net_108, eX11_net_98, eX11_net_85, eX11_net_72, eX11_net_192, eX11_net_182, eX11_net_163, eX11_net_143, eX11_net_118, eX11_net_122, eX11_net_97, eX11_net_84, eX11_net_166, eX11_net_146, eX11_net_130, fX0_hasNet _ _ _ hN hC.i35, hq, Option.bind_some, Option.toList_some, Option.toList_none, List.nil_append, List.cons_append, q_ck_tt, Bool.and_true, Bool.true_and, if_true, if_false, reduceCtorEq, q_10, eq_self, qb_t, qb_f, h6, hc, fJ6_bitCount, hdv, fX3_drives_42, fX3_levels_42 I J _ hC.st, fX1_fighting I J _ hN hC.i35 hD hC.i30, fX3_hanging_42 I J _ hC.st (show n < 6 by omega), b_tst _ (show n < 32 by omega), hft, hhn]
      (repeat' split) <;> rfl
    · have hmo := fun w => fX12_manyOf I2 J (3, 17, rb, tx, L) hD C2.m50 n w
      have hfi := fX12_isFighting I2 J (3, 17, rb, tx, L) hD C2.m50 hN hn (C2.sf n hn)
      have hto := fX12_togetherWith I2 J (3, 17, rb, tx, L) hN C2.m51 hn
      have hdh : ∀ x, x < 6 * D → qdh (I2 94) (I 88) x n = qdh (I 93) (I 88) x n := by
        intro x hx
        unfold qdh
        rw [a2 _ (by omega), a2 _ (by omega), o2.r 93 (fun _ => rfl)]
      rw [o2.r 86 (fun _ => rfl), o2.r 87 (fun _ => rfl), o2.r 88 (fun _ => rfl), qAny_cong (p := fun x => qdo (I 86) (I 87) n x && qdh (I2 94) (I 88) x n) (q := fun x => qdo (I 86) (I 87) n x && qdh (I 93) (I 88) x n) (fun x hx => by rw [hdh x hx]), qAny_cong (p := fun x => qdo (I 86) (I 87) n x && !qdh (I2 94) (I 88) x n) (q := fun x => qdo (I 86) (I 87) n x && !qdh (I 93) (I 88) x n) (fun x hx => by rw [hdh x hx])] at hfi
      simp only [o2.r 86 (fun _ => rfl), o2.r 87 (fun _ => rfl)] at hmo
      have k19 : (19 : Int32) + nI n = nI (19 + n) := by rw [show (19 : Int32) = nI 19 from rfl, nI_add]
      simp only [bX12_net, eX12_net_0, eX12_net_5, eX12_net_8, eX12_net_10, eX12_net_14, eX12_net_18, eX12_net_124, eX12_net_118, eX12_net_109, eX12_net_102, eX12_net_95, eX12_net_85, eX12_net_78, eX12_net_71, eX12_net_64, eX12_net_123, eX12_net_114, eX12_net_77, eX12_net_70, eX12_net_117, fX12_isNet _ _ _ hN hC.m51, hq, Option.bind_some, Option.toList_some, Option.toList_none, List.nil_append, List.cons_append, q_ck_tt, Bool.and_true, Bool.true_and, if_true, if_false, reduceCtorEq, q_10, eq_self, qb_t, qb_f, f1, f2, h6, hc, hmo, hfi, hto, fX12_truth, k19, q_in_nI (show 19 + n < 65 by omega) (by omega), nI_clamp (show 19 + n < 2 ^ 31 by omega), o2.r 88 (fun _ => rfl), o2.r 93 (fun _ => rfl), l1, l2, (hC.cnt hn).1, (hC.cnt hn).2, ← (hC.bs n hn).1]
      (repeat' split) <;> rfl
end EA
