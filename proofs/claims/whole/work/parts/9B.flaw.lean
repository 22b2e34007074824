/-! ===== constructors: the law's start ===== -/
theorem q_m113 (I : Nat → Nat → Int32) (J : Nat → Nat → Int64) (L : Nat) : ((I, J, qcR_225, qcS_113 L, 113) : QM) = qm I J (3, 17, 17, 33, L) := by
  unfold qm
  rw [qcR_eq L, qcS_eq L]
theorem q_init12 {B : Nat → Nat → Int32} (L : Nat) (I : Nat → Nat → Int32) (J : Nat → Nat → Int64) (hZ : q_Z B qfK (q_up qX0 1 14 (-1)) 64 I J) (hB : q_Sta B) : ∃ I' J', mX12_init [.ref 64] (I, J, qcR_127, qcS_64 L, 64) = some (none, qm I' J' (3, 17, 17, 33, L)) ∧ q_Q q_Ky I' J' := by
  obtain ⟨I1, J1, h1, z1⟩ := n_X12_a L I J hZ
  obtain ⟨I2, w1, w2, w3⟩ := q_layW I1 J1 (3, 17, 17, 33, L)
  have z64 : ∀ k, k ≠ 3 → k ≠ 27 → I1 64 k = 0 := fun k a b => by
    rw [z1.1 64 k (by omega) (by omega), q_up_at2 _ _ b, q_up_at2 _ _ a, q_up_at3 _ _ (by decide)]
    rfl
  have zz : ∀ p k, 1 ≤ p → p ≤ 113 → p ≠ 1 → p ≠ 64 → I1 p k = 0 := fun p k a b c d => by
    rw [z1.1 p k a b, q_up_at3 _ _ d, q_up_at3 _ _ d, q_up_at3 _ _ c]
    rfl
  have i50 : I2 64 50 = nI 0 := by rw [w2 64 (by decide)]; exact z64 50 (by decide) (by decide)
  have i51 : I2 64 51 = nI 0 := by rw [w2 64 (by decide)]; exact z64 51 (by decide) (by decide)
  obtain ⟨I3, t1, t2, t3, t4, t5, t6, t7⟩ := q_layT (R := I2) J1 (3, 17, 17, 33, L) (D := 0) (N := 0) (by omega) (by omega) i50 i51
  refine ⟨I3, J1, ?_, ?_⟩
  · rw [h1, q_m113]
    refine (q_D_call (X := mX12_layWalks [.ref 64] (qm I1 J1 (3, 17, 17, 33, L))) (b := true) (pc := 410) (L := [some (.ref 64)]) (st := []) (ce := 49) (sl := 8345) 0 (true, 407, [some (.ref 64)], [.ref 64], qm I1 J1 (3, 17, 17, 33, L), 49, 8345) rfl rfl).trans ?_
    rw [q_ck_tt, w1]
    show q_D _ _ _ (true, 410, [some (.ref 64)], [], qm I2 J1 (3, 17, 17, 33, L), 49, 8345) = _
    refine (q_D_call (X := mX12_layTold [.ref 64] (qm I2 J1 (3, 17, 17, 33, L))) (b := true) (pc := 414) (L := [some (.ref 64)]) (st := []) (ce := 49) (sl := 8345) 1 (true, 411, [some (.ref 64)], [.ref 64], qm I2 J1 (3, 17, 17, 33, L), 49, 8345) rfl rfl).trans ?_
    rw [q_ck_tt, t1]
    show q_D _ _ _ (true, 414, [some (.ref 64)], [], qm I3 J1 (3, 17, 17, 33, L), 49, 8345) = _
    exact q_D_end 1 rfl
  · have hX : ∀ p k, 1 ≤ p → p ≤ 113 → p ≠ 93 → p ≠ 95 → I3 p k = qX3 p k := fun p k a b c d => by
      rw [t2 p c, w2 p d]; exact z1.1 p k a b
    have z2 : ∀ p, p ≠ 93 → p ≠ 95 → I3 p = I1 p := fun p c d => by rw [t2 p c, w2 p d]
    refine q_initQ hX (fun k => ?_) ?_ ?_ ?_ t4 (fun a ha => ?_) (fun a ha => ?_)
    · rw [z1.2.1 32 k (by omega) (by omega), if_pos rfl]
    · have hb : ∀ p, 113 < p → I3 p = B p := fun p hp => by rw [z2 p (by omega) (by omega)]; exact z1.2.2 p hp
      unfold q_Sta
      rw [hb 1000 (by omega), hb 1001 (by omega), hb 1002 (by omega), hb 1003 (by omega)]
      exact hB
    · exact q_k_fr w3 (t2 95 (by decide))
    · refine ⟨t3.1, t3.2.1, t3.2.2.trans ?_⟩
      rw [w2 64 (by decide)]; exact z64 53 (by decide) (by decide)
    · rw [t6 a ha, if_neg (Nat.not_lt_zero a)]
    · rw [t7 a ha, w2 91 (by decide)]
      exact zz 91 a (by omega) (by omega) (by omega) (by omega)
theorem q_startS (L : Nat) (xs : Nat → Int32) (hL : L ≤ 3072) : ∃ (I : Nat → Nat → Int32) (J : Nat → Nat → Int64) (e : QP), q_QE (q_Q q_Ky) I J e ∧ e.2.2.2.2 = L ∧ kL_law 0 (q_L0 [.ref 1004] 4) [] (q_M0 L xs) 0 0 = kL_law 18 [some (.ref 1004), some (.ref 1), some (.ref 64), some (.int 0)] [] (qm I J e) 113 13229 := by
  have hZ1 : q_Z (q_I0 xs) qfZ qX0 1 (va_up (q_I0 xs) 1 (fun _ => 0)) (va_up (fun _ _ => 0) 1 (fun _ => 0)) := by
    refine ⟨fun p k a b => ?_, fun p k a b => ?_, fun p hp => va_miss (by omega)⟩
    · have : p = 1 := by omega
      subst this
      rw [va_hit]; rfl
    · have : p = 1 := by omega
      subst this
      rw [va_hit]; rfl
  obtain ⟨I1, J1, h1, z1⟩ := n_X11_init_1 L _ _ hZ1
  obtain ⟨I2, J2, h2, hQ⟩ := q_init12 L _ _ (q_Z_new z1 (by decide) (Or.inl (by decide)) (fun _ => rfl)) (show q_Sta (q_I0 xs) from ⟨fun _ => rfl, fun _ => rfl, fun _ => rfl, fun _ => rfl⟩)
  refine ⟨I2, J2, (3, 17, 17, 33, L), Or.inl ⟨rfl, rfl, hQ⟩, rfl, ?_⟩
  show q_D cs_L_law oL_law (113, 13229) (true, 0, [some (.ref 1004), none, none, none], [], (q_I0 xs, (fun _ _ => 0), qcR_0, qcS_0 L, 0), 0, 0) = _
  refine (q_D_call (X := mX11_init [.ref 1] (va_up (q_I0 xs) 1 (fun _ => 0), va_up (fun _ _ => 0) 1 (fun _ => 0), qcR_1, qcS_1 L, 1)) (b := true) (pc := 7) (L := [some (.ref 1004), none, none, none]) (st := [.ref 1]) (ce := 63) (sl := 4800) 2 (true, 4, [some (.ref 1004), none, none, none], [.ref 1, .ref 1], (va_up (q_I0 xs) 1 (fun _ => 0), va_up (fun _ _ => 0) 1 (fun _ => 0), qcR_1, qcS_1 L, 1), 1, 16) rfl rfl).trans ?_
  rw [q_ck_tt, h1]
  show q_D _ _ _ (true, 7, [some (.ref 1004), none, none, none], [.ref 1], (I1, J1, qcR_126, qcS_63 L, 63), 63, 4800) = _
  refine (q_D_call (X := mX12_init [.ref 64] (va_up I1 64 (fun _ => 0), va_up J1 64 (fun _ => 0), qcR_127, qcS_64 L, 64)) (b := true) (pc := 15) (L := [some (.ref 1004), some (.ref 1), none, none]) (st := [.ref 64]) (ce := 113) (sl := 13229) 3 (true, 12, [some (.ref 1004), some (.ref 1), none, none], [.ref 64, .ref 64], (va_up I1 64 (fun _ => 0), va_up J1 64 (fun _ => 0), qcR_127, qcS_64 L, 64), 64, 4884) rfl rfl).trans ?_
  rw [q_ck_tt, h2]
  show q_D _ _ _ (true, 15, [some (.ref 1004), some (.ref 1), none, none], [.ref 64], qm I2 J2 (3, 17, 17, 33, L), 113, 13229) = _
  exact q_D_by (c' := (true, 18, [some (.ref 1004), some (.ref 1), some (.ref 64), some (.int 0)], [], qm I2 J2 (3, 17, 17, 33, L), 113, 13229)) 3 rfl
