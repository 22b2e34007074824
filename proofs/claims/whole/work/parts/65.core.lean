/-! ===== the core of the invariant; what may be written over ===== -/
theorem q_10 : ((1 : Int32) = 0) = False := eq_false (by decide)
def q_scl : List Nat := [16, 35, 36, 43, 48, 49, 50, 51, 54, 55, 72, 73, 94, 97, 98, 99, 100, 102, 103, 104, 111]
def q_scr (p k : Nat) : Bool := q_scl.any (Nat.beq p) || (Nat.beq p 56 && Nat.beq k 7)
def q_Off (I I' : Nat → Nat → Int32) : Prop := ∀ p k, q_scr p k = false → I' p k = I p k
theorem q_Off_refl (I : Nat → Nat → Int32) : q_Off I I := fun _ _ _ => rfl
theorem q_Off_trans {I I' I'' : Nat → Nat → Int32} (h : q_Off I I') (h' : q_Off I' I'') : q_Off I I'' := fun p k hp => by rw [h' p k hp, h p k hp]
theorem q_Off_va (I : Nat → Nat → Int32) {p : Nat} (hp : q_scl.any (Nat.beq p) = true) (v : Nat → Int32) : q_Off I (va_up I p v) := by
  intro q k h
  rw [va_up_at]
  by_cases hq : q = p
  · rw [hq] at h; unfold q_scr at h; rw [hp] at h; cases h
  · rw [if_neg hq]
theorem q_Off_row {I I' : Nat → Nat → Int32} (h : q_Off I I') {p : Nat} (hp : ∀ k, q_scr p k = false) : I' p = I p := funext (fun k => h p k (hp k))
def q_Core (I : Nat → Nat → Int32) (D N : Nat) (cl : Nat → Nat) (RM : Nat) (rc : Nat → Nat) : Prop := q_Sta I ∧ q_Bn I D N cl ∧ q_Bc I D N cl ∧ q_Bs I N ∧ q_Br I RM rc ∧ q_Fo I ∧ q_Ch D N (bt (I 3 11)) (qcr I) (I 93) ∧ I 64 27 = -1
theorem q_Core.st {I : Nat → Nat → Int32} {D N : Nat} {cl : Nat → Nat} {RM : Nat} {rc : Nat → Nat} (h : q_Core I D N cl RM rc) : q_Sta I := h.1
theorem q_Core.bn {I : Nat → Nat → Int32} {D N : Nat} {cl : Nat → Nat} {RM : Nat} {rc : Nat → Nat} (h : q_Core I D N cl RM rc) : q_Bn I D N cl := h.2.1
theorem q_Core.bc {I : Nat → Nat → Int32} {D N : Nat} {cl : Nat → Nat} {RM : Nat} {rc : Nat → Nat} (h : q_Core I D N cl RM rc) : q_Bc I D N cl := h.2.2.1
theorem q_Core.bs {I : Nat → Nat → Int32} {D N : Nat} {cl : Nat → Nat} {RM : Nat} {rc : Nat → Nat} (h : q_Core I D N cl RM rc) : q_Bs I N := h.2.2.2.1
theorem q_Core.br {I : Nat → Nat → Int32} {D N : Nat} {cl : Nat → Nat} {RM : Nat} {rc : Nat → Nat} (h : q_Core I D N cl RM rc) : q_Br I RM rc := h.2.2.2.2.1
theorem q_Core.fo {I : Nat → Nat → Int32} {D N : Nat} {cl : Nat → Nat} {RM : Nat} {rc : Nat → Nat} (h : q_Core I D N cl RM rc) : q_Fo I := h.2.2.2.2.2.1
theorem q_Core.ch {I : Nat → Nat → Int32} {D N : Nat} {cl : Nat → Nat} {RM : Nat} {rc : Nat → Nat} (h : q_Core I D N cl RM rc) : q_Ch D N (bt (I 3 11)) (qcr I) (I 93) := h.2.2.2.2.2.2.1
theorem q_Core.on {I : Nat → Nat → Int32} {D N : Nat} {cl : Nat → Nat} {RM : Nat} {rc : Nat → Nat} (h : q_Core I D N cl RM rc) : I 64 27 = -1 := h.2.2.2.2.2.2.2
theorem q_Core_off {I I' : Nat → Nat → Int32} {D N : Nat} {cl : Nat → Nat} {RM : Nat} {rc : Nat → Nat} (h : q_Core I D N cl RM rc) (ho : q_Off I I') : q_Core I' D N cl RM rc := by
  have h3 := q_Off_row ho (p := 3) (fun _ => rfl)
  have h5 := q_Off_row ho (p := 5) (fun _ => rfl)
  have h6 := q_Off_row ho (p := 6) (fun _ => rfl)
  have h7 := q_Off_row ho (p := 7) (fun _ => rfl)
  have h9 := q_Off_row ho (p := 9) (fun _ => rfl)
  have h10 := q_Off_row ho (p := 10) (fun _ => rfl)
  have h11 := q_Off_row ho (p := 11) (fun _ => rfl)
  have h12 := q_Off_row ho (p := 12) (fun _ => rfl)
  have h14 := q_Off_row ho (p := 14) (fun _ => rfl)
  have h15 := q_Off_row ho (p := 15) (fun _ => rfl)
  have h37 := q_Off_row ho (p := 37) (fun _ => rfl)
  have h38 := q_Off_row ho (p := 38) (fun _ => rfl)
  have h39 := q_Off_row ho (p := 39) (fun _ => rfl)
  have h40 := q_Off_row ho (p := 40) (fun _ => rfl)
  have h41 := q_Off_row ho (p := 41) (fun _ => rfl)
  have h42 := q_Off_row ho (p := 42) (fun _ => rfl)
  have h64 := q_Off_row ho (p := 64) (fun _ => rfl)
  have h69 := q_Off_row ho (p := 69) (fun _ => rfl)
  have h70 := q_Off_row ho (p := 70) (fun _ => rfl)
  have h83 := q_Off_row ho (p := 83) (fun _ => rfl)
  have h84 := q_Off_row ho (p := 84) (fun _ => rfl)
  have h85 := q_Off_row ho (p := 85) (fun _ => rfl)
  have h86 := q_Off_row ho (p := 86) (fun _ => rfl)
  have h87 := q_Off_row ho (p := 87) (fun _ => rfl)
  have h88 := q_Off_row ho (p := 88) (fun _ => rfl)
  have h92 := q_Off_row ho (p := 92) (fun _ => rfl)
  have h93 := q_Off_row ho (p := 93) (fun _ => rfl)
  have h1000 := q_Off_row ho (p := 1000) (fun _ => rfl)
  have h1001 := q_Off_row ho (p := 1001) (fun _ => rfl)
  have h1002 := q_Off_row ho (p := 1002) (fun _ => rfl)
  have h1003 := q_Off_row ho (p := 1003) (fun _ => rfl)
  have hq : qcr I' = qcr I := by funext k; unfold qcr; rw [h37, h38, h39, h40, h41, h42]
  refine ⟨?_, ?_, ?_, ?_, ?_, ?_, ?_, ?_⟩
  · unfold q_Sta; rw [h1000, h1001, h1002, h1003]; exact h.st
  · unfold q_Bn; rw [h3, h64, h5, h83, h6, h84, h7, h85]; exact h.bn
  · unfold q_Bc; rw [h12, h87, h86, h9, h10, h3]; exact h.bc
  · unfold q_Bs; rw [h11, h88]; exact h.bs
  · unfold q_Br; rw [h64, h92, h3]; exact h.br
  · unfold q_Fo; rw [h14, h64, h69, h15, h70]; exact h.fo
  · rw [hq, h93, h3]; exact h.ch
  · rw [h64]; exact h.on
theorem qcr_3 (I : Nat → Nat → Int32) {d : Nat} (h : d < 4) : qcr I (3 + d) = I 38 d := by unfold qcr; rw [if_neg (by omega), if_pos (by omega), Nat.add_sub_cancel_left]
theorem qcr_7 (I : Nat → Nat → Int32) {d : Nat} (h : d < 4) : qcr I (7 + d) = I 39 d := by unfold qcr; rw [if_neg (by omega), if_neg (by omega), if_pos (by omega), Nat.add_sub_cancel_left]
theorem qcr_11 (I : Nat → Nat → Int32) {d : Nat} (h : d < 4) : qcr I (11 + d) = I 40 d := by unfold qcr; rw [if_neg (by omega), if_neg (by omega), if_neg (by omega), if_pos (by omega), Nat.add_sub_cancel_left]
theorem qcr_15 (I : Nat → Nat → Int32) {d : Nat} (h : d < 4) : qcr I (15 + d) = I 41 d := by unfold qcr; rw [if_neg (by omega), if_neg (by omega), if_neg (by omega), if_neg (by omega), if_pos (by omega), Nat.add_sub_cancel_left]
theorem qcr_19 (I : Nat → Nat → Int32) (k : Nat) : qcr I (19 + k) = I 42 k := by unfold qcr; rw [if_neg (by omega), if_neg (by omega), if_neg (by omega), if_neg (by omega), if_neg (by omega), Nat.add_sub_cancel_left]
theorem q_FR_cong {N : Nat} (hN : N ≤ 6) {F f f' : Nat → Int32} (h : q_FR N F f) (he : ∀ k, k < 65 → f' k = f k) : q_FR N F f' := by
  obtain ⟨h1, h2, h3, h4⟩ := h
  refine ⟨fun n hn => ?_, h2, fun p hp => ?_, h4⟩
  · rw [he _ (by omega)]; exact h1 n hn
  · obtain ⟨-, -, a, b⟩ := qla_t p hp
    rw [he _ (by omega)]; exact h3 p hp
section CO
variable {I : Nat → Nat → Int32} {D N : Nat} {cl : Nat → Nat} {RM : Nat} {rc : Nat → Nat}
theorem q_Core.d4 (h : q_Core I D N cl RM rc) : D ≤ 4 := h.bn.1.2.2
theorem q_Core.n6 (h : q_Core I D N cl RM rc) : N ≤ 6 := h.bn.2.1.2.2
theorem q_Core.i30 (h : q_Core I D N cl RM rc) : I 3 0 = nI D := h.bn.1.1
theorem q_Core.i35 (h : q_Core I D N cl RM rc) : I 3 5 = nI N := h.bn.2.1.1
theorem q_Core.m50 (h : q_Core I D N cl RM rc) : I 64 50 = nI D := h.bn.1.2.1
theorem q_Core.m51 (h : q_Core I D N cl RM rc) : I 64 51 = nI N := h.bn.2.1.2.1
theorem q_Core.dev (h : q_Core I D N cl RM rc) {d : Nat} (hd : d < D) : (I 38 d = I 93 (3 + d) ∧ I 39 d = I 93 (7 + d) ∧ I 40 d = I 93 (11 + d) ∧ I 41 d = I 93 (15 + d)) ∧ (∃ k : Nat, k < 16 ∧ I 93 (3 + d) = nI k) ∧ (∃ k : Nat, k < 16 ∧ I 93 (7 + d) = nI k) ∧ (∃ k : Nat, k < 256 ∧ I 93 (11 + d) = nI k) ∧ (∃ k : Nat, k < 64 ∧ I 93 (15 + d) = nI k) := by
  have hD := h.d4
  obtain ⟨-, -, -, h4, -⟩ := h.ch
  obtain ⟨⟨a1, a2⟩, ⟨b1, b2⟩, ⟨c1, c2⟩, ⟨d1, d2⟩, -⟩ := h4 d hd
  rw [qcr_3 I (by omega)] at a1
  rw [qcr_7 I (by omega)] at b1
  rw [qcr_11 I (by omega)] at c1
  rw [qcr_15 I (by omega)] at d1
  exact ⟨⟨a1, b1, c1, d1⟩, a2, b2, c2, d2⟩
theorem q_Core.fr (h : q_Core I D N cl RM rc) : q_FR N (I 42) (I 93) := by
  obtain ⟨-, -, -, -, h5, -⟩ := h.ch
  have : (fun k => qcr I (19 + k)) = I 42 := funext (fun k => qcr_19 I k)
  rw [this] at h5
  exact h5
theorem q_Core.dr (h : q_Core I D N cl RM rc) : q_Dr I D (I 93) := by
  intro d hd
  obtain ⟨⟨a, -, -, b⟩, -, -, -, k, hk, hk2⟩ := h.dev hd
  refine ⟨a, b, ?_⟩
  rw [b, hk2]
  exact nI_bits (n := 6) hk (by omega)
/-- the row at hand is the row that is -/
def q_Air (I : Nat → Nat → Int32) : Prop := ∀ k, k < 65 → I 94 k = I 93 k
theorem q_Core.frA (h : q_Core I D N cl RM rc) (ha : q_Air I) : q_FR N (I 42) (I 94) := q_FR_cong h.n6 h.fr ha
theorem q_Core.drA (h : q_Core I D N cl RM rc) (ha : q_Air I) : q_Dr I D (I 94) := by
  intro d hd
  have hD := h.d4
  rw [ha _ (by omega), ha _ (by omega)]
  exact h.dr d hd
theorem q_air_fill (I : Nat → Nat → Int32) : q_Air (va_up I 94 (fa_fill (I 93) (I 94) 65)) := by
  intro k hk
  show fa_fill (I 93) (I 94) 65 k = I 93 k
  exact fa_fill_in hk
theorem q_off_fill (I : Nat → Nat → Int32) : q_Off I (va_up I 94 (fa_fill (I 93) (I 94) 65)) := q_Off_va I rfl _
theorem q_Core.sf (h : q_Core I D N cl RM rc) : ∀ n, n < N → I 88 n = -1 ∨ I 88 n = 0 ∨ I 88 n = 1 := fun n hn => (h.bs n hn).2
theorem q_Core.lay (h : q_Core I D N cl RM rc) (ha : q_Air I) (J : Nat → Nat → Int64) (e : QP) : ∃ d' l', mX12_layDriven [.ref 64] (qm I J e) = some (none, qm (va_up (va_up I 99 d') 100 l') J e) ∧ ∀ n, n < N → d' n = qb (bt (qdv (I 42) (qDn I D N)) n) ∧ l' n = qb (bt (qLev (I 42) (qDn I D N)) n) := by
  obtain ⟨d', l', h1, h2⟩ := fX12_layDriven I J e h.d4 h.m50 h.n6 h.m51 h.sf
  refine ⟨d', l', h1, fun n hn => ?_⟩
  obtain ⟨g1, g2⟩ := h2 n hn
  have hb : ∀ n, n < N → (fun n => qb (!qAny (6 * D) (fun x => qdo (I 86) (I 87) n x && !qdh (I 94) (I 88) x n))) n = qb (bt (qDn I D N) n) := fun n hn => q_Dn_bit h.bn h.bc h.bs (h.drA ha) hn
  refine ⟨?_, ?_⟩
  · rw [g1]; exact q_FR_drive (h.frA ha) hn (hb n hn)
  · rw [g2]; exact q_FR_lev h.n6 (h.frA ha) hb hn
end CO
/-- a call that only looks -/
def q_Obs (f g : List Value → QM → Option QR) (as : List Value) (I : Nat → Nat → Int32) (J : Nat → Nat → Int64) (e : QP) : Prop := ∃ (r : Int32) (I1 I2 : Nat → Nat → Int32), f (.ref 1 :: as) (qm I J e) = some (some (.int r), qm I1 J e) ∧ g (.ref 64 :: as) (qm I1 J e) = some (some (.int r), qm I2 J e) ∧ q_Off I I1 ∧ q_Off I1 I2
