/-! ===== longs: bits ===== -/
theorem q_lc (x : Int64) : lg_cmp x 0 = 0 ↔ x = 0 := by
  unfold lg_cmp
  by_cases h : x = 0
  · subst h; simp
  · simp [h]
    split <;> decide
/-- bytes under sums and masks -/
theorem qL8_add (f g : Nat → Nat) : ∀ cs : List Nat, qL8 (cs.map f) + qL8 (cs.map g) = qL8 (cs.map (fun c => f c + g c))
  | [] => rfl
  | c :: r => by
    have ih := qL8_add f g r
    show f c + 256 * qL8 (r.map f) + (g c + 256 * qL8 (r.map g)) = f c + g c + 256 * qL8 (r.map (fun c => f c + g c))
    rw [← ih]
    omega
theorem qL8_and (c Z m W : Nat) (hc : c < 256) (hm : m < 256) : (c + 256 * Z) &&& (m + 256 * W) = (c &&& m) + 256 * (Z &&& W) := by
  have hlow : (c &&& m) < 256 := Nat.lt_of_le_of_lt Nat.and_le_left hc
  apply Nat.eq_of_testBit_eq
  intro i
  rw [Nat.testBit_and, qL8_tb _ _ _ hc, qL8_tb _ _ _ hm, qL8_tb _ _ _ hlow]
  by_cases hi : i < 8
  · rw [if_pos hi, if_pos hi, if_pos hi, Nat.testBit_and]
  · rw [if_neg hi, if_neg hi, if_neg hi, Nat.testBit_and]
def qy3 (c : Nat) : Nat := qy2 c / 16 + qy2 c % 16
theorem qL8_m16 (cs : List Nat) (h : ∀ c ∈ cs, c < 256) : qL8 (cs.map qy2) % 16 ≤ 4 := by
  cases cs with
  | nil => exact Nat.zero_le _
  | cons c r =>
    obtain ⟨-, -, -, -, a5, -⟩ := qy_t c (h c List.mem_cons_self)
    show (qy2 c + 256 * qL8 (r.map qy2)) % 16 ≤ 4
    omega
theorem qL8_nib : ∀ cs : List Nat, (∀ c ∈ cs, c < 256) → (qL8 (cs.map qy2) + qL8 (cs.map qy2) / 16) &&& qL8 (List.replicate cs.length 15) = qL8 (cs.map qy3)
  | [], _ => rfl
  | c :: r, h => by
    have ih := qL8_nib r (fun d hd => h d (List.mem_cons_of_mem _ hd))
    have hr := qL8_m16 r (fun d hd => h d (List.mem_cons_of_mem _ hd))
    obtain ⟨-, -, a3, a4, a5, -⟩ := qy_t c (h c List.mem_cons_self)
    show ((qy2 c + 256 * qL8 (r.map qy2)) + (qy2 c + 256 * qL8 (r.map qy2)) / 16) &&& (15 + 256 * qL8 (List.replicate r.length 15)) = qy3 c + 256 * qL8 (r.map qy3)
    rw [← ih]
    generalize qL8 (r.map qy2) = R at hr
    generalize qL8 (List.replicate r.length 15) = W
    obtain ⟨u, l, hul, hu, hl⟩ : ∃ u l : Nat, qy2 c = 16 * u + l ∧ u ≤ 4 ∧ l ≤ 4 := ⟨qy2 c / 16, qy2 c % 16, (Nat.div_add_mod _ _).symm, a4, a5⟩
    have h3 : qy3 c = u + l := by unfold qy3; rw [hul]; omega
    obtain ⟨R1, R0, hR⟩ : ∃ R1 R0 : Nat, R = 16 * R1 + R0 ∧ R0 ≤ 4 := ⟨R / 16, R % 16, (Nat.div_add_mod _ _).symm, hr⟩
    have hsum : (qy2 c + 256 * R) + (qy2 c + 256 * R) / 16 = ((u + l) + 16 * (u + R0)) + 256 * (R + R / 16) := by
      rw [hul, hR.1]
      omega
    rw [hsum, qL8_and _ _ _ _ (by omega) (by omega), h3]
    congr 1
    exact qnib (u + l) (u + R0) (by omega) (by omega)
theorem qL8_lt : ∀ cs : List Nat, (∀ c ∈ cs, c < 256) → qL8 cs < 256 ^ cs.length
  | [], _ => by show 0 < 1; omega
  | c :: r, h => by
    have ih := qL8_lt r (fun d hd => h d (List.mem_cons_of_mem _ hd))
    have hc := h c List.mem_cons_self
    show c + 256 * qL8 r < 256 ^ (r.length + 1)
    rw [Nat.pow_succ]
    omega
theorem qL8_lt8 {l : List Nat} (hl : l.length = 8) (h : ∀ c ∈ l, c < 256) : qL8 l < 2 ^ 64 := by
  have h1 := qL8_lt l h
  have h2 : (256 : Nat) ^ 8 = 2 ^ 64 := by decide
  rw [hl, h2] at h1
  exact h1
theorem qL8_cut : ∀ n X : Nat, X < 256 ^ n → ∃ cs : List Nat, cs.length = n ∧ (∀ c ∈ cs, c < 256) ∧ X = qL8 cs
  | 0, X, h => ⟨[], rfl, (fun c hc => (by cases hc)), (by show X = 0; rw [Nat.pow_zero] at h; omega)⟩
  | n + 1, X, h => by
    obtain ⟨cs, h1, h2, h3⟩ := qL8_cut n (X / 256) (by rw [Nat.pow_succ] at h; omega)
    refine ⟨X % 256 :: cs, by rw [List.length_cons, h1], fun c hc => ?_, ?_⟩
    · rcases List.mem_cons.mp hc with rfl | hc
      · omega
      · exact h2 c hc
    · show X = X % 256 + 256 * qL8 cs
      rw [← h3]
      omega
theorem qL8_ct : ∀ cs : List Nat, (∀ c ∈ cs, c < 256) → fb_ct (fun k => (qL8 cs).testBit k) (8 * cs.length) = (cs.map qy3).sum
  | [], _ => rfl
  | c :: r, h => by
    have ih := qL8_ct r (fun d hd => h d (List.mem_cons_of_mem _ hd))
    have hc := h c List.mem_cons_self
    obtain ⟨-, -, -, -, -, a6⟩ := qy_t c hc
    rw [List.map_cons, List.sum_cons, ← ih, List.length_cons, show 8 * (r.length + 1) = 8 + 8 * r.length by omega, fb_ct_split]
    congr 1
    · show _ = qy3 c
      unfold qy3
      rw [a6]
      exact fb_ct_cong (fun k hk => by show (c + 256 * qL8 r).testBit k = _; rw [qL8_tb _ _ _ hc, if_pos hk])
    · exact fb_ct_cong (fun k hk => by show (c + 256 * qL8 r).testBit (8 + k) = _; rw [qL8_tb _ _ _ hc, if_neg (by omega), Nat.add_sub_cancel_left])
theorem qL8_zip : ∀ xs ys : List Nat, xs.length = ys.length → qL8 xs + qL8 ys = qL8 (List.zipWith (fun a b => a + b) xs ys)
  | [], [], _ => rfl
  | [], _ :: _, h => by cases h
  | _ :: _, [], h => by cases h
  | x :: xs, y :: ys, h => by
    have ih := qL8_zip xs ys (by injection h)
    show x + 256 * qL8 xs + (y + 256 * qL8 ys) = x + y + 256 * qL8 (List.zipWith (fun a b => a + b) xs ys)
    rw [← ih]
    omega
theorem qy3_8 {c : Nat} (hc : c < 256) : qy3 c ≤ 8 := by
  obtain ⟨-, -, -, a4, a5, -⟩ := qy_t c hc
  unfold qy3
  omega
theorem lN_ad (a b : Nat) : lN a + lN b = lN (a + b) := (Int64.ofNat_add a b).symm
theorem lN_sb {a b : Nat} (h : b ≤ a) : lN a - lN b = lN (a - b) := by
  have h1 : lN (a - b) + lN b = lN a := by rw [lN_ad]; congr 1; omega
  rw [← h1, Int64.add_sub_cancel]
section LO
variable (I : Nat → Nat → Int32) (J : Nat → Nat → Int64) (e : QP)
theorem fJ13_bitCount {X : Nat} (hX : X < 2 ^ 64) : mJ13_bitCount_95d88 [.long (lN X)] (qm I J e) = some (some (.int (nI (fb_ct (fun k => X.testBit k) 64))), qm I J e) := by
  obtain ⟨cs, hlen, hcs, hx⟩ := qL8_cut 8 X (by rw [show 256 ^ 8 = 2 ^ 64 from rfl]; exact hX)
  have hct : fb_ct (fun k => X.testBit k) 64 = (cs.map qy3).sum := by
    have := qL8_ct cs hcs
    rw [hlen, ← hx] at this
    exact this
  have r85 : qL8 (List.replicate cs.length 85) = 6148914691236517205 := by rw [hlen]; rfl
  have r51 : qL8 (List.replicate cs.length 51) = 3689348814741910323 := by rw [hlen]; rfl
  have r15 : qL8 (List.replicate cs.length 15) = 1085102592571150095 := by rw [hlen]; rfl
  have hmap : ∀ f : Nat → Nat, (∀ c, c < 256 → f c < 256) → ∀ d ∈ cs.map f, d < 256 := by
    intro f hf d hd
    obtain ⟨c, hc, rfl⟩ := List.mem_map.mp hd
    exact hf c (hcs c hc)
  have hlt : ∀ f : Nat → Nat, (∀ c, c < 256 → f c < 256) → qL8 (cs.map f) < 2 ^ 64 := by
    intro f hf
    have := qL8_lt (cs.map f) (hmap f hf)
    rw [List.length_map, hlen] at this
    exact this
  have e1 : (X / 2 ^ 1) &&& 6148914691236517205 = qL8 (cs.map (fun c => (c >>> 1) &&& 85)) := by
    rw [← r85, ← qL8_sh 1 85 (by omega) (by decide) cs hcs, hx, Nat.shiftRight_eq_div_pow]
  have hsplit : X = qL8 (cs.map qy1) + qL8 (cs.map (fun c => (c >>> 1) &&& 85)) := by
    rw [qL8_add, hx]
    congr 1
    conv => lhs; rw [← List.map_id cs]
    refine List.map_congr_left (fun c hc => ?_)
    obtain ⟨a1, -⟩ := qy_t c (hcs c hc)
    show c = qy1 c + _
    unfold qy1
    omega
  have hy1 : X - qL8 (cs.map (fun c => (c >>> 1) &&& 85)) = qL8 (cs.map qy1) := by omega
  have l1 := hlt qy1 (fun c hc => (qy_t c hc).2.1)
  have hm1 := hmap qy1 (fun c hc => (qy_t c hc).2.1)
  have e2 : qL8 (cs.map qy1) &&& 3689348814741910323 = qL8 (cs.map (fun c => qy1 c &&& 51)) := by
    have := qL8_sh 0 51 (by omega) (by decide) (cs.map qy1) hm1
    rw [List.length_map, r51, Nat.shiftRight_zero, List.map_map] at this
    rw [this]
    rfl
  have e3 : (qL8 (cs.map qy1) / 2 ^ 2) &&& 3689348814741910323 = qL8 (cs.map (fun c => (qy1 c >>> 2) &&& 51)) := by
    have := qL8_sh 2 51 (by omega) (by decide) (cs.map qy1) hm1
    rw [List.length_map, r51, Nat.shiftRight_eq_div_pow, List.map_map] at this
    rw [this]
    rfl
  have e4 : qL8 (cs.map (fun c => qy1 c &&& 51)) + qL8 (cs.map (fun c => (qy1 c >>> 2) &&& 51)) = qL8 (cs.map qy2) := qL8_add _ _ cs
  have l2 := hlt qy2 (fun c hc => (qy_t c hc).2.2.1)
  have e5 : (qL8 (cs.map qy2) + qL8 (cs.map qy2) / 2 ^ 4) &&& 1085102592571150095 = qL8 (cs.map qy3) := by
    rw [← r15]
    exact qL8_nib cs hcs
  have l3 : ∀ c ∈ cs, qy3 c ≤ 8 := fun c hc => qy3_8 (hcs c hc)
  have hc15 : lN X - (((lN X).toUInt64 >>> ((1 : Int32).toInt64.toUInt64 &&& Int64.toUInt64 63)).toInt64 &&& 6148914691236517205) = lN (qL8 (cs.map qy1)) := by
    rw [show (1 : Int32) = nI 1 from rfl, wb_shr hX (by omega), show (6148914691236517205 : Int64) = lN 6148914691236517205 from rfl, fb_andL, e1, lN_sb (by omega), hy1]
  rw [bJ13_bitCount_95d88, eJ13_bitCount_95d88_0, hc15, show (2 : Int32) = nI 2 from rfl, wb_shr l1 (by omega), show (3689348814741910323 : Int64) = lN 3689348814741910323 from rfl, fb_andL, e2, eJ13_bitCount_95d88_18, show (3689348814741910323 : Int64) = lN 3689348814741910323 from rfl, fb_andL, e3, lN_ad, e4, show (4 : Int32) = nI 4 from rfl, wb_shr l2 (by omega), lN_ad, show (1085102592571150095 : Int64) = lN 1085102592571150095 from rfl, fb_andL, e5]
  -- eight numbers of at most eight
  obtain ⟨p0, p1, p2, p3, p4, p5, p6, p7, hp⟩ : ∃ p0 p1 p2 p3 p4 p5 p6 p7 : Nat, cs.map qy3 = [p0, p1, p2, p3, p4, p5, p6, p7] := by
    have hl : (cs.map qy3).length = 8 := by rw [List.length_map, hlen]
    match hq : cs.map qy3, hl with
    | [p0, p1, p2, p3, p4, p5, p6, p7], _ => exact ⟨p0, p1, p2, p3, p4, p5, p6, p7, rfl⟩
  have hle : ∀ d ∈ cs.map qy3, d ≤ 8 := by
    intro d hd
    obtain ⟨c, hc, rfl⟩ := List.mem_map.mp hd
    exact l3 c hc
  rw [hp] at hle
  have b0 := hle p0 (by simp)
  have b1 := hle p1 (by simp)
  have b2 := hle p2 (by simp)
  have b3 := hle p3 (by simp)
  have b4 := hle p4 (by simp)
  have b5 := hle p5 (by simp)
  have b6 := hle p6 (by simp)
  have b7 := hle p7 (by simp)
  have hs : (cs.map qy3).sum = p0 + p1 + p2 + p3 + p4 + p5 + p6 + p7 := by
    rw [hp]
    simp only [List.sum_cons, List.sum_nil]
    omega
  have hbd : ∀ {a : Nat} {l : List Nat}, (∀ d ∈ l, d < 256) → a < 256 → ∀ d ∈ a :: l, d < 256 := by
    intro a l hl ha d hd
    rcases List.mem_cons.mp hd with rfl | hd
    · exact ha
    · exact hl d hd
  have hbn : ∀ d ∈ ([] : List Nat), d < 256 := fun d hd => by cases hd
  rw [hp, hct, hs]
  have z1 : qL8 [p0, p1, p2, p3, p4, p5, p6, p7] < 2 ^ 64 := qL8_lt8 rfl (hbd (hbd (hbd (hbd (hbd (hbd (hbd (hbd hbn (by omega)) (by omega)) (by omega)) (by omega)) (by omega)) (by omega)) (by omega)) (by omega))
  have d1 : qL8 [p0, p1, p2, p3, p4, p5, p6, p7] / 2 ^ 8 = qL8 [p1, p2, p3, p4, p5, p6, p7, 0] := qL8_d (by omega)
  have s1 : qL8 [p0, p1, p2, p3, p4, p5, p6, p7] + qL8 [p1, p2, p3, p4, p5, p6, p7, 0] = qL8 [p0 + p1, p1 + p2, p2 + p3, p3 + p4, p4 + p5, p5 + p6, p6 + p7, p7 + 0] := qL8_zip [p0, p1, p2, p3, p4, p5, p6, p7] [p1, p2, p3, p4, p5, p6, p7, 0] rfl
  generalize hq0 : p0 + p1 = q0 at s1
  generalize hq1 : p1 + p2 = q1 at s1
  generalize hq2 : p2 + p3 = q2 at s1
  generalize hq3 : p3 + p4 = q3 at s1
  generalize hq4 : p4 + p5 = q4 at s1
  generalize hq5 : p5 + p6 = q5 at s1
  generalize hq6 : p6 + p7 = q6 at s1
  generalize hq7 : p7 + 0 = q7 at s1
  have z2 : qL8 [q0, q1, q2, q3, q4, q5, q6, q7] < 2 ^ 64 := qL8_lt8 rfl (hbd (hbd (hbd (hbd (hbd (hbd (hbd (hbd hbn (by omega)) (by omega)) (by omega)) (by omega)) (by omega)) (by omega)) (by omega)) (by omega))
  have d2 : qL8 [q0, q1, q2, q3, q4, q5, q6, q7] / 2 ^ 16 = qL8 [q2, q3, q4, q5, q6, q7, 0, 0] := by
    rw [show (2 : Nat) ^ 16 = 256 * 256 from rfl, ← Nat.div_div_eq_div_mul, qL8_d (by omega), qL8_d (by omega)]
    rfl
  have s2 : qL8 [q0, q1, q2, q3, q4, q5, q6, q7] + qL8 [q2, q3, q4, q5, q6, q7, 0, 0] = qL8 [q0 + q2, q1 + q3, q2 + q4, q3 + q5, q4 + q6, q5 + q7, q6 + 0, q7 + 0] := qL8_zip [q0, q1, q2, q3, q4, q5, q6, q7] [q2, q3, q4, q5, q6, q7, 0, 0] rfl
  generalize hr0 : q0 + q2 = r0 at s2
  generalize hr1 : q1 + q3 = r1 at s2
  generalize hr2 : q2 + q4 = r2 at s2
  generalize hr3 : q3 + q5 = r3 at s2
  generalize hr4 : q4 + q6 = r4 at s2
  generalize hr5 : q5 + q7 = r5 at s2
  generalize hr6 : q6 + 0 = r6 at s2
  generalize hr7 : q7 + 0 = r7 at s2
  have z3 : qL8 [r0, r1, r2, r3, r4, r5, r6, r7] < 2 ^ 64 := qL8_lt8 rfl (hbd (hbd (hbd (hbd (hbd (hbd (hbd (hbd hbn (by omega)) (by omega)) (by omega)) (by omega)) (by omega)) (by omega)) (by omega)) (by omega))
  have d3 : qL8 [r0, r1, r2, r3, r4, r5, r6, r7] / 2 ^ 32 = qL8 [r4, r5, r6, r7] := by
    rw [show (2 : Nat) ^ 32 = 256 * (256 * (256 * 256)) from rfl, ← Nat.div_div_eq_div_mul, ← Nat.div_div_eq_div_mul, ← Nat.div_div_eq_div_mul, qL8_d (by omega), qL8_d (by omega), qL8_d (by omega), qL8_d (by omega)]
  have s3 : ∃ W, qL8 [r0, r1, r2, r3, r4, r5, r6, r7] + qL8 [r4, r5, r6, r7] = (r0 + r4) + 256 * W := by
    refine ⟨qL8 [r1, r2, r3, r4, r5, r6, r7] + qL8 [r5, r6, r7], ?_⟩
    show (r0 + 256 * qL8 [r1, r2, r3, r4, r5, r6, r7]) + (r4 + 256 * qL8 [r5, r6, r7]) = _
    generalize qL8 [r1, r2, r3, r4, r5, r6, r7] = A
    generalize qL8 [r5, r6, r7] = B
    omega
  obtain ⟨W, s3⟩ := s3
  have hfin : r0 + r4 = p0 + p1 + p2 + p3 + p4 + p5 + p6 + p7 := by omega
  rw [eJ13_bitCount_95d88_36, show (8 : Int32) = nI 8 from rfl, wb_shr z1 (by omega), lN_ad, d1, s1, show (16 : Int32) = nI 16 from rfl, wb_shr z2 (by omega), lN_ad, d2, s2, show (32 : Int32) = nI 32 from rfl, wb_shr z3 (by omega), d3, eJ13_bitCount_95d88_53, lN_ad, s3]
  have hto : (lN ((r0 + r4) + 256 * W)).toInt32 &&& 127 = nI (((r0 + r4) + 256 * W) % 128) := by
    have h1 : ∀ n : Nat, (lN n).toInt32 = nI n := fun n => Int64.toInt32_ofNat
    rw [h1, show (127 : Int32) = nI (2 ^ 7 - 1) from rfl, fa_mask]
  have hmod : ((r0 + r4) + 256 * W) % 128 = r0 + r4 := by
    clear s1 s2 s3 z1 z2 z3 d1 d2 d3
    omega
  rw [hto, hmod, show r0 + r4 = q0 + p2 + p3 + p4 + p5 + p6 + p7 by omega]
end LO
