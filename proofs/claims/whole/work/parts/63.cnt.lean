/-! ===== how many bits ===== -/
/-- bytes, the lowest first -/
def qL8 : List Nat → Nat
  | [] => 0
  | c :: r => c + 256 * qL8 r
theorem qL8_tb (c R i : Nat) (hc : c < 256) : (c + 256 * R).testBit i = if i < 8 then c.testBit i else R.testBit (i - 8) := by
  rw [Nat.add_comm, show 256 * R = 2 ^ 8 * R from rfl, Nat.testBit_two_pow_mul_add R (by omega) i]
theorem qL8_sh (s m : Nat) (hs : s < 8) (hm : m < 2 ^ (8 - s)) : ∀ (cs : List Nat), (∀ c ∈ cs, c < 256) → (qL8 cs >>> s) &&& qL8 (List.replicate cs.length m) = qL8 (cs.map (fun c => (c >>> s) &&& m)) := by
  have hm8 : m < 256 := Nat.lt_of_lt_of_le hm (by rw [show 256 = 2 ^ 8 from rfl]; exact Nat.pow_le_pow_right (by omega) (by omega))
  intro cs
  induction cs with
  | nil => intro _; exact Nat.and_zero _
  | cons c r ih =>
    intro h
    have hc := h c List.mem_cons_self
    have hr := ih (fun d hd => h d (List.mem_cons_of_mem _ hd))
    show ((c + 256 * qL8 r) >>> s) &&& (m + 256 * qL8 (List.replicate r.length m)) = ((c >>> s) &&& m) + 256 * qL8 (r.map _)
    rw [← hr]
    have hlow : ((c >>> s) &&& m) < 256 := Nat.lt_of_le_of_lt Nat.and_le_right hm8
    apply Nat.eq_of_testBit_eq
    intro i
    rw [Nat.testBit_and, Nat.testBit_shiftRight, qL8_tb _ _ _ hc, qL8_tb _ _ _ hm8, qL8_tb _ _ _ hlow]
    by_cases hi : i < 8
    · rw [if_pos hi, if_pos hi, Nat.testBit_and, Nat.testBit_shiftRight]
      by_cases hsi : s + i < 8
      · rw [if_pos hsi]
      · have : m.testBit i = false := Nat.testBit_lt_two_pow (Nat.lt_of_lt_of_le hm (Nat.pow_le_pow_right (by omega) (by omega)))
        rw [this, Bool.and_false, Bool.and_false]
    · rw [if_neg hi, if_neg hi, if_neg (by omega), Nat.testBit_and, Nat.testBit_shiftRight, show s + i - 8 = s + (i - 8) by omega]
/-- a byte: pairs, nibbles -/
def qy1 (c : Nat) : Nat := c - ((c >>> 1) &&& 85)
def qy2 (c : Nat) : Nat := (qy1 c &&& 51) + ((qy1 c >>> 2) &&& 51)
theorem qy_t : ∀ c, c < 256 → ((c >>> 1) &&& 85) ≤ c ∧ qy1 c < 256 ∧ qy2 c < 256 ∧ qy2 c / 16 ≤ 4 ∧ qy2 c % 16 ≤ 4 ∧ qy2 c / 16 + qy2 c % 16 = fb_ct (fun k => c.testBit k) 8 := by decide +kernel
theorem qnib (u w : Nat) (hu : u < 16) (hw : w < 16) : (u + 16 * w) &&& 15 = u := by
  rw [show (15 : Nat) = 2 ^ 4 - 1 from rfl, Nat.and_two_pow_sub_one_eq_mod]; omega
theorem q_tbI {X i : Nat} (hi : i < 32) : bt (nI X) i = X.testBit i := by
  show (BitVec.ofNat 32 X).getLsbD i = _
  rw [BitVec.getLsbD_ofNat, decide_eq_true hi, Bool.true_and]
theorem q_cnt4 {a b c d : Nat} (ha : a < 256) (hb : b < 256) (hc : c < 256) (hd : d < 256) : fb_ct (fun k => (qL8 [a, b, c, d]).testBit k) 32 = fb_ct (fun k => a.testBit k) 8 + fb_ct (fun k => b.testBit k) 8 + fb_ct (fun k => c.testBit k) 8 + fb_ct (fun k => d.testBit k) 8 := by
  have h : ∀ (x : Nat) (R : Nat), x < 256 → ∀ n, fb_ct (fun k => (x + 256 * R).testBit k) (8 + n) = fb_ct (fun k => x.testBit k) 8 + fb_ct (fun k => R.testBit k) n := by
    intro x R hx n
    rw [fb_ct_split]
    congr 1
    · exact fb_ct_cong (fun k hk => by rw [qL8_tb _ _ _ hx, if_pos hk])
    · exact fb_ct_cong (fun k hk => by rw [qL8_tb _ _ _ hx, if_neg (by omega), Nat.add_sub_cancel_left])
  have e1 : qL8 [a, b, c, d] = a + 256 * (b + 256 * (c + 256 * (d + 256 * 0))) := rfl
  have e2 : (32 : Nat) = 8 + (8 + (8 + (8 + 0))) := rfl
  have e3 : fb_ct (fun k => (0 : Nat).testBit k) 0 = 0 := rfl
  rw [e1, e2, h a _ ha, h b _ hb, h c _ hc, h d _ hd, e3]
  omega
theorem q_lanes4 {X : Nat} (hX : X < 2 ^ 32) : ∃ a b c d : Nat, a < 256 ∧ b < 256 ∧ c < 256 ∧ d < 256 ∧ X = qL8 [a, b, c, d] := by
  have hd : ∀ Y : Nat, Y = Y % 256 + 256 * (Y / 256) := fun Y => (Nat.mod_add_div Y 256).symm
  have hl : ∀ Y : Nat, Y % 256 < 256 := fun Y => Nat.mod_lt Y (by omega)
  have z1 : (X / 256) < 2 ^ 24 := Nat.div_lt_of_lt_mul (by rw [show 256 * 2 ^ 24 = 2 ^ 32 from rfl]; exact hX)
  have z2 : ((X / 256) / 256) < 2 ^ 16 := Nat.div_lt_of_lt_mul (by rw [show 256 * 2 ^ 16 = 2 ^ 24 from rfl]; exact z1)
  have z3 : (((X / 256) / 256) / 256) < 2 ^ 8 := Nat.div_lt_of_lt_mul (by rw [show 256 * 2 ^ 8 = 2 ^ 16 from rfl]; exact z2)
  have z4 : ((((X / 256) / 256) / 256) / 256) < 2 ^ 0 := Nat.div_lt_of_lt_mul (by rw [show 256 * 2 ^ 0 = 2 ^ 8 from rfl]; exact z3)
  have hz : ((((X / 256) / 256) / 256) / 256) = 0 := by have := z4; omega
  refine ⟨X % 256, (X / 256) % 256, ((X / 256) / 256) % 256, (((X / 256) / 256) / 256) % 256, hl _, hl _, hl _, hl _, ?_⟩
  simp only [qL8]
  have hn : X = X % 256 + 256 * ((X / 256) % 256 + 256 * (((X / 256) / 256) % 256 + 256 * ((((X / 256) / 256) / 256) % 256 + 256 * (((((X / 256) / 256) / 256) / 256))))) := by
    rw [← hd (((X / 256) / 256) / 256), ← hd ((X / 256) / 256), ← hd (X / 256), ← hd X]
  rw [hz] at hn
  exact hn
theorem q_pop4 {X : Nat} (hX : X < 2 ^ 32) {y1 y2 y3 : Nat} (h1 : y1 = X - ((X >>> 1) &&& 1431655765)) (h2 : y2 = (y1 &&& 858993459) + ((y1 >>> 2) &&& 858993459)) (h3 : y3 = (y2 + y2 / 16) &&& 252645135) : ((X >>> 1) &&& 1431655765) ≤ X ∧ y1 < 2 ^ 32 ∧ y2 + y2 / 16 < 2 ^ 32 ∧ ∃ pa pb pc pd : Nat, pa ≤ 8 ∧ pb ≤ 8 ∧ pc ≤ 8 ∧ pd ≤ 8 ∧ y3 = qL8 [pa, pb, pc, pd] ∧ pa + pb + pc + pd = fb_ct (fun k => X.testBit k) 32 := by
  obtain ⟨a, b, c, d, ha, hb, hc, hd, hx⟩ := q_lanes4 hX
  obtain ⟨a1, a2, a3, a4, a5, a6⟩ := qy_t a ha
  obtain ⟨b1, b2, b3, b4, b5, b6⟩ := qy_t b hb
  obtain ⟨c1, c2, c3, c4, c5, c6⟩ := qy_t c hc
  obtain ⟨d1, d2, d3, d4, d5, d6⟩ := qy_t d hd
  have hmem : ∀ qa qb qc qd : Nat, qa < 256 → qb < 256 → qc < 256 → qd < 256 → ∀ z ∈ [qa, qb, qc, qd], z < 256 := by
    intro qa qb qc qd ka kb kc kd z hz
    simp only [List.mem_cons, List.not_mem_nil, or_false] at hz
    rcases hz with h | h | h | h <;> omega
  have e1 : (X >>> 1) &&& 1431655765 = qL8 [(a >>> 1) &&& 85, (b >>> 1) &&& 85, (c >>> 1) &&& 85, (d >>> 1) &&& 85] := by
    rw [hx]; exact qL8_sh 1 85 (by omega) (by decide) [a, b, c, d] (hmem _ _ _ _ ha hb hc hd)
  have hy1 : y1 = qL8 [qy1 a, qy1 b, qy1 c, qy1 d] := by
    rw [h1, e1, hx]
    unfold qy1
    generalize hqa : (a >>> 1) &&& 85 = qa at a1
    generalize hqb : (b >>> 1) &&& 85 = qb at b1
    generalize hqc : (c >>> 1) &&& 85 = qc at c1
    generalize hqd : (d >>> 1) &&& 85 = qd at d1
    simp only [qL8]
    clear hmem e1 h1 h2 h3 hx hX
    omega
  have e2 : y1 &&& 858993459 = qL8 [qy1 a &&& 51, qy1 b &&& 51, qy1 c &&& 51, qy1 d &&& 51] := by
    rw [hy1]
    have := qL8_sh 0 51 (by omega) (by decide) [qy1 a, qy1 b, qy1 c, qy1 d] (hmem _ _ _ _ a2 b2 c2 d2)
    simp only [Nat.shiftRight_zero, List.map_cons, List.map_nil] at this
    exact this
  have e3 : (y1 >>> 2) &&& 858993459 = qL8 [(qy1 a >>> 2) &&& 51, (qy1 b >>> 2) &&& 51, (qy1 c >>> 2) &&& 51, (qy1 d >>> 2) &&& 51] := by
    rw [hy1]; exact qL8_sh 2 51 (by omega) (by decide) [qy1 a, qy1 b, qy1 c, qy1 d] (hmem _ _ _ _ a2 b2 c2 d2)
  have hy2 : y2 = qL8 [qy2 a, qy2 b, qy2 c, qy2 d] := by
    rw [h2, e2, e3]
    unfold qy2
    simp only [qL8]
    clear hmem e1 e2 e3 h1 h2 h3 hx hX hy1 a1 a2 a3 a4 a5 a6 ha b1 b2 b3 b4 b5 b6 hb c1 c2 c3 c4 c5 c6 hc d1 d2 d3 d4 d5 d6 hd
    omega
  obtain ⟨ua, la, ma, na, oa, ra⟩ : ∃ u l : Nat, qy2 a = 16 * u + l ∧ u ≤ 4 ∧ l ≤ 4 ∧ u + l = fb_ct (fun k => a.testBit k) 8 := ⟨qy2 a / 16, qy2 a % 16, (Nat.div_add_mod _ _).symm, a4, a5, a6⟩
  obtain ⟨ub, lb, mb, nb, ob, rb⟩ : ∃ u l : Nat, qy2 b = 16 * u + l ∧ u ≤ 4 ∧ l ≤ 4 ∧ u + l = fb_ct (fun k => b.testBit k) 8 := ⟨qy2 b / 16, qy2 b % 16, (Nat.div_add_mod _ _).symm, b4, b5, b6⟩
  obtain ⟨uc, lc, mc, nc, oc, rc⟩ : ∃ u l : Nat, qy2 c = 16 * u + l ∧ u ≤ 4 ∧ l ≤ 4 ∧ u + l = fb_ct (fun k => c.testBit k) 8 := ⟨qy2 c / 16, qy2 c % 16, (Nat.div_add_mod _ _).symm, c4, c5, c6⟩
  obtain ⟨ud, ld, md, nd, od, rd⟩ : ∃ u l : Nat, qy2 d = 16 * u + l ∧ u ≤ 4 ∧ l ≤ 4 ∧ u + l = fb_ct (fun k => d.testBit k) 8 := ⟨qy2 d / 16, qy2 d % 16, (Nat.div_add_mod _ _).symm, d4, d5, d6⟩
  rw [ma, mb, mc, md] at hy2
  have hdv : y2 / 16 = ua + 16 * qL8 [16 * ub + lb, 16 * uc + lc, 16 * ud + ld] := by
    rw [hy2]
    show (16 * ua + la + 256 * qL8 [16 * ub + lb, 16 * uc + lc, 16 * ud + ld]) / 16 = _
    generalize qL8 [16 * ub + lb, 16 * uc + lc, 16 * ud + ld] = R
    clear hmem h1 h2 h3 e1 e2 e3 hx hX hy1 hy2
    omega
  have hs : y2 + y2 / 16 = qL8 [(ua + la) + 16 * (ua + lb), (ub + lb) + 16 * (ub + lc), (uc + lc) + 16 * (uc + ld), (ud + ld) + 16 * ud] := by
    rw [hdv, hy2]
    simp only [qL8]
    clear hmem h1 h2 h3 e1 e2 e3 hx hX hy1 hy2 hdv
    omega
  have hy3 : y3 = qL8 [ua + la, ub + lb, uc + lc, ud + ld] := by
    rw [h3, hs]
    have := qL8_sh 0 15 (by omega) (by decide) [(ua + la) + 16 * (ua + lb), (ub + lb) + 16 * (ub + lc), (uc + lc) + 16 * (uc + ld), (ud + ld) + 16 * ud] (hmem _ _ _ _ (by omega) (by omega) (by omega) (by omega))
    simp only [Nat.shiftRight_zero, List.map_cons, List.map_nil] at this
    rw [qnib _ _ (by omega) (by omega), qnib _ _ (by omega) (by omega), qnib _ _ (by omega) (by omega), qnib _ _ (by omega) (by omega)] at this
    exact this
  refine ⟨?_, ?_, ?_, ua + la, ub + lb, uc + lc, ud + ld, by omega, by omega, by omega, by omega, hy3, ?_⟩
  · rw [e1, hx]
    simp only [qL8]
    clear hmem h1 h2 h3 e1 e2 e3 hx hX hy1 hy2 hdv hs hy3
    omega
  · rw [hy1]
    simp only [qL8]
    clear hmem h1 h2 h3 e1 e2 e3 hx hX hy1 hy2 hdv hs hy3
    omega
  · rw [hs]
    simp only [qL8]
    clear hmem h1 h2 h3 e1 e2 e3 hx hX hy1 hy2 hdv hs hy3
    omega
  · rw [hx, q_cnt4 ha hb hc hd, ra, rb, rc, rd]
theorem qL8_d {c : Nat} {r : List Nat} (hc : c < 256) : qL8 (c :: r) / 256 = qL8 r := by
  show (c + 256 * qL8 r) / 256 = _
  omega
section CT
variable (I : Nat → Nat → Int32) (J : Nat → Nat → Int64) (e : QP)
theorem q_us (X k : Nat) (hX : X < 2 ^ 32) (s : Int32) (hs : ((s.toUInt32 &&& Int32.toUInt32 31).toBitVec % 32).toNat = k) : ((nI X).toUInt32 >>> (s.toUInt32 &&& Int32.toUInt32 31)).toInt32 = nI (X / 2 ^ k) := pk_ushrN hX s k hs
theorem fJ6_bitCount (x : Int32) : mJ6_bitCount_0f7a4 [.int x] (qm I J e) = some (some (.int (nI (fb_ct (bt x) 32))), qm I J e) := by
  obtain ⟨X, hX, rfl⟩ := wb_of32 x
  have hct : fb_ct (bt (nI X)) 32 = fb_ct (fun k => X.testBit k) 32 := fb_ct_cong (fun k hk => q_tbI hk)
  generalize hy1 : X - ((X >>> 1) &&& 1431655765) = y1
  generalize hy2 : (y1 &&& 858993459) + ((y1 >>> 2) &&& 858993459) = y2
  generalize hy3 : (y2 + y2 / 16) &&& 252645135 = y3
  obtain ⟨g1, g2, g3, p0, p1, p2, p3, q0, q1, q2, q3, g4, g5⟩ := q_pop4 hX hy1.symm hy2.symm hy3.symm
  have s1 : nI X - (((nI X).toUInt32 >>> ((1 : Int32).toUInt32 &&& Int32.toUInt32 31)).toInt32 &&& 1431655765) = nI y1 := by
    rw [q_us X 1 hX 1 (by decide), show (1431655765 : Int32) = nI 1431655765 from rfl, fa_and, show X / 2 ^ 1 = X >>> 1 from (Nat.shiftRight_eq_div_pow X 1).symm, pk_sub g1, hy1]
  have s2 : (nI y1 &&& 858993459) + (((nI y1).toUInt32 >>> ((2 : Int32).toUInt32 &&& Int32.toUInt32 31)).toInt32 &&& 858993459) = nI y2 := by
    rw [q_us y1 2 g2 2 (by decide), show (858993459 : Int32) = nI 858993459 from rfl, fa_and, fa_and, nI_add, show y1 / 2 ^ 2 = y1 >>> 2 from (Nat.shiftRight_eq_div_pow y1 2).symm, hy2]
  have s3 : (nI y2 + ((nI y2).toUInt32 >>> ((4 : Int32).toUInt32 &&& Int32.toUInt32 31)).toInt32) &&& 252645135 = nI y3 := by
    rw [q_us y2 4 (by omega) 4 (by decide), show (252645135 : Int32) = nI 252645135 from rfl, nI_add, fa_and, show y2 / 2 ^ 4 = y2 / 16 from rfl, hy3]
  have d1 : y3 / 256 = qL8 [p1, p2, p3] := by rw [g4]; exact qL8_d (by omega)
  have hy4 : y3 + y3 / 256 = qL8 [p0 + p1, p1 + p2, p2 + p3, p3] := by rw [d1, g4]; simp only [qL8]; omega
  have d2 : (y3 + y3 / 256) / 65536 = qL8 [p2 + p3, p3] := by
    rw [hy4, show (65536 : Nat) = 256 * 256 from rfl, ← Nat.div_div_eq_div_mul, qL8_d (by omega), qL8_d (by omega)]
  have hlt : y3 < 2 ^ 32 ∧ y3 + y3 / 256 < 2 ^ 32 := by rw [hy4, g4]; simp only [qL8]; omega
  have hfin : (y3 + y3 / 256 + (y3 + y3 / 256) / 65536) % 64 = p0 + p1 + p2 + p3 := by rw [d2, hy4]; simp only [qL8]; omega
  rw [bJ6_bitCount_0f7a4, eJ6_bitCount_0f7a4_0, s1, eJ6_bitCount_0f7a4_18, s2, s3, eJ6_bitCount_0f7a4_36, q_us y3 8 hlt.1 8 (by decide), nI_add, show y3 / 2 ^ 8 = y3 / 256 from rfl, q_us _ 16 hlt.2 16 (by decide), nI_add, show (y3 + y3 / 256) / 2 ^ 16 = (y3 + y3 / 256) / 65536 from rfl, show (63 : Int32) = nI (2 ^ 6 - 1) from rfl, fa_mask, hct, ← g5, show (2 : Nat) ^ 6 = 64 from rfl, hfin]
end CT
