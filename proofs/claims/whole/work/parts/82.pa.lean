/-! ===== acts: what is kept stays alike ===== -/
theorem q_Pa_act {I I2 : Nat → Nat → Int32} {D N : Nat} {A : Nat → Bool} {c : Nat → Int32} (hD : D ≤ 4) (hN : N ≤ 6) {old dn kp : Nat} (h1 : old < 41) (h2 : dn ≤ kp) (h3 : kp ≤ 40) (hch : ∀ j, j ≤ kp → q_Ch D N A (fun k => I 45 ((old + j) % 41 * 24 + k)) (qst I dn j))
    (g1 : I2 44 1 = nI (if dn < 40 then old else (old + 1) % 41)) (g2 : I2 44 2 = nI (if dn < 40 then dn + 1 else 40)) (g3 : I2 44 3 = nI (if dn < 40 then dn + 1 else 40)) (g45 : I2 45 = qblk (((if dn < 40 then old else (old + 1) % 41) + (if dn < 40 then dn + 1 else 40)) % 41 * 24) (I 45) c 24)
    (g101 : I2 101 = qWe (I 101) (I 93) dn) (g68 : I2 64 68 = nI (if dn < 40 then dn + 1 else 40)) (g69 : I2 64 69 = 0) (hnew : q_Ch D N A c (I2 93)) : q_Pa I2 D N A := by
  have hlast : ∀ o n : Nat, I2 45 = qblk ((o + n) % 41 * 24) (I 45) c 24 → q_Ch D N A (fun k => I2 45 ((o + n) % 41 * 24 + k)) (qst I2 n n) := by
    intro o n hb
    have hr : qst I2 n n = I2 93 := by funext k; unfold qst; rw [if_neg (Nat.lt_irrefl n), if_pos rfl]
    rw [hr]
    refine q_Ch_cc hD hnew (fun k hk => ?_)
    rw [hb]
    exact qblk_in hk
  by_cases hc : dn < 40
  · rw [if_pos hc] at g1 g2 g3 g45 g68
    rw [if_pos hc] at g45
    refine ⟨old, dn + 1, dn + 1, g1, h1, g2, g3, Nat.le_refl _, by omega, g68, by rw [g69, Nat.sub_self]; rfl, fun j hj => ?_⟩
    by_cases hj2 : j = dn + 1
    · rw [hj2]; exact hlast old (dn + 1) g45
    · refine q_Ch_rc hD hN (q_Ch_cc hD (hch j (by omega)) (fun k hk => ?_)) (fun k hk => ?_)
      · have hne : (old + j) % 41 ≠ (old + (dn + 1)) % 41 := by omega
        rw [g45]
        exact qblk_out (by omega)
      · unfold qst
        rw [if_pos (show j < dn + 1 by omega), g101]
        unfold qWe
        rw [if_neg (show ¬ dn = 40 by omega)]
        by_cases hj3 : j < dn
        · rw [if_pos hj3]; exact qblk_out (by omega)
        · have : j = dn := by omega
          subst this
          rw [if_neg (Nat.lt_irrefl j), if_pos rfl]; exact qblk_in hk
  · rw [if_neg hc] at g1 g2 g3 g45 g68
    rw [if_neg hc] at g45
    have h40 : dn = 40 := by omega
    subst h40
    have hk40 : kp = 40 := by omega
    subst hk40
    refine ⟨(old + 1) % 41, 40, 40, g1, Nat.mod_lt _ (by omega), g2, g3, Nat.le_refl _, Nat.le_refl _, g68, by rw [g69]; rfl, fun j hj => ?_⟩
    by_cases hj2 : j = 40
    · rw [hj2]; exact hlast _ 40 g45
    · refine q_Ch_rc hD hN (q_Ch_cc hD (hch (j + 1) (by omega)) (fun k hk => ?_)) (fun k hk => ?_)
      · have he : ((old + 1) % 41 + j) % 41 = (old + (j + 1)) % 41 := by omega
        have hne : ((old + 1) % 41 + j) % 41 ≠ ((old + 1) % 41 + 40) % 41 := by omega
        rw [g45, qblk_out (by omega), he]
      · unfold qst
        rw [if_pos (show j < 40 by omega), g101]
        unfold qWe
        rw [if_pos rfl]
        by_cases hj3 : j < 39
        · rw [qblk_out (by omega), fa_fill_in (by omega), if_pos (show j + 1 < 40 by omega), show 65 + (65 * j + k) = 65 * (j + 1) + k by omega]
        · have : j = 39 := by omega
          subst this
          rw [if_neg (by omega), if_pos rfl]; exact qblk_in hk
/-- what an act leaves as it is -/
def q_Frm (I I2 : Nat → Nat → Int32) : Prop := ∀ p k, q_scr p k = false → (p < 37 ∨ 42 < p) → p ≠ 44 → p ≠ 45 → p ≠ 93 → p ≠ 101 → (p = 64 → k ≠ 68 ∧ k ≠ 69) → I2 p k = I p k
theorem q_Core_eq {K K' : Nat → Nat → Int32} {D N : Nat} {cl : Nat → Nat} {RM : Nat} {rc : Nat → Nat} (h : q_Core K D N cl RM rc) (hf : q_Frm K K') (hch : q_Ch D N (bt (K' 3 11)) (qcr K') (K' 93)) : q_Core K' D N cl RM rc := by
  have hr : ∀ p, (∀ k, q_scr p k = false) → (p < 37 ∨ 42 < p) → p ≠ 44 → p ≠ 45 → p ≠ 93 → p ≠ 101 → p ≠ 64 → K' p = K p := fun p p0 p1 p2 p3 p4 p5 p6 => funext (fun k => hf p k (p0 k) p1 p2 p3 p4 p5 (fun c => absurd c p6))
  have h3 := hr 3 (fun _ => rfl) (by omega) (by decide) (by decide) (by decide) (by decide) (by decide)
  have h5 := hr 5 (fun _ => rfl) (by omega) (by decide) (by decide) (by decide) (by decide) (by decide)
  have h6 := hr 6 (fun _ => rfl) (by omega) (by decide) (by decide) (by decide) (by decide) (by decide)
  have h7 := hr 7 (fun _ => rfl) (by omega) (by decide) (by decide) (by decide) (by decide) (by decide)
  have h9 := hr 9 (fun _ => rfl) (by omega) (by decide) (by decide) (by decide) (by decide) (by decide)
  have h10 := hr 10 (fun _ => rfl) (by omega) (by decide) (by decide) (by decide) (by decide) (by decide)
  have h11 := hr 11 (fun _ => rfl) (by omega) (by decide) (by decide) (by decide) (by decide) (by decide)
  have h12 := hr 12 (fun _ => rfl) (by omega) (by decide) (by decide) (by decide) (by decide) (by decide)
  have h14 := hr 14 (fun _ => rfl) (by omega) (by decide) (by decide) (by decide) (by decide) (by decide)
  have h15 := hr 15 (fun _ => rfl) (by omega) (by decide) (by decide) (by decide) (by decide) (by decide)
  have h69 := hr 69 (fun _ => rfl) (by omega) (by decide) (by decide) (by decide) (by decide) (by decide)
  have h70 := hr 70 (fun _ => rfl) (by omega) (by decide) (by decide) (by decide) (by decide) (by decide)
  have h83 := hr 83 (fun _ => rfl) (by omega) (by decide) (by decide) (by decide) (by decide) (by decide)
  have h84 := hr 84 (fun _ => rfl) (by omega) (by decide) (by decide) (by decide) (by decide) (by decide)
  have h85 := hr 85 (fun _ => rfl) (by omega) (by decide) (by decide) (by decide) (by decide) (by decide)
  have h86 := hr 86 (fun _ => rfl) (by omega) (by decide) (by decide) (by decide) (by decide) (by decide)
  have h87 := hr 87 (fun _ => rfl) (by omega) (by decide) (by decide) (by decide) (by decide) (by decide)
  have h88 := hr 88 (fun _ => rfl) (by omega) (by decide) (by decide) (by decide) (by decide) (by decide)
  have h92 := hr 92 (fun _ => rfl) (by omega) (by decide) (by decide) (by decide) (by decide) (by decide)
  have h1000 := hr 1000 (fun _ => rfl) (by omega) (by decide) (by decide) (by decide) (by decide) (by decide)
  have h1001 := hr 1001 (fun _ => rfl) (by omega) (by decide) (by decide) (by decide) (by decide) (by decide)
  have h1002 := hr 1002 (fun _ => rfl) (by omega) (by decide) (by decide) (by decide) (by decide) (by decide)
  have h1003 := hr 1003 (fun _ => rfl) (by omega) (by decide) (by decide) (by decide) (by decide) (by decide)
  have h64 : ∀ k, k ≠ 68 → k ≠ 69 → K' 64 k = K 64 k := fun k k1 k2 => hf 64 k rfl (by omega) (by decide) (by decide) (by decide) (by decide) (fun _ => ⟨k1, k2⟩)
  refine ⟨?_, ?_, ?_, ?_, ?_, ?_, hch, ?_⟩
  · unfold q_Sta; rw [h1000, h1001, h1002, h1003]; exact h.st
  · unfold q_Bn; rw [h3, h64 50 (by decide) (by decide), h64 51 (by decide) (by decide), h5, h83, h6, h84, h7, h85]; exact h.bn
  · unfold q_Bc; rw [h12, h87, h86, h9, h10, h3]; exact h.bc
  · unfold q_Bs; rw [h11, h88]; exact h.bs
  · unfold q_Br; rw [h64 57 (by decide) (by decide), h92, h3]; exact h.br
  · unfold q_Fo; rw [h14, h64 18 (by decide) (by decide), h64 25 (by decide) (by decide), h69, h15, h70]; exact h.fo
  · rw [h64 27 (by decide) (by decide)]; exact h.on
theorem q_Fz_eq {K K' : Nat → Nat → Int32} {sz : Nat} (h : q_Fz K sz) (hf : q_Frm K K') : q_Fz K' sz := by
  have hr : ∀ p, (∀ k, q_scr p k = false) → (p < 37 ∨ 42 < p) → p ≠ 44 → p ≠ 45 → p ≠ 93 → p ≠ 101 → p ≠ 64 → K' p = K p := fun p p0 p1 p2 p3 p4 p5 p6 => funext (fun k => hf p k (p0 k) p1 p2 p3 p4 p5 (fun c => absurd c p6))
  have h14 := hr 14 (fun _ => rfl) (by omega) (by decide) (by decide) (by decide) (by decide) (by decide)
  have h15 := hr 15 (fun _ => rfl) (by omega) (by decide) (by decide) (by decide) (by decide) (by decide)
  have h69 := hr 69 (fun _ => rfl) (by omega) (by decide) (by decide) (by decide) (by decide) (by decide)
  have h70 := hr 70 (fun _ => rfl) (by omega) (by decide) (by decide) (by decide) (by decide) (by decide)
  have h64 : ∀ k, k ≠ 68 → k ≠ 69 → K' 64 k = K 64 k := fun k k1 k2 => hf 64 k rfl (by omega) (by decide) (by decide) (by decide) (by decide) (fun _ => ⟨k1, k2⟩)
  unfold q_Fz
  rw [h14, h64 18 (by decide) (by decide), h64 25 (by decide) (by decide), h69, h15, h70]
  exact h
