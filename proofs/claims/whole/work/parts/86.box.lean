/-! ===== boxes ===== -/
def q_crl : List Nat := [3, 5, 6, 7, 9, 10, 11, 12, 14, 15, 37, 38, 39, 40, 41, 42, 64, 69, 70, 83, 84, 85, 86, 87, 88, 92, 93, 1000, 1001, 1002, 1003]
theorem q_Core_rows {K K' : Nat → Nat → Int32} {D N : Nat} {cl : Nat → Nat} {RM : Nat} {rc : Nat → Nat} (h : q_Core K D N cl RM rc) (hr : ∀ p, p ∈ q_crl → K' p = K p) : q_Core K' D N cl RM rc := by
  have h3 := hr 3 (by decide)
  have h5 := hr 5 (by decide)
  have h6 := hr 6 (by decide)
  have h7 := hr 7 (by decide)
  have h9 := hr 9 (by decide)
  have h10 := hr 10 (by decide)
  have h11 := hr 11 (by decide)
  have h12 := hr 12 (by decide)
  have h14 := hr 14 (by decide)
  have h15 := hr 15 (by decide)
  have h37 := hr 37 (by decide)
  have h38 := hr 38 (by decide)
  have h39 := hr 39 (by decide)
  have h40 := hr 40 (by decide)
  have h41 := hr 41 (by decide)
  have h42 := hr 42 (by decide)
  have h64 := hr 64 (by decide)
  have h69 := hr 69 (by decide)
  have h70 := hr 70 (by decide)
  have h83 := hr 83 (by decide)
  have h84 := hr 84 (by decide)
  have h85 := hr 85 (by decide)
  have h86 := hr 86 (by decide)
  have h87 := hr 87 (by decide)
  have h88 := hr 88 (by decide)
  have h92 := hr 92 (by decide)
  have h93 := hr 93 (by decide)
  have h1000 := hr 1000 (by decide)
  have h1001 := hr 1001 (by decide)
  have h1002 := hr 1002 (by decide)
  have h1003 := hr 1003 (by decide)
  have hq : qcr K' = qcr K := by funext k; unfold qcr; rw [h37, h38, h39, h40, h41, h42]
  refine ⟨?_, ?_, ?_, ?_, ?_, ?_, ?_, ?_⟩
  · unfold q_Sta; rw [h1000, h1001, h1002, h1003]; exact h.st
  · unfold q_Bn; rw [h3, h64, h5, h83, h6, h84, h7, h85]; exact h.bn
  · unfold q_Bc; rw [h12, h87, h86, h9, h10, h3]; exact h.bc
  · unfold q_Bs; rw [h11, h88]; exact h.bs
  · unfold q_Br; rw [h64, h92, h3]; exact h.br
  · unfold q_Fo; rw [h14, h64, h69, h15, h70]; exact h.fo
  · rw [hq, h93, h3]; exact h.ch
  · rw [h64]; exact h.on
theorem q_Pa_rows {K K' : Nat → Nat → Int32} {D N : Nat} {A : Nat → Bool} (h : q_Pa K D N A) (hr : ∀ p, p ∈ [44, 45, 64, 93, 101] → K' p = K p) : q_Pa K' D N A := by
  have h44 := hr 44 (by decide)
  have h45 := hr 45 (by decide)
  have h64 := hr 64 (by decide)
  have h93 := hr 93 (by decide)
  have h101 := hr 101 (by decide)
  have hq : ∀ dn j, qst K' dn j = qst K dn j := fun dn j => by funext k; unfold qst; rw [h93, h101]
  unfold q_Pa
  simp only [h44, h45, h64, hq]
  exact h
section BX
variable {I : Nat → Nat → Int32} {J : Nat → Nat → Int64} {e : QP} {D N : Nat} {cl : Nat → Nat} {RM : Nat} {rc : Nat → Nat}
theorem fX12_isBox (a : Int32) : mX12_isBox [.int a] (qm I J e) = some (some (.int (qb (q_in a 3))), qm I J e) := by
  rw [q_inP a (show (3 : Nat) < 2 ^ 30 by omega), show nI 3 = (3 : Int32) from rfl]
  simp only [bX12_isBox, eX12_isBox_0, eX12_isBox_13, eX12_isBox_4, eX12_isBox_14, eX12_isBox_9]
  by_cases h1 : a < 0 <;> by_cases h2 : a < 3 <;> simp [h1, h2, q_ck, qb]
theorem o_image {rb tx L : Nat} (h : q_Core I D N cl RM rc) (hb : q_Bx I D N (bt (I 3 11))) (a : Int32) : ∃ (r : Int32) (I1 I2 : Nat → Nat → Int32), mX11_image [.ref 1, .int a] (qm I J (3, 17, rb, tx, L)) = some (some (.int r), qm I1 J (3, 17, rb, tx, L)) ∧ mX12_image [.ref 64, .int a] (qm I1 J (3, 17, rb, tx, L)) = some (some (.int r), qm I2 J (3, 17, rb, tx, L)) ∧ q_Bx I2 D N (bt (I2 3 11)) ∧ (∀ p, p ≠ 46 → p ≠ 47 → I1 p = I p) ∧ ∀ p, p ≠ 46 → p ≠ 47 → p ≠ 112 → p ≠ 113 → I2 p = I p := by
  have hD := h.d4
  have hN := h.n6
  have h10 : ¬ ((1 : Int32) = 0) := by decide
  obtain ⟨⟨s0, s, hs, s1⟩, -⟩ := h.ch
  have i0 : I 93 0 = I 37 0 := s0.symm
  cases hq : q_in a 3 with
  | false =>
    have hq2 := hq
    rw [q_inP a (show (3 : Nat) < 2 ^ 30 by omega), show nI 3 = (3 : Int32) from rfl] at hq2
    refine ⟨-1, I, I, ?_, ?_, hb, fun p _ _ => rfl, fun p _ _ _ _ => rfl⟩
    · simp only [bX11_image, eX11_image_0, eX11_image_12, eX11_image_25, eX11_image_15, eX11_image_26, bX8_putInBox, eX8_putInBox_0, eX8_putInBox_9, eX8_putInBox_4, eX8_putInBox_11, eX8_putInBox_23]
      by_cases h1 : a < 0
      · simp only [if_pos h1, Option.bind_some, Option.toList_some, Option.toList_none, List.nil_append, List.cons_append, q_ck_tt, Bool.and_true, Bool.true_and, if_true, if_false, reduceCtorEq, q_10, eq_self, qb_t, qb_f, eX11_image_0, eX11_image_12, eX11_image_25, eX11_image_15, eX11_image_26]
      · have h2 : ¬ a < 3 := fun c => by rw [decide_eq_false h1, decide_eq_true c] at hq2; cases hq2
        simp only [if_neg h1, if_neg h2, Option.bind_some, Option.toList_some, Option.toList_none, List.nil_append, List.cons_append, q_ck_tt, Bool.and_true, Bool.true_and, if_true, if_false, reduceCtorEq, q_10, eq_self, qb_t, qb_f, eX11_image_0, eX11_image_12, eX11_image_25, eX11_image_15, eX11_image_26]
    · simp only [bX12_image, eX12_image_0, eX12_image_4, eX12_image_7, eX12_image_9, eX12_image_24, eX12_image_47, fX12_isBox, hq, Option.bind_some, Option.toList_some, Option.toList_none, List.nil_append, List.cons_append, q_ck_tt, Bool.and_true, Bool.true_and, if_true, if_false, reduceCtorEq, q_10, eq_self, qb_t, qb_f]
  | true =>
    obtain ⟨b, hb3, rfl, hb31⟩ := q_in_of hq
    have k24 : nI b * 24 = nI (b * 24) := by rw [show (24 : Int32) = nI 24 from rfl, pk_mul]
    have hsv := fX1_save_46 (I := I) (J := J) (e := (3, 17, rb, tx, L)) (a := b * 24) (by omega)
    have hl3 : nI b < (3 : Int32) := nI_lt (b := 3) hb3 (by decide)
    -- the reference's loop
    have hst : ∀ k, k < 65 → (fun k (K : Nat → Nat → Int32) => kX12_image 18 [some (.ref 64), some (.int (nI b)), some (.int (nI k))] [] (qm K J (3, 17, rb, tx, L))) k (va_up (va_up (va_up (va_up I 46 (qblk (b * 24) (I 46) (qcr I) 24)) 47 (va_up (I 47) b 1)) 112 (va_up (I 112) b 1)) 113 (qblk (65 * b) (I 113) (I 93) k)) = (fun k (K : Nat → Nat → Int32) => kX12_image 18 [some (.ref 64), some (.int (nI b)), some (.int (nI k))] [] (qm K J (3, 17, rb, tx, L))) (k + 1) (va_up (va_up (va_up (va_up I 46 (qblk (b * 24) (I 46) (qcr I) 24)) 47 (va_up (I 47) b 1)) 112 (va_up (I 112) b 1)) 113 (qblk (65 * b) (I 113) (I 93) (k + 1))) := by
      intro k hk
      show kX12_image 18 _ _ _ = kX12_image 18 _ _ _
      have h93 : (va_up (va_up (va_up (va_up I 46 (qblk (b * 24) (I 46) (qcr I) 24)) 47 (va_up (I 47) b 1)) 112 (va_up (I 112) b 1)) 113 (qblk (65 * b) (I 113) (I 93) k)) 93 k = I 93 k := rfl
      have hi : (65 : Int32) * nI b + nI k = nI (65 * b + k) := by rw [show (65 : Int32) = nI 65 from rfl, pk_mul, nI_add]
      rw [eX12_image_18, if_pos (show nI k < (65 : Int32) from nI_lt (b := 65) hk (by decide)), eX12_image_24, hi, q_in_nI (show 65 * b + k < 195 by omega) (by omega), q_in_nI (show k < 65 by omega) (by omega), nI_clamp (show 65 * b + k < 2 ^ 31 by omega), nI_clamp (show k < 2 ^ 31 by omega), h93]
      simp only [Option.bind_some, Option.toList_some, Option.toList_none, List.nil_append, List.cons_append, q_ck_tt, Bool.and_true, Bool.true_and, if_true, if_false, reduceCtorEq]
      rw [nI_1, q_up_up, qblk_next (g := I 93) rfl]
    have hf := q_for (fun k (K : Nat → Nat → Int32) => kX12_image 18 [some (.ref 64), some (.int (nI b)), some (.int (nI k))] [] (qm K J (3, 17, rb, tx, L))) 65 (fun k => va_up (va_up (va_up (va_up I 46 (qblk (b * 24) (I 46) (qcr I) 24)) 47 (va_up (I 47) b 1)) 112 (va_up (I 112) b 1)) 113 (qblk (65 * b) (I 113) (I 93) k)) hst
    rw [qblk_0, va_up_eq (f := va_up (va_up (va_up I 46 (qblk (b * 24) (I 46) (qcr I) 24)) 47 (va_up (I 47) b 1)) 112 (va_up (I 112) b 1)) (p := 113) (a := I 113) rfl] at hf
    refine ⟨I 37 0, va_up (va_up I 46 (qblk (b * 24) (I 46) (qcr I) 24)) 47 (va_up (I 47) b 1), va_up (va_up (va_up (va_up I 46 (qblk (b * 24) (I 46) (qcr I) 24)) 47 (va_up (I 47) b 1)) 112 (va_up (I 112) b 1)) 113 (qblk (65 * b) (I 113) (I 93) 65), ?_, ?_, ?_, fun p p1 p2 => by rw [va_miss p2, va_miss p1], fun p p1 p2 p3 p4 => by rw [va_miss p4, va_miss p3, va_miss p2, va_miss p1]⟩
    · rw [bX11_image, eX11_image_0, bX8_putInBox, eX8_putInBox_0, if_neg (nI_pos hb31), eX8_putInBox_4, if_pos hl3, eX8_putInBox_11, k24, hsv]
      simp only [Option.bind_some, Option.toList_some, Option.toList_none, List.nil_append, List.cons_append, q_ck_tt, Bool.and_true, Bool.true_and, if_true, if_false, reduceCtorEq]
      rw [eX8_putInBox_23, hq, nI_clamp hb31]
      simp only [Option.bind_some, Option.toList_some, Option.toList_none, List.nil_append, List.cons_append, q_ck_tt, Bool.and_true, Bool.true_and, if_true, if_false, reduceCtorEq]
      rw [eX11_image_12, if_neg h10, eX11_image_15, eX11_image_26]
      rfl
    · rw [bX12_image, eX12_image_0, fX12_isBox, hq]
      simp only [Option.bind_some, Option.toList_some, Option.toList_none, List.nil_append, List.cons_append, q_ck_tt, Bool.and_true, Bool.true_and, if_true, if_false, reduceCtorEq]
      rw [eX12_image_4, qb_t, if_neg h10, eX12_image_9, hq, nI_clamp hb31]
      simp only [Option.bind_some, Option.toList_some, Option.toList_none, List.nil_append, List.cons_append, q_ck_tt, Bool.and_true, Bool.true_and, if_true, if_false, reduceCtorEq]
      refine Eq.trans hf ?_
      show kX12_image 18 _ _ _ = _
      rw [eX12_image_18, if_neg (show ¬ nI 65 < 65 by decide), eX12_image_47]
      show some (some (Value.int (I 93 0)), _) = _
      rw [i0]
    · intro c hc
      show (va_up (I 47) b 1 c = 0 ∧ va_up (I 112) b 1 c = 0) ∨ (va_up (I 47) b 1 c = 1 ∧ va_up (I 112) b 1 c = 1 ∧ q_Ch D N (bt (I 3 11)) (fun k => qblk (b * 24) (I 46) (qcr I) 24 (c * 24 + k)) (fun k => qblk (65 * b) (I 113) (I 93) 65 (65 * c + k)))
      by_cases hcb : c = b
      · subst hcb
        refine Or.inr ⟨va_hit, va_hit, ?_⟩
        exact q_Ch_rc hD hN (q_Ch_cc hD h.ch (fun k hk => qblk_in hk)) (fun k hk => qblk_in hk)
      · rw [va_miss hcb, va_miss hcb]
        rcases hb c hc with h1 | ⟨h1, h2, h3⟩
        · exact Or.inl h1
        · refine Or.inr ⟨h1, h2, ?_⟩
          exact q_Ch_rc hD hN (q_Ch_cc hD h3 (fun k hk => qblk_out (by omega))) (fun k hk => qblk_out (by omega))
end BX
