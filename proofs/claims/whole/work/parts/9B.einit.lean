/-! ===== constructors: the start ===== -/
theorem q_se_u {S S' : Nat → Nat × Nat} {m : Nat} {v : Nat × Nat} (h : ∀ p, p < 114 → S p = S' p) : ∀ p, p < 114 → va_up S m v p = va_up S' m v p := fun p hp => by
  by_cases g : p = m
  · subst g; rw [va_hit, va_hit]
  · rw [va_miss g, va_miss g]; exact h p hp
theorem q_sg_u {S S' : Nat → Nat × Nat} {m : Nat} {v : Nat × Nat} (hm : m ≤ 113) (h : ∀ p, 113 < p → S p = S' p) : ∀ p, 113 < p → va_up S m v p = S' p := fun p hp => by
  rw [va_miss (by omega)]; exact h p hp
theorem q_bq {p c : Nat} (h : p ≠ c) : Nat.beq p c = false := by
  cases hq : Nat.beq p c with
  | false => rfl
  | true => exact absurd (Nat.eq_of_beq_eq_true hq) h
theorem qcS_e0 (L : Nat) : ∀ p, p < 114 → qcS_0 L p = qcS_0 0 p := fun p hp => by
  show q_S00 L p = q_S00 0 p
  unfold q_S00
  rw [q_bq (show p ≠ 1004 by omega), cond_false, cond_false]
theorem qcS_g0 (L : Nat) : ∀ p, 113 < p → qcS_0 L p = q_S00 L p := fun p _ => rfl
theorem qcS_e1 (L : Nat) : ∀ p, p < 114 → qcS_1 L p = qcS_1 0 p := q_se_u (qcS_e0 L)
theorem qcS_g1 (L : Nat) : ∀ p, 113 < p → qcS_1 L p = q_S00 L p := q_sg_u (by decide) (qcS_g0 L)
theorem qcS_e2 (L : Nat) : ∀ p, p < 114 → qcS_2 L p = qcS_2 0 p := q_se_u (qcS_e1 L)
theorem qcS_g2 (L : Nat) : ∀ p, 113 < p → qcS_2 L p = q_S00 L p := q_sg_u (by decide) (qcS_g1 L)
theorem qcS_e3 (L : Nat) : ∀ p, p < 114 → qcS_3 L p = qcS_3 0 p := q_se_u (qcS_e2 L)
theorem qcS_g3 (L : Nat) : ∀ p, 113 < p → qcS_3 L p = q_S00 L p := q_sg_u (by decide) (qcS_g2 L)
theorem qcS_e4 (L : Nat) : ∀ p, p < 114 → qcS_4 L p = qcS_4 0 p := q_se_u (qcS_e3 L)
theorem qcS_g4 (L : Nat) : ∀ p, 113 < p → qcS_4 L p = q_S00 L p := q_sg_u (by decide) (qcS_g3 L)
theorem qcS_e5 (L : Nat) : ∀ p, p < 114 → qcS_5 L p = qcS_5 0 p := q_se_u (qcS_e4 L)
theorem qcS_g5 (L : Nat) : ∀ p, 113 < p → qcS_5 L p = q_S00 L p := q_sg_u (by decide) (qcS_g4 L)
theorem qcS_e6 (L : Nat) : ∀ p, p < 114 → qcS_6 L p = qcS_6 0 p := q_se_u (qcS_e5 L)
theorem qcS_g6 (L : Nat) : ∀ p, 113 < p → qcS_6 L p = q_S00 L p := q_sg_u (by decide) (qcS_g5 L)
theorem qcS_e7 (L : Nat) : ∀ p, p < 114 → qcS_7 L p = qcS_7 0 p := q_se_u (qcS_e6 L)
theorem qcS_g7 (L : Nat) : ∀ p, 113 < p → qcS_7 L p = q_S00 L p := q_sg_u (by decide) (qcS_g6 L)
theorem qcS_e8 (L : Nat) : ∀ p, p < 114 → qcS_8 L p = qcS_8 0 p := q_se_u (qcS_e7 L)
theorem qcS_g8 (L : Nat) : ∀ p, 113 < p → qcS_8 L p = q_S00 L p := q_sg_u (by decide) (qcS_g7 L)
theorem qcS_e9 (L : Nat) : ∀ p, p < 114 → qcS_9 L p = qcS_9 0 p := q_se_u (qcS_e8 L)
theorem qcS_g9 (L : Nat) : ∀ p, 113 < p → qcS_9 L p = q_S00 L p := q_sg_u (by decide) (qcS_g8 L)
theorem qcS_e10 (L : Nat) : ∀ p, p < 114 → qcS_10 L p = qcS_10 0 p := q_se_u (qcS_e9 L)
theorem qcS_g10 (L : Nat) : ∀ p, 113 < p → qcS_10 L p = q_S00 L p := q_sg_u (by decide) (qcS_g9 L)
theorem qcS_e11 (L : Nat) : ∀ p, p < 114 → qcS_11 L p = qcS_11 0 p := q_se_u (qcS_e10 L)
theorem qcS_g11 (L : Nat) : ∀ p, 113 < p → qcS_11 L p = q_S00 L p := q_sg_u (by decide) (qcS_g10 L)
theorem qcS_e12 (L : Nat) : ∀ p, p < 114 → qcS_12 L p = qcS_12 0 p := q_se_u (qcS_e11 L)
theorem qcS_g12 (L : Nat) : ∀ p, 113 < p → qcS_12 L p = q_S00 L p := q_sg_u (by decide) (qcS_g11 L)
theorem qcS_e13 (L : Nat) : ∀ p, p < 114 → qcS_13 L p = qcS_13 0 p := q_se_u (qcS_e12 L)
theorem qcS_g13 (L : Nat) : ∀ p, 113 < p → qcS_13 L p = q_S00 L p := q_sg_u (by decide) (qcS_g12 L)
theorem qcS_e14 (L : Nat) : ∀ p, p < 114 → qcS_14 L p = qcS_14 0 p := q_se_u (qcS_e13 L)
theorem qcS_g14 (L : Nat) : ∀ p, 113 < p → qcS_14 L p = q_S00 L p := q_sg_u (by decide) (qcS_g13 L)
theorem qcS_e15 (L : Nat) : ∀ p, p < 114 → qcS_15 L p = qcS_15 0 p := q_se_u (qcS_e14 L)
theorem qcS_g15 (L : Nat) : ∀ p, 113 < p → qcS_15 L p = q_S00 L p := q_sg_u (by decide) (qcS_g14 L)
theorem qcS_e16 (L : Nat) : ∀ p, p < 114 → qcS_16 L p = qcS_16 0 p := q_se_u (qcS_e15 L)
theorem qcS_g16 (L : Nat) : ∀ p, 113 < p → qcS_16 L p = q_S00 L p := q_sg_u (by decide) (qcS_g15 L)
theorem qcS_e17 (L : Nat) : ∀ p, p < 114 → qcS_17 L p = qcS_17 0 p := q_se_u (qcS_e16 L)
theorem qcS_g17 (L : Nat) : ∀ p, 113 < p → qcS_17 L p = q_S00 L p := q_sg_u (by decide) (qcS_g16 L)
theorem qcS_e18 (L : Nat) : ∀ p, p < 114 → qcS_18 L p = qcS_18 0 p := q_se_u (qcS_e17 L)
theorem qcS_g18 (L : Nat) : ∀ p, 113 < p → qcS_18 L p = q_S00 L p := q_sg_u (by decide) (qcS_g17 L)
theorem qcS_e19 (L : Nat) : ∀ p, p < 114 → qcS_19 L p = qcS_19 0 p := q_se_u (qcS_e18 L)
theorem qcS_g19 (L : Nat) : ∀ p, 113 < p → qcS_19 L p = q_S00 L p := q_sg_u (by decide) (qcS_g18 L)
theorem qcS_e20 (L : Nat) : ∀ p, p < 114 → qcS_20 L p = qcS_20 0 p := q_se_u (qcS_e19 L)
theorem qcS_g20 (L : Nat) : ∀ p, 113 < p → qcS_20 L p = q_S00 L p := q_sg_u (by decide) (qcS_g19 L)
theorem qcS_e21 (L : Nat) : ∀ p, p < 114 → qcS_21 L p = qcS_21 0 p := q_se_u (qcS_e20 L)
theorem qcS_g21 (L : Nat) : ∀ p, 113 < p → qcS_21 L p = q_S00 L p := q_sg_u (by decide) (qcS_g20 L)
theorem qcS_e22 (L : Nat) : ∀ p, p < 114 → qcS_22 L p = qcS_22 0 p := q_se_u (qcS_e21 L)
theorem qcS_g22 (L : Nat) : ∀ p, 113 < p → qcS_22 L p = q_S00 L p := q_sg_u (by decide) (qcS_g21 L)
theorem qcS_e23 (L : Nat) : ∀ p, p < 114 → qcS_23 L p = qcS_23 0 p := q_se_u (qcS_e22 L)
theorem qcS_g23 (L : Nat) : ∀ p, 113 < p → qcS_23 L p = q_S00 L p := q_sg_u (by decide) (qcS_g22 L)
theorem qcS_e24 (L : Nat) : ∀ p, p < 114 → qcS_24 L p = qcS_24 0 p := q_se_u (qcS_e23 L)
theorem qcS_g24 (L : Nat) : ∀ p, 113 < p → qcS_24 L p = q_S00 L p := q_sg_u (by decide) (qcS_g23 L)
theorem qcS_e25 (L : Nat) : ∀ p, p < 114 → qcS_25 L p = qcS_25 0 p := q_se_u (qcS_e24 L)
theorem qcS_g25 (L : Nat) : ∀ p, 113 < p → qcS_25 L p = q_S00 L p := q_sg_u (by decide) (qcS_g24 L)
theorem qcS_e26 (L : Nat) : ∀ p, p < 114 → qcS_26 L p = qcS_26 0 p := q_se_u (qcS_e25 L)
theorem qcS_g26 (L : Nat) : ∀ p, 113 < p → qcS_26 L p = q_S00 L p := q_sg_u (by decide) (qcS_g25 L)
theorem qcS_e27 (L : Nat) : ∀ p, p < 114 → qcS_27 L p = qcS_27 0 p := q_se_u (qcS_e26 L)
theorem qcS_g27 (L : Nat) : ∀ p, 113 < p → qcS_27 L p = q_S00 L p := q_sg_u (by decide) (qcS_g26 L)
theorem qcS_e28 (L : Nat) : ∀ p, p < 114 → qcS_28 L p = qcS_28 0 p := q_se_u (qcS_e27 L)
theorem qcS_g28 (L : Nat) : ∀ p, 113 < p → qcS_28 L p = q_S00 L p := q_sg_u (by decide) (qcS_g27 L)
theorem qcS_e29 (L : Nat) : ∀ p, p < 114 → qcS_29 L p = qcS_29 0 p := q_se_u (qcS_e28 L)
theorem qcS_g29 (L : Nat) : ∀ p, 113 < p → qcS_29 L p = q_S00 L p := q_sg_u (by decide) (qcS_g28 L)
theorem qcS_e30 (L : Nat) : ∀ p, p < 114 → qcS_30 L p = qcS_30 0 p := q_se_u (qcS_e29 L)
theorem qcS_g30 (L : Nat) : ∀ p, 113 < p → qcS_30 L p = q_S00 L p := q_sg_u (by decide) (qcS_g29 L)
theorem qcS_e31 (L : Nat) : ∀ p, p < 114 → qcS_31 L p = qcS_31 0 p := q_se_u (qcS_e30 L)
theorem qcS_g31 (L : Nat) : ∀ p, 113 < p → qcS_31 L p = q_S00 L p := q_sg_u (by decide) (qcS_g30 L)
theorem qcS_e32 (L : Nat) : ∀ p, p < 114 → qcS_32 L p = qcS_32 0 p := q_se_u (qcS_e31 L)
theorem qcS_g32 (L : Nat) : ∀ p, 113 < p → qcS_32 L p = q_S00 L p := q_sg_u (by decide) (qcS_g31 L)
theorem qcS_e33 (L : Nat) : ∀ p, p < 114 → qcS_33 L p = qcS_33 0 p := q_se_u (qcS_e32 L)
theorem qcS_g33 (L : Nat) : ∀ p, 113 < p → qcS_33 L p = q_S00 L p := q_sg_u (by decide) (qcS_g32 L)
theorem qcS_e34 (L : Nat) : ∀ p, p < 114 → qcS_34 L p = qcS_34 0 p := q_se_u (qcS_e33 L)
theorem qcS_g34 (L : Nat) : ∀ p, 113 < p → qcS_34 L p = q_S00 L p := q_sg_u (by decide) (qcS_g33 L)
theorem qcS_e35 (L : Nat) : ∀ p, p < 114 → qcS_35 L p = qcS_35 0 p := q_se_u (qcS_e34 L)
theorem qcS_g35 (L : Nat) : ∀ p, 113 < p → qcS_35 L p = q_S00 L p := q_sg_u (by decide) (qcS_g34 L)
theorem qcS_e36 (L : Nat) : ∀ p, p < 114 → qcS_36 L p = qcS_36 0 p := q_se_u (qcS_e35 L)
theorem qcS_g36 (L : Nat) : ∀ p, 113 < p → qcS_36 L p = q_S00 L p := q_sg_u (by decide) (qcS_g35 L)
theorem qcS_e37 (L : Nat) : ∀ p, p < 114 → qcS_37 L p = qcS_37 0 p := q_se_u (qcS_e36 L)
theorem qcS_g37 (L : Nat) : ∀ p, 113 < p → qcS_37 L p = q_S00 L p := q_sg_u (by decide) (qcS_g36 L)
theorem qcS_e38 (L : Nat) : ∀ p, p < 114 → qcS_38 L p = qcS_38 0 p := q_se_u (qcS_e37 L)
theorem qcS_g38 (L : Nat) : ∀ p, 113 < p → qcS_38 L p = q_S00 L p := q_sg_u (by decide) (qcS_g37 L)
theorem qcS_e39 (L : Nat) : ∀ p, p < 114 → qcS_39 L p = qcS_39 0 p := q_se_u (qcS_e38 L)
theorem qcS_g39 (L : Nat) : ∀ p, 113 < p → qcS_39 L p = q_S00 L p := q_sg_u (by decide) (qcS_g38 L)
theorem qcS_e40 (L : Nat) : ∀ p, p < 114 → qcS_40 L p = qcS_40 0 p := q_se_u (qcS_e39 L)
theorem qcS_g40 (L : Nat) : ∀ p, 113 < p → qcS_40 L p = q_S00 L p := q_sg_u (by decide) (qcS_g39 L)
theorem qcS_e41 (L : Nat) : ∀ p, p < 114 → qcS_41 L p = qcS_41 0 p := q_se_u (qcS_e40 L)
theorem qcS_g41 (L : Nat) : ∀ p, 113 < p → qcS_41 L p = q_S00 L p := q_sg_u (by decide) (qcS_g40 L)
theorem qcS_e42 (L : Nat) : ∀ p, p < 114 → qcS_42 L p = qcS_42 0 p := q_se_u (qcS_e41 L)
theorem qcS_g42 (L : Nat) : ∀ p, 113 < p → qcS_42 L p = q_S00 L p := q_sg_u (by decide) (qcS_g41 L)
theorem qcS_e43 (L : Nat) : ∀ p, p < 114 → qcS_43 L p = qcS_43 0 p := q_se_u (qcS_e42 L)
theorem qcS_g43 (L : Nat) : ∀ p, 113 < p → qcS_43 L p = q_S00 L p := q_sg_u (by decide) (qcS_g42 L)
theorem qcS_e44 (L : Nat) : ∀ p, p < 114 → qcS_44 L p = qcS_44 0 p := q_se_u (qcS_e43 L)
theorem qcS_g44 (L : Nat) : ∀ p, 113 < p → qcS_44 L p = q_S00 L p := q_sg_u (by decide) (qcS_g43 L)
theorem qcS_e45 (L : Nat) : ∀ p, p < 114 → qcS_45 L p = qcS_45 0 p := q_se_u (qcS_e44 L)
theorem qcS_g45 (L : Nat) : ∀ p, 113 < p → qcS_45 L p = q_S00 L p := q_sg_u (by decide) (qcS_g44 L)
theorem qcS_e46 (L : Nat) : ∀ p, p < 114 → qcS_46 L p = qcS_46 0 p := q_se_u (qcS_e45 L)
theorem qcS_g46 (L : Nat) : ∀ p, 113 < p → qcS_46 L p = q_S00 L p := q_sg_u (by decide) (qcS_g45 L)
theorem qcS_e47 (L : Nat) : ∀ p, p < 114 → qcS_47 L p = qcS_47 0 p := q_se_u (qcS_e46 L)
theorem qcS_g47 (L : Nat) : ∀ p, 113 < p → qcS_47 L p = q_S00 L p := q_sg_u (by decide) (qcS_g46 L)
theorem qcS_e48 (L : Nat) : ∀ p, p < 114 → qcS_48 L p = qcS_48 0 p := q_se_u (qcS_e47 L)
theorem qcS_g48 (L : Nat) : ∀ p, 113 < p → qcS_48 L p = q_S00 L p := q_sg_u (by decide) (qcS_g47 L)
theorem qcS_e49 (L : Nat) : ∀ p, p < 114 → qcS_49 L p = qcS_49 0 p := q_se_u (qcS_e48 L)
theorem qcS_g49 (L : Nat) : ∀ p, 113 < p → qcS_49 L p = q_S00 L p := q_sg_u (by decide) (qcS_g48 L)
theorem qcS_e50 (L : Nat) : ∀ p, p < 114 → qcS_50 L p = qcS_50 0 p := q_se_u (qcS_e49 L)
theorem qcS_g50 (L : Nat) : ∀ p, 113 < p → qcS_50 L p = q_S00 L p := q_sg_u (by decide) (qcS_g49 L)
theorem qcS_e51 (L : Nat) : ∀ p, p < 114 → qcS_51 L p = qcS_51 0 p := q_se_u (qcS_e50 L)
theorem qcS_g51 (L : Nat) : ∀ p, 113 < p → qcS_51 L p = q_S00 L p := q_sg_u (by decide) (qcS_g50 L)
theorem qcS_e52 (L : Nat) : ∀ p, p < 114 → qcS_52 L p = qcS_52 0 p := q_se_u (qcS_e51 L)
theorem qcS_g52 (L : Nat) : ∀ p, 113 < p → qcS_52 L p = q_S00 L p := q_sg_u (by decide) (qcS_g51 L)
theorem qcS_e53 (L : Nat) : ∀ p, p < 114 → qcS_53 L p = qcS_53 0 p := q_se_u (qcS_e52 L)
theorem qcS_g53 (L : Nat) : ∀ p, 113 < p → qcS_53 L p = q_S00 L p := q_sg_u (by decide) (qcS_g52 L)
theorem qcS_e54 (L : Nat) : ∀ p, p < 114 → qcS_54 L p = qcS_54 0 p := q_se_u (qcS_e53 L)
theorem qcS_g54 (L : Nat) : ∀ p, 113 < p → qcS_54 L p = q_S00 L p := q_sg_u (by decide) (qcS_g53 L)
theorem qcS_e55 (L : Nat) : ∀ p, p < 114 → qcS_55 L p = qcS_55 0 p := q_se_u (qcS_e54 L)
theorem qcS_g55 (L : Nat) : ∀ p, 113 < p → qcS_55 L p = q_S00 L p := q_sg_u (by decide) (qcS_g54 L)
theorem qcS_e56 (L : Nat) : ∀ p, p < 114 → qcS_56 L p = qcS_56 0 p := q_se_u (qcS_e55 L)
theorem qcS_g56 (L : Nat) : ∀ p, 113 < p → qcS_56 L p = q_S00 L p := q_sg_u (by decide) (qcS_g55 L)
theorem qcS_e57 (L : Nat) : ∀ p, p < 114 → qcS_57 L p = qcS_57 0 p := q_se_u (qcS_e56 L)
theorem qcS_g57 (L : Nat) : ∀ p, 113 < p → qcS_57 L p = q_S00 L p := q_sg_u (by decide) (qcS_g56 L)
theorem qcS_e58 (L : Nat) : ∀ p, p < 114 → qcS_58 L p = qcS_58 0 p := q_se_u (qcS_e57 L)
theorem qcS_g58 (L : Nat) : ∀ p, 113 < p → qcS_58 L p = q_S00 L p := q_sg_u (by decide) (qcS_g57 L)
theorem qcS_e59 (L : Nat) : ∀ p, p < 114 → qcS_59 L p = qcS_59 0 p := q_se_u (qcS_e58 L)
theorem qcS_g59 (L : Nat) : ∀ p, 113 < p → qcS_59 L p = q_S00 L p := q_sg_u (by decide) (qcS_g58 L)
theorem qcS_e60 (L : Nat) : ∀ p, p < 114 → qcS_60 L p = qcS_60 0 p := q_se_u (qcS_e59 L)
theorem qcS_g60 (L : Nat) : ∀ p, 113 < p → qcS_60 L p = q_S00 L p := q_sg_u (by decide) (qcS_g59 L)
theorem qcS_e61 (L : Nat) : ∀ p, p < 114 → qcS_61 L p = qcS_61 0 p := q_se_u (qcS_e60 L)
theorem qcS_g61 (L : Nat) : ∀ p, 113 < p → qcS_61 L p = q_S00 L p := q_sg_u (by decide) (qcS_g60 L)
theorem qcS_e62 (L : Nat) : ∀ p, p < 114 → qcS_62 L p = qcS_62 0 p := q_se_u (qcS_e61 L)
theorem qcS_g62 (L : Nat) : ∀ p, 113 < p → qcS_62 L p = q_S00 L p := q_sg_u (by decide) (qcS_g61 L)
theorem qcS_e63 (L : Nat) : ∀ p, p < 114 → qcS_63 L p = qcS_63 0 p := q_se_u (qcS_e62 L)
theorem qcS_g63 (L : Nat) : ∀ p, 113 < p → qcS_63 L p = q_S00 L p := q_sg_u (by decide) (qcS_g62 L)
theorem qcS_e64 (L : Nat) : ∀ p, p < 114 → qcS_64 L p = qcS_64 0 p := q_se_u (qcS_e63 L)
theorem qcS_g64 (L : Nat) : ∀ p, 113 < p → qcS_64 L p = q_S00 L p := q_sg_u (by decide) (qcS_g63 L)
theorem qcS_e65 (L : Nat) : ∀ p, p < 114 → qcS_65 L p = qcS_65 0 p := q_se_u (qcS_e64 L)
theorem qcS_g65 (L : Nat) : ∀ p, 113 < p → qcS_65 L p = q_S00 L p := q_sg_u (by decide) (qcS_g64 L)
theorem qcS_e66 (L : Nat) : ∀ p, p < 114 → qcS_66 L p = qcS_66 0 p := q_se_u (qcS_e65 L)
theorem qcS_g66 (L : Nat) : ∀ p, 113 < p → qcS_66 L p = q_S00 L p := q_sg_u (by decide) (qcS_g65 L)
theorem qcS_e67 (L : Nat) : ∀ p, p < 114 → qcS_67 L p = qcS_67 0 p := q_se_u (qcS_e66 L)
theorem qcS_g67 (L : Nat) : ∀ p, 113 < p → qcS_67 L p = q_S00 L p := q_sg_u (by decide) (qcS_g66 L)
theorem qcS_e68 (L : Nat) : ∀ p, p < 114 → qcS_68 L p = qcS_68 0 p := q_se_u (qcS_e67 L)
theorem qcS_g68 (L : Nat) : ∀ p, 113 < p → qcS_68 L p = q_S00 L p := q_sg_u (by decide) (qcS_g67 L)
theorem qcS_e69 (L : Nat) : ∀ p, p < 114 → qcS_69 L p = qcS_69 0 p := q_se_u (qcS_e68 L)
theorem qcS_g69 (L : Nat) : ∀ p, 113 < p → qcS_69 L p = q_S00 L p := q_sg_u (by decide) (qcS_g68 L)
theorem qcS_e70 (L : Nat) : ∀ p, p < 114 → qcS_70 L p = qcS_70 0 p := q_se_u (qcS_e69 L)
theorem qcS_g70 (L : Nat) : ∀ p, 113 < p → qcS_70 L p = q_S00 L p := q_sg_u (by decide) (qcS_g69 L)
theorem qcS_e71 (L : Nat) : ∀ p, p < 114 → qcS_71 L p = qcS_71 0 p := q_se_u (qcS_e70 L)
theorem qcS_g71 (L : Nat) : ∀ p, 113 < p → qcS_71 L p = q_S00 L p := q_sg_u (by decide) (qcS_g70 L)
theorem qcS_e72 (L : Nat) : ∀ p, p < 114 → qcS_72 L p = qcS_72 0 p := q_se_u (qcS_e71 L)
theorem qcS_g72 (L : Nat) : ∀ p, 113 < p → qcS_72 L p = q_S00 L p := q_sg_u (by decide) (qcS_g71 L)
theorem qcS_e73 (L : Nat) : ∀ p, p < 114 → qcS_73 L p = qcS_73 0 p := q_se_u (qcS_e72 L)
theorem qcS_g73 (L : Nat) : ∀ p, 113 < p → qcS_73 L p = q_S00 L p := q_sg_u (by decide) (qcS_g72 L)
theorem qcS_e74 (L : Nat) : ∀ p, p < 114 → qcS_74 L p = qcS_74 0 p := q_se_u (qcS_e73 L)
theorem qcS_g74 (L : Nat) : ∀ p, 113 < p → qcS_74 L p = q_S00 L p := q_sg_u (by decide) (qcS_g73 L)
theorem qcS_e75 (L : Nat) : ∀ p, p < 114 → qcS_75 L p = qcS_75 0 p := q_se_u (qcS_e74 L)
theorem qcS_g75 (L : Nat) : ∀ p, 113 < p → qcS_75 L p = q_S00 L p := q_sg_u (by decide) (qcS_g74 L)
theorem qcS_e76 (L : Nat) : ∀ p, p < 114 → qcS_76 L p = qcS_76 0 p := q_se_u (qcS_e75 L)
theorem qcS_g76 (L : Nat) : ∀ p, 113 < p → qcS_76 L p = q_S00 L p := q_sg_u (by decide) (qcS_g75 L)
theorem qcS_e77 (L : Nat) : ∀ p, p < 114 → qcS_77 L p = qcS_77 0 p := q_se_u (qcS_e76 L)
theorem qcS_g77 (L : Nat) : ∀ p, 113 < p → qcS_77 L p = q_S00 L p := q_sg_u (by decide) (qcS_g76 L)
theorem qcS_e78 (L : Nat) : ∀ p, p < 114 → qcS_78 L p = qcS_78 0 p := q_se_u (qcS_e77 L)
theorem qcS_g78 (L : Nat) : ∀ p, 113 < p → qcS_78 L p = q_S00 L p := q_sg_u (by decide) (qcS_g77 L)
theorem qcS_e79 (L : Nat) : ∀ p, p < 114 → qcS_79 L p = qcS_79 0 p := q_se_u (qcS_e78 L)
theorem qcS_g79 (L : Nat) : ∀ p, 113 < p → qcS_79 L p = q_S00 L p := q_sg_u (by decide) (qcS_g78 L)
theorem qcS_e80 (L : Nat) : ∀ p, p < 114 → qcS_80 L p = qcS_80 0 p := q_se_u (qcS_e79 L)
theorem qcS_g80 (L : Nat) : ∀ p, 113 < p → qcS_80 L p = q_S00 L p := q_sg_u (by decide) (qcS_g79 L)
theorem qcS_e81 (L : Nat) : ∀ p, p < 114 → qcS_81 L p = qcS_81 0 p := q_se_u (qcS_e80 L)
theorem qcS_g81 (L : Nat) : ∀ p, 113 < p → qcS_81 L p = q_S00 L p := q_sg_u (by decide) (qcS_g80 L)
theorem qcS_e82 (L : Nat) : ∀ p, p < 114 → qcS_82 L p = qcS_82 0 p := q_se_u (qcS_e81 L)
theorem qcS_g82 (L : Nat) : ∀ p, 113 < p → qcS_82 L p = q_S00 L p := q_sg_u (by decide) (qcS_g81 L)
theorem qcS_e83 (L : Nat) : ∀ p, p < 114 → qcS_83 L p = qcS_83 0 p := q_se_u (qcS_e82 L)
theorem qcS_g83 (L : Nat) : ∀ p, 113 < p → qcS_83 L p = q_S00 L p := q_sg_u (by decide) (qcS_g82 L)
theorem qcS_e84 (L : Nat) : ∀ p, p < 114 → qcS_84 L p = qcS_84 0 p := q_se_u (qcS_e83 L)
theorem qcS_g84 (L : Nat) : ∀ p, 113 < p → qcS_84 L p = q_S00 L p := q_sg_u (by decide) (qcS_g83 L)
theorem qcS_e85 (L : Nat) : ∀ p, p < 114 → qcS_85 L p = qcS_85 0 p := q_se_u (qcS_e84 L)
theorem qcS_g85 (L : Nat) : ∀ p, 113 < p → qcS_85 L p = q_S00 L p := q_sg_u (by decide) (qcS_g84 L)
theorem qcS_e86 (L : Nat) : ∀ p, p < 114 → qcS_86 L p = qcS_86 0 p := q_se_u (qcS_e85 L)
theorem qcS_g86 (L : Nat) : ∀ p, 113 < p → qcS_86 L p = q_S00 L p := q_sg_u (by decide) (qcS_g85 L)
theorem qcS_e87 (L : Nat) : ∀ p, p < 114 → qcS_87 L p = qcS_87 0 p := q_se_u (qcS_e86 L)
theorem qcS_g87 (L : Nat) : ∀ p, 113 < p → qcS_87 L p = q_S00 L p := q_sg_u (by decide) (qcS_g86 L)
theorem qcS_e88 (L : Nat) : ∀ p, p < 114 → qcS_88 L p = qcS_88 0 p := q_se_u (qcS_e87 L)
theorem qcS_g88 (L : Nat) : ∀ p, 113 < p → qcS_88 L p = q_S00 L p := q_sg_u (by decide) (qcS_g87 L)
theorem qcS_e89 (L : Nat) : ∀ p, p < 114 → qcS_89 L p = qcS_89 0 p := q_se_u (qcS_e88 L)
theorem qcS_g89 (L : Nat) : ∀ p, 113 < p → qcS_89 L p = q_S00 L p := q_sg_u (by decide) (qcS_g88 L)
theorem qcS_e90 (L : Nat) : ∀ p, p < 114 → qcS_90 L p = qcS_90 0 p := q_se_u (qcS_e89 L)
theorem qcS_g90 (L : Nat) : ∀ p, 113 < p → qcS_90 L p = q_S00 L p := q_sg_u (by decide) (qcS_g89 L)
theorem qcS_e91 (L : Nat) : ∀ p, p < 114 → qcS_91 L p = qcS_91 0 p := q_se_u (qcS_e90 L)
theorem qcS_g91 (L : Nat) : ∀ p, 113 < p → qcS_91 L p = q_S00 L p := q_sg_u (by decide) (qcS_g90 L)
theorem qcS_e92 (L : Nat) : ∀ p, p < 114 → qcS_92 L p = qcS_92 0 p := q_se_u (qcS_e91 L)
theorem qcS_g92 (L : Nat) : ∀ p, 113 < p → qcS_92 L p = q_S00 L p := q_sg_u (by decide) (qcS_g91 L)
theorem qcS_e93 (L : Nat) : ∀ p, p < 114 → qcS_93 L p = qcS_93 0 p := q_se_u (qcS_e92 L)
theorem qcS_g93 (L : Nat) : ∀ p, 113 < p → qcS_93 L p = q_S00 L p := q_sg_u (by decide) (qcS_g92 L)
theorem qcS_e94 (L : Nat) : ∀ p, p < 114 → qcS_94 L p = qcS_94 0 p := q_se_u (qcS_e93 L)
theorem qcS_g94 (L : Nat) : ∀ p, 113 < p → qcS_94 L p = q_S00 L p := q_sg_u (by decide) (qcS_g93 L)
theorem qcS_e95 (L : Nat) : ∀ p, p < 114 → qcS_95 L p = qcS_95 0 p := q_se_u (qcS_e94 L)
theorem qcS_g95 (L : Nat) : ∀ p, 113 < p → qcS_95 L p = q_S00 L p := q_sg_u (by decide) (qcS_g94 L)
theorem qcS_e96 (L : Nat) : ∀ p, p < 114 → qcS_96 L p = qcS_96 0 p := q_se_u (qcS_e95 L)
theorem qcS_g96 (L : Nat) : ∀ p, 113 < p → qcS_96 L p = q_S00 L p := q_sg_u (by decide) (qcS_g95 L)
theorem qcS_e97 (L : Nat) : ∀ p, p < 114 → qcS_97 L p = qcS_97 0 p := q_se_u (qcS_e96 L)
theorem qcS_g97 (L : Nat) : ∀ p, 113 < p → qcS_97 L p = q_S00 L p := q_sg_u (by decide) (qcS_g96 L)
theorem qcS_e98 (L : Nat) : ∀ p, p < 114 → qcS_98 L p = qcS_98 0 p := q_se_u (qcS_e97 L)
theorem qcS_g98 (L : Nat) : ∀ p, 113 < p → qcS_98 L p = q_S00 L p := q_sg_u (by decide) (qcS_g97 L)
theorem qcS_e99 (L : Nat) : ∀ p, p < 114 → qcS_99 L p = qcS_99 0 p := q_se_u (qcS_e98 L)
theorem qcS_g99 (L : Nat) : ∀ p, 113 < p → qcS_99 L p = q_S00 L p := q_sg_u (by decide) (qcS_g98 L)
theorem qcS_e100 (L : Nat) : ∀ p, p < 114 → qcS_100 L p = qcS_100 0 p := q_se_u (qcS_e99 L)
theorem qcS_g100 (L : Nat) : ∀ p, 113 < p → qcS_100 L p = q_S00 L p := q_sg_u (by decide) (qcS_g99 L)
theorem qcS_e101 (L : Nat) : ∀ p, p < 114 → qcS_101 L p = qcS_101 0 p := q_se_u (qcS_e100 L)
theorem qcS_g101 (L : Nat) : ∀ p, 113 < p → qcS_101 L p = q_S00 L p := q_sg_u (by decide) (qcS_g100 L)
theorem qcS_e102 (L : Nat) : ∀ p, p < 114 → qcS_102 L p = qcS_102 0 p := q_se_u (qcS_e101 L)
theorem qcS_g102 (L : Nat) : ∀ p, 113 < p → qcS_102 L p = q_S00 L p := q_sg_u (by decide) (qcS_g101 L)
theorem qcS_e103 (L : Nat) : ∀ p, p < 114 → qcS_103 L p = qcS_103 0 p := q_se_u (qcS_e102 L)
theorem qcS_g103 (L : Nat) : ∀ p, 113 < p → qcS_103 L p = q_S00 L p := q_sg_u (by decide) (qcS_g102 L)
theorem qcS_e104 (L : Nat) : ∀ p, p < 114 → qcS_104 L p = qcS_104 0 p := q_se_u (qcS_e103 L)
theorem qcS_g104 (L : Nat) : ∀ p, 113 < p → qcS_104 L p = q_S00 L p := q_sg_u (by decide) (qcS_g103 L)
theorem qcS_e105 (L : Nat) : ∀ p, p < 114 → qcS_105 L p = qcS_105 0 p := q_se_u (qcS_e104 L)
theorem qcS_g105 (L : Nat) : ∀ p, 113 < p → qcS_105 L p = q_S00 L p := q_sg_u (by decide) (qcS_g104 L)
theorem qcS_e106 (L : Nat) : ∀ p, p < 114 → qcS_106 L p = qcS_106 0 p := q_se_u (qcS_e105 L)
theorem qcS_g106 (L : Nat) : ∀ p, 113 < p → qcS_106 L p = q_S00 L p := q_sg_u (by decide) (qcS_g105 L)
theorem qcS_e107 (L : Nat) : ∀ p, p < 114 → qcS_107 L p = qcS_107 0 p := q_se_u (qcS_e106 L)
theorem qcS_g107 (L : Nat) : ∀ p, 113 < p → qcS_107 L p = q_S00 L p := q_sg_u (by decide) (qcS_g106 L)
theorem qcS_e108 (L : Nat) : ∀ p, p < 114 → qcS_108 L p = qcS_108 0 p := q_se_u (qcS_e107 L)
theorem qcS_g108 (L : Nat) : ∀ p, 113 < p → qcS_108 L p = q_S00 L p := q_sg_u (by decide) (qcS_g107 L)
theorem qcS_e109 (L : Nat) : ∀ p, p < 114 → qcS_109 L p = qcS_109 0 p := q_se_u (qcS_e108 L)
theorem qcS_g109 (L : Nat) : ∀ p, 113 < p → qcS_109 L p = q_S00 L p := q_sg_u (by decide) (qcS_g108 L)
theorem qcS_e110 (L : Nat) : ∀ p, p < 114 → qcS_110 L p = qcS_110 0 p := q_se_u (qcS_e109 L)
theorem qcS_g110 (L : Nat) : ∀ p, 113 < p → qcS_110 L p = q_S00 L p := q_sg_u (by decide) (qcS_g109 L)
theorem qcS_e111 (L : Nat) : ∀ p, p < 114 → qcS_111 L p = qcS_111 0 p := q_se_u (qcS_e110 L)
theorem qcS_g111 (L : Nat) : ∀ p, 113 < p → qcS_111 L p = q_S00 L p := q_sg_u (by decide) (qcS_g110 L)
theorem qcS_e112 (L : Nat) : ∀ p, p < 114 → qcS_112 L p = qcS_112 0 p := q_se_u (qcS_e111 L)
theorem qcS_g112 (L : Nat) : ∀ p, 113 < p → qcS_112 L p = q_S00 L p := q_sg_u (by decide) (qcS_g111 L)
theorem qcS_e113 (L : Nat) : ∀ p, p < 114 → qcS_113 L p = qcS_113 0 p := q_se_u (qcS_e112 L)
theorem qcS_g113 (L : Nat) : ∀ p, 113 < p → qcS_113 L p = q_S00 L p := q_sg_u (by decide) (qcS_g112 L)
theorem q_S0_L (L : Nat) (p : Nat) (hp : p < 114) : q_S0 (3, 17, 17, 33, L) p = q_S0 (3, 17, 17, 33, 0) p := by
  match p, hp with
  | 0, _ => exact rfl
  | 1, _ => exact rfl
  | 2, _ => exact rfl
  | 3, _ => exact rfl
  | 4, _ => exact rfl
  | 5, _ => exact rfl
  | 6, _ => exact rfl
  | 7, _ => exact rfl
  | 8, _ => exact rfl
  | 9, _ => exact rfl
  | 10, _ => exact rfl
  | 11, _ => exact rfl
  | 12, _ => exact rfl
  | 13, _ => exact rfl
  | 14, _ => exact rfl
  | 15, _ => exact rfl
  | 16, _ => exact rfl
  | 17, _ => exact rfl
  | 18, _ => exact rfl
  | 19, _ => exact rfl
  | 20, _ => exact rfl
  | 21, _ => exact rfl
  | 22, _ => exact rfl
  | 23, _ => exact rfl
  | 24, _ => exact rfl
  | 25, _ => exact rfl
  | 26, _ => exact rfl
  | 27, _ => exact rfl
  | 28, _ => exact rfl
  | 29, _ => exact rfl
  | 30, _ => exact rfl
  | 31, _ => exact rfl
  | 32, _ => exact rfl
  | 33, _ => exact rfl
  | 34, _ => exact rfl
  | 35, _ => exact rfl
  | 36, _ => exact rfl
  | 37, _ => exact rfl
  | 38, _ => exact rfl
  | 39, _ => exact rfl
  | 40, _ => exact rfl
  | 41, _ => exact rfl
  | 42, _ => exact rfl
  | 43, _ => exact rfl
  | 44, _ => exact rfl
  | 45, _ => exact rfl
  | 46, _ => exact rfl
  | 47, _ => exact rfl
  | 48, _ => exact rfl
  | 49, _ => exact rfl
  | 50, _ => exact rfl
  | 51, _ => exact rfl
  | 52, _ => exact rfl
  | 53, _ => exact rfl
  | 54, _ => exact rfl
  | 55, _ => exact rfl
  | 56, _ => exact rfl
  | 57, _ => exact rfl
  | 58, _ => exact rfl
  | 59, _ => exact rfl
  | 60, _ => exact rfl
  | 61, _ => exact rfl
  | 62, _ => exact rfl
  | 63, _ => exact rfl
  | 64, _ => exact rfl
  | 65, _ => exact rfl
  | 66, _ => exact rfl
  | 67, _ => exact rfl
  | 68, _ => exact rfl
  | 69, _ => exact rfl
  | 70, _ => exact rfl
  | 71, _ => exact rfl
  | 72, _ => exact rfl
  | 73, _ => exact rfl
  | 74, _ => exact rfl
  | 75, _ => exact rfl
  | 76, _ => exact rfl
  | 77, _ => exact rfl
  | 78, _ => exact rfl
  | 79, _ => exact rfl
  | 80, _ => exact rfl
  | 81, _ => exact rfl
  | 82, _ => exact rfl
  | 83, _ => exact rfl
  | 84, _ => exact rfl
  | 85, _ => exact rfl
  | 86, _ => exact rfl
  | 87, _ => exact rfl
  | 88, _ => exact rfl
  | 89, _ => exact rfl
  | 90, _ => exact rfl
  | 91, _ => exact rfl
  | 92, _ => exact rfl
  | 93, _ => exact rfl
  | 94, _ => exact rfl
  | 95, _ => exact rfl
  | 96, _ => exact rfl
  | 97, _ => exact rfl
  | 98, _ => exact rfl
  | 99, _ => exact rfl
  | 100, _ => exact rfl
  | 101, _ => exact rfl
  | 102, _ => exact rfl
  | 103, _ => exact rfl
  | 104, _ => exact rfl
  | 105, _ => exact rfl
  | 106, _ => exact rfl
  | 107, _ => exact rfl
  | 108, _ => exact rfl
  | 109, _ => exact rfl
  | 110, _ => exact rfl
  | 111, _ => exact rfl
  | 112, _ => exact rfl
  | 113, _ => exact rfl
  | p + 114, hp => exact absurd hp (by omega)
theorem q_S0_g (L : Nat) (p : Nat) (hp : 113 < p) : q_S0 (3, 17, 17, 33, L) p = q_S00 L p := by
  by_cases h0 : p = 1000
  · subst h0; rfl
  by_cases h1 : p = 1001
  · subst h1; rfl
  by_cases h2 : p = 1002
  · subst h2; rfl
  by_cases h3 : p = 1003
  · subst h3; rfl
  by_cases h4 : p = 1004
  · subst h4; rfl
  by_cases h5 : p = 1010
  · subst h5; rfl
  have hq : ∀ c, p ≠ c → Nat.beq p c = false := fun c h => q_bq h
  have e2 : q_S00 L p = (0, 0) := by
    unfold q_S00
    rw [hq _ h0, hq _ h1, hq _ h2, hq _ h3, hq _ h4, hq _ h5]
    rfl
  rw [e2]
  unfold q_S0
  simp (disch := omega) only [hq, cond_false, Bool.cond_self]
theorem qcS_eq (L : Nat) : qcS_113 L = q_S0 (3, 17, 17, 33, L) := by
  funext p
  by_cases hp : p < 114
  · rw [qcS_e113 L p hp, qcS_t p hp, q_S0_L L p hp]
  · rw [qcS_g113 L p (by omega), q_S0_g L p (by omega)]
theorem qcR_eq (L : Nat) : qcR_225 = q_R0 (3, 17, 17, 33, L) := by
  funext p k
  by_cases hp : p < 114 ∧ k < 100
  · exact qcR_t p hp.1 k hp.2
  · rw [qcR_b225 p k (by omega)]
    unfold q_R0
    by_cases hk : k < 100
    · have hp' : 114 ≤ p := by omega
      simp only [q_bq (show p ≠ 1 by omega), q_bq (show p ≠ 31 by omega), Bool.false_and, cond_false, q_R1_big (show 11400 ≤ p * 100 + k by omega), Bool.cond_self]
    · have hb : Nat.blt k 100 = false := by
        cases hx : Nat.blt k 100 with
        | false => rfl
        | true => have := Nat.ble_eq.mp hx; omega
      simp only [q_bq (show k ≠ 2 by omega), q_bq (show k ≠ 3 by omega), q_bq (show k ≠ 8 by omega), q_bq (show k ≠ 1 by omega), Bool.and_false, cond_false, hb]
theorem qfK_t : ∀ k, k < 21 → qfK k = qKC k := by decide +kernel
def qX3 : Nat → Nat → Int32 := q_up (q_up (q_up qX0 1 14 (-1)) 64 3 (-1)) 64 27 (-1)
theorem q_initQ {I : Nat → Nat → Int32} {J : Nat → Nat → Int64} (hX : ∀ p k, 1 ≤ p → p ≤ 113 → p ≠ 93 → p ≠ 95 → I p k = qX3 p k) (hJ : ∀ k, J 32 k = qfK k) (st : q_Sta I) (fr : q_Fr I) (t93a : I 93 0 = 0 ∧ I 93 1 = 0 ∧ I 93 2 = 0) (t93b : ∀ k, 7 ≤ k → k < 19 → I 93 k = 0) (t93d : ∀ a, a < 6 → I 93 (19 + a) = -1) (t93e : ∀ a, a < 36 → I 93 (29 + a) = 0) : q_Q q_Ky I J := by
  have hz : ∀ p k, 1 ≤ p → p ≤ 113 → p ≠ 93 → p ≠ 95 → p ≠ 1 → p ≠ 64 → I p k = 0 := fun p k a b c d f g => by
    rw [hX p k a b c d]
    show q_up (q_up (q_up qX0 1 14 (-1)) 64 3 (-1)) 64 27 (-1) p k = 0
    rw [q_up_at3 _ _ g, q_up_at3 _ _ g, q_up_at3 _ _ f]
    rfl
  have h1 : ∀ k, k ≠ 14 → I 1 k = 0 := fun k hk => by
    rw [hX 1 k (by omega) (by omega) (by omega) (by omega)]
    show q_up (q_up (q_up qX0 1 14 (-1)) 64 3 (-1)) 64 27 (-1) 1 k = 0
    rw [q_up_at3 _ _ (by decide), q_up_at3 _ _ (by decide), q_up_at2 _ _ hk]
    rfl
  have h64 : ∀ k, k ≠ 3 → k ≠ 27 → I 64 k = 0 := fun k a b => by
    rw [hX 64 k (by omega) (by omega) (by omega) (by omega)]
    show q_up (q_up (q_up qX0 1 14 (-1)) 64 3 (-1)) 64 27 (-1) 64 k = 0
    rw [q_up_at2 _ _ b, q_up_at2 _ _ a, q_up_at3 _ _ (by decide)]
    rfl
  have h114 : I 1 14 = -1 := hX 1 14 (by omega) (by omega) (by omega) (by omega)
  have h643 : I 64 3 = -1 := hX 64 3 (by omega) (by omega) (by omega) (by omega)
  have h6427 : I 64 27 = -1 := hX 64 27 (by omega) (by omega) (by omega) (by omega)
  have z : ∀ p k, (1 < p ∧ p ≤ 113 ∧ p ≠ 93 ∧ p ≠ 95 ∧ p ≠ 64) → I p k = 0 := fun p k h => hz p k (by omega) h.2.1 h.2.2.1 h.2.2.2.1 (by omega) h.2.2.2.2
  have qz : ∀ k, qcr I k = 0 := fun k => by
    unfold qcr
    split
    · exact z 37 _ (by omega)
    split
    · exact z 38 _ (by omega)
    split
    · exact z 39 _ (by omega)
    split
    · exact z 40 _ (by omega)
    split
    · exact z 41 _ (by omega)
    · exact z 42 _ (by omega)
  have hch : ∀ c : Nat → Int32, (∀ k, c k = 0) → q_Ch 0 0 (bt (I 3 11)) c (I 93) := by
    intro c hc
    refine ⟨⟨by rw [hc, t93a.1], 0, by omega, t93a.1⟩, ⟨by rw [hc, t93a.2.1], 0, by omega, t93a.2.1⟩, ⟨by rw [hc, t93a.2.2], 0, by omega, t93a.2.2⟩, fun d hd => absurd hd (Nat.not_lt_zero d), ⟨fun k hk => absurd hk (Nat.not_lt_zero k), fun k _ => ?_, fun p hp => ?_, fun k _ => ?_⟩, fun k _ hk => t93d k hk, fun x hx => ⟨?_, fun g => ?_⟩, fun d hd => absurd hd (Nat.not_lt_zero d)⟩
    · dsimp only; rw [hc, hc, b_0]; exact ⟨rfl, rfl⟩
    · obtain ⟨-, -, g3, g4⟩ := qla_t p hp
      dsimp only
      rw [hc, hc, t93e _ (by omega), b_0]
      exact ⟨Or.inl rfl, by decide, by decide, fun _ => rfl⟩
    · dsimp only; rw [hc, hc, b_0]; exact ⟨rfl, rfl⟩
    · rw [hc, b_0, decide_eq_false (by omega), Bool.false_and]
    · rw [hc, b_0] at g; cases g
  have hfm : q_Fm (I 15) (I 69) (I 70) 0 := fun k hk => absurd hk (Nat.not_lt_zero k)
  refine ⟨fun k hk => by rw [hJ k]; exact qfK_t k hk, 0, 0, fun _ => 0, 0, fun _ => 0, ⟨st, ⟨⟨z 3 0 (by omega), h64 50 (by decide) (by decide), by omega⟩, ⟨z 3 5 (by omega), h64 51 (by decide) (by decide), by omega⟩, fun d hd => absurd hd (Nat.not_lt_zero d)⟩, ⟨fun x _ => Or.inr ⟨rfl, rfl, z 87 x (by omega)⟩, fun x hx => absurd hx (by omega), fun k hk => absurd hk (Nat.not_lt_zero k), fun x hx => ?_, fun k hk => absurd hk (Nat.not_lt_zero k)⟩, fun k hk => absurd hk (Nat.not_lt_zero k), ⟨h64 57 (by decide) (by decide), by omega, fun r hr => absurd hr (Nat.not_lt_zero r), ?_⟩, ⟨0, by omega, z 14 2 (by omega), h64 18 (by decide) (by decide), Or.inl ⟨h64 25 (by decide) (by decide), rfl⟩, hfm⟩, hch _ qz, h6427⟩, ⟨0, 0, 0, z 44 1 (by omega), by omega, z 44 2 (by omega), z 44 3 (by omega), Nat.le_refl _, by omega, h64 68 (by decide) (by decide), h64 69 (by decide) (by decide), fun j hj => ?_⟩, fun b hb => Or.inl ⟨z 47 b (by omega), z 112 b (by omega)⟩, ⟨0, by omega, h1 1 (by decide), h64 1 (by decide) (by decide), fun k hk => absurd hk (Nat.not_lt_zero k)⟩, ⟨by rw [h1 13 (by decide), h64 2 (by decide) (by decide)], by rw [h114, h643]⟩, ⟨0, by omega, h1 12 (by decide), h64 62 (by decide) (by decide), fun k hk => absurd hk (Nat.not_lt_zero k)⟩, ⟨0, by omega, h1 15 (by decide), h64 80 (by decide) (by decide)⟩, ⟨0, by omega, z 3 14 (by omega), h64 52 (by decide) (by decide)⟩, by rw [z 14 3 (by omega), h64 21 (by decide) (by decide)], ⟨0, by omega, z 56 6 (by omega), h64 79 (by decide) (by decide), fun j hj => absurd hj (Nat.not_lt_zero j)⟩, Or.inl (z 52 2 (by omega)), fr⟩
  · rw [z 3 11 (by omega), b_0, z 87 x (by omega)]
    simp
  · rw [z 3 11 (by omega)]; decide +kernel
  · have hj0 : j = 0 := by omega
    subst hj0
    refine q_Ch_rc (by omega) (by omega) (hch _ (fun k => z 45 _ (by omega))) (fun k _ => ?_)
    unfold qst
    rw [if_neg (by omega), if_pos rfl]
