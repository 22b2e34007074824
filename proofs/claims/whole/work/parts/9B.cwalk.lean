/-! ===== the reference lays its table of ways ===== -/
theorem qMdz : ∀ a, a < 16 → ∀ b, b < 16 → qMz false a b < 16 ∧ (qMz false a b = 0 ↔ a = b) ∧ qMz false a b ≤ 1 + qMz false (qnx a false) b ∧ qMz false a b ≤ 1 + qMz false (qnx a true) b ∧ (a = b ∨ qMz false (qnx a false) b + 1 = qMz false a b ∨ qMz false (qnx a true) b + 1 = qMz false a b) := by decide +kernel
theorem qnx_16 : ∀ a, a < 16 → qnx a false < 16 ∧ qnx a true < 16 := by decide +kernel
theorem nI_16 (a b : Nat) : (16 : Int32) * nI a + nI b = nI (16 * a + b) := by rw [show (16 : Int32) * nI a = nI (16 * a) from (Int32.ofNat_mul 16 a).symm, nI_add]
theorem q_wk_half {I : Nat → Nat → Int32} {J : Nat → Nat → Int64} {e : QP} {n a b o g : Nat} (t : Bool) (ha : a < 16) (hb : b < 16) (ho : o ≤ 16) (hg : g ≤ 16) (h : I 95 (16 * qnx a t + b) = nI g) (hq : qnx a t < 16) : kX12_layWalks 78 [some (.ref 64), some (.int (nI n)), some (.int (nI a)), some (.int (nI b)), some (.int (nI o)), some (.int (qb t)), none] [] (qm I J e) = kX12_layWalks 78 [some (.ref 64), some (.int (nI n)), some (.int (nI a)), some (.int (nI b)), some (.int (nI (min o (1 + g)))), some (.int (qb t + 1)), none] [] (qm I J e) := by
  have h2 : qb t < (2 : Int32) := by cases t <;> decide
  have h1 : (1 : Int32) + nI g = nI (1 + g) := by rw [show (1 : Int32) = nI 1 from rfl, nI_add]
  rw [eX12_layWalks_78, if_pos h2, eX12_layWalks_84, fX12_nextState _ _ _ ha t]
  simp only [Option.bind_some, Option.toList_some, Option.toList_none, List.nil_append, List.cons_append, q_ck_tt, Bool.and_true, Bool.true_and, if_true, if_false, reduceCtorEq]
  rw [eX12_layWalks_97, nI_16, q_in_nI (show 16 * qnx a t + b < 256 by omega) (by omega), nI_n (by omega), Bool.true_and, q_ck_tt, h, h1]
  by_cases c : 1 + g < o
  · rw [if_pos (nI_lt c (by omega)), eX12_layWalks_111, eX12_layWalks_118, show min o (1 + g) = 1 + g by omega]
  · rw [if_neg (nI_nlt (by omega) (by omega)), eX12_layWalks_116, eX12_layWalks_118, show min o (1 + g) = o by omega]
theorem q_wk_cell {I : Nat → Nat → Int32} {J : Nat → Nat → Int64} {e : QP} {n a b g g0 g1 : Nat} (ha : a < 16) (hb : b < 16) (hg : g ≤ 16) (hg0 : g0 ≤ 16) (hg1 : g1 ≤ 16) (h : I 95 (16 * a + b) = nI g) (h0 : I 95 (16 * qnx a false + b) = nI g0) (h1 : I 95 (16 * qnx a true + b) = nI g1) : kX12_layWalks 56 [some (.ref 64), some (.int (nI n)), some (.int (nI a)), some (.int (nI b)), none, none, none] [] (qm I J e) = kX12_layWalks 56 [some (.ref 64), some (.int (nI n)), some (.int (nI a)), some (.int (nI (b + 1))), none, none, none] [] (qm (q_up I 95 (16 * a + b) (nI (min (min g (1 + g0)) (1 + g1)))) J e) := by
  obtain ⟨q0, q1⟩ := qnx_16 a ha
  have hx : kX12_layWalks 78 [some (.ref 64), some (.int (nI n)), some (.int (nI a)), some (.int (nI b)), some (.int (nI g)), some (.int 0), none] [] (qm I J e) = kX12_layWalks 78 [some (.ref 64), some (.int (nI n)), some (.int (nI a)), some (.int (nI b)), some (.int (nI (min g (1 + g0)))), some (.int 1), none] [] (qm I J e) := q_wk_half (n := n) false ha hb hg hg0 h0 q0
  have hy : kX12_layWalks 78 [some (.ref 64), some (.int (nI n)), some (.int (nI a)), some (.int (nI b)), some (.int (nI (min g (1 + g0)))), some (.int 1), none] [] (qm I J e) = kX12_layWalks 78 [some (.ref 64), some (.int (nI n)), some (.int (nI a)), some (.int (nI b)), some (.int (nI (min (min g (1 + g0)) (1 + g1)))), some (.int 2), none] [] (qm I J e) := q_wk_half (n := n) true ha hb (by omega) hg1 h1 q1
  rw [eX12_layWalks_56, if_pos (show nI b < (16 : Int32) from nI_lt (b := 16) hb (by omega)), eX12_layWalks_62, nI_16, q_in_nI (show 16 * a + b < 256 by omega) (by omega), nI_n (by omega), Bool.true_and, q_ck_tt, h, hx, hy, eX12_layWalks_78, if_neg (by decide), eX12_layWalks_126, nI_16, q_in_nI (show 16 * a + b < 256 by omega) (by omega), nI_n (by omega), Bool.true_and, q_ck_tt, show nI b + 1 = nI (b + 1) from nI_add b 1]
def q_Wp (I : Nat → Nat → Int32) (n x : Nat) (M : Nat → Nat → Int32) : Prop := (∀ p, p ≠ 95 → M p = I p) ∧ ∀ a, a < 16 → ∀ b, b < 16 → ∃ g : Nat, M 95 (16 * a + b) = nI g ∧ qMz false a b ≤ g ∧ g ≤ 16 ∧ (qMz false a b ≤ n → g = qMz false a b) ∧ (16 * a + b < x → qMz false a b ≤ n + 1 → g = qMz false a b)
theorem q_layW (I : Nat → Nat → Int32) (J : Nat → Nat → Int64) (e : QP) : ∃ I', mX12_layWalks [.ref 64] (qm I J e) = some (none, qm I' J e) ∧ (∀ p, p ≠ 95 → I' p = I p) ∧ q_Fr I' := by
  have d16 : ∀ k, k < 256 → nI k / 16 = nI (k / 16) ∧ nI k % 16 = nI (k % 16) := by decide +kernel
  -- the start
  obtain ⟨I1, ⟨a1, a2⟩, a3⟩ := q_inv_for (fun i (M : Nat → Nat → Int32) => kX12_layWalks 2 [some (.ref 64), some (.int (nI i)), none, none, none, none, none] [] (qm M J e)) (fun i M => (∀ p, p ≠ 95 → M p = I p) ∧ ∀ k, k < i → M 95 k = nI (if k / 16 = k % 16 then 0 else 16)) 256 (fun i M hi hM => by
    refine ⟨q_up M 95 i (nI (if i / 16 = i % 16 then 0 else 16)), ⟨fun p x => by rw [q_up_at3 _ _ x]; exact hM.1 p x, fun k hk => ?_⟩, ?_⟩
    · by_cases g : k = i
      · subst g; rw [q_up_at1]
      · rw [q_up_at2 _ _ g]; exact hM.2 k (by omega)
    · show kX12_layWalks 2 _ _ _ = kX12_layWalks 2 _ _ _
      rw [eX12_layWalks_2, if_pos (show nI i < (256 : Int32) from nI_lt (b := 256) hi (by omega)), eX12_layWalks_9, (d16 i hi).1, (d16 i hi).2]
      by_cases g : i / 16 = i % 16
      · rw [if_pos (by rw [g]), if_pos g, eX12_layWalks_25, eX12_layWalks_31, q_in_nI (show i < 256 by omega) (by omega), nI_n (by omega), Bool.true_and, q_ck_tt, show nI i + 1 = nI (i + 1) from nI_add i 1]
        rfl
      · rw [if_neg (fun y => g (nI_inj (by omega) (by omega) y)), if_neg g, eX12_layWalks_29, eX12_layWalks_31, q_in_nI (show i < 256 by omega) (by omega), nI_n (by omega), Bool.true_and, q_ck_tt, show nI i + 1 = nI (i + 1) from nI_add i 1]
        rfl) 256 0 I (by omega) ⟨fun _ _ => rfl, fun k hk => absurd hk (Nat.not_lt_zero k)⟩
  have a3' : kX12_layWalks 2 [some (.ref 64), some (.int 0), none, none, none, none, none] [] (qm I J e) = kX12_layWalks 2 [some (.ref 64), some (.int (nI 256)), none, none, none, none, none] [] (qm I1 J e) := a3
  have hst : q_Wp I 0 0 I1 := by
    refine ⟨a1, fun a ha b hb => ?_⟩
    obtain ⟨m1, m2, -, -, -⟩ := qMdz a ha b hb
    have h := a2 (16 * a + b) (by omega)
    rw [show (16 * a + b) / 16 = a by omega, show (16 * a + b) % 16 = b by omega] at h
    by_cases g : a = b
    · rw [if_pos g] at h
      exact ⟨0, h, by have := m2.mpr g; omega, by omega, fun _ => (m2.mpr g).symm, fun y => absurd y (Nat.not_lt_zero _)⟩
    · rw [if_neg g] at h
      exact ⟨16, h, by omega, by omega, fun y => absurd (m2.mp (by omega)) g, fun y => absurd y (Nat.not_lt_zero _)⟩
  -- a row of cells
  have hrow : ∀ n M a, a < 16 → q_Wp I n (16 * a) M → ∃ M', q_Wp I n (16 * (a + 1)) M' ∧ kX12_layWalks 48 [some (.ref 64), some (.int (nI n)), some (.int (nI a)), none, none, none, none] [] (qm M J e) = kX12_layWalks 48 [some (.ref 64), some (.int (nI n)), some (.int (nI (a + 1))), none, none, none, none] [] (qm M' J e) := by
    intro n M a ha hM
    obtain ⟨M1, b1, b2⟩ := q_inv_for (fun b (M : Nat → Nat → Int32) => kX12_layWalks 56 [some (.ref 64), some (.int (nI n)), some (.int (nI a)), some (.int (nI b)), none, none, none] [] (qm M J e)) (fun b M => q_Wp I n (16 * a + b) M) 16 (fun b M hb hM => by
      obtain ⟨m1, m2⟩ := hM
      obtain ⟨q0, q1⟩ := qnx_16 a ha
      obtain ⟨g, g1, g2, g3, g4, g5⟩ := m2 a ha b hb
      obtain ⟨u, u1, u2, u3, u4, u5⟩ := m2 (qnx a false) q0 b hb
      obtain ⟨w, w1, w2, w3, w4, w5⟩ := m2 (qnx a true) q1 b hb
      obtain ⟨k1, k2, k3, k4, k5⟩ := qMdz a ha b hb
      refine ⟨_, ⟨fun p x => by rw [q_up_at3 _ _ x]; exact m1 p x, fun a' ha' b' hb' => ?_⟩, q_wk_cell ha hb g3 u3 w3 g1 u1 w1⟩
      by_cases c : 16 * a' + b' = 16 * a + b
      · have ea : a' = a := by omega
        have eb : b' = b := by omega
        subst ea
        subst eb
        have hmin : ∀ m : Nat, m ≤ n + 1 → qMz false a' b' = m → min (min g (1 + u)) (1 + w) = qMz false a' b' := by
          intro m hm he
          rcases k5 with k5 | k5 | k5
          · have := g4 (by have := k2.mpr k5; omega)
            omega
          · have := u4 (by omega)
            omega
          · have := w4 (by omega)
            omega
        refine ⟨min (min g (1 + u)) (1 + w), by rw [q_up_at1], by omega, by omega, fun y => hmin _ (by omega) rfl, fun _ y => hmin _ y rfl⟩
      · obtain ⟨g', h1, h2, h3, h4, h5⟩ := m2 a' ha' b' hb'
        exact ⟨g', by rw [q_up_at2 _ _ c]; exact h1, h2, h3, h4, fun y => h5 (by omega)⟩) 16 0 M (by omega) hM
    have b2' : kX12_layWalks 56 [some (.ref 64), some (.int (nI n)), some (.int (nI a)), some (.int 0), none, none, none] [] (qm M J e) = kX12_layWalks 56 [some (.ref 64), some (.int (nI n)), some (.int (nI a)), some (.int (nI 16)), none, none, none] [] (qm M1 J e) := b2
    refine ⟨M1, b1, ?_⟩
    rw [eX12_layWalks_48, if_pos (show nI a < (16 : Int32) from nI_lt (b := 16) ha (by omega)), eX12_layWalks_54, b2', eX12_layWalks_56, if_neg (by decide), eX12_layWalks_145, show nI a + 1 = nI (a + 1) from nI_add a 1]
  have hround : ∀ n M, n < 16 → q_Wp I n 0 M → ∃ M', q_Wp I (n + 1) 0 M' ∧ kX12_layWalks 40 [some (.ref 64), some (.int (nI n)), none, none, none, none, none] [] (qm M J e) = kX12_layWalks 40 [some (.ref 64), some (.int (nI (n + 1))), none, none, none, none, none] [] (qm M' J e) := by
    intro n M hn hM
    obtain ⟨M1, b1, b2⟩ := q_inv_for (fun a (M : Nat → Nat → Int32) => kX12_layWalks 48 [some (.ref 64), some (.int (nI n)), some (.int (nI a)), none, none, none, none] [] (qm M J e)) (fun a M => q_Wp I n (16 * a) M) 16 (fun a M ha hM => hrow n M a ha hM) 16 0 M (by omega) hM
    have b2' : kX12_layWalks 48 [some (.ref 64), some (.int (nI n)), some (.int 0), none, none, none, none] [] (qm M J e) = kX12_layWalks 48 [some (.ref 64), some (.int (nI n)), some (.int (nI 16)), none, none, none, none] [] (qm M1 J e) := b2
    refine ⟨M1, ⟨b1.1, fun a ha b hb => ?_⟩, ?_⟩
    · obtain ⟨g, h1, h2, h3, h4, h5⟩ := b1.2 a ha b hb
      exact ⟨g, h1, h2, h3, fun y => h5 (by omega) y, fun y => absurd y (Nat.not_lt_zero _)⟩
    · rw [eX12_layWalks_40, if_pos (show nI n < (16 : Int32) from nI_lt (b := 16) hn (by omega)), eX12_layWalks_46, b2', eX12_layWalks_48, if_neg (by decide), eX12_layWalks_151, show nI n + 1 = nI (n + 1) from nI_add n 1]
  obtain ⟨I2, c1, c2⟩ := q_inv_for (fun n (M : Nat → Nat → Int32) => kX12_layWalks 40 [some (.ref 64), some (.int (nI n)), none, none, none, none, none] [] (qm M J e)) (fun n M => q_Wp I n 0 M) 16 (fun n M hn hM => hround n M hn hM) 16 0 I1 (by omega) hst
  have c2' : kX12_layWalks 40 [some (.ref 64), some (.int 0), none, none, none, none, none] [] (qm I1 J e) = kX12_layWalks 40 [some (.ref 64), some (.int (nI 16)), none, none, none, none, none] [] (qm I2 J e) := c2
  refine ⟨I2, ?_, c1.1, fun a ha b hb => ?_⟩
  · rw [bX12_layWalks, eX12_layWalks_0, a3', eX12_layWalks_2, if_neg (by decide), eX12_layWalks_38, c2', eX12_layWalks_40, if_neg (by decide), eX12_layWalks_157]
  · obtain ⟨g, h1, -, -, h4, -⟩ := c1.2 a ha b hb
    rw [h1, h4 (by have := (qMdz a ha b hb).1; omega)]
