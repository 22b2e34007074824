/-! ===== board(): the reference's tail, whole ===== -/
theorem q_tailR {C R : Nat → Nat → Int32} {J K : Nat → Nat → Int64} (e : QP) {D N : Nat} {cl : Nat → Nat} (hB : q_BR C J R K D N cl) (h2 : R 64 2 = 0) :
    ∃ (R' : Nat → Nat → Int32) (z : Nat) (rc : Nat → Nat), kX12_board 4 [some (.ref 64), none] [] (qm R K e) = some (some (.int (nI D)), qm R' K e) ∧
      (∀ p, p ≠ 64 → p ≠ 69 → p ≠ 70 → (p < 83 ∨ 93 < p) → p ≠ 112 → R' p = R p) ∧ (∀ k, k ≠ 18 → k ≠ 21 → k ≠ 25 → k ≠ 50 → k ≠ 51 → k ≠ 52 → k ≠ 53 → k ≠ 57 → k ≠ 62 → k ≠ 68 → k ≠ 69 → k ≠ 79 → R' 64 k = R 64 k) ∧
      (R' 64 50 = nI D ∧ R' 64 51 = nI N ∧ R' 64 52 = R 64 48 ∧ R' 64 21 = R 64 20 ∧ R' 64 25 = R 64 24 ∧ R' 64 62 = 0 ∧ R' 64 68 = 0 ∧ R' 64 69 = 0 ∧ R' 64 79 = 0) ∧
      (z ≤ 300 ∧ R' 64 18 = nI z ∧ ((R 64 24 = 0 ∧ z = 0) ∨ (R 64 24 = 1 ∧ R 64 17 = nI z)) ∧ ∀ k, k < z → R' 69 k = R 67 k ∧ R' 70 k = R 68 k) ∧
      (∀ d, d < D → R' 83 d = R 74 d ∧ R' 84 d = R 75 d ∧ R' 85 d = R 76 d) ∧ (∀ x, x < 6 * D → R' 86 x = R 77 x ∧ R' 87 x = R 78 x) ∧ (∀ k, k < N → R' 88 k = R 79 k) ∧
      (R' 64 57 = nI (fb_ct (bt (C 17 11)) 24) ∧ ∀ r, r < fb_ct (bt (C 17 11)) 24 → R' 92 r = nI (rc r) ∧ rc r < 24 ∧ bt (C 17 11) (rc r) = true ∧ fb_ct (bt (C 17 11)) (rc r) = r) ∧
      (R' 93 0 = 0 ∧ R' 93 1 = 0 ∧ R' 93 2 = R 64 49) ∧ (∀ k, 7 ≤ k → k < 19 → R' 93 k = 0) ∧ (∀ d, d < D → R' 93 (3 + d) = qRs (R 75 d) (R 74 d) ∧ R' 93 (25 + d) = R 81 d) ∧ (∀ a, a < 6 → R' 93 (19 + a) = if a < N then R 80 a else -1) ∧ (∀ a, a < 36 → R' 93 (29 + a) = R 82 a) ∧ ∀ b, b < 3 → R' 112 b = 0 := by
  obtain ⟨⟨hn, hk, hs, hf, ho, hz⟩, -, -⟩ := hB
  obtain ⟨⟨-, d2, d3⟩, ⟨-, n2, n3⟩, hdv⟩ := hn
  have h24 : R 64 24 = 0 ∨ R 64 24 = 1 := by
    rcases ho.2.2 with ⟨a, -⟩ | ⟨a, -⟩
    · exact Or.inl a
    · exact Or.inr a
  have hzz : ∃ z : Nat, z ≤ 300 ∧ ((R 64 24 = 0 ∧ z = 0) ∨ (R 64 24 = 1 ∧ R 64 17 = nI z)) := by
    rcases ho.2.2 with ⟨a, -⟩ | ⟨a, z, z1, -, z2, -⟩
    · exact ⟨0, by omega, Or.inl ⟨a, rfl⟩⟩
    · exact ⟨z, z1, Or.inr ⟨a, z2⟩⟩
  obtain ⟨z, z1, z2⟩ := hzz
  generalize hRa : q_up (q_up (q_up (q_up (q_up (q_up (q_up R 64 50 (nI D)) 64 51 (nI N)) 64 52 (R 64 48)) 64 53 (R 64 49)) 64 21 (R 64 20)) 64 25 (R 64 24)) 64 18 (nI z) = Ra
  have rao : ∀ p, p ≠ 64 → Ra p = R p := fun p x => by rw [← hRa, q_up_at3 _ _ x, q_up_at3 _ _ x, q_up_at3 _ _ x, q_up_at3 _ _ x, q_up_at3 _ _ x, q_up_at3 _ _ x, q_up_at3 _ _ x]
  have ra6 : ∀ k, k ≠ 18 → k ≠ 21 → k ≠ 25 → k ≠ 50 → k ≠ 51 → k ≠ 52 → k ≠ 53 → Ra 64 k = R 64 k := fun k a b c d f g i => by rw [← hRa, q_up_at2 _ _ a, q_up_at2 _ _ c, q_up_at2 _ _ b, q_up_at2 _ _ i, q_up_at2 _ _ g, q_up_at2 _ _ f, q_up_at2 _ _ d]
  have ra50 : Ra 64 50 = nI D := by rw [← hRa, q_up_at2 _ _ (by decide), q_up_at2 _ _ (by decide), q_up_at2 _ _ (by decide), q_up_at2 _ _ (by decide), q_up_at2 _ _ (by decide), q_up_at2 _ _ (by decide), q_up_at1]
  have ra51 : Ra 64 51 = nI N := by rw [← hRa, q_up_at2 _ _ (by decide), q_up_at2 _ _ (by decide), q_up_at2 _ _ (by decide), q_up_at2 _ _ (by decide), q_up_at2 _ _ (by decide), q_up_at1]
  have ra52 : Ra 64 52 = R 64 48 := by rw [← hRa, q_up_at2 _ _ (by decide), q_up_at2 _ _ (by decide), q_up_at2 _ _ (by decide), q_up_at2 _ _ (by decide), q_up_at1]
  have ra53 : Ra 64 53 = R 64 49 := by rw [← hRa, q_up_at2 _ _ (by decide), q_up_at2 _ _ (by decide), q_up_at2 _ _ (by decide), q_up_at1]
  have ra21 : Ra 64 21 = R 64 20 := by rw [← hRa, q_up_at2 _ _ (by decide), q_up_at2 _ _ (by decide), q_up_at1]
  have ra25 : Ra 64 25 = R 64 24 := by rw [← hRa, q_up_at2 _ _ (by decide), q_up_at1]
  have ra18 : Ra 64 18 = nI z := by rw [← hRa, q_up_at1]
  have hA : kX12_board 4 [some (.ref 64), none] [] (qm R K e) = kX12_board 82 [some (.ref 64), some (.int 0)] [] (qm Ra K e) := by
    have hm : ∀ k, k ≠ 50 → k ≠ 51 → k ≠ 52 → q_up (q_up (q_up R 64 50 (R 64 46)) 64 51 (R 64 47)) 64 52 (R 64 48) 64 k = R 64 k := fun k a b c => by rw [q_up_at2 _ _ c, q_up_at2 _ _ b, q_up_at2 _ _ a]
    rw [eX12_board_4, h2, if_neg (by decide), eX12_board_13, eX12_board_39, hm 24 (by decide) (by decide) (by decide), hm 49 (by decide) (by decide) (by decide), hm 20 (by decide) (by decide) (by decide), d2, n2]
    have hck : ((decide (R 64 24 = 0) || decide (R 64 24 = 1)) && true) = true := by
      rcases h24 with g | g <;> rw [g] <;> decide
    rw [hck, q_ck_tt]
    rcases z2 with ⟨g, gz⟩ | ⟨g, gz⟩
    · rw [if_pos g, eX12_board_76, eX12_board_77, ← hRa, gz]; rfl
    · rw [if_neg (by rw [g]; decide), eX12_board_69, eX12_board_77, q_up_at2 _ _ (show (17 : Nat) ≠ 25 by decide), q_up_at2 _ _ (show (17 : Nat) ≠ 21 by decide), q_up_at2 _ _ (show (17 : Nat) ≠ 53 by decide), q_up_at2 _ _ (show (17 : Nat) ≠ 52 by decide), q_up_at2 _ _ (show (17 : Nat) ≠ 51 by decide), q_up_at2 _ _ (show (17 : Nat) ≠ 50 by decide), gz, hRa]
  obtain ⟨Rb, b1, b2, b3⟩ := q_cp82 K e z1 ra18
  have rb64 : Rb 64 = Ra 64 := b2 64 (by decide) (by decide)
  obtain ⟨Rc, c1, c2, c3⟩ := q_cp122 (R := Rb) K e d3 (by rw [rb64]; exact ra50)
  have rc64 : Rc 64 = Ra 64 := by rw [c2 64 (by decide) (by decide) (by decide) (by decide), rb64]
  obtain ⟨Rd, g1, g2, g3⟩ := q_cp186 (R := Rc) K e d3 (by rw [rc64]; exact ra50)
  have rd64 : Rd 64 = Ra 64 := by rw [g2 64 (by decide) (by decide), rc64]
  obtain ⟨Re, i1, i2, i3⟩ := q_cp229 (R := Rd) K e n3 (by rw [rd64]; exact ra51)
  have re64 : Re 64 = Ra 64 := by rw [i2 64 (by decide) (by decide), rd64]
  obtain ⟨Rf, j1, j2, j3⟩ := q_cp269 (R := Re) K e
  have rf64 : Rf 64 = Ra 64 := by rw [j2 64 (by decide), re64]
  obtain ⟨k1, k2, k3, k4, k5, k6⟩ := hk
  have lo : ∀ p, p ≠ 64 → p < 83 → p ≠ 69 → p ≠ 70 → Rf p = R p := fun p a b c d => by rw [j2 p (by omega), i2 p (by omega) (by omega), g2 p (by omega) (by omega), c2 p (by omega) (by omega) (by omega) (by omega), b2 p c d, rao p a]
  have lod : ∀ p, p ≠ 64 → p < 83 → p ≠ 69 → p ≠ 70 → Rc p = R p := fun p a b c d => by rw [c2 p (by omega) (by omega) (by omega) (by omega), b2 p c d, rao p a]
  have lob : ∀ p, p ≠ 64 → p < 83 → p ≠ 69 → p ≠ 70 → Rb p = R p := fun p a b c d => by rw [b2 p c d, rao p a]
  have v83 : ∀ d, d < D → Rf 83 d = R 74 d ∧ Rf 84 d = R 75 d ∧ Rf 85 d = R 76 d ∧ Rf 90 d = R 81 d := fun d hd => by
    have h := c3 d hd
    rw [lob 74 (by decide) (by decide) (by decide) (by decide), lob 75 (by decide) (by decide) (by decide) (by decide), lob 76 (by decide) (by decide) (by decide) (by decide), lob 81 (by decide) (by decide) (by decide) (by decide)] at h
    rw [j2 83 (by decide), j2 84 (by decide), j2 85 (by decide), j2 90 (by decide), i2 83 (by decide) (by decide), i2 84 (by decide) (by decide), i2 85 (by decide) (by decide), i2 90 (by decide) (by decide), g2 83 (by decide) (by decide), g2 84 (by decide) (by decide), g2 85 (by decide) (by decide), g2 90 (by decide) (by decide)]
    exact h
  have v86 : ∀ x, x < 6 * D → Rf 86 x = R 77 x ∧ Rf 87 x = R 78 x := fun x hx => by
    have h := g3 x hx
    rw [lod 77 (by decide) (by decide) (by decide) (by decide), lod 78 (by decide) (by decide) (by decide) (by decide)] at h
    rw [j2 86 (by decide), j2 87 (by decide), i2 86 (by decide) (by decide), i2 87 (by decide) (by decide)]
    exact h
  have v88 : ∀ x, x < N → Rf 88 x = R 79 x ∧ Rf 89 x = R 80 x := fun x hx => by
    have h := i3 x hx
    rw [g2 79 (by decide) (by decide), g2 80 (by decide) (by decide), lod 79 (by decide) (by decide) (by decide) (by decide), lod 80 (by decide) (by decide) (by decide) (by decide)] at h
    rw [j2 88 (by decide), j2 89 (by decide)]
    exact h
  have v91 : ∀ x, x < 36 → Rf 91 x = R 82 x := fun x hx => by
    rw [j3 x hx, i2 82 (by decide) (by decide), g2 82 (by decide) (by decide), lod 82 (by decide) (by decide) (by decide) (by decide)]
  obtain ⟨Rg, l1, l2, l3, l4, rc, l5⟩ := q_layR (R := Rf) K e (D := D) (A := bt (C 17 11)) (cl := cl) d3 (by rw [rf64]; exact ra50) (fun d hd => ⟨by rw [(v83 d hd).2.2.1]; exact (hdv d hd).2.2.2.1, (hdv d hd).2.2.2.2.1⟩) (fun d hd c hc => by
    have hcl := (hdv d hd).2.2.2.2.1
    have hx : 6 * d + c < 6 * D := by omega
    rw [(v86 _ hx).1, (v86 _ hx).2, k4 _ (by omega), k2 _ hx, decide_eq_true (show 6 * d + c < 24 by omega), Bool.true_and]
    by_cases g : C 26 (6 * d + c) = -1
    · rw [g]; rfl
    · have hnn : ¬ C 26 (6 * d + c) < 0 := by
        rcases (k1 (6 * d + c) (by omega)).1 with y | ⟨y, y1, y2⟩
        · exact absurd y g
        · rw [y2]; exact nI_pos (by omega)
      rw [decide_eq_false g, decide_eq_false hnn]
      rcases ((k1 (6 * d + c) (by omega)).2 g).2.2 with y | y <;> rw [y] <;> rfl) (fun x hx hax => by
    rw [k4 x (by omega), decide_eq_true hx, Bool.true_and] at hax
    have g : C 26 x ≠ -1 := fun y => by rw [y] at hax; cases hax
    exact ⟨((k1 x hx).2 g).1, ((k1 x hx).2 g).2.1⟩) (by omega)
  have rg50 : Rg 64 50 = nI D := by rw [l3 50 (by decide), rf64]; exact ra50
  have rg51 : Rg 64 51 = nI N := by rw [l3 51 (by decide), rf64]; exact ra51
  obtain ⟨Rh, m1, m2, m3, m4, m5, m6, m7⟩ := q_layT (R := Rg) K e d3 n3 rg50 rg51
  generalize hRi : q_up (q_up (q_up (q_up Rh 64 68 0) 64 69 0) 64 79 0) 64 62 0 = Ri
  have rio : ∀ p, p ≠ 64 → Ri p = Rh p := fun p x => by rw [← hRi, q_up_at3 _ _ x, q_up_at3 _ _ x, q_up_at3 _ _ x, q_up_at3 _ _ x]
  have ri6 : ∀ k, k ≠ 62 → k ≠ 68 → k ≠ 69 → k ≠ 79 → Ri 64 k = Rh 64 k := fun k a b c d => by rw [← hRi, q_up_at2 _ _ a, q_up_at2 _ _ d, q_up_at2 _ _ c, q_up_at2 _ _ b]
  obtain ⟨Rj, o1, o2, o3⟩ := q_cp323 (R := Ri) K e
  have rj6 : ∀ k, k ≠ 62 → k ≠ 68 → k ≠ 69 → k ≠ 79 → k ≠ 57 → Rj 64 k = Ra 64 k := fun k a b c d f => by rw [o2 64 (by decide), ri6 k a b c d, m2 64 (by decide), l3 k f, rf64]
  have rjo : ∀ p, p ≠ 64 → p ≠ 112 → p ≠ 93 → p ≠ 92 → Rj p = Rf p := fun p a b c d => by rw [o2 p b, rio p a, m2 p c, l2 p a d]
  have rj93 : Rj 93 = Rh 93 := by rw [o2 93 (by decide), rio 93 (by decide)]
  refine ⟨Rj, z, rc, ?_, fun p a b c d f => ?_, fun k a b c d f g i j l m o q => ?_, ⟨?_, ?_, ?_, ?_, ?_, ?_, ?_, ?_, ?_⟩, ⟨z1, ?_, z2, fun k hk => ?_⟩, fun d hd => ?_, fun x hx => ?_, fun k hk => ?_, ⟨?_, fun r hr => ?_⟩, ?_, fun k a b => ?_, fun d hd => ?_, fun a ha => ?_, fun a ha => ?_, o3⟩
  · have hri50 : Ri 64 50 = nI D := by rw [ri6 50 (by decide) (by decide) (by decide) (by decide), m2 64 (by decide)]; exact rg50
    rw [hA, b1, c1, g1, i1, j1, eX12_board_293, l1]
    simp only [Option.bind_some, Option.toList_some, Option.toList_none, List.nil_append, List.cons_append, q_ck_tt, Bool.and_true, Bool.true_and, if_true, if_false, reduceCtorEq]
    rw [eX12_board_297, m1]
    simp only [Option.bind_some, Option.toList_some, Option.toList_none, List.nil_append, List.cons_append, q_ck_tt, Bool.and_true, Bool.true_and, if_true, if_false, reduceCtorEq]
    rw [eX12_board_301, hRi, o1, hri50]
  · by_cases hp : p < 83
    · rw [rjo p a f (by omega) (by omega), lo p a hp b c]
    · rw [rjo p a f (by omega) (by omega), j2 p (by omega), i2 p (by omega) (by omega), g2 p (by omega) (by omega), c2 p (by omega) (by omega) (by omega) (by omega), b2 p b c, rao p a]
  · rw [rj6 k l m o q j, ra6 k a b c d f g i]
  · rw [rj6 50 (by decide) (by decide) (by decide) (by decide) (by decide)]; exact ra50
  · rw [rj6 51 (by decide) (by decide) (by decide) (by decide) (by decide)]; exact ra51
  · rw [rj6 52 (by decide) (by decide) (by decide) (by decide) (by decide)]; exact ra52
  · rw [rj6 21 (by decide) (by decide) (by decide) (by decide) (by decide)]; exact ra21
  · rw [rj6 25 (by decide) (by decide) (by decide) (by decide) (by decide)]; exact ra25
  · rw [o2 64 (by decide), ← hRi, q_up_at1]
  · rw [o2 64 (by decide), ← hRi, q_up_at2 _ _ (by decide), q_up_at2 _ _ (by decide), q_up_at2 _ _ (by decide), q_up_at1]
  · rw [o2 64 (by decide), ← hRi, q_up_at2 _ _ (by decide), q_up_at2 _ _ (by decide), q_up_at1]
  · rw [o2 64 (by decide), ← hRi, q_up_at2 _ _ (by decide), q_up_at1]
  · rw [rj6 18 (by decide) (by decide) (by decide) (by decide) (by decide)]; exact ra18
  · have h := b3 k hk
    rw [rao 67 (by decide), rao 68 (by decide)] at h
    rw [rjo 69 (by decide) (by decide) (by decide) (by decide), rjo 70 (by decide) (by decide) (by decide) (by decide), j2 69 (by decide), j2 70 (by decide), i2 69 (by decide) (by decide), i2 70 (by decide) (by decide), g2 69 (by decide) (by decide), g2 70 (by decide) (by decide), c2 69 (by decide) (by decide) (by decide) (by decide), c2 70 (by decide) (by decide) (by decide) (by decide)]
    exact h
  · rw [rjo 83 (by decide) (by decide) (by decide) (by decide), rjo 84 (by decide) (by decide) (by decide) (by decide), rjo 85 (by decide) (by decide) (by decide) (by decide)]
    have h := v83 d hd
    exact ⟨h.1, h.2.1, h.2.2.1⟩
  · rw [rjo 86 (by decide) (by decide) (by decide) (by decide), rjo 87 (by decide) (by decide) (by decide) (by decide)]; exact v86 x hx
  · rw [rjo 88 (by decide) (by decide) (by decide) (by decide)]; exact (v88 k hk).1
  · rw [o2 64 (by decide), ri6 57 (by decide) (by decide) (by decide) (by decide), m2 64 (by decide)]; exact l4
  · rw [o2 92 (by decide), rio 92 (by decide), m2 92 (by decide)]; exact l5 r hr
  · rw [rj93, m3.1, m3.2.1, m3.2.2, l3 53 (by decide), rf64]; exact ⟨rfl, rfl, ra53⟩
  · rw [rj93]; exact m4 k a b
  · have h := m5 d hd
    rw [l2 84 (by decide) (by decide), l2 83 (by decide) (by decide), l2 90 (by decide) (by decide), (v83 d hd).1, (v83 d hd).2.1, (v83 d hd).2.2.2] at h
    rw [rj93]; exact h
  · have h := m6 a ha
    rw [l2 89 (by decide) (by decide)] at h
    rw [rj93, h]
    by_cases g : a < N
    · rw [if_pos g, if_pos g, (v88 a g).2]
    · rw [if_neg g, if_neg g]
  · rw [rj93, m7 a ha, l2 91 (by decide) (by decide), v91 a ha]
