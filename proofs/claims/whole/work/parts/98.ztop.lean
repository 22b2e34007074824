/-! ===== the law's loop (by program, over hand-written rows) ===== -/
def q_re (e : QP) : QP := (q_rh e.1, q_rh e.2.1, q_rh e.2.2.1, q_rh e.2.2.2.1, e.2.2.2.2)
theorem q_R1_big {n : Nat} (h : 11400 ≤ n) : q_R1 n = 0 := by
  have hb : ∀ k, k ≤ 11400 → Nat.blt n k = false := fun k hk => by
    cases hx : Nat.blt n k with
    | false => rfl
    | true => have := Nat.ble_eq.mp hx; omega
  have he : ∀ k, k < 11400 → Nat.beq n k = false := fun k hk => by
    cases hx : Nat.beq n k with
    | false => rfl
    | true => have := Nat.eq_of_beq_eq_true hx; omega
  unfold q_R1
  rw [hb 5601 (by decide), cond_false, hb 6441 (by decide), cond_false, hb 6466 (by decide), cond_false, hb 6475 (by decide), cond_false, hb 6478 (by decide), cond_false, hb 6482 (by decide), cond_false, hb 6483 (by decide), cond_false, he 6483 (by decide), cond_false]
theorem q_R1_rh : ∀ p, p < 114 → ∀ k, k < 100 → (p = 1 ∧ (k = 2 ∨ k = 3)) ∨ (p = 31 ∧ (k = 8 ∨ k = 1)) ∨ q_rh (q_R1 (q_rh p * 100 + k)) = q_R1 (p * 100 + k) := by decide +kernel
theorem q_S0_31 (e : QP) (p : Nat) (hp : p < 31) : q_S0 e (q_rh p) = q_S0 e p := by
  match p, hp with
  | 0, _ => exact rfl
  | 1, _ => exact rfl
  | 2, _ => exact rfl
  | 3, _ => exact rfl
  | 4, _ => exact rfl
  | 5, _ => exact rfl
  | 6, _ => exact rfl
  | 7, _ => exact rfl
  | 8, _ => exact rfl
  | 9, _ => exact rfl
  | 10, _ => exact rfl
  | 11, _ => exact rfl
  | 12, _ => exact rfl
  | 13, _ => exact rfl
  | 14, _ => exact rfl
  | 15, _ => exact rfl
  | 16, _ => exact rfl
  | 17, _ => exact rfl
  | 18, _ => exact rfl
  | 19, _ => exact rfl
  | 20, _ => exact rfl
  | 21, _ => exact rfl
  | 22, _ => exact rfl
  | 23, _ => exact rfl
  | 24, _ => exact rfl
  | 25, _ => exact rfl
  | 26, _ => exact rfl
  | 27, _ => exact rfl
  | 28, _ => exact rfl
  | 29, _ => exact rfl
  | 30, _ => exact rfl
  | p + 31, hp => exact absurd hp (by omega)
theorem q_rh_big {p : Nat} (hp : ¬ p < 31) : q_rh p = p := by unfold q_rh; rw [if_neg (by omega), if_neg (by omega)]
theorem q_S0_rh (e : QP) (p : Nat) : q_S0 e (q_rh p) = q_S0 e p := by
  by_cases hp : p < 31
  · exact q_S0_31 e p hp
  · rw [q_rh_big hp]
theorem q_rh_1 (p : Nat) : Nat.beq (q_rh p) 1 = Nat.beq p 1 := by
  by_cases hp : p < 31
  · exact (by decide +kernel : ∀ p, p < 31 → Nat.beq (q_rh p) 1 = Nat.beq p 1) p hp
  · rw [q_rh_big hp]
theorem q_rh_31 (p : Nat) : Nat.beq (q_rh p) 31 = Nat.beq p 31 := by
  by_cases hp : p < 31
  · exact (by decide +kernel : ∀ p, p < 31 → Nat.beq (q_rh p) 31 = Nat.beq p 31) p hp
  · rw [q_rh_big hp]
theorem q_R0_rh (e : QP) (p k : Nat) : q_rh (q_R0 e (q_rh p) k) = q_R0 (q_re e) p k := by
  unfold q_R0
  rw [q_rh_1, q_rh_31]
  cases h1 : (Nat.beq p 1 && Nat.beq k 2) with
  | true => rfl
  | false =>
    cases h2 : (Nat.beq p 1 && Nat.beq k 3) with
    | true => rfl
    | false =>
      cases h3 : (Nat.beq p 31 && Nat.beq k 8) with
      | true => rfl
      | false =>
        cases h4 : (Nat.beq p 31 && Nat.beq k 1) with
        | true => rfl
        | false =>
          simp only [cond_false]
          cases h5 : Nat.blt k 100 with
          | false => rfl
          | true =>
            simp only [cond_true]
            have hk : k < 100 := Nat.ble_eq.mp h5
            by_cases hp : p < 114
            · rcases q_R1_rh p hp k hk with ⟨rfl, rfl | rfl⟩ | ⟨rfl, rfl | rfl⟩ | h
              · cases h1
              · cases h2
              · cases h3
              · cases h4
              · exact h
            · rw [q_rh_big (p := p) (by omega), q_R1_big (n := p * 100 + k) (by omega)]
              rfl
theorem q_rn_qm (I : Nat → Nat → Int32) (J : Nat → Nat → Int64) (e : QP) : q_rn (qm I J e) = qm (fun p => I (q_rh p)) (fun p => J (q_rh p)) (q_re e) := by
  unfold q_rn qm
  refine congrArg (fun z => (_, _, z)) ?_
  refine Prod.ext ?_ (Prod.ext ?_ rfl)
  · funext p k; exact q_R0_rh e p k
  · funext p
    show q_S0 e (q_rh p) = q_S0 (q_re e) p
    rw [q_S0_rh]
    rfl
theorem q_rn_rn (M : QM) : q_rn (q_rn M) = M := by unfold q_rn; simp only [q_rh_rh]
theorem q_map_inv {x : Option QR} {r : Int32} {M : QM} (h : some (some (Value.int r), M) = x.map q_rr) : x = some (some (.int r), q_rn M) := by
  cases x with
  | none => cases h
  | some y =>
    obtain ⟨v, N⟩ := y
    have h1 : (some (Value.int r), M) = q_rr (v, N) := Option.some.inj h
    have h2 : some (Value.int r) = v.map q_rv := congrArg (fun z : QR => z.1) h1
    have h3 : M = q_rn N := congrArg (fun z : QR => z.2) h1
    have h4 : v = some (.int r) := by
      cases v with
      | none => cases h2
      | some w => cases w <;> first | (cases h2; rfl) | (cases h2; done)
    rw [h3, h4, q_rn_rn]
theorem q_QE_re {Q : (Nat → Nat → Int32) → (Nat → Nat → Int64) → Prop} {I : Nat → Nat → Int32} {J : Nat → Nat → Int64} {e : QP} (h : q_QE Q I J e) : q_QE Q (fun p => I (q_rh p)) (fun p => J (q_rh p)) (q_re e) := by
  rcases h with ⟨h1, h2, h⟩ | ⟨h1, h2, h⟩
  · refine Or.inr ⟨?_, ?_, ?_⟩
    · show q_rh e.1 = 17; rw [h1]; rfl
    · show q_rh e.2.1 = 3; rw [h2]; rfl
    · simp only [q_rh_rh]; exact h
  · refine Or.inl ⟨?_, ?_, h⟩
    · show q_rh e.1 = 3; rw [h1]; rfl
    · show q_rh e.2.1 = 17; rw [h2]; rfl
theorem q_CallE {Q : (Nat → Nat → Int32) → (Nat → Nat → Int64) → Prop} {f g : List Value → QM → Option QR} {as : List Value} (hf : q_Eqv f) (hg : q_Eqv g) (hC : q_Call Q f g as) (has : as.map q_rv = as) (I : Nat → Nat → Int32) (J : Nat → Nat → Int64) (e : QP) (hQ : q_QE Q I J e) :
    ∃ (r : Int32) (e1 : QP) (I1 : Nat → Nat → Int32) (J1 : Nat → Nat → Int64) (I2 : Nat → Nat → Int32) (J2 : Nat → Nat → Int64), f (.ref 1 :: as) (qm I J e) = some (some (.int r), qm I1 J1 e1) ∧ g (.ref 64 :: as) (qm I1 J1 e1) = some (some (.int r), qm I2 J2 e1) ∧ q_QE Q I2 J2 e1 ∧ e1.2.2.2.2 = e.2.2.2.2 ∧ I1 1004 = I 1004 ∧ I2 1004 = I 1004 := by
  obtain ⟨x, y, rb, tx, L⟩ := e
  rcases hQ with ⟨h1, h2, h⟩ | ⟨h1, h2, h⟩
  · have h1' : x = 3 := h1
    have h2' : y = 17 := h2
    subst h1'
    subst h2'
    exact hC I J rb tx L h
  · have h1' : x = 17 := h1
    have h2' : y = 3 := h2
    subst h1'
    subst h2'
    obtain ⟨r, e1, I1, J1, I2, J2, c1, c2, c3, c4, c5, c6⟩ := hC _ _ (q_rh rb) (q_rh tx) L h
    have k1 := hf (.ref 1 :: as) (qm I J (17, 3, rb, tx, L))
    rw [q_rn_qm, List.map_cons, has] at k1
    replace k1 : f (.ref 1 :: as) (qm (fun p => I (q_rh p)) (fun p => J (q_rh p)) (3, 17, q_rh rb, q_rh tx, L)) = _ := k1
    rw [c1] at k1
    have k2 := q_map_inv k1
    rw [q_rn_qm] at k2
    have k3 := hg (.ref 64 :: as) (qm I1 J1 e1)
    rw [q_rn_qm, List.map_cons, has, c2] at k3
    replace k3 : g (.ref 64 :: as) (qm (fun p => I1 (q_rh p)) (fun p => J1 (q_rh p)) (q_re e1)) = some (some (.int r), q_rn (qm I2 J2 e1)) := k3
    rw [q_rn_qm] at k3
    exact ⟨r, q_re e1, _, _, _, _, k2, k3, q_QE_re c3, c4, c5, c6⟩

/-- every call: class and reference answer alike, and go on alike -/
def q_All (Q : (Nat → Nat → Int32) → (Nat → Nat → Int64) → Prop) : Prop :=
  (∀ a0 a1 a2 a3 a4 : Int32, q_Call Q mX11_feed mX12_feed [.int a0, .int a1, .int a2, .int a3, .int a4]) ∧
  (∀ a0 : Int32, q_Call Q mX11_end mX12_end [.int a0]) ∧
  (q_Call Q mX11_board mX12_board []) ∧
  (∀ a0 : Int32, q_Call Q mX11_fault mX12_fault [.int a0]) ∧
  (∀ a0 a1 : Int32, q_Call Q mX11_device mX12_device [.int a0, .int a1]) ∧
  (∀ a0 a1 : Int32, q_Call Q mX11_net mX12_net [.int a0, .int a1]) ∧
  (∀ a0 a1 a2 : Int32, q_Call Q mX11_cell mX12_cell [.int a0, .int a1, .int a2]) ∧
  (∀ a0 a1 : Int32, q_Call Q mX11_clock mX12_clock [.int a0, .int a1]) ∧
  (∀ a0 a1 a2 : Int32, q_Call Q mX11_scan mX12_scan [.int a0, .int a1, .int a2]) ∧
  (∀ a0 : Int32, q_Call Q mX11_harm mX12_harm [.int a0]) ∧
  (q_Call Q mX11_undo mX12_undo []) ∧
  (q_Call Q mX11_redo mX12_redo []) ∧
  (∀ a0 a1 : Int32, q_Call Q mX11_goes mX12_goes [.int a0, .int a1]) ∧
  (∀ a0 a1 : Int32, q_Call Q mX11_walk mX12_walk [.int a0, .int a1]) ∧
  (∀ a0 a1 : Int32, q_Call Q mX11_walks mX12_walks [.int a0, .int a1]) ∧
  (∀ a0 : Int32, q_Call Q mX11_farthest mX12_farthest [.int a0]) ∧
  (∀ a0 : Int32, q_Call Q mX11_length mX12_length [.int a0]) ∧
  (∀ a0 : Int32, q_Call Q mX11_found mX12_found [.int a0]) ∧
  (q_Call Q mX11_fights mX12_fights []) ∧
  (q_Call Q mX11_unsafe mX12_unsafe []) ∧
  (∀ a0 : Int32, q_Call Q mX11_steps mX12_steps [.int a0]) ∧
  (∀ a0 a1 : Int32, q_Call Q mX11_tells mX12_tells [.int a0, .int a1]) ∧
  (∀ a0 a1 a2 : Int32, q_Call Q mX11_answer mX12_answer [.int a0, .int a1, .int a2]) ∧
  (∀ a0 : Int32, q_Call Q mX11_good mX12_good [.int a0]) ∧
  (∀ a0 : Int32, q_Call Q mX11_aliased mX12_aliased [.int a0]) ∧
  (∀ a0 a1 : Int32, q_Call Q mX11_confounded mX12_confounded [.int a0, .int a1]) ∧
  (∀ a0 a1 : Int32, q_Call Q mX11_verdict mX12_verdict [.int a0, .int a1]) ∧
  (q_Call Q mX11_singles mX12_singles []) ∧
  (∀ a0 a1 : Int32, q_Call Q mX11_single mX12_single [.int a0, .int a1]) ∧
  (∀ a0 a1 a2 : Int32, q_Call Q mX11_apart mX12_apart [.int a0, .int a1, .int a2]) ∧
  (∀ a0 a1 : Int32, q_Call Q mX11_told mX12_told [.int a0, .int a1]) ∧
  (q_Call Q mX11_least mX12_least []) ∧
  (∀ a0 : Int32, q_Call Q mX11_mendFirst mX12_mendFirst [.int a0]) ∧
  (∀ a0 : Int32, q_Call Q mX11_safest mX12_safest [.int a0]) ∧
  (∀ a0 : Int32, q_Call Q mX11_cost mX12_cost [.int a0]) ∧
  (q_Call Q mX11_worst mX12_worst []) ∧
  (∀ a0 : Int32, q_Call Q mX11_law mX12_law [.int a0]) ∧
  (∀ a0 a1 : Int32, q_Call Q mX11_odds mX12_odds [.int a0, .int a1]) ∧
  (∀ a0 : Int32, q_Call Q mX11_lies mX12_lies [.int a0]) ∧
  (∀ (a0 a1 a2 a3 : Int32) (b : Bool), q_Call Q mX11_seen mX12_seen [.int a0, .int a1, .int a2, .int a3, .int (qb b)]) ∧
  (∀ a0 : Int32, q_Call Q mX11_untell mX12_untell [.int a0]) ∧
  (∀ a0 : Int32, q_Call Q mX11_later mX12_later [.int a0]) ∧
  (∀ a0 : Int32, q_Call Q mX11_fits mX12_fits [.int a0]) ∧
  (∀ a0 a1 : Int32, q_Call Q mX11_culprit mX12_culprit [.int a0, .int a1]) ∧
  (∀ a0 a1 a2 : Int32, q_Call Q mX11_ask mX12_ask [.int a0, .int a1, .int a2]) ∧
  (∀ a0 : Int32, q_Call Q mX11_image mX12_image [.int a0]) ∧
  (∀ a0 : Int32, q_Call Q mX11_back mX12_back [.int a0]) ∧
  (∀ a0 : Int32, q_Call Q mX11_about mX12_about [.int a0])
theorem q_out {L a : Nat} (h : L < a + 6) (hL : L ≤ 3072) (ha : a ≤ 3100) : Int32.ofNat L - 6 < nI a := by
  show nI L - nI 6 < nI a
  by_cases h6 : 6 ≤ L
  · rw [pk_sub h6]; exact nI_lt (by omega) (by omega)
  · exact fa_trans (pk_sneg (by omega) (by omega)) (nI_pos' (by omega))
theorem q_not_out {L a : Nat} (h : a + 6 ≤ L) (hL : L ≤ 3072) : ¬ Int32.ofNat L - 6 < nI a := by
  show ¬ nI L - nI 6 < nI a
  rw [pk_sub (by omega)]
  exact nI_nlt (by omega) (by omega)
section TP
variable {Q : (Nat → Nat → Int32) → (Nat → Nat → Int64) → Prop} {I : Nat → Nat → Int32} {J : Nat → Nat → Int64} {e : QP} {a : Int32}
def q_Nx (Q : (Nat → Nat → Int32) → (Nat → Nat → Int64) → Prop) (I : Nat → Nat → Int32) (e : QP) (a : Int32) (x : Option QR) : Prop := ∃ (I2 : Nat → Nat → Int32) (J2 : Nat → Nat → Int64) (e1 : QP), q_QE Q I2 J2 e1 ∧ e1.2.2.2.2 = e.2.2.2.2 ∧ I2 1004 = I 1004 ∧ x = kL_law 18 [some (.ref 1004), some (.ref 1), some (.ref 64), some (.int (a + 6))] [] (qm I2 J2 e1) 113 13229
theorem q_Nx_if {c : Prop} [Decidable c] {x y : Option QR} (h1 : c → q_Nx Q I e a x) (h2 : ¬ c → q_Nx Q I e a y) : q_Nx Q I e a (if c then x else y) := by
  by_cases h : c
  · rw [if_pos h]; exact h1 h
  · rw [if_neg h]; exact h2 h
theorem t_feed (hC : ∀ a0 a1 a2 a3 a4 : Int32, q_Call Q mX11_feed mX12_feed [.int a0, .int a1, .int a2, .int a3, .int a4]) (hQ : q_QE Q I J e) (h1 : q_in (a + 1) e.2.2.2.2 = true) (h2 : q_in (a + 2) e.2.2.2.2 = true) (h3 : q_in (a + 3) e.2.2.2.2 = true) (h4 : q_in (a + 4) e.2.2.2.2 = true) (h5 : q_in (a + 5) e.2.2.2.2 = true) : q_Nx Q I e a (kL_law 240 [some (.ref 1004), some (.ref 1), some (.ref 64), some (.int a)] [] (qm I J e) 113 13229) := by
  obtain ⟨r, e1, I1, J1, I2, J2, c1, c2, c3, c4, c5, c6⟩ := q_CallE rX11_feed rX12_feed (hC (I 1004 ((a + 1).toNatClampNeg)) (I 1004 ((a + 2).toNatClampNeg)) (I 1004 ((a + 3).toNatClampNeg)) (I 1004 ((a + 4).toNatClampNeg)) (I 1004 ((a + 5).toNatClampNeg))) rfl I J e hQ
  refine ⟨I2, J2, e1, c3, c4, c6, ?_⟩
  simp only [eL_law_240, eL_law_254, eL_law_269, eL_law_283, eL_law_298, eL_law_301, eL_law_1590, h1, h2, h3, h4, h5, c1, c2, c4, c5, if_true, Option.bind_some, Option.toList_some, Option.toList_none, List.nil_append, List.cons_append, q_ck_tt, Bool.and_true, Bool.true_and]
theorem t_end (hC : ∀ a0 : Int32, q_Call Q mX11_end mX12_end [.int a0]) (hQ : q_QE Q I J e) (h1 : q_in (a + 1) e.2.2.2.2 = true) (h2 : q_in (a + 2) e.2.2.2.2 = true) (h3 : q_in (a + 3) e.2.2.2.2 = true) (h4 : q_in (a + 4) e.2.2.2.2 = true) (h5 : q_in (a + 5) e.2.2.2.2 = true) : q_Nx Q I e a (kL_law 303 [some (.ref 1004), some (.ref 1), some (.ref 64), some (.int a)] [] (qm I J e) 113 13229) := by
  obtain ⟨r, e1, I1, J1, I2, J2, c1, c2, c3, c4, c5, c6⟩ := q_CallE rX11_end rX12_end (hC (I 1004 ((a + 1).toNatClampNeg))) rfl I J e hQ
  refine ⟨I2, J2, e1, c3, c4, c6, ?_⟩
  simp only [eL_law_303, eL_law_312, eL_law_321, eL_law_324, eL_law_1590, h1, h2, h3, h4, h5, c1, c2, c4, c5, if_true, Option.bind_some, Option.toList_some, Option.toList_none, List.nil_append, List.cons_append, q_ck_tt, Bool.and_true, Bool.true_and]
theorem t_board (hC : q_Call Q mX11_board mX12_board []) (hQ : q_QE Q I J e) (h1 : q_in (a + 1) e.2.2.2.2 = true) (h2 : q_in (a + 2) e.2.2.2.2 = true) (h3 : q_in (a + 3) e.2.2.2.2 = true) (h4 : q_in (a + 4) e.2.2.2.2 = true) (h5 : q_in (a + 5) e.2.2.2.2 = true) : q_Nx Q I e a (kL_law 326 [some (.ref 1004), some (.ref 1), some (.ref 64), some (.int a)] [] (qm I J e) 113 13229) := by
  obtain ⟨r, e1, I1, J1, I2, J2, c1, c2, c3, c4, c5, c6⟩ := q_CallE rX11_board rX12_board hC rfl I J e hQ
  refine ⟨I2, J2, e1, c3, c4, c6, ?_⟩
  simp only [eL_law_326, eL_law_330, eL_law_334, eL_law_337, eL_law_1590, h1, h2, h3, h4, h5, c1, c2, c4, c5, if_true, Option.bind_some, Option.toList_some, Option.toList_none, List.nil_append, List.cons_append, q_ck_tt, Bool.and_true, Bool.true_and]
theorem t_fault (hC : ∀ a0 : Int32, q_Call Q mX11_fault mX12_fault [.int a0]) (hQ : q_QE Q I J e) (h1 : q_in (a + 1) e.2.2.2.2 = true) (h2 : q_in (a + 2) e.2.2.2.2 = true) (h3 : q_in (a + 3) e.2.2.2.2 = true) (h4 : q_in (a + 4) e.2.2.2.2 = true) (h5 : q_in (a + 5) e.2.2.2.2 = true) : q_Nx Q I e a (kL_law 339 [some (.ref 1004), some (.ref 1), some (.ref 64), some (.int a)] [] (qm I J e) 113 13229) := by
  obtain ⟨r, e1, I1, J1, I2, J2, c1, c2, c3, c4, c5, c6⟩ := q_CallE rX11_fault rX12_fault (hC (I 1004 ((a + 1).toNatClampNeg))) rfl I J e hQ
  refine ⟨I2, J2, e1, c3, c4, c6, ?_⟩
  simp only [eL_law_339, eL_law_348, eL_law_357, eL_law_360, eL_law_1590, h1, h2, h3, h4, h5, c1, c2, c4, c5, if_true, Option.bind_some, Option.toList_some, Option.toList_none, List.nil_append, List.cons_append, q_ck_tt, Bool.and_true, Bool.true_and]
theorem t_device (hC : ∀ a0 a1 : Int32, q_Call Q mX11_device mX12_device [.int a0, .int a1]) (hQ : q_QE Q I J e) (h1 : q_in (a + 1) e.2.2.2.2 = true) (h2 : q_in (a + 2) e.2.2.2.2 = true) (h3 : q_in (a + 3) e.2.2.2.2 = true) (h4 : q_in (a + 4) e.2.2.2.2 = true) (h5 : q_in (a + 5) e.2.2.2.2 = true) : q_Nx Q I e a (kL_law 362 [some (.ref 1004), some (.ref 1), some (.ref 64), some (.int a)] [] (qm I J e) 113 13229) := by
  obtain ⟨r, e1, I1, J1, I2, J2, c1, c2, c3, c4, c5, c6⟩ := q_CallE rX11_device rX12_device (hC (I 1004 ((a + 1).toNatClampNeg)) (I 1004 ((a + 2).toNatClampNeg))) rfl I J e hQ
  refine ⟨I2, J2, e1, c3, c4, c6, ?_⟩
  simp only [eL_law_362, eL_law_376, eL_law_390, eL_law_393, eL_law_1590, h1, h2, h3, h4, h5, c1, c2, c4, c5, if_true, Option.bind_some, Option.toList_some, Option.toList_none, List.nil_append, List.cons_append, q_ck_tt, Bool.and_true, Bool.true_and]
theorem t_net (hC : ∀ a0 a1 : Int32, q_Call Q mX11_net mX12_net [.int a0, .int a1]) (hQ : q_QE Q I J e) (h1 : q_in (a + 1) e.2.2.2.2 = true) (h2 : q_in (a + 2) e.2.2.2.2 = true) (h3 : q_in (a + 3) e.2.2.2.2 = true) (h4 : q_in (a + 4) e.2.2.2.2 = true) (h5 : q_in (a + 5) e.2.2.2.2 = true) : q_Nx Q I e a (kL_law 395 [some (.ref 1004), some (.ref 1), some (.ref 64), some (.int a)] [] (qm I J e) 113 13229) := by
  obtain ⟨r, e1, I1, J1, I2, J2, c1, c2, c3, c4, c5, c6⟩ := q_CallE rX11_net rX12_net (hC (I 1004 ((a + 1).toNatClampNeg)) (I 1004 ((a + 2).toNatClampNeg))) rfl I J e hQ
  refine ⟨I2, J2, e1, c3, c4, c6, ?_⟩
  simp only [eL_law_395, eL_law_409, eL_law_423, eL_law_426, eL_law_1590, h1, h2, h3, h4, h5, c1, c2, c4, c5, if_true, Option.bind_some, Option.toList_some, Option.toList_none, List.nil_append, List.cons_append, q_ck_tt, Bool.and_true, Bool.true_and]
theorem t_cell (hC : ∀ a0 a1 a2 : Int32, q_Call Q mX11_cell mX12_cell [.int a0, .int a1, .int a2]) (hQ : q_QE Q I J e) (h1 : q_in (a + 1) e.2.2.2.2 = true) (h2 : q_in (a + 2) e.2.2.2.2 = true) (h3 : q_in (a + 3) e.2.2.2.2 = true) (h4 : q_in (a + 4) e.2.2.2.2 = true) (h5 : q_in (a + 5) e.2.2.2.2 = true) : q_Nx Q I e a (kL_law 428 [some (.ref 1004), some (.ref 1), some (.ref 64), some (.int a)] [] (qm I J e) 113 13229) := by
  obtain ⟨r, e1, I1, J1, I2, J2, c1, c2, c3, c4, c5, c6⟩ := q_CallE rX11_cell rX12_cell (hC (I 1004 ((a + 1).toNatClampNeg)) (I 1004 ((a + 2).toNatClampNeg)) (I 1004 ((a + 3).toNatClampNeg))) rfl I J e hQ
  refine ⟨I2, J2, e1, c3, c4, c6, ?_⟩
  simp only [eL_law_428, eL_law_442, eL_law_447, eL_law_461, eL_law_466, eL_law_469, eL_law_1590, h1, h2, h3, h4, h5, c1, c2, c4, c5, if_true, Option.bind_some, Option.toList_some, Option.toList_none, List.nil_append, List.cons_append, q_ck_tt, Bool.and_true, Bool.true_and]
theorem t_clock (hC : ∀ a0 a1 : Int32, q_Call Q mX11_clock mX12_clock [.int a0, .int a1]) (hQ : q_QE Q I J e) (h1 : q_in (a + 1) e.2.2.2.2 = true) (h2 : q_in (a + 2) e.2.2.2.2 = true) (h3 : q_in (a + 3) e.2.2.2.2 = true) (h4 : q_in (a + 4) e.2.2.2.2 = true) (h5 : q_in (a + 5) e.2.2.2.2 = true) : q_Nx Q I e a (kL_law 471 [some (.ref 1004), some (.ref 1), some (.ref 64), some (.int a)] [] (qm I J e) 113 13229) := by
  obtain ⟨r, e1, I1, J1, I2, J2, c1, c2, c3, c4, c5, c6⟩ := q_CallE rX11_clock rX12_clock (hC (I 1004 ((a + 1).toNatClampNeg)) (I 1004 ((a + 2).toNatClampNeg))) rfl I J e hQ
  refine ⟨I2, J2, e1, c3, c4, c6, ?_⟩
  simp only [eL_law_471, eL_law_485, eL_law_499, eL_law_502, eL_law_1590, h1, h2, h3, h4, h5, c1, c2, c4, c5, if_true, Option.bind_some, Option.toList_some, Option.toList_none, List.nil_append, List.cons_append, q_ck_tt, Bool.and_true, Bool.true_and]
theorem t_scan (hC : ∀ a0 a1 a2 : Int32, q_Call Q mX11_scan mX12_scan [.int a0, .int a1, .int a2]) (hQ : q_QE Q I J e) (h1 : q_in (a + 1) e.2.2.2.2 = true) (h2 : q_in (a + 2) e.2.2.2.2 = true) (h3 : q_in (a + 3) e.2.2.2.2 = true) (h4 : q_in (a + 4) e.2.2.2.2 = true) (h5 : q_in (a + 5) e.2.2.2.2 = true) : q_Nx Q I e a (kL_law 504 [some (.ref 1004), some (.ref 1), some (.ref 64), some (.int a)] [] (qm I J e) 113 13229) := by
  obtain ⟨r, e1, I1, J1, I2, J2, c1, c2, c3, c4, c5, c6⟩ := q_CallE rX11_scan rX12_scan (hC (I 1004 ((a + 1).toNatClampNeg)) (I 1004 ((a + 2).toNatClampNeg)) (I 1004 ((a + 3).toNatClampNeg))) rfl I J e hQ
  refine ⟨I2, J2, e1, c3, c4, c6, ?_⟩
  simp only [eL_law_504, eL_law_518, eL_law_523, eL_law_537, eL_law_542, eL_law_545, eL_law_1590, h1, h2, h3, h4, h5, c1, c2, c4, c5, if_true, Option.bind_some, Option.toList_some, Option.toList_none, List.nil_append, List.cons_append, q_ck_tt, Bool.and_true, Bool.true_and]
theorem t_harm (hC : ∀ a0 : Int32, q_Call Q mX11_harm mX12_harm [.int a0]) (hQ : q_QE Q I J e) (h1 : q_in (a + 1) e.2.2.2.2 = true) (h2 : q_in (a + 2) e.2.2.2.2 = true) (h3 : q_in (a + 3) e.2.2.2.2 = true) (h4 : q_in (a + 4) e.2.2.2.2 = true) (h5 : q_in (a + 5) e.2.2.2.2 = true) : q_Nx Q I e a (kL_law 547 [some (.ref 1004), some (.ref 1), some (.ref 64), some (.int a)] [] (qm I J e) 113 13229) := by
  obtain ⟨r, e1, I1, J1, I2, J2, c1, c2, c3, c4, c5, c6⟩ := q_CallE rX11_harm rX12_harm (hC (I 1004 ((a + 1).toNatClampNeg))) rfl I J e hQ
  refine ⟨I2, J2, e1, c3, c4, c6, ?_⟩
  simp only [eL_law_547, eL_law_556, eL_law_565, eL_law_568, eL_law_1590, h1, h2, h3, h4, h5, c1, c2, c4, c5, if_true, Option.bind_some, Option.toList_some, Option.toList_none, List.nil_append, List.cons_append, q_ck_tt, Bool.and_true, Bool.true_and]
theorem t_undo (hC : q_Call Q mX11_undo mX12_undo []) (hQ : q_QE Q I J e) (h1 : q_in (a + 1) e.2.2.2.2 = true) (h2 : q_in (a + 2) e.2.2.2.2 = true) (h3 : q_in (a + 3) e.2.2.2.2 = true) (h4 : q_in (a + 4) e.2.2.2.2 = true) (h5 : q_in (a + 5) e.2.2.2.2 = true) : q_Nx Q I e a (kL_law 570 [some (.ref 1004), some (.ref 1), some (.ref 64), some (.int a)] [] (qm I J e) 113 13229) := by
  obtain ⟨r, e1, I1, J1, I2, J2, c1, c2, c3, c4, c5, c6⟩ := q_CallE rX11_undo rX12_undo hC rfl I J e hQ
  refine ⟨I2, J2, e1, c3, c4, c6, ?_⟩
  simp only [eL_law_570, eL_law_574, eL_law_578, eL_law_581, eL_law_1590, h1, h2, h3, h4, h5, c1, c2, c4, c5, if_true, Option.bind_some, Option.toList_some, Option.toList_none, List.nil_append, List.cons_append, q_ck_tt, Bool.and_true, Bool.true_and]
theorem t_redo (hC : q_Call Q mX11_redo mX12_redo []) (hQ : q_QE Q I J e) (h1 : q_in (a + 1) e.2.2.2.2 = true) (h2 : q_in (a + 2) e.2.2.2.2 = true) (h3 : q_in (a + 3) e.2.2.2.2 = true) (h4 : q_in (a + 4) e.2.2.2.2 = true) (h5 : q_in (a + 5) e.2.2.2.2 = true) : q_Nx Q I e a (kL_law 583 [some (.ref 1004), some (.ref 1), some (.ref 64), some (.int a)] [] (qm I J e) 113 13229) := by
  obtain ⟨r, e1, I1, J1, I2, J2, c1, c2, c3, c4, c5, c6⟩ := q_CallE rX11_redo rX12_redo hC rfl I J e hQ
  refine ⟨I2, J2, e1, c3, c4, c6, ?_⟩
  simp only [eL_law_583, eL_law_587, eL_law_591, eL_law_594, eL_law_1590, h1, h2, h3, h4, h5, c1, c2, c4, c5, if_true, Option.bind_some, Option.toList_some, Option.toList_none, List.nil_append, List.cons_append, q_ck_tt, Bool.and_true, Bool.true_and]
theorem t_goes (hC : ∀ a0 a1 : Int32, q_Call Q mX11_goes mX12_goes [.int a0, .int a1]) (hQ : q_QE Q I J e) (h1 : q_in (a + 1) e.2.2.2.2 = true) (h2 : q_in (a + 2) e.2.2.2.2 = true) (h3 : q_in (a + 3) e.2.2.2.2 = true) (h4 : q_in (a + 4) e.2.2.2.2 = true) (h5 : q_in (a + 5) e.2.2.2.2 = true) : q_Nx Q I e a (kL_law 596 [some (.ref 1004), some (.ref 1), some (.ref 64), some (.int a)] [] (qm I J e) 113 13229) := by
  obtain ⟨r, e1, I1, J1, I2, J2, c1, c2, c3, c4, c5, c6⟩ := q_CallE rX11_goes rX12_goes (hC (I 1004 ((a + 1).toNatClampNeg)) (I 1004 ((a + 2).toNatClampNeg))) rfl I J e hQ
  refine ⟨I2, J2, e1, c3, c4, c6, ?_⟩
  simp only [eL_law_596, eL_law_610, eL_law_624, eL_law_627, eL_law_1590, h1, h2, h3, h4, h5, c1, c2, c4, c5, if_true, Option.bind_some, Option.toList_some, Option.toList_none, List.nil_append, List.cons_append, q_ck_tt, Bool.and_true, Bool.true_and]
theorem t_walk (hC : ∀ a0 a1 : Int32, q_Call Q mX11_walk mX12_walk [.int a0, .int a1]) (hQ : q_QE Q I J e) (h1 : q_in (a + 1) e.2.2.2.2 = true) (h2 : q_in (a + 2) e.2.2.2.2 = true) (h3 : q_in (a + 3) e.2.2.2.2 = true) (h4 : q_in (a + 4) e.2.2.2.2 = true) (h5 : q_in (a + 5) e.2.2.2.2 = true) : q_Nx Q I e a (kL_law 629 [some (.ref 1004), some (.ref 1), some (.ref 64), some (.int a)] [] (qm I J e) 113 13229) := by
  obtain ⟨r, e1, I1, J1, I2, J2, c1, c2, c3, c4, c5, c6⟩ := q_CallE rX11_walk rX12_walk (hC (I 1004 ((a + 1).toNatClampNeg)) (I 1004 ((a + 2).toNatClampNeg))) rfl I J e hQ
  refine ⟨I2, J2, e1, c3, c4, c6, ?_⟩
  simp only [eL_law_629, eL_law_643, eL_law_657, eL_law_660, eL_law_1590, h1, h2, h3, h4, h5, c1, c2, c4, c5, if_true, Option.bind_some, Option.toList_some, Option.toList_none, List.nil_append, List.cons_append, q_ck_tt, Bool.and_true, Bool.true_and]
theorem t_walks (hC : ∀ a0 a1 : Int32, q_Call Q mX11_walks mX12_walks [.int a0, .int a1]) (hQ : q_QE Q I J e) (h1 : q_in (a + 1) e.2.2.2.2 = true) (h2 : q_in (a + 2) e.2.2.2.2 = true) (h3 : q_in (a + 3) e.2.2.2.2 = true) (h4 : q_in (a + 4) e.2.2.2.2 = true) (h5 : q_in (a + 5) e.2.2.2.2 = true) : q_Nx Q I e a (kL_law 662 [some (.ref 1004), some (.ref 1), some (.ref 64), some (.int a)] [] (qm I J e) 113 13229) := by
  obtain ⟨r, e1, I1, J1, I2, J2, c1, c2, c3, c4, c5, c6⟩ := q_CallE rX11_walks rX12_walks (hC (I 1004 ((a + 1).toNatClampNeg)) (I 1004 ((a + 2).toNatClampNeg))) rfl I J e hQ
  refine ⟨I2, J2, e1, c3, c4, c6, ?_⟩
  simp only [eL_law_662, eL_law_676, eL_law_690, eL_law_693, eL_law_1590, h1, h2, h3, h4, h5, c1, c2, c4, c5, if_true, Option.bind_some, Option.toList_some, Option.toList_none, List.nil_append, List.cons_append, q_ck_tt, Bool.and_true, Bool.true_and]
theorem t_farthest (hC : ∀ a0 : Int32, q_Call Q mX11_farthest mX12_farthest [.int a0]) (hQ : q_QE Q I J e) (h1 : q_in (a + 1) e.2.2.2.2 = true) (h2 : q_in (a + 2) e.2.2.2.2 = true) (h3 : q_in (a + 3) e.2.2.2.2 = true) (h4 : q_in (a + 4) e.2.2.2.2 = true) (h5 : q_in (a + 5) e.2.2.2.2 = true) : q_Nx Q I e a (kL_law 695 [some (.ref 1004), some (.ref 1), some (.ref 64), some (.int a)] [] (qm I J e) 113 13229) := by
  obtain ⟨r, e1, I1, J1, I2, J2, c1, c2, c3, c4, c5, c6⟩ := q_CallE rX11_farthest rX12_farthest (hC (I 1004 ((a + 1).toNatClampNeg))) rfl I J e hQ
  refine ⟨I2, J2, e1, c3, c4, c6, ?_⟩
  simp only [eL_law_695, eL_law_704, eL_law_713, eL_law_716, eL_law_1590, h1, h2, h3, h4, h5, c1, c2, c4, c5, if_true, Option.bind_some, Option.toList_some, Option.toList_none, List.nil_append, List.cons_append, q_ck_tt, Bool.and_true, Bool.true_and]
theorem t_length (hC : ∀ a0 : Int32, q_Call Q mX11_length mX12_length [.int a0]) (hQ : q_QE Q I J e) (h1 : q_in (a + 1) e.2.2.2.2 = true) (h2 : q_in (a + 2) e.2.2.2.2 = true) (h3 : q_in (a + 3) e.2.2.2.2 = true) (h4 : q_in (a + 4) e.2.2.2.2 = true) (h5 : q_in (a + 5) e.2.2.2.2 = true) : q_Nx Q I e a (kL_law 718 [some (.ref 1004), some (.ref 1), some (.ref 64), some (.int a)] [] (qm I J e) 113 13229) := by
  obtain ⟨r, e1, I1, J1, I2, J2, c1, c2, c3, c4, c5, c6⟩ := q_CallE rX11_length rX12_length (hC (I 1004 ((a + 1).toNatClampNeg))) rfl I J e hQ
  refine ⟨I2, J2, e1, c3, c4, c6, ?_⟩
  simp only [eL_law_718, eL_law_727, eL_law_736, eL_law_739, eL_law_1590, h1, h2, h3, h4, h5, c1, c2, c4, c5, if_true, Option.bind_some, Option.toList_some, Option.toList_none, List.nil_append, List.cons_append, q_ck_tt, Bool.and_true, Bool.true_and]
theorem t_found (hC : ∀ a0 : Int32, q_Call Q mX11_found mX12_found [.int a0]) (hQ : q_QE Q I J e) (h1 : q_in (a + 1) e.2.2.2.2 = true) (h2 : q_in (a + 2) e.2.2.2.2 = true) (h3 : q_in (a + 3) e.2.2.2.2 = true) (h4 : q_in (a + 4) e.2.2.2.2 = true) (h5 : q_in (a + 5) e.2.2.2.2 = true) : q_Nx Q I e a (kL_law 741 [some (.ref 1004), some (.ref 1), some (.ref 64), some (.int a)] [] (qm I J e) 113 13229) := by
  obtain ⟨r, e1, I1, J1, I2, J2, c1, c2, c3, c4, c5, c6⟩ := q_CallE rX11_found rX12_found (hC (I 1004 ((a + 1).toNatClampNeg))) rfl I J e hQ
  refine ⟨I2, J2, e1, c3, c4, c6, ?_⟩
  simp only [eL_law_741, eL_law_750, eL_law_759, eL_law_762, eL_law_1590, h1, h2, h3, h4, h5, c1, c2, c4, c5, if_true, Option.bind_some, Option.toList_some, Option.toList_none, List.nil_append, List.cons_append, q_ck_tt, Bool.and_true, Bool.true_and]
theorem t_fights (hC : q_Call Q mX11_fights mX12_fights []) (hQ : q_QE Q I J e) (h1 : q_in (a + 1) e.2.2.2.2 = true) (h2 : q_in (a + 2) e.2.2.2.2 = true) (h3 : q_in (a + 3) e.2.2.2.2 = true) (h4 : q_in (a + 4) e.2.2.2.2 = true) (h5 : q_in (a + 5) e.2.2.2.2 = true) : q_Nx Q I e a (kL_law 764 [some (.ref 1004), some (.ref 1), some (.ref 64), some (.int a)] [] (qm I J e) 113 13229) := by
  obtain ⟨r, e1, I1, J1, I2, J2, c1, c2, c3, c4, c5, c6⟩ := q_CallE rX11_fights rX12_fights hC rfl I J e hQ
  refine ⟨I2, J2, e1, c3, c4, c6, ?_⟩
  simp only [eL_law_764, eL_law_768, eL_law_772, eL_law_775, eL_law_1590, h1, h2, h3, h4, h5, c1, c2, c4, c5, if_true, Option.bind_some, Option.toList_some, Option.toList_none, List.nil_append, List.cons_append, q_ck_tt, Bool.and_true, Bool.true_and]
theorem t_unsafe (hC : q_Call Q mX11_unsafe mX12_unsafe []) (hQ : q_QE Q I J e) (h1 : q_in (a + 1) e.2.2.2.2 = true) (h2 : q_in (a + 2) e.2.2.2.2 = true) (h3 : q_in (a + 3) e.2.2.2.2 = true) (h4 : q_in (a + 4) e.2.2.2.2 = true) (h5 : q_in (a + 5) e.2.2.2.2 = true) : q_Nx Q I e a (kL_law 777 [some (.ref 1004), some (.ref 1), some (.ref 64), some (.int a)] [] (qm I J e) 113 13229) := by
  obtain ⟨r, e1, I1, J1, I2, J2, c1, c2, c3, c4, c5, c6⟩ := q_CallE rX11_unsafe rX12_unsafe hC rfl I J e hQ
  refine ⟨I2, J2, e1, c3, c4, c6, ?_⟩
  simp only [eL_law_777, eL_law_781, eL_law_785, eL_law_788, eL_law_1590, h1, h2, h3, h4, h5, c1, c2, c4, c5, if_true, Option.bind_some, Option.toList_some, Option.toList_none, List.nil_append, List.cons_append, q_ck_tt, Bool.and_true, Bool.true_and]
theorem t_steps (hC : ∀ a0 : Int32, q_Call Q mX11_steps mX12_steps [.int a0]) (hQ : q_QE Q I J e) (h1 : q_in (a + 1) e.2.2.2.2 = true) (h2 : q_in (a + 2) e.2.2.2.2 = true) (h3 : q_in (a + 3) e.2.2.2.2 = true) (h4 : q_in (a + 4) e.2.2.2.2 = true) (h5 : q_in (a + 5) e.2.2.2.2 = true) : q_Nx Q I e a (kL_law 790 [some (.ref 1004), some (.ref 1), some (.ref 64), some (.int a)] [] (qm I J e) 113 13229) := by
  obtain ⟨r, e1, I1, J1, I2, J2, c1, c2, c3, c4, c5, c6⟩ := q_CallE rX11_steps rX12_steps (hC (I 1004 ((a + 1).toNatClampNeg))) rfl I J e hQ
  refine ⟨I2, J2, e1, c3, c4, c6, ?_⟩
  simp only [eL_law_790, eL_law_799, eL_law_808, eL_law_811, eL_law_1590, h1, h2, h3, h4, h5, c1, c2, c4, c5, if_true, Option.bind_some, Option.toList_some, Option.toList_none, List.nil_append, List.cons_append, q_ck_tt, Bool.and_true, Bool.true_and]
theorem t_tells (hC : ∀ a0 a1 : Int32, q_Call Q mX11_tells mX12_tells [.int a0, .int a1]) (hQ : q_QE Q I J e) (h1 : q_in (a + 1) e.2.2.2.2 = true) (h2 : q_in (a + 2) e.2.2.2.2 = true) (h3 : q_in (a + 3) e.2.2.2.2 = true) (h4 : q_in (a + 4) e.2.2.2.2 = true) (h5 : q_in (a + 5) e.2.2.2.2 = true) : q_Nx Q I e a (kL_law 813 [some (.ref 1004), some (.ref 1), some (.ref 64), some (.int a)] [] (qm I J e) 113 13229) := by
  obtain ⟨r, e1, I1, J1, I2, J2, c1, c2, c3, c4, c5, c6⟩ := q_CallE rX11_tells rX12_tells (hC (I 1004 ((a + 1).toNatClampNeg)) (I 1004 ((a + 2).toNatClampNeg))) rfl I J e hQ
  refine ⟨I2, J2, e1, c3, c4, c6, ?_⟩
  simp only [eL_law_813, eL_law_827, eL_law_841, eL_law_844, eL_law_1590, h1, h2, h3, h4, h5, c1, c2, c4, c5, if_true, Option.bind_some, Option.toList_some, Option.toList_none, List.nil_append, List.cons_append, q_ck_tt, Bool.and_true, Bool.true_and]
theorem t_answer (hC : ∀ a0 a1 a2 : Int32, q_Call Q mX11_answer mX12_answer [.int a0, .int a1, .int a2]) (hQ : q_QE Q I J e) (h1 : q_in (a + 1) e.2.2.2.2 = true) (h2 : q_in (a + 2) e.2.2.2.2 = true) (h3 : q_in (a + 3) e.2.2.2.2 = true) (h4 : q_in (a + 4) e.2.2.2.2 = true) (h5 : q_in (a + 5) e.2.2.2.2 = true) : q_Nx Q I e a (kL_law 846 [some (.ref 1004), some (.ref 1), some (.ref 64), some (.int a)] [] (qm I J e) 113 13229) := by
  obtain ⟨r, e1, I1, J1, I2, J2, c1, c2, c3, c4, c5, c6⟩ := q_CallE rX11_answer rX12_answer (hC (I 1004 ((a + 1).toNatClampNeg)) (I 1004 ((a + 2).toNatClampNeg)) (I 1004 ((a + 3).toNatClampNeg))) rfl I J e hQ
  refine ⟨I2, J2, e1, c3, c4, c6, ?_⟩
  simp only [eL_law_846, eL_law_860, eL_law_865, eL_law_879, eL_law_884, eL_law_887, eL_law_1590, h1, h2, h3, h4, h5, c1, c2, c4, c5, if_true, Option.bind_some, Option.toList_some, Option.toList_none, List.nil_append, List.cons_append, q_ck_tt, Bool.and_true, Bool.true_and]
theorem t_good (hC : ∀ a0 : Int32, q_Call Q mX11_good mX12_good [.int a0]) (hQ : q_QE Q I J e) (h1 : q_in (a + 1) e.2.2.2.2 = true) (h2 : q_in (a + 2) e.2.2.2.2 = true) (h3 : q_in (a + 3) e.2.2.2.2 = true) (h4 : q_in (a + 4) e.2.2.2.2 = true) (h5 : q_in (a + 5) e.2.2.2.2 = true) : q_Nx Q I e a (kL_law 889 [some (.ref 1004), some (.ref 1), some (.ref 64), some (.int a)] [] (qm I J e) 113 13229) := by
  obtain ⟨r, e1, I1, J1, I2, J2, c1, c2, c3, c4, c5, c6⟩ := q_CallE rX11_good rX12_good (hC (I 1004 ((a + 1).toNatClampNeg))) rfl I J e hQ
  refine ⟨I2, J2, e1, c3, c4, c6, ?_⟩
  simp only [eL_law_889, eL_law_898, eL_law_907, eL_law_910, eL_law_1590, h1, h2, h3, h4, h5, c1, c2, c4, c5, if_true, Option.bind_some, Option.toList_some, Option.toList_none, List.nil_append, List.cons_append, q_ck_tt, Bool.and_true, Bool.true_and]
theorem t_aliased (hC : ∀ a0 : Int32, q_Call Q mX11_aliased mX12_aliased [.int a0]) (hQ : q_QE Q I J e) (h1 : q_in (a + 1) e.2.2.2.2 = true) (h2 : q_in (a + 2) e.2.2.2.2 = true) (h3 : q_in (a + 3) e.2.2.2.2 = true) (h4 : q_in (a + 4) e.2.2.2.2 = true) (h5 : q_in (a + 5) e.2.2.2.2 = true) : q_Nx Q I e a (kL_law 912 [some (.ref 1004), some (.ref 1), some (.ref 64), some (.int a)] [] (qm I J e) 113 13229) := by
  obtain ⟨r, e1, I1, J1, I2, J2, c1, c2, c3, c4, c5, c6⟩ := q_CallE rX11_aliased rX12_aliased (hC (I 1004 ((a + 1).toNatClampNeg))) rfl I J e hQ
  refine ⟨I2, J2, e1, c3, c4, c6, ?_⟩
  simp only [eL_law_912, eL_law_921, eL_law_930, eL_law_933, eL_law_1590, h1, h2, h3, h4, h5, c1, c2, c4, c5, if_true, Option.bind_some, Option.toList_some, Option.toList_none, List.nil_append, List.cons_append, q_ck_tt, Bool.and_true, Bool.true_and]
theorem t_confounded (hC : ∀ a0 a1 : Int32, q_Call Q mX11_confounded mX12_confounded [.int a0, .int a1]) (hQ : q_QE Q I J e) (h1 : q_in (a + 1) e.2.2.2.2 = true) (h2 : q_in (a + 2) e.2.2.2.2 = true) (h3 : q_in (a + 3) e.2.2.2.2 = true) (h4 : q_in (a + 4) e.2.2.2.2 = true) (h5 : q_in (a + 5) e.2.2.2.2 = true) : q_Nx Q I e a (kL_law 935 [some (.ref 1004), some (.ref 1), some (.ref 64), some (.int a)] [] (qm I J e) 113 13229) := by
  obtain ⟨r, e1, I1, J1, I2, J2, c1, c2, c3, c4, c5, c6⟩ := q_CallE rX11_confounded rX12_confounded (hC (I 1004 ((a + 1).toNatClampNeg)) (I 1004 ((a + 2).toNatClampNeg))) rfl I J e hQ
  refine ⟨I2, J2, e1, c3, c4, c6, ?_⟩
  simp only [eL_law_935, eL_law_949, eL_law_963, eL_law_966, eL_law_1590, h1, h2, h3, h4, h5, c1, c2, c4, c5, if_true, Option.bind_some, Option.toList_some, Option.toList_none, List.nil_append, List.cons_append, q_ck_tt, Bool.and_true, Bool.true_and]
theorem t_verdict (hC : ∀ a0 a1 : Int32, q_Call Q mX11_verdict mX12_verdict [.int a0, .int a1]) (hQ : q_QE Q I J e) (h1 : q_in (a + 1) e.2.2.2.2 = true) (h2 : q_in (a + 2) e.2.2.2.2 = true) (h3 : q_in (a + 3) e.2.2.2.2 = true) (h4 : q_in (a + 4) e.2.2.2.2 = true) (h5 : q_in (a + 5) e.2.2.2.2 = true) : q_Nx Q I e a (kL_law 968 [some (.ref 1004), some (.ref 1), some (.ref 64), some (.int a)] [] (qm I J e) 113 13229) := by
  obtain ⟨r, e1, I1, J1, I2, J2, c1, c2, c3, c4, c5, c6⟩ := q_CallE rX11_verdict rX12_verdict (hC (I 1004 ((a + 1).toNatClampNeg)) (I 1004 ((a + 2).toNatClampNeg))) rfl I J e hQ
  refine ⟨I2, J2, e1, c3, c4, c6, ?_⟩
  simp only [eL_law_968, eL_law_982, eL_law_996, eL_law_999, eL_law_1590, h1, h2, h3, h4, h5, c1, c2, c4, c5, if_true, Option.bind_some, Option.toList_some, Option.toList_none, List.nil_append, List.cons_append, q_ck_tt, Bool.and_true, Bool.true_and]
theorem t_singles (hC : q_Call Q mX11_singles mX12_singles []) (hQ : q_QE Q I J e) (h1 : q_in (a + 1) e.2.2.2.2 = true) (h2 : q_in (a + 2) e.2.2.2.2 = true) (h3 : q_in (a + 3) e.2.2.2.2 = true) (h4 : q_in (a + 4) e.2.2.2.2 = true) (h5 : q_in (a + 5) e.2.2.2.2 = true) : q_Nx Q I e a (kL_law 1001 [some (.ref 1004), some (.ref 1), some (.ref 64), some (.int a)] [] (qm I J e) 113 13229) := by
  obtain ⟨r, e1, I1, J1, I2, J2, c1, c2, c3, c4, c5, c6⟩ := q_CallE rX11_singles rX12_singles hC rfl I J e hQ
  refine ⟨I2, J2, e1, c3, c4, c6, ?_⟩
  simp only [eL_law_1001, eL_law_1005, eL_law_1009, eL_law_1012, eL_law_1590, h1, h2, h3, h4, h5, c1, c2, c4, c5, if_true, Option.bind_some, Option.toList_some, Option.toList_none, List.nil_append, List.cons_append, q_ck_tt, Bool.and_true, Bool.true_and]
theorem t_single (hC : ∀ a0 a1 : Int32, q_Call Q mX11_single mX12_single [.int a0, .int a1]) (hQ : q_QE Q I J e) (h1 : q_in (a + 1) e.2.2.2.2 = true) (h2 : q_in (a + 2) e.2.2.2.2 = true) (h3 : q_in (a + 3) e.2.2.2.2 = true) (h4 : q_in (a + 4) e.2.2.2.2 = true) (h5 : q_in (a + 5) e.2.2.2.2 = true) : q_Nx Q I e a (kL_law 1014 [some (.ref 1004), some (.ref 1), some (.ref 64), some (.int a)] [] (qm I J e) 113 13229) := by
  obtain ⟨r, e1, I1, J1, I2, J2, c1, c2, c3, c4, c5, c6⟩ := q_CallE rX11_single rX12_single (hC (I 1004 ((a + 1).toNatClampNeg)) (I 1004 ((a + 2).toNatClampNeg))) rfl I J e hQ
  refine ⟨I2, J2, e1, c3, c4, c6, ?_⟩
  simp only [eL_law_1014, eL_law_1028, eL_law_1042, eL_law_1045, eL_law_1590, h1, h2, h3, h4, h5, c1, c2, c4, c5, if_true, Option.bind_some, Option.toList_some, Option.toList_none, List.nil_append, List.cons_append, q_ck_tt, Bool.and_true, Bool.true_and]
theorem t_apart (hC : ∀ a0 a1 a2 : Int32, q_Call Q mX11_apart mX12_apart [.int a0, .int a1, .int a2]) (hQ : q_QE Q I J e) (h1 : q_in (a + 1) e.2.2.2.2 = true) (h2 : q_in (a + 2) e.2.2.2.2 = true) (h3 : q_in (a + 3) e.2.2.2.2 = true) (h4 : q_in (a + 4) e.2.2.2.2 = true) (h5 : q_in (a + 5) e.2.2.2.2 = true) : q_Nx Q I e a (kL_law 1047 [some (.ref 1004), some (.ref 1), some (.ref 64), some (.int a)] [] (qm I J e) 113 13229) := by
  obtain ⟨r, e1, I1, J1, I2, J2, c1, c2, c3, c4, c5, c6⟩ := q_CallE rX11_apart rX12_apart (hC (I 1004 ((a + 1).toNatClampNeg)) (I 1004 ((a + 2).toNatClampNeg)) (I 1004 ((a + 3).toNatClampNeg))) rfl I J e hQ
  refine ⟨I2, J2, e1, c3, c4, c6, ?_⟩
  simp only [eL_law_1047, eL_law_1061, eL_law_1066, eL_law_1080, eL_law_1085, eL_law_1088, eL_law_1590, h1, h2, h3, h4, h5, c1, c2, c4, c5, if_true, Option.bind_some, Option.toList_some, Option.toList_none, List.nil_append, List.cons_append, q_ck_tt, Bool.and_true, Bool.true_and]
theorem t_told (hC : ∀ a0 a1 : Int32, q_Call Q mX11_told mX12_told [.int a0, .int a1]) (hQ : q_QE Q I J e) (h1 : q_in (a + 1) e.2.2.2.2 = true) (h2 : q_in (a + 2) e.2.2.2.2 = true) (h3 : q_in (a + 3) e.2.2.2.2 = true) (h4 : q_in (a + 4) e.2.2.2.2 = true) (h5 : q_in (a + 5) e.2.2.2.2 = true) : q_Nx Q I e a (kL_law 1090 [some (.ref 1004), some (.ref 1), some (.ref 64), some (.int a)] [] (qm I J e) 113 13229) := by
  obtain ⟨r, e1, I1, J1, I2, J2, c1, c2, c3, c4, c5, c6⟩ := q_CallE rX11_told rX12_told (hC (I 1004 ((a + 1).toNatClampNeg)) (I 1004 ((a + 2).toNatClampNeg))) rfl I J e hQ
  refine ⟨I2, J2, e1, c3, c4, c6, ?_⟩
  simp only [eL_law_1090, eL_law_1104, eL_law_1118, eL_law_1121, eL_law_1590, h1, h2, h3, h4, h5, c1, c2, c4, c5, if_true, Option.bind_some, Option.toList_some, Option.toList_none, List.nil_append, List.cons_append, q_ck_tt, Bool.and_true, Bool.true_and]
theorem t_least (hC : q_Call Q mX11_least mX12_least []) (hQ : q_QE Q I J e) (h1 : q_in (a + 1) e.2.2.2.2 = true) (h2 : q_in (a + 2) e.2.2.2.2 = true) (h3 : q_in (a + 3) e.2.2.2.2 = true) (h4 : q_in (a + 4) e.2.2.2.2 = true) (h5 : q_in (a + 5) e.2.2.2.2 = true) : q_Nx Q I e a (kL_law 1123 [some (.ref 1004), some (.ref 1), some (.ref 64), some (.int a)] [] (qm I J e) 113 13229) := by
  obtain ⟨r, e1, I1, J1, I2, J2, c1, c2, c3, c4, c5, c6⟩ := q_CallE rX11_least rX12_least hC rfl I J e hQ
  refine ⟨I2, J2, e1, c3, c4, c6, ?_⟩
  simp only [eL_law_1123, eL_law_1127, eL_law_1131, eL_law_1134, eL_law_1590, h1, h2, h3, h4, h5, c1, c2, c4, c5, if_true, Option.bind_some, Option.toList_some, Option.toList_none, List.nil_append, List.cons_append, q_ck_tt, Bool.and_true, Bool.true_and]
theorem t_mendFirst (hC : ∀ a0 : Int32, q_Call Q mX11_mendFirst mX12_mendFirst [.int a0]) (hQ : q_QE Q I J e) (h1 : q_in (a + 1) e.2.2.2.2 = true) (h2 : q_in (a + 2) e.2.2.2.2 = true) (h3 : q_in (a + 3) e.2.2.2.2 = true) (h4 : q_in (a + 4) e.2.2.2.2 = true) (h5 : q_in (a + 5) e.2.2.2.2 = true) : q_Nx Q I e a (kL_law 1136 [some (.ref 1004), some (.ref 1), some (.ref 64), some (.int a)] [] (qm I J e) 113 13229) := by
  obtain ⟨r, e1, I1, J1, I2, J2, c1, c2, c3, c4, c5, c6⟩ := q_CallE rX11_mendFirst rX12_mendFirst (hC (I 1004 ((a + 1).toNatClampNeg))) rfl I J e hQ
  refine ⟨I2, J2, e1, c3, c4, c6, ?_⟩
  simp only [eL_law_1136, eL_law_1145, eL_law_1154, eL_law_1157, eL_law_1590, h1, h2, h3, h4, h5, c1, c2, c4, c5, if_true, Option.bind_some, Option.toList_some, Option.toList_none, List.nil_append, List.cons_append, q_ck_tt, Bool.and_true, Bool.true_and]
theorem t_safest (hC : ∀ a0 : Int32, q_Call Q mX11_safest mX12_safest [.int a0]) (hQ : q_QE Q I J e) (h1 : q_in (a + 1) e.2.2.2.2 = true) (h2 : q_in (a + 2) e.2.2.2.2 = true) (h3 : q_in (a + 3) e.2.2.2.2 = true) (h4 : q_in (a + 4) e.2.2.2.2 = true) (h5 : q_in (a + 5) e.2.2.2.2 = true) : q_Nx Q I e a (kL_law 1159 [some (.ref 1004), some (.ref 1), some (.ref 64), some (.int a)] [] (qm I J e) 113 13229) := by
  obtain ⟨r, e1, I1, J1, I2, J2, c1, c2, c3, c4, c5, c6⟩ := q_CallE rX11_safest rX12_safest (hC (I 1004 ((a + 1).toNatClampNeg))) rfl I J e hQ
  refine ⟨I2, J2, e1, c3, c4, c6, ?_⟩
  simp only [eL_law_1159, eL_law_1168, eL_law_1177, eL_law_1180, eL_law_1590, h1, h2, h3, h4, h5, c1, c2, c4, c5, if_true, Option.bind_some, Option.toList_some, Option.toList_none, List.nil_append, List.cons_append, q_ck_tt, Bool.and_true, Bool.true_and]
theorem t_cost (hC : ∀ a0 : Int32, q_Call Q mX11_cost mX12_cost [.int a0]) (hQ : q_QE Q I J e) (h1 : q_in (a + 1) e.2.2.2.2 = true) (h2 : q_in (a + 2) e.2.2.2.2 = true) (h3 : q_in (a + 3) e.2.2.2.2 = true) (h4 : q_in (a + 4) e.2.2.2.2 = true) (h5 : q_in (a + 5) e.2.2.2.2 = true) : q_Nx Q I e a (kL_law 1182 [some (.ref 1004), some (.ref 1), some (.ref 64), some (.int a)] [] (qm I J e) 113 13229) := by
  obtain ⟨r, e1, I1, J1, I2, J2, c1, c2, c3, c4, c5, c6⟩ := q_CallE rX11_cost rX12_cost (hC (I 1004 ((a + 1).toNatClampNeg))) rfl I J e hQ
  refine ⟨I2, J2, e1, c3, c4, c6, ?_⟩
  simp only [eL_law_1182, eL_law_1191, eL_law_1200, eL_law_1203, eL_law_1590, h1, h2, h3, h4, h5, c1, c2, c4, c5, if_true, Option.bind_some, Option.toList_some, Option.toList_none, List.nil_append, List.cons_append, q_ck_tt, Bool.and_true, Bool.true_and]
theorem t_worst (hC : q_Call Q mX11_worst mX12_worst []) (hQ : q_QE Q I J e) (h1 : q_in (a + 1) e.2.2.2.2 = true) (h2 : q_in (a + 2) e.2.2.2.2 = true) (h3 : q_in (a + 3) e.2.2.2.2 = true) (h4 : q_in (a + 4) e.2.2.2.2 = true) (h5 : q_in (a + 5) e.2.2.2.2 = true) : q_Nx Q I e a (kL_law 1205 [some (.ref 1004), some (.ref 1), some (.ref 64), some (.int a)] [] (qm I J e) 113 13229) := by
  obtain ⟨r, e1, I1, J1, I2, J2, c1, c2, c3, c4, c5, c6⟩ := q_CallE rX11_worst rX12_worst hC rfl I J e hQ
  refine ⟨I2, J2, e1, c3, c4, c6, ?_⟩
  simp only [eL_law_1205, eL_law_1209, eL_law_1213, eL_law_1216, eL_law_1590, h1, h2, h3, h4, h5, c1, c2, c4, c5, if_true, Option.bind_some, Option.toList_some, Option.toList_none, List.nil_append, List.cons_append, q_ck_tt, Bool.and_true, Bool.true_and]
theorem t_law (hC : ∀ a0 : Int32, q_Call Q mX11_law mX12_law [.int a0]) (hQ : q_QE Q I J e) (h1 : q_in (a + 1) e.2.2.2.2 = true) (h2 : q_in (a + 2) e.2.2.2.2 = true) (h3 : q_in (a + 3) e.2.2.2.2 = true) (h4 : q_in (a + 4) e.2.2.2.2 = true) (h5 : q_in (a + 5) e.2.2.2.2 = true) : q_Nx Q I e a (kL_law 1218 [some (.ref 1004), some (.ref 1), some (.ref 64), some (.int a)] [] (qm I J e) 113 13229) := by
  obtain ⟨r, e1, I1, J1, I2, J2, c1, c2, c3, c4, c5, c6⟩ := q_CallE rX11_law rX12_law (hC (I 1004 ((a + 1).toNatClampNeg))) rfl I J e hQ
  refine ⟨I2, J2, e1, c3, c4, c6, ?_⟩
  simp only [eL_law_1218, eL_law_1227, eL_law_1236, eL_law_1239, eL_law_1590, h1, h2, h3, h4, h5, c1, c2, c4, c5, if_true, Option.bind_some, Option.toList_some, Option.toList_none, List.nil_append, List.cons_append, q_ck_tt, Bool.and_true, Bool.true_and]
theorem t_odds (hC : ∀ a0 a1 : Int32, q_Call Q mX11_odds mX12_odds [.int a0, .int a1]) (hQ : q_QE Q I J e) (h1 : q_in (a + 1) e.2.2.2.2 = true) (h2 : q_in (a + 2) e.2.2.2.2 = true) (h3 : q_in (a + 3) e.2.2.2.2 = true) (h4 : q_in (a + 4) e.2.2.2.2 = true) (h5 : q_in (a + 5) e.2.2.2.2 = true) : q_Nx Q I e a (kL_law 1241 [some (.ref 1004), some (.ref 1), some (.ref 64), some (.int a)] [] (qm I J e) 113 13229) := by
  obtain ⟨r, e1, I1, J1, I2, J2, c1, c2, c3, c4, c5, c6⟩ := q_CallE rX11_odds rX12_odds (hC (I 1004 ((a + 1).toNatClampNeg)) (I 1004 ((a + 2).toNatClampNeg))) rfl I J e hQ
  refine ⟨I2, J2, e1, c3, c4, c6, ?_⟩
  simp only [eL_law_1241, eL_law_1255, eL_law_1269, eL_law_1272, eL_law_1590, h1, h2, h3, h4, h5, c1, c2, c4, c5, if_true, Option.bind_some, Option.toList_some, Option.toList_none, List.nil_append, List.cons_append, q_ck_tt, Bool.and_true, Bool.true_and]
theorem t_lies (hC : ∀ a0 : Int32, q_Call Q mX11_lies mX12_lies [.int a0]) (hQ : q_QE Q I J e) (h1 : q_in (a + 1) e.2.2.2.2 = true) (h2 : q_in (a + 2) e.2.2.2.2 = true) (h3 : q_in (a + 3) e.2.2.2.2 = true) (h4 : q_in (a + 4) e.2.2.2.2 = true) (h5 : q_in (a + 5) e.2.2.2.2 = true) : q_Nx Q I e a (kL_law 1274 [some (.ref 1004), some (.ref 1), some (.ref 64), some (.int a)] [] (qm I J e) 113 13229) := by
  obtain ⟨r, e1, I1, J1, I2, J2, c1, c2, c3, c4, c5, c6⟩ := q_CallE rX11_lies rX12_lies (hC (I 1004 ((a + 1).toNatClampNeg))) rfl I J e hQ
  refine ⟨I2, J2, e1, c3, c4, c6, ?_⟩
  simp only [eL_law_1274, eL_law_1283, eL_law_1292, eL_law_1295, eL_law_1590, h1, h2, h3, h4, h5, c1, c2, c4, c5, if_true, Option.bind_some, Option.toList_some, Option.toList_none, List.nil_append, List.cons_append, q_ck_tt, Bool.and_true, Bool.true_and]
theorem t_seen (hC : ∀ (a0 a1 a2 a3 : Int32) (b : Bool), q_Call Q mX11_seen mX12_seen [.int a0, .int a1, .int a2, .int a3, .int (qb b)]) (hQ : q_QE Q I J e) (h1 : q_in (a + 1) e.2.2.2.2 = true) (h2 : q_in (a + 2) e.2.2.2.2 = true) (h3 : q_in (a + 3) e.2.2.2.2 = true) (h4 : q_in (a + 4) e.2.2.2.2 = true) (h5 : q_in (a + 5) e.2.2.2.2 = true) : q_Nx Q I e a (kL_law 1297 [some (.ref 1004), some (.ref 1), some (.ref 64), some (.int a)] [] (qm I J e) 113 13229) := by
  obtain ⟨r, e1, I1, J1, I2, J2, c1, c2, c3, c4, c5, c6⟩ := q_CallE rX11_seen rX12_seen (hC (I 1004 ((a + 1).toNatClampNeg)) (I 1004 ((a + 2).toNatClampNeg)) (I 1004 ((a + 3).toNatClampNeg)) (I 1004 ((a + 4).toNatClampNeg)) (!decide (I 1004 ((a + 5).toNatClampNeg) = 0))) rfl I J e hQ
  refine ⟨I2, J2, e1, c3, c4, c6, ?_⟩
  by_cases hz : I 1004 ((a + 5).toNatClampNeg) = 0
  · rw [decide_eq_true hz] at c1 c2
    replace c1 : mX11_seen [.ref 1, .int (I 1004 ((a + 1).toNatClampNeg)), .int (I 1004 ((a + 2).toNatClampNeg)), .int (I 1004 ((a + 3).toNatClampNeg)), .int (I 1004 ((a + 4).toNatClampNeg)), .int 0] (qm I J e) = _ := c1
    replace c2 : mX12_seen [.ref 64, .int (I 1004 ((a + 1).toNatClampNeg)), .int (I 1004 ((a + 2).toNatClampNeg)), .int (I 1004 ((a + 3).toNatClampNeg)), .int (I 1004 ((a + 4).toNatClampNeg)), .int 0] (qm I1 J1 e1) = _ := c2
    simp only [eL_law_1297, eL_law_1311, eL_law_1330, eL_law_1326, eL_law_1331, eL_law_1334, eL_law_1348, eL_law_1367, eL_law_1363, eL_law_1368, eL_law_1371, eL_law_1374, eL_law_1590, h1, h2, h3, h4, h5, c1, c2, c4, c5, hz, if_true, if_false, Option.bind_some, Option.toList_some, Option.toList_none, List.nil_append, List.cons_append, q_ck_tt, Bool.and_true, Bool.true_and]
  · rw [decide_eq_false hz] at c1 c2
    replace c1 : mX11_seen [.ref 1, .int (I 1004 ((a + 1).toNatClampNeg)), .int (I 1004 ((a + 2).toNatClampNeg)), .int (I 1004 ((a + 3).toNatClampNeg)), .int (I 1004 ((a + 4).toNatClampNeg)), .int 1] (qm I J e) = _ := c1
    replace c2 : mX12_seen [.ref 64, .int (I 1004 ((a + 1).toNatClampNeg)), .int (I 1004 ((a + 2).toNatClampNeg)), .int (I 1004 ((a + 3).toNatClampNeg)), .int (I 1004 ((a + 4).toNatClampNeg)), .int 1] (qm I1 J1 e1) = _ := c2
    simp only [eL_law_1297, eL_law_1311, eL_law_1330, eL_law_1326, eL_law_1331, eL_law_1334, eL_law_1348, eL_law_1367, eL_law_1363, eL_law_1368, eL_law_1371, eL_law_1374, eL_law_1590, h1, h2, h3, h4, h5, c1, c2, c4, c5, hz, if_true, if_false, Option.bind_some, Option.toList_some, Option.toList_none, List.nil_append, List.cons_append, q_ck_tt, Bool.and_true, Bool.true_and]
theorem t_untell (hC : ∀ a0 : Int32, q_Call Q mX11_untell mX12_untell [.int a0]) (hQ : q_QE Q I J e) (h1 : q_in (a + 1) e.2.2.2.2 = true) (h2 : q_in (a + 2) e.2.2.2.2 = true) (h3 : q_in (a + 3) e.2.2.2.2 = true) (h4 : q_in (a + 4) e.2.2.2.2 = true) (h5 : q_in (a + 5) e.2.2.2.2 = true) : q_Nx Q I e a (kL_law 1376 [some (.ref 1004), some (.ref 1), some (.ref 64), some (.int a)] [] (qm I J e) 113 13229) := by
  obtain ⟨r, e1, I1, J1, I2, J2, c1, c2, c3, c4, c5, c6⟩ := q_CallE rX11_untell rX12_untell (hC (I 1004 ((a + 1).toNatClampNeg))) rfl I J e hQ
  refine ⟨I2, J2, e1, c3, c4, c6, ?_⟩
  simp only [eL_law_1376, eL_law_1385, eL_law_1394, eL_law_1397, eL_law_1590, h1, h2, h3, h4, h5, c1, c2, c4, c5, if_true, Option.bind_some, Option.toList_some, Option.toList_none, List.nil_append, List.cons_append, q_ck_tt, Bool.and_true, Bool.true_and]
theorem t_later (hC : ∀ a0 : Int32, q_Call Q mX11_later mX12_later [.int a0]) (hQ : q_QE Q I J e) (h1 : q_in (a + 1) e.2.2.2.2 = true) (h2 : q_in (a + 2) e.2.2.2.2 = true) (h3 : q_in (a + 3) e.2.2.2.2 = true) (h4 : q_in (a + 4) e.2.2.2.2 = true) (h5 : q_in (a + 5) e.2.2.2.2 = true) : q_Nx Q I e a (kL_law 1399 [some (.ref 1004), some (.ref 1), some (.ref 64), some (.int a)] [] (qm I J e) 113 13229) := by
  obtain ⟨r, e1, I1, J1, I2, J2, c1, c2, c3, c4, c5, c6⟩ := q_CallE rX11_later rX12_later (hC (I 1004 ((a + 1).toNatClampNeg))) rfl I J e hQ
  refine ⟨I2, J2, e1, c3, c4, c6, ?_⟩
  simp only [eL_law_1399, eL_law_1408, eL_law_1417, eL_law_1420, eL_law_1590, h1, h2, h3, h4, h5, c1, c2, c4, c5, if_true, Option.bind_some, Option.toList_some, Option.toList_none, List.nil_append, List.cons_append, q_ck_tt, Bool.and_true, Bool.true_and]
theorem t_fits (hC : ∀ a0 : Int32, q_Call Q mX11_fits mX12_fits [.int a0]) (hQ : q_QE Q I J e) (h1 : q_in (a + 1) e.2.2.2.2 = true) (h2 : q_in (a + 2) e.2.2.2.2 = true) (h3 : q_in (a + 3) e.2.2.2.2 = true) (h4 : q_in (a + 4) e.2.2.2.2 = true) (h5 : q_in (a + 5) e.2.2.2.2 = true) : q_Nx Q I e a (kL_law 1422 [some (.ref 1004), some (.ref 1), some (.ref 64), some (.int a)] [] (qm I J e) 113 13229) := by
  obtain ⟨r, e1, I1, J1, I2, J2, c1, c2, c3, c4, c5, c6⟩ := q_CallE rX11_fits rX12_fits (hC (I 1004 ((a + 1).toNatClampNeg))) rfl I J e hQ
  refine ⟨I2, J2, e1, c3, c4, c6, ?_⟩
  simp only [eL_law_1422, eL_law_1431, eL_law_1440, eL_law_1443, eL_law_1590, h1, h2, h3, h4, h5, c1, c2, c4, c5, if_true, Option.bind_some, Option.toList_some, Option.toList_none, List.nil_append, List.cons_append, q_ck_tt, Bool.and_true, Bool.true_and]
theorem t_culprit (hC : ∀ a0 a1 : Int32, q_Call Q mX11_culprit mX12_culprit [.int a0, .int a1]) (hQ : q_QE Q I J e) (h1 : q_in (a + 1) e.2.2.2.2 = true) (h2 : q_in (a + 2) e.2.2.2.2 = true) (h3 : q_in (a + 3) e.2.2.2.2 = true) (h4 : q_in (a + 4) e.2.2.2.2 = true) (h5 : q_in (a + 5) e.2.2.2.2 = true) : q_Nx Q I e a (kL_law 1445 [some (.ref 1004), some (.ref 1), some (.ref 64), some (.int a)] [] (qm I J e) 113 13229) := by
  obtain ⟨r, e1, I1, J1, I2, J2, c1, c2, c3, c4, c5, c6⟩ := q_CallE rX11_culprit rX12_culprit (hC (I 1004 ((a + 1).toNatClampNeg)) (I 1004 ((a + 2).toNatClampNeg))) rfl I J e hQ
  refine ⟨I2, J2, e1, c3, c4, c6, ?_⟩
  simp only [eL_law_1445, eL_law_1459, eL_law_1473, eL_law_1476, eL_law_1590, h1, h2, h3, h4, h5, c1, c2, c4, c5, if_true, Option.bind_some, Option.toList_some, Option.toList_none, List.nil_append, List.cons_append, q_ck_tt, Bool.and_true, Bool.true_and]
theorem t_ask (hC : ∀ a0 a1 a2 : Int32, q_Call Q mX11_ask mX12_ask [.int a0, .int a1, .int a2]) (hQ : q_QE Q I J e) (h1 : q_in (a + 1) e.2.2.2.2 = true) (h2 : q_in (a + 2) e.2.2.2.2 = true) (h3 : q_in (a + 3) e.2.2.2.2 = true) (h4 : q_in (a + 4) e.2.2.2.2 = true) (h5 : q_in (a + 5) e.2.2.2.2 = true) : q_Nx Q I e a (kL_law 1478 [some (.ref 1004), some (.ref 1), some (.ref 64), some (.int a)] [] (qm I J e) 113 13229) := by
  obtain ⟨r, e1, I1, J1, I2, J2, c1, c2, c3, c4, c5, c6⟩ := q_CallE rX11_ask rX12_ask (hC (I 1004 ((a + 1).toNatClampNeg)) (I 1004 ((a + 2).toNatClampNeg)) (I 1004 ((a + 3).toNatClampNeg))) rfl I J e hQ
  refine ⟨I2, J2, e1, c3, c4, c6, ?_⟩
  simp only [eL_law_1478, eL_law_1492, eL_law_1497, eL_law_1511, eL_law_1516, eL_law_1519, eL_law_1590, h1, h2, h3, h4, h5, c1, c2, c4, c5, if_true, Option.bind_some, Option.toList_some, Option.toList_none, List.nil_append, List.cons_append, q_ck_tt, Bool.and_true, Bool.true_and]
theorem t_image (hC : ∀ a0 : Int32, q_Call Q mX11_image mX12_image [.int a0]) (hQ : q_QE Q I J e) (h1 : q_in (a + 1) e.2.2.2.2 = true) (h2 : q_in (a + 2) e.2.2.2.2 = true) (h3 : q_in (a + 3) e.2.2.2.2 = true) (h4 : q_in (a + 4) e.2.2.2.2 = true) (h5 : q_in (a + 5) e.2.2.2.2 = true) : q_Nx Q I e a (kL_law 1521 [some (.ref 1004), some (.ref 1), some (.ref 64), some (.int a)] [] (qm I J e) 113 13229) := by
  obtain ⟨r, e1, I1, J1, I2, J2, c1, c2, c3, c4, c5, c6⟩ := q_CallE rX11_image rX12_image (hC (I 1004 ((a + 1).toNatClampNeg))) rfl I J e hQ
  refine ⟨I2, J2, e1, c3, c4, c6, ?_⟩
  simp only [eL_law_1521, eL_law_1530, eL_law_1539, eL_law_1542, eL_law_1590, h1, h2, h3, h4, h5, c1, c2, c4, c5, if_true, Option.bind_some, Option.toList_some, Option.toList_none, List.nil_append, List.cons_append, q_ck_tt, Bool.and_true, Bool.true_and]
theorem t_back (hC : ∀ a0 : Int32, q_Call Q mX11_back mX12_back [.int a0]) (hQ : q_QE Q I J e) (h1 : q_in (a + 1) e.2.2.2.2 = true) (h2 : q_in (a + 2) e.2.2.2.2 = true) (h3 : q_in (a + 3) e.2.2.2.2 = true) (h4 : q_in (a + 4) e.2.2.2.2 = true) (h5 : q_in (a + 5) e.2.2.2.2 = true) : q_Nx Q I e a (kL_law 1544 [some (.ref 1004), some (.ref 1), some (.ref 64), some (.int a)] [] (qm I J e) 113 13229) := by
  obtain ⟨r, e1, I1, J1, I2, J2, c1, c2, c3, c4, c5, c6⟩ := q_CallE rX11_back rX12_back (hC (I 1004 ((a + 1).toNatClampNeg))) rfl I J e hQ
  refine ⟨I2, J2, e1, c3, c4, c6, ?_⟩
  simp only [eL_law_1544, eL_law_1553, eL_law_1562, eL_law_1565, eL_law_1590, h1, h2, h3, h4, h5, c1, c2, c4, c5, if_true, Option.bind_some, Option.toList_some, Option.toList_none, List.nil_append, List.cons_append, q_ck_tt, Bool.and_true, Bool.true_and]
theorem t_about (hC : ∀ a0 : Int32, q_Call Q mX11_about mX12_about [.int a0]) (hQ : q_QE Q I J e) (h1 : q_in (a + 1) e.2.2.2.2 = true) (h2 : q_in (a + 2) e.2.2.2.2 = true) (h3 : q_in (a + 3) e.2.2.2.2 = true) (h4 : q_in (a + 4) e.2.2.2.2 = true) (h5 : q_in (a + 5) e.2.2.2.2 = true) : q_Nx Q I e a (kL_law 1567 [some (.ref 1004), some (.ref 1), some (.ref 64), some (.int a)] [] (qm I J e) 113 13229) := by
  obtain ⟨r, e1, I1, J1, I2, J2, c1, c2, c3, c4, c5, c6⟩ := q_CallE rX11_about rX12_about (hC (I 1004 ((a + 1).toNatClampNeg))) rfl I J e hQ
  refine ⟨I2, J2, e1, c3, c4, c6, ?_⟩
  simp only [eL_law_1567, eL_law_1576, eL_law_1585, eL_law_1588, eL_law_1590, h1, h2, h3, h4, h5, c1, c2, c4, c5, if_true, Option.bind_some, Option.toList_some, Option.toList_none, List.nil_append, List.cons_append, q_ck_tt, Bool.and_true, Bool.true_and]
end TP
theorem q_round {Q : (Nat → Nat → Int32) → (Nat → Nat → Int64) → Prop} (hA : q_All Q) {I : Nat → Nat → Int32} {J : Nat → Nat → Int64} {e : QP} {a : Int32} (hQ : q_QE Q I J e) (h0 : q_in a e.2.2.2.2 = true) (h1 : q_in (a + 1) e.2.2.2.2 = true) (h2 : q_in (a + 2) e.2.2.2.2 = true) (h3 : q_in (a + 3) e.2.2.2.2 = true) (h4 : q_in (a + 4) e.2.2.2.2 = true) (h5 : q_in (a + 5) e.2.2.2.2 = true) : q_Nx Q I e a (kL_law 27 [some (.ref 1004), some (.ref 1), some (.ref 64), some (.int a)] [] (qm I J e) 113 13229) := by
  obtain ⟨c0, c1, c2, c3, c4, c5, c6, c7, c8, c9, c10, c11, c12, c13, c14, c15, c16, c17, c18, c19, c20, c21, c22, c23, c24, c25, c26, c27, c28, c29, c30, c31, c32, c33, c34, c35, c36, c37, c38, c39, c40, c41, c42, c43, c44, c45, c46, c47⟩ := hA
  rw [eL_law_27, h0, Bool.and_true, q_ck_tt]
  refine q_Nx_if (fun _ => t_feed c0 hQ h1 h2 h3 h4 h5) (fun _ => ?_)
  refine q_Nx_if (fun _ => t_end c1 hQ h1 h2 h3 h4 h5) (fun _ => ?_)
  refine q_Nx_if (fun _ => t_board c2 hQ h1 h2 h3 h4 h5) (fun _ => ?_)
  refine q_Nx_if (fun _ => t_fault c3 hQ h1 h2 h3 h4 h5) (fun _ => ?_)
  refine q_Nx_if (fun _ => t_device c4 hQ h1 h2 h3 h4 h5) (fun _ => ?_)
  refine q_Nx_if (fun _ => t_net c5 hQ h1 h2 h3 h4 h5) (fun _ => ?_)
  refine q_Nx_if (fun _ => t_cell c6 hQ h1 h2 h3 h4 h5) (fun _ => ?_)
  refine q_Nx_if (fun _ => t_clock c7 hQ h1 h2 h3 h4 h5) (fun _ => ?_)
  refine q_Nx_if (fun _ => t_scan c8 hQ h1 h2 h3 h4 h5) (fun _ => ?_)
  refine q_Nx_if (fun _ => t_harm c9 hQ h1 h2 h3 h4 h5) (fun _ => ?_)
  refine q_Nx_if (fun _ => t_undo c10 hQ h1 h2 h3 h4 h5) (fun _ => ?_)
  refine q_Nx_if (fun _ => t_redo c11 hQ h1 h2 h3 h4 h5) (fun _ => ?_)
  refine q_Nx_if (fun _ => t_goes c12 hQ h1 h2 h3 h4 h5) (fun _ => ?_)
  refine q_Nx_if (fun _ => t_walk c13 hQ h1 h2 h3 h4 h5) (fun _ => ?_)
  refine q_Nx_if (fun _ => t_walks c14 hQ h1 h2 h3 h4 h5) (fun _ => ?_)
  refine q_Nx_if (fun _ => t_farthest c15 hQ h1 h2 h3 h4 h5) (fun _ => ?_)
  refine q_Nx_if (fun _ => t_length c16 hQ h1 h2 h3 h4 h5) (fun _ => ?_)
  refine q_Nx_if (fun _ => t_found c17 hQ h1 h2 h3 h4 h5) (fun _ => ?_)
  refine q_Nx_if (fun _ => t_fights c18 hQ h1 h2 h3 h4 h5) (fun _ => ?_)
  refine q_Nx_if (fun _ => t_unsafe c19 hQ h1 h2 h3 h4 h5) (fun _ => ?_)
  refine q_Nx_if (fun _ => t_steps c20 hQ h1 h2 h3 h4 h5) (fun _ => ?_)
  refine q_Nx_if (fun _ => t_tells c21 hQ h1 h2 h3 h4 h5) (fun _ => ?_)
  refine q_Nx_if (fun _ => t_answer c22 hQ h1 h2 h3 h4 h5) (fun _ => ?_)
  refine q_Nx_if (fun _ => t_good c23 hQ h1 h2 h3 h4 h5) (fun _ => ?_)
  refine q_Nx_if (fun _ => t_aliased c24 hQ h1 h2 h3 h4 h5) (fun _ => ?_)
  refine q_Nx_if (fun _ => t_confounded c25 hQ h1 h2 h3 h4 h5) (fun _ => ?_)
  refine q_Nx_if (fun _ => t_verdict c26 hQ h1 h2 h3 h4 h5) (fun _ => ?_)
  refine q_Nx_if (fun _ => t_singles c27 hQ h1 h2 h3 h4 h5) (fun _ => ?_)
  refine q_Nx_if (fun _ => t_single c28 hQ h1 h2 h3 h4 h5) (fun _ => ?_)
  refine q_Nx_if (fun _ => t_apart c29 hQ h1 h2 h3 h4 h5) (fun _ => ?_)
  refine q_Nx_if (fun _ => t_told c30 hQ h1 h2 h3 h4 h5) (fun _ => ?_)
  refine q_Nx_if (fun _ => t_least c31 hQ h1 h2 h3 h4 h5) (fun _ => ?_)
  refine q_Nx_if (fun _ => t_mendFirst c32 hQ h1 h2 h3 h4 h5) (fun _ => ?_)
  refine q_Nx_if (fun _ => t_safest c33 hQ h1 h2 h3 h4 h5) (fun _ => ?_)
  refine q_Nx_if (fun _ => t_cost c34 hQ h1 h2 h3 h4 h5) (fun _ => ?_)
  refine q_Nx_if (fun _ => t_worst c35 hQ h1 h2 h3 h4 h5) (fun _ => ?_)
  refine q_Nx_if (fun _ => t_law c36 hQ h1 h2 h3 h4 h5) (fun _ => ?_)
  refine q_Nx_if (fun _ => t_odds c37 hQ h1 h2 h3 h4 h5) (fun _ => ?_)
  refine q_Nx_if (fun _ => t_lies c38 hQ h1 h2 h3 h4 h5) (fun _ => ?_)
  refine q_Nx_if (fun _ => t_seen c39 hQ h1 h2 h3 h4 h5) (fun _ => ?_)
  refine q_Nx_if (fun _ => t_untell c40 hQ h1 h2 h3 h4 h5) (fun _ => ?_)
  refine q_Nx_if (fun _ => t_later c41 hQ h1 h2 h3 h4 h5) (fun _ => ?_)
  refine q_Nx_if (fun _ => t_fits c42 hQ h1 h2 h3 h4 h5) (fun _ => ?_)
  refine q_Nx_if (fun _ => t_culprit c43 hQ h1 h2 h3 h4 h5) (fun _ => ?_)
  refine q_Nx_if (fun _ => t_ask c44 hQ h1 h2 h3 h4 h5) (fun _ => ?_)
  refine q_Nx_if (fun _ => t_image c45 hQ h1 h2 h3 h4 h5) (fun _ => ?_)
  refine q_Nx_if (fun _ => t_back c46 hQ h1 h2 h3 h4 h5) (fun _ => ?_)
  refine q_Nx_if (fun _ => t_about c47 hQ h1 h2 h3 h4 h5) (fun _ => ?_)
  exact ⟨I, J, e, hQ, rfl, rfl, eL_law_1590 I J e a⟩
theorem q_runs {Q : (Nat → Nat → Int32) → (Nat → Nat → Int64) → Prop} (hA : q_All Q) : ∀ (m i : Nat) (I : Nat → Nat → Int32) (J : Nat → Nat → Int64) (e : QP), q_QE Q I J e → e.2.2.2.2 ≤ 3072 → e.2.2.2.2 ≤ 6 * i + m → 6 * i ≤ 3100 → ∃ M', kL_law 18 [some (.ref 1004), some (.ref 1), some (.ref 64), some (.int (nI (6 * i)))] [] (qm I J e) 113 13229 = some (some (.int 1), M') := by
  intro m
  induction m with
  | zero =>
    intro i I J e hQ hL hm hi
    refine ⟨qm I J e, ?_⟩
    rw [eL_law_18, if_pos (q_out (by omega) (by omega) (by omega)), eL_law_1596]
  | succ m ih =>
    intro i I J e hQ hL hm hi
    by_cases hb : 6 * i + 6 ≤ e.2.2.2.2
    · rw [eL_law_18, if_neg (q_not_out hb (by omega))]
      have hq : ∀ k, k < 6 → q_in (nI (6 * i) + nI k) e.2.2.2.2 = true := fun k hk => by rw [nI_add]; exact q_in_nI (by omega) (by omega)
      have h0 := hq 0 (by omega)
      rw [nI_add, Nat.add_zero] at h0
      obtain ⟨I2, J2, e1, c1, c2, c3, c4⟩ := q_round hA hQ h0 (hq 1 (by omega)) (hq 2 (by omega)) (hq 3 (by omega)) (hq 4 (by omega)) (hq 5 (by omega))
      rw [c4]
      have h6 : nI (6 * i) + 6 = nI (6 * (i + 1)) := by rw [show (6 : Int32) = nI 6 from rfl, nI_add]; rfl
      rw [h6]
      exact ih (i + 1) I2 J2 e1 c1 (by rw [c2]; exact hL) (by rw [c2]; omega) (by omega)
    · refine ⟨qm I J e, ?_⟩
      rw [eL_law_18, if_pos (q_out (by omega) (by omega) (by omega)), eL_law_1596]
theorem q_pure_of {Q : (Nat → Nat → Int32) → (Nat → Nat → Int64) → Prop} (hA : q_All Q) (hS : ∀ (L : Nat) (xs : Nat → Int32), L ≤ 3072 → ∃ (I : Nat → Nat → Int32) (J : Nat → Nat → Int64) (e : QP), q_QE Q I J e ∧ e.2.2.2.2 = L ∧ kL_law 0 (q_L0 [.ref 1004] 4) [] (q_M0 L xs) 0 0 = kL_law 18 [some (.ref 1004), some (.ref 1), some (.ref 64), some (.int 0)] [] (qm I J e) 113 13229) : q_Pure := by
  intro L xs hL
  obtain ⟨I, J, e, h1, h2, h3⟩ := hS L xs hL
  rw [h3]
  exact q_runs hA 3072 0 I J e h1 (by omega) (by omega) (by omega)

