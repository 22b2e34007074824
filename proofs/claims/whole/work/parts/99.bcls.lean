/-! ===== the class's tokens ===== -/
theorem q_up_eq {α : Type} {f : Nat → Nat → α} {p k : Nat} {x : α} (h : f p k = x) : q_up f p k x = f := by
  rw [q_up_va, va_up_eq (f := f p) h, va_up_id]
theorem q_up_at1 {α : Type} (f : Nat → Nat → α) (p k : Nat) (x : α) : q_up f p k x p k = x := by rw [q_up_at, if_pos rfl, if_pos rfl]
theorem q_up_at2 {α : Type} (f : Nat → Nat → α) {p k j : Nat} (x : α) (h : j ≠ k) : q_up f p k x p j = f p j := by rw [q_up_at, if_pos rfl, if_neg h]
theorem q_up_at3 {α : Type} (f : Nat → Nat → α) {p q k : Nat} (x : α) (h : q ≠ p) : q_up f p k x q = f q := by rw [q_up_row, if_neg h]
theorem q_up_2 {α : Type} (f : Nat → Nat → α) (p k : Nat) (x y : α) : q_up (q_up f p k x) p k y = q_up f p k y := by
  funext a b
  simp only [q_up_at]
  by_cases ha : a = p <;> by_cases hb : b = k <;> simp [ha, hb]
theorem qre_s (c : Nat → Bool) (f p : Nat) : qre c (f + 1) p = if c p then qre c f (p + 1) else p := rfl
theorem q_by32 {v : Nat} (h : v < 256) : qby v = 32 ↔ v = 32 := decide_eq_decide.mp (q_by_t v h).1
theorem q_by10 {v : Nat} (h : v < 256) : qby v = 10 ↔ v = 10 := decide_eq_decide.mp (q_by_t v h).2.1
theorem q_byL {v : Nat} (h : v < 256) (hl : qLe v = true) : ¬ qby v < 97 ∧ ¬ (122 : Int32) < qby v := by
  have := (q_by_t v h).2.2.1
  rw [hl] at this
  simpa using this
theorem q_byN {v : Nat} (h : v < 256) (hl : qLe v = false) : qby v < 97 ∨ ¬ qby v < 97 ∧ (122 : Int32) < qby v := by
  have := (q_by_t v h).2.2.1
  rw [hl] at this
  by_cases g : qby v < 97
  · exact Or.inl g
  · refine Or.inr ⟨g, ?_⟩
    simpa [g] using this
theorem q_byD {v : Nat} (h : v < 256) (hl : qDi v = true) : ¬ qby v < 48 ∧ ¬ (57 : Int32) < qby v := by
  have := (q_by_t v h).2.2.2.1
  rw [hl] at this
  simpa using this
theorem q_byE {v : Nat} (h : v < 256) (hl : qDi v = false) : qby v < 48 ∨ ¬ qby v < 48 ∧ (57 : Int32) < qby v := by
  have := (q_by_t v h).2.2.2.1
  rw [hl] at this
  by_cases g : qby v < 48
  · exact Or.inl g
  · refine Or.inr ⟨g, ?_⟩
    simpa [g] using this
/-- the text as the class has it -/
def q_Tc (I : Nat → Nat → Int32) (v : Nat → Nat) (n : Nat) : Prop := n ≤ 1600 ∧ I 31 2 = nI n ∧ ∀ k, k < n → v k < 256 ∧ I 2 k = qby (v k)
theorem q_Tc_up {I : Nat → Nat → Int32} {v : Nat → Nat} {n k : Nat} {x : Int32} (h : q_Tc I v n) (hk : k ≠ 2) : q_Tc (q_up I 31 k x) v n := by
  obtain ⟨h1, h2, h3⟩ := h
  refine ⟨h1, ?_, ?_⟩
  · rw [q_up_at2 _ _ (fun e => hk e.symm)]; exact h2
  · rw [q_up_at3 _ _ (by decide)]; exact h3
section TC
variable {J : Nat → Nat → Int64} {L : Nat} {v : Nat → Nat} {n : Nat}
theorem q_adv_skip : ∀ (f p : Nat) (I : Nat → Nat → Int32), q_Tc I v n → I 31 3 = nI p → p + f = n → kX9_advance 0 [some (.ref 31), none] [] (qm I J (3, 17, 17, 2, L)) = kX9_advance 52 [some (.ref 31), none] [] (qm (q_up I 31 3 (nI (qre (fun k => qBk (v k)) f p))) J (3, 17, 17, 2, L)) := by
  intro f
  induction f with
  | zero =>
    intro p I hT hp hf
    rw [eX9_advance_0, hp, hT.2.1, if_neg (nI_nlt (by omega) (by have := hT.1; omega)), show qre (fun k => qBk (v k)) 0 p = p from rfl, q_up_eq hp]
  | succ f ih =>
    intro p I hT hp hf
    have hn := hT.1
    obtain ⟨hv, h2⟩ := hT.2.2 p (by omega)
    have hin : q_in (nI p) 1600 = true := q_in_nI (by omega) (by omega)
    have hnext : kX9_advance 39 [some (.ref 31), none] [] (qm I J (3, 17, 17, 2, L)) = kX9_advance 52 [some (.ref 31), none] [] (qm (q_up I 31 3 (nI (qre (fun k => qBk (v k)) f (p + 1)))) J (3, 17, 17, 2, L)) := by
      rw [eX9_advance_39, hp, show nI p + 1 = nI (p + 1) from nI_add p 1, ih (p + 1) (q_up I 31 3 (nI (p + 1))) (q_Tc_up hT (by decide)) (q_up_at1 _ _ _ _) (by omega), q_up_2]
    rw [eX9_advance_0, hp, hT.2.1, if_pos (nI_lt (by omega) (by omega)), eX9_advance_11, hp, hin, nI_n (by omega), h2]
    by_cases h32 : v p = 32
    · rw [if_pos ((q_by32 hv).mpr h32), Bool.true_and, q_ck_tt, hnext]
      rw [qre_s, if_pos (by unfold qBk; rw [h32]; rfl)]
    · rw [if_neg (fun g => h32 ((q_by32 hv).mp g)), Bool.true_and, q_ck_tt, eX9_advance_25, hp, hin, nI_n (by omega), h2]
      by_cases h10 : v p = 10
      · rw [if_pos ((q_by10 hv).mpr h10), Bool.true_and, q_ck_tt, hnext]
        rw [qre_s, if_pos (by unfold qBk; rw [h10]; rfl)]
      · rw [if_neg (fun g => h10 ((q_by10 hv).mp g)), Bool.true_and, q_ck_tt]
        rw [qre_s, if_neg (by unfold qBk; simp [h32, h10]), q_up_eq hp]
theorem q_word_loop : ∀ (f s m : Nat) (I : Nat → Nat → Int32) (J : Nat → Nat → Int64), q_Tc I v n → I 31 3 = nI (s + m) → s + m + f = n → J 31 7 = lN (qpv 32 0 (fun i => v (s + i) - 96) m) →
    kX9_takeWord 5 [some (.ref 31), none] [] (qm I J (3, 17, 17, 2, L)) = kX9_takeWord 85 [some (.ref 31), none] [] (qm (q_up I 31 3 (nI (qre (fun k => qLe (v k)) f (s + m)))) (q_up J 31 7 (lN (qpv 32 0 (fun i => v (s + i) - 96) (qre (fun k => qLe (v k)) f (s + m) - s)))) (3, 17, 17, 2, L)) := by
  intro f
  induction f with
  | zero =>
    intro s m I J hT hp hf hJ
    rw [eX9_takeWord_5, hp, hT.2.1, if_neg (nI_nlt (by omega) (by have := hT.1; omega)), show qre (fun k => qLe (v k)) 0 (s + m) = s + m from rfl, q_up_eq hp, Nat.add_sub_cancel_left, q_up_eq hJ]
  | succ f ih =>
    intro s m I J hT hp hf hJ
    have hn := hT.1
    obtain ⟨hv, h2⟩ := hT.2.2 (s + m) (by omega)
    have hin : q_in (nI (s + m)) 1600 = true := q_in_nI (by omega) (by omega)
    rw [eX9_takeWord_5, hp, hT.2.1, if_pos (nI_lt (by omega) (by omega)), eX9_takeWord_16, hp, hin, nI_n (by omega), h2]
    cases hl : qLe (v (s + m)) with
    | true =>
      obtain ⟨h3, h4⟩ := q_byL hv hl
      rw [if_neg h3, Bool.true_and, q_ck_tt, eX9_takeWord_30, hp, hin, nI_n (by omega), h2, if_neg h4, Bool.true_and, q_ck_tt, eX9_takeWord_44, hp, hin, nI_n (by omega), h2, Bool.true_and, q_ck_tt, eX9_takeWord_67, (q_by_l _ hv hl).1, hJ, q_w32, hp, show nI (s + m) + 1 = nI (s + (m + 1)) from nI_add (s + m) 1]
      rw [ih s (m + 1) (q_up I 31 3 (nI (s + (m + 1)))) _ (q_Tc_up hT (by decide)) (q_up_at1 _ _ _ _) (by omega) (by rw [q_up_at1]; rfl), q_up_2, q_up_2]
      rw [qre_s, if_pos hl, Nat.add_assoc]
    | false =>
      have he : qre (fun k => qLe (v k)) (f + 1) (s + m) = s + m := by rw [qre_s, if_neg (by rw [hl]; decide)]
      rw [he, q_up_eq hp, Nat.add_sub_cancel_left, q_up_eq hJ]
      rcases q_byN hv hl with h3 | ⟨h3, h4⟩
      · rw [if_pos h3, Bool.true_and, q_ck_tt]
      · rw [if_neg h3, Bool.true_and, q_ck_tt, eX9_takeWord_30, hp, hin, nI_n (by omega), h2, if_pos h4, Bool.true_and, q_ck_tt]
theorem q_num_loop : ∀ (f s m : Nat) (I : Nat → Nat → Int32), q_Tc I v n → I 31 3 = nI (s + m) → s + m + f = n → I 31 6 = nI (qpv 10 0 (fun i => v (s + i) - 48) m) →
    kX9_takeNumber 5 [some (.ref 31), none, none] [] (qm I J (3, 17, 17, 2, L)) = kX9_takeNumber 81 [some (.ref 31), none, none] [] (qm (q_up (q_up I 31 6 (nI (qpv 10 0 (fun i => v (s + i) - 48) (qre (fun k => qDi (v k)) f (s + m) - s)))) 31 3 (nI (qre (fun k => qDi (v k)) f (s + m)))) J (3, 17, 17, 2, L)) := by
  intro f
  induction f with
  | zero =>
    intro s m I hT hp hf hJ
    rw [eX9_takeNumber_5, hp, hT.2.1, if_neg (nI_nlt (by omega) (by have := hT.1; omega)), show qre (fun k => qDi (v k)) 0 (s + m) = s + m from rfl, Nat.add_sub_cancel_left, q_up_eq hJ, q_up_eq hp]
  | succ f ih =>
    intro s m I hT hp hf hJ
    have hn := hT.1
    obtain ⟨hv, h2⟩ := hT.2.2 (s + m) (by omega)
    have hin : q_in (nI (s + m)) 1600 = true := q_in_nI (by omega) (by omega)
    rw [eX9_takeNumber_5, hp, hT.2.1, if_pos (nI_lt (by omega) (by omega)), eX9_takeNumber_16, hp, hin, nI_n (by omega), h2]
    cases hl : qDi (v (s + m)) with
    | true =>
      obtain ⟨h3, h4⟩ := q_byD hv hl
      rw [if_neg h3, Bool.true_and, q_ck_tt, eX9_takeNumber_30, hp, hin, nI_n (by omega), h2, if_neg h4, Bool.true_and, q_ck_tt, eX9_takeNumber_44, hp, hin, nI_n (by omega), h2, Bool.true_and, q_ck_tt, eX9_takeNumber_68, q_up_at2 _ _ (by decide), hp, hJ, q_by_d _ hv hl, show nI (s + m) + 1 = nI (s + (m + 1)) from nI_add (s + m) 1]
      have hx : nI (qpv 10 0 (fun i => v (s + i) - 48) m) * 10 + nI (v (s + m) - 48) = nI (qpv 10 0 (fun i => v (s + i) - 48) (m + 1)) := by
        rw [show (10 : Int32) = nI 10 from rfl, show nI (qpv 10 0 (fun i => v (s + i) - 48) m) * nI 10 = nI (qpv 10 0 (fun i => v (s + i) - 48) m * 10) from (Int32.ofNat_mul _ _).symm, nI_add]
        rfl
      rw [hx]
      rw [ih s (m + 1) _ (q_Tc_up (q_Tc_up hT (by decide)) (by decide)) (q_up_at1 _ _ _ _) (by omega) (by rw [q_up_at2 _ _ (by decide), q_up_at1])]
      rw [qre_s, if_pos hl]
      refine congrArg (fun z => kX9_takeNumber 81 [some (.ref 31), none, none] [] (qm z J (3, 17, 17, 2, L))) ?_
      funext a b
      simp only [q_up_at]
      by_cases ha : a = 31
      · by_cases hb : b = 3
        · simp [ha, hb]; rfl
        · by_cases hb6 : b = 6
          · simp [ha, hb6]; rfl
          · simp [ha, hb, hb6]
      · simp [ha]
    | false =>
      have he : qre (fun k => qDi (v k)) (f + 1) (s + m) = s + m := by rw [qre_s, if_neg (by rw [hl]; decide)]
      rw [he, Nat.add_sub_cancel_left, q_up_eq hJ, q_up_eq hp]
      rcases q_byE hv hl with h3 | ⟨h3, h4⟩
      · rw [if_pos h3, Bool.true_and, q_ck_tt]
      · rw [if_neg h3, Bool.true_and, q_ck_tt, eX9_takeNumber_30, hp, hin, nI_n (by omega), h2, if_pos h4, Bool.true_and, q_ck_tt]
end TC
