/-! ===== the class's tokens: the whole of advance() ===== -/
theorem q_key_loop {I : Nat → Nat → Int32} {J : Nat → Nat → Int64} {L : Nat} (hK : q_Ky J) (h5 : I 31 5 = 3) : ∀ (m a : Nat), a + m = 21 → (∀ j, j < a → qKC j ≠ J 31 7) →
    (∃ k, k < 21 ∧ J 31 7 = qKC k ∧ kX9_takeWord 110 [some (.ref 31), some (.int (nI a))] [] (qm I J (3, 17, 17, 2, L)) = some (none, qm (q_up (q_up I 31 5 2) 31 6 (nI k)) J (3, 17, 17, 2, L))) ∨ ((∀ k, k < 21 → qKC k ≠ J 31 7) ∧ kX9_takeWord 110 [some (.ref 31), some (.int (nI a))] [] (qm I J (3, 17, 17, 2, L)) = some (none, qm I J (3, 17, 17, 2, L))) := by
  intro m
  induction m with
  | zero =>
    intro a ha hn
    have ha' : a = 21 := by omega
    subst ha'
    refine Or.inr ⟨hn, ?_⟩
    rw [eX9_takeWord_110, if_neg (show ¬ nI 21 < (21 : Int32) by decide), eX9_takeWord_154]
  | succ m ih =>
    intro a ha hn
    have h1 : kX9_takeWord 110 [some (.ref 31), some (.int (nI a))] [] (qm I J (3, 17, 17, 2, L)) = if lg_cmp (qKC a) (J 31 7) = 0 then kX9_takeWord 138 [some (.ref 31), some (.int (nI a))] [] (qm I J (3, 17, 17, 2, L)) else kX9_takeWord 148 [some (.ref 31), some (.int (nI a))] [] (qm I J (3, 17, 17, 2, L)) := by
      rw [eX9_takeWord_110, if_pos (show nI a < (21 : Int32) from nI_lt (b := 21) (by omega) (by omega)), eX9_takeWord_116, if_pos h5, eX9_takeWord_124, q_in_nI (by omega) (by omega), nI_n (by omega), hK a (by omega), Bool.true_and, q_ck_tt]
    have h2 : nI a + 1 = nI (a + 1) := nI_add a 1
    by_cases hc : qKC a = J 31 7
    · refine Or.inl ⟨a, by omega, hc.symm, ?_⟩
      rw [h1, if_pos ((q_lcm _ _).mpr hc), eX9_takeWord_138, eX9_takeWord_148, h2, eX9_takeWord_110]
      by_cases h21 : a + 1 < 21
      · rw [if_pos (show nI (a + 1) < (21 : Int32) from nI_lt (b := 21) h21 (by omega)), eX9_takeWord_116, if_neg (by rw [q_up_at2 _ _ (by decide), q_up_at1]; decide), eX9_takeWord_154]
      · rw [if_neg (show ¬ nI (a + 1) < (21 : Int32) from nI_nlt (b := 21) (by omega) (by omega)), eX9_takeWord_154]
    · rw [h1, if_neg (fun g => hc ((q_lcm _ _).mp g)), eX9_takeWord_148, h2]
      exact ih (a + 1) (by omega) (fun j hj => by
        by_cases hj' : j = a
        · rw [hj']; exact hc
        · exact hn j (by omega))
/-- the word that stands there: where it ends, its number -/
def qwe (v : Nat → Nat) (n s : Nat) : Nat := qre (fun k => qLe (v k)) (n - s) s
def qne (v : Nat → Nat) (n s : Nat) : Nat := qre (fun k => qDi (v k)) (n - s) s
def qse (v : Nat → Nat) (n p : Nat) : Nat := qre (fun k => qBk (v k)) (n - p) p
def qwc (v : Nat → Nat) (n s : Nat) : Int64 := lN (qpv 32 0 (fun i => v (s + i) - 96) (qwe v n s - s))
def qnv (v : Nat → Nat) (n s : Nat) : Nat := qpv 10 0 (fun i => v (s + i) - 48) (qne v n s - s)
theorem q_takeWord {I : Nat → Nat → Int32} {J : Nat → Nat → Int64} {L : Nat} {v : Nat → Nat} {n s : Nat} (hT : q_Tc I v n) (hK : q_Ky J) (h3 : I 31 3 = nI s) (h4 : I 31 4 = nI s) (hs : s ≤ n) :
    ∃ f : Nat → Int32, mX9_takeWord [.ref 31] (qm I J (3, 17, 17, 2, L)) = some (none, qm (va_up I 31 f) (q_up J 31 7 (qwc v n s)) (3, 17, 17, 2, L)) ∧ (∀ k, k ≠ 3 → k ≠ 5 → k ≠ 6 → f k = I 31 k) ∧ f 3 = nI (qwe v n s) ∧
      ((8 < qwe v n s - s ∧ f 5 = 1) ∨ (qwe v n s - s ≤ 8 ∧ ((∃ k, k < 21 ∧ qwc v n s = qKC k ∧ f 5 = 2 ∧ f 6 = nI k) ∨ ((∀ k, k < 21 → qKC k ≠ qwc v n s) ∧ f 5 = 3)))) := by
  have hn := hT.1
  have hq := qre_le (fun k => qLe (v k)) (n - s) s
  have hqe : qre (fun k => qLe (v k)) (n - s) s = qwe v n s := rfl
  rw [hqe] at hq
  have h0 : mX9_takeWord [.ref 31] (qm I J (3, 17, 17, 2, L)) = kX9_takeWord 85 [some (.ref 31), none] [] (qm (q_up I 31 3 (nI (qwe v n s))) (q_up J 31 7 (qwc v n s)) (3, 17, 17, 2, L)) := by
    rw [bX9_takeWord, eX9_takeWord_0, q_word_loop (v := v) (n := n) (n - s) s 0 I (q_up J 31 7 0) hT h3 (by omega) (q_up_at1 _ _ _ _), q_up_2]
    rfl
  have hK' : q_Ky (q_up J 31 7 (qwc v n s)) := fun k hk => by rw [q_up_at3 _ _ (by decide)]; exact hK k hk
  rw [h0, eX9_takeWord_85, q_up_at1, q_up_at2 _ _ (by decide), h4, nI_sb (by omega)]
  by_cases h8 : 8 < qwe v n s - s
  · rw [if_pos (show (8 : Int32) < nI (qwe v n s - s) from nI_lt (a := 8) h8 (by omega)), eX9_takeWord_100, eX9_takeWord_105]
    rw [show (0 : Int32) = nI 0 from rfl, eX9_takeWord_110, if_pos (show nI 0 < (21 : Int32) by decide), eX9_takeWord_116, q_up_at1, if_neg (show ¬ (1 : Int32) = 3 by decide), eX9_takeWord_154]
    refine ⟨va_up (va_up (I 31) 3 (nI (qwe v n s))) 5 1, ?_, ?_, ?_, Or.inl ⟨h8, ?_⟩⟩
    · rw [q_up_va I, q_up_up]
    · intro k a b c; rw [va_miss b, va_miss a]
    · rw [va_miss (by decide), va_hit]
    · rw [va_hit]
  · rw [if_neg (show ¬ (8 : Int32) < nI (qwe v n s - s) from nI_nlt (a := 8) (by omega) (by omega)), eX9_takeWord_104, eX9_takeWord_105]
    have hl := q_key_loop (I := q_up (q_up I 31 3 (nI (qwe v n s))) 31 5 3) (L := L) hK' (q_up_at1 _ _ _ _) 21 0 (by omega) (fun j hj => absurd hj (by omega))
    rw [q_up_at1] at hl
    rcases hl with ⟨k, hk, e, h⟩ | ⟨e, h⟩
    · refine ⟨va_up (va_up (va_up (va_up (I 31) 3 (nI (qwe v n s))) 5 3) 5 2) 6 (nI k), ?_, ?_, ?_, Or.inr ⟨by omega, Or.inl ⟨k, hk, e, ?_, ?_⟩⟩⟩
      · refine Eq.trans h ?_
        rw [q_up_va I, q_up_up, q_up_up, q_up_up]
      · intro k a b c; rw [va_miss c, va_miss b, va_miss b, va_miss a]
      · rw [va_miss (by decide), va_miss (by decide), va_miss (by decide), va_hit]
      · rw [va_miss (by decide), va_hit]
      · rw [va_hit]
    · refine ⟨va_up (va_up (I 31) 3 (nI (qwe v n s))) 5 3, ?_, ?_, ?_, Or.inr ⟨by omega, Or.inr ⟨e, ?_⟩⟩⟩
      · refine Eq.trans h ?_
        rw [q_up_va I, q_up_up]
      · intro k a b c; rw [va_miss b, va_miss a]
      · rw [va_miss (by decide), va_hit]
      · rw [va_hit]
theorem q_takeNumber {I : Nat → Nat → Int32} {J : Nat → Nat → Int64} {L : Nat} {v : Nat → Nat} {n s : Nat} (hT : q_Tc I v n) (h3 : I 31 3 = nI s) (h4 : I 31 4 = nI s) (hs : s ≤ n) :
    mX9_takeNumber [.ref 31] (qm I J (3, 17, 17, 2, L)) = some (none, qm (va_up I 31 (va_up (va_up (va_up (I 31) 6 (nI (qnv v n s))) 3 (nI (qne v n s))) 5 (if 4 < qne v n s - s ∨ (qne v n s < n ∧ qLe (v (qne v n s)) = true) then 1 else 4))) J (3, 17, 17, 2, L)) := by
  have hn := hT.1
  have hq := qre_le (fun k => qDi (v k)) (n - s) s
  have hqe : qre (fun k => qDi (v k)) (n - s) s = qne v n s := rfl
  rw [hqe] at hq
  have h0 : mX9_takeNumber [.ref 31] (qm I J (3, 17, 17, 2, L)) = kX9_takeNumber 81 [some (.ref 31), none, none] [] (qm (va_up I 31 (va_up (va_up (I 31) 6 (nI (qnv v n s))) 3 (nI (qne v n s)))) J (3, 17, 17, 2, L)) := by
    rw [bX9_takeNumber, eX9_takeNumber_0, q_num_loop (v := v) (n := n) (n - s) s 0 (q_up I 31 6 0) (q_Tc_up hT (by decide)) (by rw [q_up_at2 _ _ (by decide)]; exact h3) (by omega) (q_up_at1 _ _ _ _), q_up_2, q_up_va I, q_up_up]
    rfl
  generalize hg : va_up (va_up (I 31) 6 (nI (qnv v n s))) 3 (nI (qne v n s)) = g at h0 ⊢
  have g3 : g 3 = nI (qne v n s) := by rw [← hg, va_hit]
  have g4 : g 4 = nI s := by rw [← hg, va_miss (by decide), va_miss (by decide)]; exact h4
  have g2 : g 2 = nI n := by rw [← hg, va_miss (by decide), va_miss (by decide)]; exact hT.2.1
  have hrow : ∀ k, va_up I 31 g 31 k = g k := fun k => by rw [va_hit]
  have h2r : va_up I 31 g 2 = I 2 := va_miss (by decide)
  have fin : ∀ x : Int32, kX9_takeNumber 159 [none, none, none] [.int x, .ref 31] (qm (va_up I 31 g) J (3, 17, 17, 2, L)) = some (none, qm (va_up I 31 (va_up g 5 x)) J (3, 17, 17, 2, L)) := fun x => by rw [eX9_takeNumber_159, q_up_up]
  have h1 : ∀ b : Bool, kX9_takeNumber 99 [some (.ref 31), none, none] [.int (qb b)] (qm (va_up I 31 g) J (3, 17, 17, 2, L)) = kX9_takeNumber 159 [none, none, none] [.int (if b = true ∨ (qne v n s < n ∧ qLe (v (qne v n s)) = true) then 1 else 4), .ref 31] (qm (va_up I 31 g) J (3, 17, 17, 2, L)) := by
    intro b
    have h144 : ∀ c : Bool, kX9_takeNumber 144 [some (.ref 31), some (.int (qb b)), none] [.int (qb c)] (qm (va_up I 31 g) J (3, 17, 17, 2, L)) = kX9_takeNumber 159 [none, none, none] [.int (if b = true ∨ c = true then 1 else 4), .ref 31] (qm (va_up I 31 g) J (3, 17, 17, 2, L)) := by
      intro c
      rw [eX9_takeNumber_144]
      cases b with
      | true => rw [if_neg (by decide), eX9_takeNumber_154, if_pos (Or.inl rfl)]
      | false =>
        rw [if_pos (by decide), eX9_takeNumber_150]
        cases c with
        | true => rw [if_neg (by decide), eX9_takeNumber_154, if_pos (Or.inr rfl)]
        | false => rw [if_pos (by decide), eX9_takeNumber_158, if_neg (by simp)]
    rw [eX9_takeNumber_99, hrow, hrow, g3, g2]
    by_cases hlt : qne v n s < n
    · obtain ⟨hv, h2⟩ := hT.2.2 _ hlt
      have hin : q_in (nI (qne v n s)) 1600 = true := q_in_nI (by omega) (by omega)
      rw [if_pos (nI_lt hlt (by omega)), eX9_takeNumber_111, hrow, g3, hin, nI_n (by omega), h2r, h2, Bool.true_and, q_ck_tt]
      cases hl : qLe (v (qne v n s)) with
      | true =>
        obtain ⟨h5, h6⟩ := q_byL hv hl
        rw [if_neg h5, eX9_takeNumber_125, hrow, g3, hin, nI_n (by omega), h2r, h2, Bool.true_and, q_ck_tt, if_neg h6, eX9_takeNumber_139]
        refine (h144 true).trans ?_
        simp [hlt]
      | false =>
        have hf : kX9_takeNumber 143 [some (.ref 31), some (.int (qb b)), none] [] (qm (va_up I 31 g) J (3, 17, 17, 2, L)) = kX9_takeNumber 159 [none, none, none] [.int (if b = true ∨ (qne v n s < n ∧ false = true) then 1 else 4), .ref 31] (qm (va_up I 31 g) J (3, 17, 17, 2, L)) := by
          rw [eX9_takeNumber_143]
          refine (h144 false).trans ?_
          simp
        rcases q_byN hv hl with h5 | ⟨h5, h6⟩
        · rw [if_pos h5, hf]
        · rw [if_neg h5, eX9_takeNumber_125, hrow, g3, hin, nI_n (by omega), h2r, h2, Bool.true_and, q_ck_tt, if_pos h6, hf]
    · rw [if_neg (nI_nlt (by omega) (by omega)), eX9_takeNumber_143]
      refine (h144 false).trans ?_
      simp [hlt]
  rw [h0, eX9_takeNumber_81, hrow, hrow, g3, g4, nI_sb (by omega)]
  by_cases h8 : 4 < qne v n s - s
  · rw [if_pos (show (4 : Int32) < nI (qne v n s - s) from nI_lt (a := 4) h8 (by omega)), eX9_takeNumber_94]
    refine (h1 true).trans ?_
    rw [fin, if_pos (Or.inl rfl), if_pos (Or.inl h8)]
  · rw [if_neg (show ¬ (4 : Int32) < nI (qne v n s - s) from nI_nlt (a := 4) (by omega) (by omega)), eX9_takeNumber_98]
    refine (h1 false).trans ?_
    rw [fin]
    by_cases hc : qne v n s < n ∧ qLe (v (qne v n s)) = true
    · rw [if_pos (Or.inr hc), if_pos (Or.inr hc)]
    · rw [if_neg (fun g => by rcases g with g | g; exact absurd g (by decide); exact hc g), if_neg (fun g => by rcases g with g | g; exact h8 g; exact hc g)]
