/-! ===== what both find of a token ===== -/
theorem fX9_atKey (C : Nat → Nat → Int32) (J : Nat → Nat → Int64) (L : Nat) (a : Int32) : mX9_atKey [.ref 31, .int a] (qm C J (3, 17, 17, 2, L)) = some (some (.int (qb (decide (C 31 5 = 2) && decide (C 31 6 = a)))), qm C J (3, 17, 17, 2, L)) := by
  rw [bX9_atKey, eX9_atKey_0]
  by_cases h : C 31 5 = 2
  · rw [if_pos h, eX9_atKey_8, decide_eq_true h]
    by_cases g : C 31 6 = a
    · rw [if_pos g, eX9_atKey_16, eX9_atKey_21, decide_eq_true g]; rfl
    · rw [if_neg g, eX9_atKey_20, eX9_atKey_21, decide_eq_false g]; rfl
  · rw [if_neg h, eX9_atKey_20, eX9_atKey_21, decide_eq_false h]; rfl
theorem fX9_atSign (C : Nat → Nat → Int32) (J : Nat → Nat → Int64) (L : Nat) (a : Int32) : mX9_atSign [.ref 31, .int a] (qm C J (3, 17, 17, 2, L)) = some (some (.int (qb (decide (C 31 5 = 5) && decide (C 31 6 = a)))), qm C J (3, 17, 17, 2, L)) := by
  rw [bX9_atSign, eX9_atSign_0]
  by_cases h : C 31 5 = 5
  · rw [if_pos h, eX9_atSign_8, decide_eq_true h]
    by_cases g : C 31 6 = a
    · rw [if_pos g, eX9_atSign_16, eX9_atSign_21, decide_eq_true g]; rfl
    · rw [if_neg g, eX9_atSign_20, eX9_atSign_21, decide_eq_false g]; rfl
  · rw [if_neg h, eX9_atSign_20, eX9_atSign_21, decide_eq_false h]; rfl
theorem fX12_isWord (R : Nat → Nat → Int32) (K : Nat → Nat → Int64) (e : QP) (a : Int64) : mX12_isWord [.ref 64, .long a] (qm R K e) = some (some (.int (qb (decide (R 64 6 = 1) && decide (K 64 9 = a)))), qm R K e) := by
  rw [bX12_isWord, eX12_isWord_0]
  by_cases h : R 64 6 = 1
  · rw [if_pos h, eX12_isWord_8, decide_eq_true h]
    by_cases g : K 64 9 = a
    · rw [if_pos ((q_lcm _ _).mpr g), eX12_isWord_17, eX12_isWord_22, decide_eq_true g]; rfl
    · rw [if_neg (fun x => g ((q_lcm _ _).mp x)), eX12_isWord_21, eX12_isWord_22, decide_eq_false g]; rfl
  · rw [if_neg h, eX12_isWord_21, eX12_isWord_22, decide_eq_false h]; rfl
theorem fX9_refuse (C : Nat → Nat → Int32) (J : Nat → Nat → Int64) (L : Nat) (a : Int32) : mX9_refuse [.ref 31, .int a] (qm C J (3, 17, 17, 2, L)) = some (some (.int 0), qm (q_up (q_up C 31 12 (if C 31 5 = 1 then 1 else a)) 31 13 (C 31 4)) J (3, 17, 17, 2, L)) := by
  rw [bX9_refuse, eX9_refuse_0]
  by_cases h : C 31 5 = 1
  · rw [if_pos h, eX9_refuse_9, eX9_refuse_14, if_pos h]
  · rw [if_neg h, eX9_refuse_13, eX9_refuse_14, if_neg h]
theorem fX12_wrong {R : Nat → Nat → Int32} (K : Nat → Nat → Int64) (e : QP) (a : Int32) (h0 : R 64 2 = 0) : mX12_wrong [.ref 64, .int a] (qm R K e) = some (none, qm (q_up (q_up R 64 2 (if R 64 6 = 3 then 1 else a)) 64 3 (R 64 7)) K e) := by
  rw [bX12_wrong, eX12_wrong_0, h0, if_neg (by decide), eX12_wrong_8]
  by_cases h : R 64 6 = 3
  · rw [if_pos h, eX12_wrong_17, eX12_wrong_22, if_pos h]
  · rw [if_neg h, eX12_wrong_21, eX12_wrong_22, if_neg h]
theorem q_sg3 : ∀ m, m < 256 → qSn m = true → nI m ≠ 3 ∧ nI m ≠ 2 ∧ nI m ≠ 1 ∧ nI m ≠ 0 := by decide +kernel
section PT
variable {v : Nat → Nat} {n s : Nat} {C : Nat → Nat → Int32} {J : Nat → Nat → Int64} {R : Nat → Nat → Int32} {K : Nat → Nat → Int64}
theorem q_Pt.tk (h : q_Pt v n C J R K s) : q_Tk (C 31 5) (C 31 6) (J 31 7) (R 64 6) (R 64 8) (K 64 9) := h.2.2.2.2.2.2.1
theorem q_Pt.bad (h : q_Pt v n C J R K s) : C 31 5 = 1 ↔ R 64 6 = 3 := by
  rcases h.tk with ⟨a, b⟩ | ⟨a, b⟩ | ⟨a, b, _⟩ | ⟨a, b, _⟩ | ⟨a, b, _⟩ | ⟨a, m, m1, m2, _, b⟩
  · rw [a, b]; decide
  · rw [a, b]; decide
  · rw [a, b]; decide
  · rw [a, b]; decide
  · rw [a, b]; decide
  · rw [a, b]; exact ⟨fun g => absurd g (by decide), fun g => absurd g (q_sg3 m m1 m2).1⟩
theorem q_Pt.fin (h : q_Pt v n C J R K s) : C 31 5 = 0 ↔ R 64 6 = 0 := by
  rcases h.tk with ⟨a, b⟩ | ⟨a, b⟩ | ⟨a, b, _⟩ | ⟨a, b, _⟩ | ⟨a, b, _⟩ | ⟨a, m, m1, m2, _, b⟩
  · rw [a, b]
  · rw [a, b]; decide
  · rw [a, b]; decide
  · rw [a, b]; decide
  · rw [a, b]; decide
  · rw [a, b]; exact ⟨fun g => absurd g (by decide), fun g => absurd g (q_sg3 m m1 m2).2.2.2⟩
theorem q_Pt.num (h : q_Pt v n C J R K s) : (C 31 5 = 4 ↔ R 64 6 = 2) ∧ (C 31 5 = 4 → ∃ m, m ≤ 9999 ∧ C 31 6 = nI m ∧ R 64 8 = nI m) := by
  rcases h.tk with ⟨a, b⟩ | ⟨a, b⟩ | ⟨a, b, _⟩ | ⟨a, b, _⟩ | ⟨a, b, m, m1, m2, m3⟩ | ⟨a, m, m1, m2, _, b⟩
  · rw [a, b]; exact ⟨by decide, fun g => absurd g (by decide)⟩
  · rw [a, b]; exact ⟨by decide, fun g => absurd g (by decide)⟩
  · rw [a, b]; exact ⟨by decide, fun g => absurd g (by decide)⟩
  · rw [a, b]; exact ⟨by decide, fun g => absurd g (by decide)⟩
  · rw [a, b]; exact ⟨by decide, fun _ => ⟨m, m1, m2, m3⟩⟩
  · rw [a, b]; exact ⟨⟨fun g => absurd g (by decide), fun g => absurd g (q_sg3 m m1 m2).2.1⟩, fun g => absurd g (by decide)⟩
theorem q_Pt.key (h : q_Pt v n C J R K s) {k : Nat} (hk : k < 21) : (decide (R 64 6 = 1) && decide (K 64 9 = qKW k)) = (decide (C 31 5 = 2) && decide (C 31 6 = nI k)) := by
  rcases h.tk with ⟨a, b⟩ | ⟨a, b⟩ | ⟨a, b, j, j1, j2, j3⟩ | ⟨a, b, c, _⟩ | ⟨a, b, _⟩ | ⟨a, m, m1, m2, _, b⟩
  · rw [a, b]; rfl
  · rw [a, b]; rfl
  · rw [a, b, j2, j3]
    have he : (qKW j = qKW k) ↔ (nI j = nI k) := ⟨fun g => by rw [q_KWi j j1 k hk g], fun g => by rw [nI_inj (by omega) (by omega) g]⟩
    rw [decide_eq_decide.mpr he]; rfl
  · rw [a, b, decide_eq_false (c k hk), Bool.and_false]; rfl
  · rw [a, b]; rfl
  · rw [a, b, decide_eq_false (q_sg3 m m1 m2).2.2.1]; rfl
theorem q_Pt.sgn (h : q_Pt v n C J R K s) {k : Nat} (hk : k < 256) (hs : qSn k = true) : decide (R 64 6 = nI k) = (decide (C 31 5 = 5) && decide (C 31 6 = nI k)) := by
  obtain ⟨k3, k2, k1, k0⟩ := q_sg3 k hk hs
  rcases h.tk with ⟨a, b⟩ | ⟨a, b⟩ | ⟨a, b, _⟩ | ⟨a, b, _⟩ | ⟨a, b, _⟩ | ⟨a, m, m1, m2, c, b⟩
  · rw [a, b, decide_eq_false (fun g => k0 g.symm)]; rfl
  · rw [a, b, decide_eq_false (fun g => k3 g.symm)]; rfl
  · rw [a, b, decide_eq_false (fun g => k1 g.symm)]; rfl
  · rw [a, b, decide_eq_false (fun g => k1 g.symm)]; rfl
  · rw [a, b, decide_eq_false (fun g => k2 g.symm)]; rfl
  · rw [a, b, c]; rfl
end PT
