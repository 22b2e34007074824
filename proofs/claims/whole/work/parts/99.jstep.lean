/-! ===== steps of both: key words, signs, numbers ===== -/
section ST
variable {v : Nat → Nat} {n s L : Nat} {C : Nat → Nat → Int32} {J : Nat → Nat → Int64} {R : Nat → Nat → Int32} {K : Nat → Nat → Int64} {e : QP}
theorem q_Pt.ok (h : q_Pt v n C J R K s) : R 64 2 = 0 := h.2.2.2.2.2.2.2.2
theorem q_tkKey (h : q_Pt v n C J R K s) {k : Nat} (hk : k < 21) {a : Int32} {w : Int64} (ha : a = nI k) (hw : w = qKW k) :
    (C 31 5 = 2 ∧ C 31 6 = nI k ∧ ∃ (C' : Nat → Nat → Int32) (J' : Nat → Nat → Int64) (R' : Nat → Nat → Int32) (K' : Nat → Nat → Int64) (s' : Nat), mX9_takeKey [.ref 31, .int a] (qm C J (3, 17, 17, 2, L)) = some (some (.int 1), qm C' J' (3, 17, 17, 2, L)) ∧ mX9_advance [.ref 31] (qm C J (3, 17, 17, 2, L)) = some (none, qm C' J' (3, 17, 17, 2, L)) ∧ mX12_want [.ref 64, .long w] (qm R K e) = some (none, qm R' K' e) ∧ q_Ad C J R K C' J' R' K' ∧ s < s' ∧ q_Pt v n C' J' R' K' s') ∨
    (∃ (C' R' : Nat → Nat → Int32), mX9_takeKey [.ref 31, .int a] (qm C J (3, 17, 17, 2, L)) = some (some (.int 0), qm C' J (3, 17, 17, 2, L)) ∧ mX12_want [.ref 64, .long w] (qm R K e) = some (none, qm R' K e) ∧ q_Fl C' R' ∧ q_Gb C J R K C' J R' K ∧ ¬ (C 31 5 = 2 ∧ C 31 6 = nI k)) := by
  subst ha
  subst hw
  have hkey := h.key hk
  cases hb : (decide (C 31 5 = 2) && decide (C 31 6 = nI k)) with
  | true =>
    have hb' : C 31 5 = 2 ∧ C 31 6 = nI k := by simpa using hb
    obtain ⟨C', J', R', K', s', e1, e2, e3, e4, e5⟩ := q_adv (L := L) (e := e) h (by rw [hb'.1]; decide) (by rw [hb'.1]; decide)
    refine Or.inl ⟨hb'.1, hb'.2, C', J', R', K', s', ?_, e1, ?_, e3, e4, e5⟩
    · rw [bX9_takeKey, eX9_takeKey_0, fX9_atKey, hb]
      simp only [Option.bind_some, Option.toList_some, Option.toList_none, List.nil_append, List.cons_append, q_ck_tt, Bool.and_true, Bool.true_and, if_true, if_false, reduceCtorEq]
      rw [eX9_takeKey_5, if_neg (by decide), eX9_takeKey_14, e1]
      simp only [Option.bind_some, Option.toList_some, Option.toList_none, List.nil_append, List.cons_append, q_ck_tt, Bool.and_true, Bool.true_and, if_true, if_false, reduceCtorEq]
      rw [eX9_takeKey_18]
    · rw [bX12_want, eX12_want_0, h.ok, if_neg (by decide), eX12_want_8, fX12_isWord, hkey, hb]
      simp only [Option.bind_some, Option.toList_some, Option.toList_none, List.nil_append, List.cons_append, q_ck_tt, Bool.and_true, Bool.true_and, if_true, if_false, reduceCtorEq]
      rw [eX12_want_13, if_neg (by decide), eX12_want_24, e2]
      simp only [Option.bind_some, Option.toList_some, Option.toList_none, List.nil_append, List.cons_append, q_ck_tt, Bool.and_true, Bool.true_and, if_true, if_false, reduceCtorEq]
      rw [eX12_want_28]
  | false =>
    obtain ⟨C', R', e1, e2, e3, e4, _, _⟩ := q_refw L e h 2 (by decide)
    refine Or.inr ⟨C', R', ?_, ?_, e3, e4, fun g => by rw [g.1, g.2] at hb; simp at hb⟩
    · rw [bX9_takeKey, eX9_takeKey_0, fX9_atKey, hb]
      simp only [Option.bind_some, Option.toList_some, Option.toList_none, List.nil_append, List.cons_append, q_ck_tt, Bool.and_true, Bool.true_and, if_true, if_false, reduceCtorEq]
      rw [eX9_takeKey_5, if_pos (by decide), eX9_takeKey_8, e1]
      simp only [Option.bind_some, Option.toList_some, Option.toList_none, List.nil_append, List.cons_append, q_ck_tt, Bool.and_true, Bool.true_and, if_true, if_false, reduceCtorEq]
      rw [eX9_takeKey_13]
      rfl
    · rw [bX12_want, eX12_want_0, h.ok, if_neg (by decide), eX12_want_8, fX12_isWord, hkey, hb]
      simp only [Option.bind_some, Option.toList_some, Option.toList_none, List.nil_append, List.cons_append, q_ck_tt, Bool.and_true, Bool.true_and, if_true, if_false, reduceCtorEq]
      rw [eX12_want_13, if_pos (by decide), eX12_want_16, e2]
      simp only [Option.bind_some, Option.toList_some, Option.toList_none, List.nil_append, List.cons_append, q_ck_tt, Bool.and_true, Bool.true_and, if_true, if_false, reduceCtorEq]
      rw [eX12_want_21, eX12_want_28v1]
theorem fX12_want_f (hf : (0 : Int32) < R 64 2) (w : Int64) : mX12_want [.ref 64, .long w] (qm R K e) = some (none, qm R K e) := by
  rw [bX12_want, eX12_want_0, if_pos hf, eX12_want_7]
theorem q_numb (h : q_Pt v n C J R K s) (a b : Int32) :
    (∃ m, m ≤ 9999 ∧ C 31 5 = 4 ∧ C 31 6 = nI m ∧ R 64 8 = nI m ∧ ¬ nI m < a ∧ ¬ b < nI m ∧ mX9_atNumber [.ref 31, .int a, .int b] (qm C J (3, 17, 17, 2, L)) = some (some (.int 1), qm C J (3, 17, 17, 2, L)) ∧ mX12_numberHere [.ref 64, .int a, .int b] (qm R K e) = some (some (.int (nI m)), qm R K e)) ∨
    (∃ (C' R' : Nat → Nat → Int32) (x : Int32), mX9_atNumber [.ref 31, .int a, .int b] (qm C J (3, 17, 17, 2, L)) = some (some (.int 0), qm C' J (3, 17, 17, 2, L)) ∧ mX12_numberHere [.ref 64, .int a, .int b] (qm R K e) = some (some (.int x), qm R' K e) ∧ q_Fl C' R' ∧ q_Gb C J R K C' J R' K) := by
  by_cases h4 : C 31 5 = 4
  · obtain ⟨m, m1, m2, m3⟩ := h.num.2 h4
    have h2 := h.num.1.mp h4
    have c0 : mX9_atNumber [.ref 31, .int a, .int b] (qm C J (3, 17, 17, 2, L)) = if nI m < a then kX9_atNumber 30 [some (.ref 31), none, none] [] (qm C J (3, 17, 17, 2, L)) else kX9_atNumber 22 [some (.ref 31), none, some (.int b)] [] (qm C J (3, 17, 17, 2, L)) := by
      rw [bX9_atNumber, eX9_atNumber_0, if_pos h4, eX9_atNumber_14, m2]
    have r0 : mX12_numberHere [.ref 64, .int a, .int b] (qm R K e) = if nI m < a then kX12_numberHere 41 [some (.ref 64), none, none] [] (qm R K e) else kX12_numberHere 33 [some (.ref 64), none, some (.int b)] [] (qm R K e) := by
      rw [bX12_numberHere, eX12_numberHere_0, h.ok, if_neg (by decide), eX12_numberHere_9, if_pos h2, eX12_numberHere_25, m3]
    obtain ⟨C', R', e1, e2, e3, e4, _, _⟩ := q_refw L e h 4 (by decide)
    have c30 : kX9_atNumber 30 [some (.ref 31), none, none] [] (qm C J (3, 17, 17, 2, L)) = some (some (.int 0), qm C' J (3, 17, 17, 2, L)) := by
      rw [eX9_atNumber_30, e1]
      simp only [Option.bind_some, Option.toList_some, Option.toList_none, List.nil_append, List.cons_append, q_ck_tt, Bool.and_true, Bool.true_and, if_true, if_false, reduceCtorEq]
      rw [eX9_atNumber_35, if_pos rfl, eX9_atNumber_42, eX9_atNumber_43]
      rfl
    have r41 : kX12_numberHere 41 [some (.ref 64), none, none] [] (qm R K e) = some (some (.int (R' 64 8)), qm R' K e) := by
      rw [eX12_numberHere_41, e2]
      simp only [Option.bind_some, Option.toList_some, Option.toList_none, List.nil_append, List.cons_append, q_ck_tt, Bool.and_true, Bool.true_and, if_true, if_false, reduceCtorEq]
      rw [eX12_numberHere_46]
    by_cases ha : nI m < a
    · rw [if_pos ha] at c0 r0
      exact Or.inr ⟨C', R', _, c0.trans c30, r0.trans r41, e3, e4⟩
    · rw [if_neg ha] at c0 r0
      rw [eX9_atNumber_22, m2] at c0
      rw [eX12_numberHere_33, m3] at r0
      by_cases hb : b < nI m
      · rw [if_pos hb] at c0 r0
        exact Or.inr ⟨C', R', _, c0.trans c30, r0.trans r41, e3, e4⟩
      · rw [if_neg hb] at c0 r0
        refine Or.inl ⟨m, m1, h4, m2, m3, ha, hb, ?_, ?_⟩
        · rw [c0, eX9_atNumber_38, eX9_atNumber_43]
          rfl
        · rw [r0, eX12_numberHere_46, m3]
  · obtain ⟨C', R', e1, e2, e3, e4, _, _⟩ := q_refw L e h 2 (by decide)
    refine Or.inr ⟨C', R', R' 64 8, ?_, ?_, e3, e4⟩
    · rw [bX9_atNumber, eX9_atNumber_0, if_neg h4, eX9_atNumber_8, e1]
      simp only [Option.bind_some, Option.toList_some, Option.toList_none, List.nil_append, List.cons_append, q_ck_tt, Bool.and_true, Bool.true_and, if_true, if_false, reduceCtorEq]
      rw [eX9_atNumber_13]
      rfl
    · rw [bX12_numberHere, eX12_numberHere_0, h.ok, if_neg (by decide), eX12_numberHere_9, if_neg (fun g => h4 (h.num.1.mpr g)), eX12_numberHere_17, e2]
      simp only [Option.bind_some, Option.toList_some, Option.toList_none, List.nil_append, List.cons_append, q_ck_tt, Bool.and_true, Bool.true_and, if_true, if_false, reduceCtorEq]
      rw [eX12_numberHere_22, eX12_numberHere_46]
theorem fX12_numberHere_f (hf : (0 : Int32) < R 64 2) (a b : Int32) : mX12_numberHere [.ref 64, .int a, .int b] (qm R K e) = some (some (.int 0), qm R K e) := by
  rw [bX12_numberHere, eX12_numberHere_0, if_pos hf, eX12_numberHere_7]
theorem q_pos_ne {x : Int32} (h : (0 : Int32) < x) : x ≠ 0 := fun g => by rw [g] at h; exact absurd h (by decide)
theorem fX12_told_ok {a b x : Int32} {R' : Nat → Nat → Int32} {K' : Nat → Nat → Int64} (h0 : R 64 2 = 0) (hn : mX12_numberHere [.ref 64, .int a, .int b] (qm R K e) = some (some (.int x), qm R K e)) (ht : mX12_token [.ref 64] (qm R K e) = some (none, qm R' K' e)) : mX12_toldNumber [.ref 64, .int a, .int b] (qm R K e) = some (some (.int x), qm R' K' e) := by
  rw [bX12_toldNumber, eX12_toldNumber_0, hn]
  simp only [Option.bind_some, Option.toList_some, Option.toList_none, List.nil_append, List.cons_append, q_ck_tt, Bool.and_true, Bool.true_and, if_true, if_false, reduceCtorEq]
  rw [eX12_toldNumber_6, if_pos h0, eX12_toldNumber_14, ht]
  simp only [Option.bind_some, Option.toList_some, Option.toList_none, List.nil_append, List.cons_append, q_ck_tt, Bool.and_true, Bool.true_and, if_true, if_false, reduceCtorEq]
  rw [eX12_toldNumber_18v1]
theorem fX12_told_bad {a b x : Int32} {R' : Nat → Nat → Int32} (hn : mX12_numberHere [.ref 64, .int a, .int b] (qm R K e) = some (some (.int x), qm R' K e)) (hf : (0 : Int32) < R' 64 2) : mX12_toldNumber [.ref 64, .int a, .int b] (qm R K e) = some (some (.int x), qm R' K e) := by
  rw [bX12_toldNumber, eX12_toldNumber_0, hn]
  simp only [Option.bind_some, Option.toList_some, Option.toList_none, List.nil_append, List.cons_append, q_ck_tt, Bool.and_true, Bool.true_and, if_true, if_false, reduceCtorEq]
  rw [eX12_toldNumber_6, if_neg (q_pos_ne hf), eX12_toldNumber_18]
theorem fX12_toldNumber_f (hf : (0 : Int32) < R 64 2) (a b : Int32) : mX12_toldNumber [.ref 64, .int a, .int b] (qm R K e) = some (some (.int 0), qm R K e) := fX12_told_bad (fX12_numberHere_f hf a b) hf
theorem fX12_toldBy_of {a b x : Int32} {w : Int64} {R1 R' : Nat → Nat → Int32} {K1 K' : Nat → Nat → Int64} (hw : mX12_want [.ref 64, .long w] (qm R K e) = some (none, qm R1 K1 e)) (hn : mX12_toldNumber [.ref 64, .int a, .int b] (qm R1 K1 e) = some (some (.int x), qm R' K' e)) : mX12_toldBy [.ref 64, .long w, .int a, .int b] (qm R K e) = some (some (.int x), qm R' K' e) := by
  rw [bX12_toldBy, eX12_toldBy_0, hw]
  simp only [Option.bind_some, Option.toList_some, Option.toList_none, List.nil_append, List.cons_append, q_ck_tt, Bool.and_true, Bool.true_and, if_true, if_false, reduceCtorEq]
  rw [eX12_toldBy_5, hn]
  simp only [Option.bind_some, Option.toList_some, Option.toList_none, List.nil_append, List.cons_append, q_ck_tt, Bool.and_true, Bool.true_and, if_true, if_false, reduceCtorEq]
  rw [eX12_toldBy_12]
theorem fX12_toldBy_f (hf : (0 : Int32) < R 64 2) (w : Int64) (a b : Int32) : mX12_toldBy [.ref 64, .long w, .int a, .int b] (qm R K e) = some (some (.int 0), qm R K e) := fX12_toldBy_of (fX12_want_f hf w) (fX12_toldNumber_f hf a b)
/-- a key word and a number behind it -/
theorem q_tNum (h : q_Pt v n C J R K s) {k : Nat} (hk : k < 21) {c : Int32} {w : Int64} (hc : c = nI k) (hw : w = qKW k) (a b : Int32) :
    (∃ (C1 : Nat → Nat → Int32) (J1 : Nat → Nat → Int64) (R1 : Nat → Nat → Int32) (K1 : Nat → Nat → Int64) (s1 m : Nat), mX9_takeKey [.ref 31, .int c] (qm C J (3, 17, 17, 2, L)) = some (some (.int 1), qm C1 J1 (3, 17, 17, 2, L)) ∧ mX9_advance [.ref 31] (qm C J (3, 17, 17, 2, L)) = some (none, qm C1 J1 (3, 17, 17, 2, L)) ∧ mX9_atNumber [.ref 31, .int a, .int b] (qm C1 J1 (3, 17, 17, 2, L)) = some (some (.int 1), qm C1 J1 (3, 17, 17, 2, L)) ∧
      (∀ R2 K2, mX12_token [.ref 64] (qm R1 K1 e) = some (none, qm R2 K2 e) → mX12_toldBy [.ref 64, .long w, .int a, .int b] (qm R K e) = some (some (.int (nI m)), qm R2 K2 e)) ∧ (m ≤ 9999 ∧ C1 31 5 = 4 ∧ C1 31 6 = nI m ∧ ¬ nI m < a ∧ ¬ b < nI m) ∧ q_Ad C J R K C1 J1 R1 K1 ∧ s < s1 ∧ q_Pt v n C1 J1 R1 K1 s1) ∨
    (∃ (C' R' : Nat → Nat → Int32) (x : Int32), mX9_takeKey [.ref 31, .int c] (qm C J (3, 17, 17, 2, L)) = some (some (.int 0), qm C' J (3, 17, 17, 2, L)) ∧ ¬ (C 31 5 = 2 ∧ C 31 6 = nI k) ∧ mX12_toldBy [.ref 64, .long w, .int a, .int b] (qm R K e) = some (some (.int x), qm R' K e) ∧ q_Fl C' R' ∧ q_Gb C J R K C' J R' K) ∨
    (∃ (C1 : Nat → Nat → Int32) (J1 : Nat → Nat → Int64) (C' R' : Nat → Nat → Int32) (K' : Nat → Nat → Int64) (x : Int32), mX9_takeKey [.ref 31, .int c] (qm C J (3, 17, 17, 2, L)) = some (some (.int 1), qm C1 J1 (3, 17, 17, 2, L)) ∧ mX9_advance [.ref 31] (qm C J (3, 17, 17, 2, L)) = some (none, qm C1 J1 (3, 17, 17, 2, L)) ∧ mX9_atNumber [.ref 31, .int a, .int b] (qm C1 J1 (3, 17, 17, 2, L)) = some (some (.int 0), qm C' J1 (3, 17, 17, 2, L)) ∧
      mX12_toldBy [.ref 64, .long w, .int a, .int b] (qm R K e) = some (some (.int x), qm R' K' e) ∧ q_Fl C' R' ∧ q_Gb C J R K C' J1 R' K') := by
  rcases q_tkKey (L := L) (e := e) h hk hc hw with ⟨-, -, C1, J1, R1, K1, s1, e1, e2, e3, e4, e5, e6⟩ | ⟨C', R', e1, e2, e3, e4, e5⟩
  · rcases q_numb (L := L) (e := e) e6 a b with ⟨m, m1, m2, m3, m4, m5, m6, m7, m8⟩ | ⟨C', R', x, x1, x2, x3, x4⟩
    · exact Or.inl ⟨C1, J1, R1, K1, s1, m, e1, e2, m7, fun R2 K2 ht => fX12_toldBy_of e3 (fX12_told_ok e6.ok m8 ht), ⟨m1, m2, m3, m5, m6⟩, e4, e5, e6⟩
    · exact Or.inr (Or.inr ⟨C1, J1, C', R', K1, x, e1, e2, x1, fX12_toldBy_of e3 (fX12_told_bad x2 x3.2.1), x3, q_Gb_ad e4 x4⟩)
  · exact Or.inr (Or.inl ⟨C', R', 0, e1, e5, fX12_toldBy_of e2 (fX12_toldNumber_f e3.2.1 a b), e3, e4⟩)
theorem q_tkSign (h : q_Pt v n C J R K s) {k : Nat} (hk : k < 256) (hs : qSn k = true) {a : Int32} (ha : a = nI k) :
    (C 31 5 = 5 ∧ C 31 6 = a ∧ R 64 6 = a ∧ ∃ (C' : Nat → Nat → Int32) (J' : Nat → Nat → Int64) (R' : Nat → Nat → Int32) (K' : Nat → Nat → Int64) (s' : Nat), mX9_takeSign [.ref 31, .int a] (qm C J (3, 17, 17, 2, L)) = some (some (.int 1), qm C' J' (3, 17, 17, 2, L)) ∧ mX12_token [.ref 64] (qm R K e) = some (none, qm R' K' e) ∧ q_Ad C J R K C' J' R' K' ∧ s < s' ∧ q_Pt v n C' J' R' K' s') ∨
    (R 64 6 ≠ a ∧ ∃ (C' R' : Nat → Nat → Int32), mX9_takeSign [.ref 31, .int a] (qm C J (3, 17, 17, 2, L)) = some (some (.int 0), qm C' J (3, 17, 17, 2, L)) ∧ mX12_wrong [.ref 64, .int 2] (qm R K e) = some (none, qm R' K e) ∧ q_Fl C' R' ∧ q_Gb C J R K C' J R' K) := by
  subst ha
  have hsg := h.sgn hk hs
  cases hb : (decide (C 31 5 = 5) && decide (C 31 6 = nI k)) with
  | true =>
    have hb' : C 31 5 = 5 ∧ C 31 6 = nI k := by simpa using hb
    obtain ⟨C', J', R', K', s', e1, e2, e3, e4, e5⟩ := q_adv (L := L) (e := e) h (by rw [hb'.1]; decide) (by rw [hb'.1]; decide)
    refine Or.inl ⟨hb'.1, hb'.2, by rw [hb] at hsg; exact of_decide_eq_true hsg, C', J', R', K', s', ?_, e2, e3, e4, e5⟩
    rw [bX9_takeSign, eX9_takeSign_0, fX9_atSign, hb]
    simp only [Option.bind_some, Option.toList_some, Option.toList_none, List.nil_append, List.cons_append, q_ck_tt, Bool.and_true, Bool.true_and, if_true, if_false, reduceCtorEq]
    rw [eX9_takeSign_5, if_neg (by decide), eX9_takeSign_14, e1]
    simp only [Option.bind_some, Option.toList_some, Option.toList_none, List.nil_append, List.cons_append, q_ck_tt, Bool.and_true, Bool.true_and, if_true, if_false, reduceCtorEq]
    rw [eX9_takeSign_18]
  | false =>
    obtain ⟨C', R', e1, e2, e3, e4, _, _⟩ := q_refw L e h 2 (by decide)
    refine Or.inr ⟨by rw [hb] at hsg; exact of_decide_eq_false hsg, C', R', ?_, e2, e3, e4⟩
    rw [bX9_takeSign, eX9_takeSign_0, fX9_atSign, hb]
    simp only [Option.bind_some, Option.toList_some, Option.toList_none, List.nil_append, List.cons_append, q_ck_tt, Bool.and_true, Bool.true_and, if_true, if_false, reduceCtorEq]
    rw [eX9_takeSign_5, if_pos (by decide), eX9_takeSign_8, e1]
    simp only [Option.bind_some, Option.toList_some, Option.toList_none, List.nil_append, List.cons_append, q_ck_tt, Bool.and_true, Bool.true_and, if_true, if_false, reduceCtorEq]
    rw [eX9_takeSign_13]
    rfl
end ST
