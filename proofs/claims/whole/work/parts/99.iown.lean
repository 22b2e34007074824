/-! ===== key words, names ===== -/
def qow (w : Int64) : Bool := decide (w = 110386941092709) || (decide (w = 26994) || (decide (w = 26980) || (decide (w = 426903366771) || (decide (w = 7234932) || (decide (w = 1718775661) || (decide (w = 6385252) || (decide (w = 29807) || (decide (w = 1935763045) || (decide (w = 495673373300) || (decide (w = 7106423) || (decide (w = 1751738216) || (decide (w = 1869636974) || (decide (w = 495875089259) || (decide (w = 112615911158899) || (decide (w = 474315584357) || (decide (w = 1685217655) || (decide (w = 1667591276) || (decide (w = 427021001579) || (decide (w = 28530) || (decide (w = 7237492)))))))))))))))))))))
theorem qow_k : ∀ k, k < 21 → qow (qKW k) = true := by decide +kernel
theorem qow_n {w : Int64} (h : ∀ k, k < 21 → w ≠ qKW k) : qow w = false := by
  have h0 : ¬ w = 110386941092709 := fun g => h 0 (by decide) (g.trans (by decide +kernel))
  have h1 : ¬ w = 26994 := fun g => h 1 (by decide) (g.trans (by decide +kernel))
  have h2 : ¬ w = 26980 := fun g => h 2 (by decide) (g.trans (by decide +kernel))
  have h3 : ¬ w = 426903366771 := fun g => h 3 (by decide) (g.trans (by decide +kernel))
  have h4 : ¬ w = 7234932 := fun g => h 4 (by decide) (g.trans (by decide +kernel))
  have h5 : ¬ w = 1718775661 := fun g => h 5 (by decide) (g.trans (by decide +kernel))
  have h6 : ¬ w = 6385252 := fun g => h 6 (by decide) (g.trans (by decide +kernel))
  have h7 : ¬ w = 29807 := fun g => h 7 (by decide) (g.trans (by decide +kernel))
  have h8 : ¬ w = 1935763045 := fun g => h 8 (by decide) (g.trans (by decide +kernel))
  have h9 : ¬ w = 495673373300 := fun g => h 9 (by decide) (g.trans (by decide +kernel))
  have h10 : ¬ w = 7106423 := fun g => h 10 (by decide) (g.trans (by decide +kernel))
  have h11 : ¬ w = 1751738216 := fun g => h 11 (by decide) (g.trans (by decide +kernel))
  have h12 : ¬ w = 1869636974 := fun g => h 12 (by decide) (g.trans (by decide +kernel))
  have h13 : ¬ w = 495875089259 := fun g => h 13 (by decide) (g.trans (by decide +kernel))
  have h14 : ¬ w = 112615911158899 := fun g => h 14 (by decide) (g.trans (by decide +kernel))
  have h15 : ¬ w = 474315584357 := fun g => h 15 (by decide) (g.trans (by decide +kernel))
  have h16 : ¬ w = 1685217655 := fun g => h 16 (by decide) (g.trans (by decide +kernel))
  have h19 : ¬ w = 1667591276 := fun g => h 19 (by decide) (g.trans (by decide +kernel))
  have h20 : ¬ w = 427021001579 := fun g => h 20 (by decide) (g.trans (by decide +kernel))
  have h17 : ¬ w = 28530 := fun g => h 17 (by decide) (g.trans (by decide +kernel))
  have h18 : ¬ w = 7237492 := fun g => h 18 (by decide) (g.trans (by decide +kernel))
  unfold qow
  rw [decide_eq_false h0, decide_eq_false h1, decide_eq_false h2, decide_eq_false h3, decide_eq_false h4, decide_eq_false h5, decide_eq_false h6, decide_eq_false h7, decide_eq_false h8, decide_eq_false h9, decide_eq_false h10, decide_eq_false h11, decide_eq_false h12, decide_eq_false h13, decide_eq_false h14, decide_eq_false h15, decide_eq_false h16, decide_eq_false h19, decide_eq_false h20, decide_eq_false h17, decide_eq_false h18]
  rfl
theorem fX12_isOwn (R : Nat → Nat → Int32) (K : Nat → Nat → Int64) (e : QP) : mX12_isOwn [.ref 64] (qm R K e) = some (some (.int (qb (qow (K 64 9)))), qm R K e) := by
  have h1 : kX12_isOwn 231 [none] [] (qm R K e) = some (some (.int (qb true)), qm R K e) := by rw [eX12_isOwn_231, eX12_isOwn_236]; rfl
  have h0 : kX12_isOwn 235 [none] [] (qm R K e) = some (some (.int (qb false)), qm R K e) := by rw [eX12_isOwn_235, eX12_isOwn_236]; rfl
  have hor : ∀ (c : Int64) (b : Bool) (x : Option QR), x = some (some (.int (qb b)), qm R K e) → (if lg_cmp (K 64 9) c = 0 then kX12_isOwn 231 [none] [] (qm R K e) else x) = some (some (.int (qb (decide (K 64 9 = c) || b))), qm R K e) := by
    intro c b x hx
    by_cases g : K 64 9 = c
    · rw [if_pos ((q_lcm _ _).mpr g), h1, decide_eq_true g, Bool.true_or]
    · rw [if_neg (fun y => g ((q_lcm _ _).mp y)), hx, decide_eq_false g, Bool.false_or]
  unfold qow
  rw [bX12_isOwn]
  rw [eX12_isOwn_0]
  refine hor _ _ _ ?_
  rw [eX12_isOwn_11]
  refine hor _ _ _ ?_
  rw [eX12_isOwn_22]
  refine hor _ _ _ ?_
  rw [eX12_isOwn_33]
  refine hor _ _ _ ?_
  rw [eX12_isOwn_44]
  refine hor _ _ _ ?_
  rw [eX12_isOwn_55]
  refine hor _ _ _ ?_
  rw [eX12_isOwn_66]
  refine hor _ _ _ ?_
  rw [eX12_isOwn_77]
  refine hor _ _ _ ?_
  rw [eX12_isOwn_88]
  refine hor _ _ _ ?_
  rw [eX12_isOwn_99]
  refine hor _ _ _ ?_
  rw [eX12_isOwn_110]
  refine hor _ _ _ ?_
  rw [eX12_isOwn_121]
  refine hor _ _ _ ?_
  rw [eX12_isOwn_132]
  refine hor _ _ _ ?_
  rw [eX12_isOwn_143]
  refine hor _ _ _ ?_
  rw [eX12_isOwn_154]
  refine hor _ _ _ ?_
  rw [eX12_isOwn_165]
  refine hor _ _ _ ?_
  rw [eX12_isOwn_176]
  refine hor _ _ _ ?_
  rw [eX12_isOwn_187]
  refine hor _ _ _ ?_
  rw [eX12_isOwn_198]
  refine hor _ _ _ ?_
  rw [eX12_isOwn_209]
  refine hor _ _ _ ?_
  rw [eX12_isOwn_220]
  by_cases g : K 64 9 = 7237492
  · rw [if_pos ((q_lcm _ _).mpr g), h1, decide_eq_true g]
  · rw [if_neg (fun y => g ((q_lcm _ _).mp y)), h0, decide_eq_false g]
theorem fX12_isName (R : Nat → Nat → Int32) (K : Nat → Nat → Int64) (e : QP) : mX12_isName [.ref 64] (qm R K e) = some (some (.int (qb (decide (R 64 6 = 1) && !qow (K 64 9)))), qm R K e) := by
  rw [bX12_isName, eX12_isName_0]
  by_cases h : R 64 6 = 1
  · rw [if_pos h, eX12_isName_8, fX12_isOwn, decide_eq_true h]
    simp only [Option.bind_some, Option.toList_some, Option.toList_none, List.nil_append, List.cons_append, q_ck_tt, Bool.and_true, Bool.true_and, if_true, if_false, reduceCtorEq]
    rw [eX12_isName_12]
    cases qow (K 64 9) with
    | true => rw [if_neg (by decide), eX12_isName_19, eX12_isName_20]; rfl
    | false => rw [if_pos (by decide), eX12_isName_15, eX12_isName_20]; rfl
  · rw [if_neg h, eX12_isName_19, eX12_isName_20, decide_eq_false h]; rfl
theorem q_Pt.nam {v : Nat → Nat} {n s : Nat} {C : Nat → Nat → Int32} {J : Nat → Nat → Int64} {R : Nat → Nat → Int32} {K : Nat → Nat → Int64} (h : q_Pt v n C J R K s) : (decide (R 64 6 = 1) && !qow (K 64 9)) = decide (C 31 5 = 3) := by
  rcases h.tk with ⟨a, b⟩ | ⟨a, b⟩ | ⟨a, b, j, j1, j2, j3⟩ | ⟨a, b, c, _⟩ | ⟨a, b, _⟩ | ⟨a, m, m1, m2, _, b⟩
  · rw [a, b]; rfl
  · rw [a, b]; rfl
  · rw [a, b, j3, qow_k j j1]; rfl
  · rw [a, b, qow_n c]; rfl
  · rw [a, b]; rfl
  · rw [a, b, decide_eq_false (q_sg3 m m1 m2).2.2.1]; rfl
theorem q_Pt.wd {v : Nat → Nat} {n s : Nat} {C : Nat → Nat → Int32} {J : Nat → Nat → Int64} {R : Nat → Nat → Int32} {K : Nat → Nat → Int64} (h : q_Pt v n C J R K s) (h3 : C 31 5 = 3) : q_Wd (J 31 7) (K 64 9) := by
  rcases h.tk with ⟨a, b⟩ | ⟨a, b⟩ | ⟨a, b, _⟩ | ⟨a, b, c, d⟩ | ⟨a, b, _⟩ | ⟨a, _⟩
  · rw [a] at h3; exact absurd h3 (by decide)
  · rw [a] at h3; exact absurd h3 (by decide)
  · rw [a] at h3; exact absurd h3 (by decide)
  · exact d
  · rw [a] at h3; exact absurd h3 (by decide)
  · rw [a] at h3; exact absurd h3 (by decide)
