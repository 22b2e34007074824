/-! ===== the formula: levels ===== -/
def q_Tn (l : Nat) (x : Int32) (P : List Int32) : Prop := x = 0 ∨ qti x < l ∨ (qti x = 4 ∧ l ≤ 4 ∧ qhr P = true)
theorem qhr_app {S : List Int32} : ∀ {P : List Int32}, qhr P = true → qhr (P ++ S) = true := by
  intro P
  induction P with
  | nil => intro h; cases h
  | cons x P ih =>
    intro h
    show (if x = 20 then false else if 4 < qti x then qhr (P ++ S) else decide (qti x = 4)) = true
    have h' : (if x = 20 then false else if 4 < qti x then qhr P else decide (qti x = 4)) = true := h
    by_cases g : x = 20
    · rw [if_pos g] at h'; cases h'
    · rw [if_neg g] at h' ⊢
      by_cases g4 : 4 < qti x
      · rw [if_pos g4] at h' ⊢; exact ih h'
      · rw [if_neg g4] at h' ⊢; exact h'
theorem qhr_high {S : List Int32} : ∀ {P : List Int32}, (∀ x ∈ P, 5 ≤ qti x ∧ x ≠ 20) → qhr (P ++ S) = qhr S := by
  intro P
  induction P with
  | nil => intro _; rfl
  | cons x P ih =>
    intro h
    obtain ⟨h1, h2⟩ := h x List.mem_cons_self
    show (if x = 20 then false else if 4 < qti x then qhr (P ++ S) else decide (qti x = 4)) = qhr S
    rw [if_neg h2, if_pos (by omega), ih (fun y hy => h y (List.mem_cons_of_mem _ hy))]
theorem q_Tn_app {l : Nat} {x : Int32} {P Q : List Int32} (h : q_Tn l x P) : q_Tn l x (P ++ Q) := by
  rcases h with h | h | ⟨a, b, c⟩
  · exact Or.inl h
  · exact Or.inr (Or.inl h)
  · exact Or.inr (Or.inr ⟨a, b, qhr_app c⟩)
theorem q_Top_mono {S : List Int32} {t t' : Nat} (h : q_Top S t) (ht : t ≤ t') : q_Top S t' := by
  rcases h with h | ⟨x, S1, h, g⟩
  · exact Or.inl h
  · refine Or.inr ⟨x, S1, h, ?_⟩
    rcases g with g | g
    · exact Or.inl g
    · exact Or.inr (by omega)
/-- what a level of the formula gives -/
def q_Lv (l d w : Nat) (v : Nat → Nat) (n L : Nat) (e : QP) (s : Nat) (C : Nat → Nat → Int32) (J : Nat → Nat → Int64) (R : Nat → Nat → Int32) (K : Nat → Nat → Int64) (S : List Int32) (r u dp : Nat) (x y : Option QR) : Prop :=
  (∃ (C' : Nat → Nat → Int32) (J' : Nat → Nat → Int64) (R' : Nat → Nat → Int32) (K' : Nat → Nat → Int64) (s' : Nat) (P : List Int32) (r' u' : Nat), x = some (some (.int 1), qm C' J' (3, 17, 17, 2, L)) ∧ y = q_H e R' K' ∧ q_Gx C J R K C' J' R' K' ∧ s < s' ∧ q_Fs v n C' J' R' K' s' S P r' u' w (dp + 1) ∧ (∀ z ∈ P, l ≤ qti z ∧ z ≠ 20) ∧ q_Tn l (qsg (C' 31 5) (C' 31 6)) P ∧ P.length ≤ d ∧ r' + P.length + 1 + w + 9 * u ≤ r + 9 * u') ∨ q_Bad L e C J R K x y
def q_Sx (l : Nat) (f : List Value → QM → Option QR) (d : Nat) : Prop := ∀ (v : Nat → Nat) (n s L : Nat) (C : Nat → Nat → Int32) (J : Nat → Nat → Int64) (R : Nat → Nat → Int32) (K : Nat → Nat → Int64) (e : QP) (S : List Int32) (r u w dp : Nat) (c : QR → Option QR), (∀ R K, c (none, qm R K e) = q_H e R K) → q_Fs v n C J R K s S [] r u w dp → S.length + d ≤ 80 → w ≤ 7 → 7 * (7 - w) + 8 ≤ d + l → q_Top S (if l = 3 then 4 else l) → (4 ≤ l → qmn S = false ∨ ¬ (C 31 5 = 2 ∧ C 31 6 = 18)) →
  q_Lv l d w v n L e s C J R K S r u dp (f [.ref 31, .int (nI w)] (qm C J (3, 17, 17, 2, L))) ((kX12_unit 2 [some (.ref 64), some (.int 1), none] [] (qm R K e)).bind c)
def qcx (x : Int32) : Int32 := if x = 38 then -7 else if x = 124 then -6 else -x
theorem q_sgv {v : Nat → Nat} {n s : Nat} {C : Nat → Nat → Int32} {J : Nat → Nat → Int64} {R : Nat → Nat → Int32} {K : Nat → Nat → Int64} (h : q_Pt v n C J R K s) (h0 : qsg (C 31 5) (C 31 6) ≠ 0) : (qsg (C 31 5) (C 31 6), qcx (qsg (C 31 5) (C 31 6))) ∈ qSg ∧ (C 31 5 ≠ 0 ∧ C 31 5 ≠ 1) ∧ qti (qsg (C 31 5) (C 31 6)) ≠ 3 := by
  rcases q_sgc h with g | ⟨g, g2, -⟩ | ⟨g, g2, -⟩ | ⟨g2, g, g3⟩
  · exact absurd g h0
  · rw [g, g2]; decide
  · rw [g, g2]; decide
  · rw [g, g2]
    rcases g3 with g | g | g | g | g | g | g | g <;> rw [g] <;> decide
theorem q_Pt.lt {v : Nat → Nat} {n s : Nat} {C : Nat → Nat → Int32} {J : Nat → Nat → Int64} {R : Nat → Nat → Int32} {K : Nat → Nat → Int64} (h : q_Pt v n C J R K s) (h0 : C 31 5 ≠ 0) (h1 : C 31 5 ≠ 1) : s < n ∧ n ≤ 1600 := by
  obtain ⟨p, p1, -, -, -, p5⟩ := h.2.2.2.2.2.2.2.1 h1
  exact ⟨Nat.lt_of_lt_of_le (p5 h0) p1, h.1.1⟩
theorem q_Bad.mono {L : Nat} {e : QP} {C : Nat → Nat → Int32} {J : Nat → Nat → Int64} {R : Nat → Nat → Int32} {K : Nat → Nat → Int64} {C1 : Nat → Nat → Int32} {J1 : Nat → Nat → Int64} {R1 : Nat → Nat → Int32} {K1 : Nat → Nat → Int64} {x y : Option QR} (h : q_Bad L e C1 J1 R1 K1 x y) (g : q_Gf C J R K C1 J1 R1 K1) : q_Bad L e C J R K x y := by
  obtain ⟨C', J', R', K', e1, e2, e3, e4⟩ := h
  exact ⟨C', J', R', K', e1, e2, q_Gf_trans g e3, e4⟩
/-- parts of one level, one behind the other -/
theorem q_loop {l d w : Nat} {g : List Value → QM → Option QR} (hg : q_Sx (l + 1) g d) (hl : l = 1 ∨ l = 2 ∨ l = 5 ∨ l = 6) {v : Nat → Nat} {n L : Nat} {e : QP} {Lp : Nat → (Nat → Nat → Int32) → (Nat → Nat → Int64) → Option QR}
    (H1 : ∀ (a : Nat) (C : Nat → Nat → Int32) (J : Nat → Nat → Int64) (R : Nat → Nat → Int32) (K : Nat → Nat → Int64) (s : Nat), a ≤ 1600 → q_Pt v n C J R K s → ¬ (qsg (C 31 5) (C 31 6) ≠ 0 ∧ qti (qsg (C 31 5) (C 31 6)) = l) → Lp a C J = some (some (.int 1), qm C J (3, 17, 17, 2, L)))
    (H2 : ∀ (a : Nat) (C : Nat → Nat → Int32) (J : Nat → Nat → Int64) (R : Nat → Nat → Int32) (K : Nat → Nat → Int64) (s : Nat) (C1 : Nat → Nat → Int32) (J1 : Nat → Nat → Int64) (C2 : Nat → Nat → Int32) (J2 : Nat → Nat → Int64), a < 1600 → q_Pt v n C J R K s → qsg (C 31 5) (C 31 6) ≠ 0 → qti (qsg (C 31 5) (C 31 6)) = l → mX9_advance [.ref 31] (qm C J (3, 17, 17, 2, L)) = some (none, qm C1 J1 (3, 17, 17, 2, L)) → g [.ref 31, .int (nI w)] (qm C1 J1 (3, 17, 17, 2, L)) = some (some (.int 0), qm C2 J2 (3, 17, 17, 2, L)) → Lp a C J = some (some (.int 0), qm C2 J2 (3, 17, 17, 2, L)))
    (H3 : ∀ (a : Nat) (C : Nat → Nat → Int32) (J : Nat → Nat → Int64) (R : Nat → Nat → Int32) (K : Nat → Nat → Int64) (s : Nat) (C1 : Nat → Nat → Int32) (J1 : Nat → Nat → Int64) (C2 : Nat → Nat → Int32) (J2 : Nat → Nat → Int64) (C3 : Nat → Nat → Int32) (J3 : Nat → Nat → Int64), a < 1600 → q_Pt v n C J R K s → qsg (C 31 5) (C 31 6) ≠ 0 → qti (qsg (C 31 5) (C 31 6)) = l → mX9_advance [.ref 31] (qm C J (3, 17, 17, 2, L)) = some (none, qm C1 J1 (3, 17, 17, 2, L)) → g [.ref 31, .int (nI w)] (qm C1 J1 (3, 17, 17, 2, L)) = some (some (.int 1), qm C2 J2 (3, 17, 17, 2, L)) → mX4_put [.ref 28, .int (qcx (qsg (C 31 5) (C 31 6)))] (qm C2 J2 (3, 17, 17, 2, L)) = some (none, qm C3 J3 (3, 17, 17, 2, L)) → Lp a C J = Lp (a + 1) C3 J3)
    {S : List Int32} (hS : q_Top S l) (hlen : S.length + (d + 1) ≤ 80) (hw : w ≤ 7) (hn : 7 * (7 - w) + 8 ≤ d + (l + 1)) {dp r0 u0 : Nat} :
    ∀ (m a s : Nat) (C : Nat → Nat → Int32) (J : Nat → Nat → Int64) (R : Nat → Nat → Int32) (K : Nat → Nat → Int64) (P : List Int32) (r u : Nat), n - s ≤ m → a ≤ s → s ≤ n → q_Fs v n C J R K s S P r u w (dp + 1) → (∀ z ∈ P, l ≤ qti z ∧ z ≠ 20) → q_Tn (l + 1) (qsg (C 31 5) (C 31 6)) P → P.length ≤ d + 1 → r + P.length + 1 + w + 9 * u0 ≤ r0 + 9 * u →
      (∃ (C' : Nat → Nat → Int32) (J' : Nat → Nat → Int64) (R' : Nat → Nat → Int32) (K' : Nat → Nat → Int64) (s' : Nat) (P' : List Int32) (r' u' : Nat), Lp a C J = some (some (.int 1), qm C' J' (3, 17, 17, 2, L)) ∧ q_H e R K = q_H e R' K' ∧ q_Gx C J R K C' J' R' K' ∧ s ≤ s' ∧ q_Fs v n C' J' R' K' s' S P' r' u' w (dp + 1) ∧ (∀ z ∈ P', l ≤ qti z ∧ z ≠ 20) ∧ q_Tn l (qsg (C' 31 5) (C' 31 6)) P' ∧ P'.length ≤ d + 1 ∧ r' + P'.length + 1 + w + 9 * u0 ≤ r0 + 9 * u') ∨ q_Bad L e C J R K (Lp a C J) (q_H e R K) := by
  intro m
  induction m with
  | zero =>
    intro a s C J R K P r u hm ha hsn hF hP hT hPl hsz
    have hp := hF.pt
    have hno : ¬ (qsg (C 31 5) (C 31 6) ≠ 0 ∧ qti (qsg (C 31 5) (C 31 6)) = l) := fun g => by
      obtain ⟨-, ⟨x, y⟩, -⟩ := q_sgv hp g.1
      have := hp.lt x y
      omega
    refine Or.inl ⟨C, J, R, K, s, P, r, u, H1 a C J R K s (by have := hp.1.1; omega) hp hno, rfl, q_Gx_refl C J R K, Nat.le_refl _, hF, hP, ?_, hPl, hsz⟩
    rcases hT with x | x | ⟨x, y, z⟩
    · exact Or.inl x
    · by_cases h0 : qsg (C 31 5) (C 31 6) = 0
      · exact Or.inl h0
      · refine Or.inr (Or.inl ?_)
        have : qti (qsg (C 31 5) (C 31 6)) ≠ l := fun y => hno ⟨h0, y⟩
        omega
    · exact Or.inr (Or.inr ⟨x, by omega, z⟩)
  | succ m ih =>
    intro a s C J R K P r u hm ha hsn hF hP hT hPl hsz
    have hp := hF.pt
    by_cases hop : qsg (C 31 5) (C 31 6) ≠ 0 ∧ qti (qsg (C 31 5) (C 31 6)) = l
    · obtain ⟨h0, ht⟩ := hop
      obtain ⟨hmem, ⟨x5, y5⟩, -⟩ := q_sgv hp h0
      have hlt := hp.lt x5 y5
      have ha' : a < 1600 := by omega
      have hbl : (P ++ S).length < 160 := by rw [List.length_append]; omega
      obtain ⟨-, hne21, hne20⟩ := q_sgO hmem
      obtain ⟨C1, J1, R1, K1, s1, c, b1, b2, b3, b4, b5, b6⟩ := q_op (L := L) e hF _ rfl h0 (by rw [ht]; exact hS) (fun y hy => by rw [ht]; exact hP y hy) (fun g => by omega) hbl (by omega)
      generalize hx : qsg (C 31 5) (C 31 6) = x at *
      have hS1 : q_Top (x :: S) (if l + 1 = 3 then 4 else l + 1) := Or.inr ⟨x, S, rfl, Or.inr (by rw [ht]; split <;> omega)⟩
      have hmn : 4 ≤ l + 1 → qmn (x :: S) = false ∨ ¬ (C1 31 5 = 2 ∧ C1 31 6 = 18) := fun g => Or.inl (by
        show (decide (x = 20) || decide (qti x < 4)) = false
        rw [decide_eq_false hne20, decide_eq_false (show ¬ qti x < 4 by omega)]; rfl)
      have hlv := hg v n s1 L C1 J1 R1 K1 e (x :: S) (r + P.length) u w (dp + 1) c b2 b6 (by rw [List.length_cons]; omega) hw hn hS1 hmn
      rcases hlv with ⟨C2, J2, R2, K2, s2, P2, r2, u2, c1, c2, c3, c4, c5, c6, c7, c8, c9⟩ | ⟨C2, J2, R2, K2, c1, c2, c3, c4⟩
      · have hru := b6.2.2.2.2.2.2
        rw [List.length_nil, Nat.add_zero] at hru
        obtain ⟨C3, d1, d2, d3, d4⟩ := q_put (L := L) hmem c5 (by omega)
        have hlp := H3 a C J R K s C1 J1 C2 J2 C3 J2 ha' hp (by rw [hx]; exact h0) (by rw [hx]; exact ht) b1 c1 (by rw [hx]; exact d1)
        have hle : (P2 ++ [x]).length = P2.length + 1 := by rw [List.length_append]; rfl
        have hnx := ih (a + 1) s2 C3 J2 R2 K2 (P2 ++ [x]) r2 u2 (by omega) (by omega) (d4.pt.2.2.2.2.2.1) d4 (fun z hz => by
          rcases List.mem_append.mp hz with hz | hz
          · have := c6 z hz; exact ⟨by omega, this.2⟩
          · rw [List.mem_singleton.mp hz]; exact ⟨by omega, hne20⟩) (by rw [d3]; exact q_Tn_app c7) (by omega) (by omega)
        have gx : q_Gx C J R K C3 J2 R2 K2 := q_Gx_trans b4 (q_Gx_trans c3 d2)
        rw [hlp, b3, c2]
        rcases hnx with ⟨C', J', R', K', s', P', r', u', e1, e2, e3, e4, e5, e6, e7, e8, e9⟩ | hbad
        · exact Or.inl ⟨C', J', R', K', s', P', r', u', e1, e2, q_Gx_trans gx e3, by omega, e5, e6, e7, e8, e9⟩
        · exact Or.inr (hbad.mono gx.gf)
      · have hlp := H2 a C J R K s C1 J1 C2 J2 ha' hp (by rw [hx]; exact h0) (by rw [hx]; exact ht) b1 c1
        refine Or.inr ⟨C2, J2, R2, K2, hlp, by rw [b3]; exact c2, q_Gf_trans b4.gf c3, c4⟩
    · refine Or.inl ⟨C, J, R, K, s, P, r, u, H1 a C J R K s (by have := hp.1.1; omega) hp hop, rfl, q_Gx_refl C J R K, Nat.le_refl _, hF, hP, ?_, hPl, hsz⟩
      rcases hT with x | x | ⟨x, y, z⟩
      · exact Or.inl x
      · by_cases h0 : qsg (C 31 5) (C 31 6) = 0
        · exact Or.inl h0
        · refine Or.inr (Or.inl ?_)
          have : qti (qsg (C 31 5) (C 31 6)) ≠ l := fun y => hop ⟨h0, y⟩
          omega
      · exact Or.inr (Or.inr ⟨x, by omega, z⟩)
