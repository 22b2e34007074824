/-! ===== the board that is being read, of both ===== -/
/-- counts, devices -/
def q_Rn (C R : Nat → Nat → Int32) (D N : Nat) (cl : Nat → Nat) : Prop := (C 17 0 = nI D ∧ R 64 46 = nI D ∧ D ≤ 4) ∧ (C 17 5 = nI N ∧ R 64 47 = nI N ∧ N ≤ 6) ∧
  ∀ d, d < D → C 19 d = R 74 d ∧ C 20 d = R 75 d ∧ C 21 d = nI (cl d) ∧ R 76 d = nI (cl d) ∧ cl d ≤ 6 ∧ (∃ k : Nat, 2 ≤ k ∧ k ≤ 4 ∧ R 74 d = nI k) ∧ (R 75 d = -1 ∨ ∃ k : Nat, k < 128 ∧ R 75 d = nI k)
/-- cells -/
def q_Rk (C R : Nat → Nat → Int32) (D N : Nat) (cl : Nat → Nat) : Prop :=
  (∀ x, x < 24 → (C 26 x = -1 ∨ ∃ n, n < N ∧ C 26 x = nI n) ∧ (C 26 x ≠ -1 → x < 6 * D ∧ x % 6 < cl (x / 6) ∧ (R 78 x = 0 ∨ R 78 x = 1))) ∧
  (∀ x, x < 6 * D → R 77 x = C 26 x) ∧
  (∀ n, n < 6 → ∀ x, x < 32 → bt (C 23 n) x = (decide (x < 24) && (decide (C 26 x = nI n) && decide (R 78 x = 0))) ∧ bt (C 24 n) x = (decide (x < 24) && (decide (C 26 x = nI n) && decide (R 78 x = 1)))) ∧
  (∀ x, x < 32 → bt (C 17 11) x = (decide (x < 24) && (!decide (C 26 x = -1) && decide (R 78 x = 1)))) ∧
  (∀ n, n < N → ∃ x, x < 24 ∧ C 26 x = nI n ∧ R 78 x = 1) ∧ fb_ct (bt (C 17 11)) 24 ≤ 3 * N
def q_Rs2 (C R : Nat → Nat → Int32) (N : Nat) : Prop := (∀ n, n < N → C 25 n = R 79 n ∧ (R 79 n = -1 ∨ R 79 n = 0 ∨ R 79 n = 1)) ∧ ∀ n, N ≤ n → n < 6 → C 25 n = -1
/-- faults that are told: the row that the reference will lay -/
def qrd (R : Nat → Nat → Int32) (N : Nat) (k : Nat) : Int32 := if k < 19 then 0 else if k < 25 then (if k - 19 < N then R 80 (k - 19) else -1) else if k < 29 then R 81 (k - 25) else R 82 (k - 29)
def q_Rf (C R : Nat → Nat → Int32) (D N : Nat) : Prop := q_FR N (C 27) (qrd R N) ∧ (∀ x, x < 32 → bt (C 27 2) x = (decide (x < 6 * D) && bt (R 81 (x / 6)) (x % 6)) ∧ (bt (C 27 2) x = true → bt (C 17 11) x = true)) ∧ (∀ d, d < D → ∃ k : Nat, k < 64 ∧ R 81 d = nI k)
/-- the formula, whole -/
def q_Ro (C R : Nat → Nat → Int32) : Prop := C 31 9 = R 64 24 ∧ C 28 3 = R 64 20 ∧ ((R 64 24 = 0 ∧ C 28 2 = 0 ∧ R 64 20 = 0) ∨ (R 64 24 = 1 ∧ ∃ sz : Nat, sz ≤ 300 ∧ C 28 2 = nI sz ∧ R 64 17 = nI sz ∧ qdep (R 67) sz = 1 ∧ q_Fm (C 29) (R 67) (R 68) sz))
def q_Rz (C R : Nat → Nat → Int32) : Prop := (C 31 10 = R 64 54 ∧ (R 64 54 = 0 ∨ R 64 54 = 1) ∧ ∃ z : Nat, z ≤ 100 ∧ C 17 14 = nI z ∧ R 64 48 = nI z) ∧ (C 31 11 = R 64 55 ∧ (R 64 55 = 0 ∨ R 64 55 = 1) ∧ ∃ z : Nat, z ≤ 999 ∧ C 17 15 = nI z ∧ R 64 49 = nI z) ∧ C 31 12 = 0 ∧ R 64 3 = -1
def q_B6 (C R : Nat → Nat → Int32) (D N : Nat) (cl : Nat → Nat) : Prop := q_Rn C R D N cl ∧ q_Rk C R D N cl ∧ q_Rs2 C R N ∧ q_Rf C R D N ∧ q_Ro C R ∧ q_Rz C R
def q_BR (C : Nat → Nat → Int32) (J : Nat → Nat → Int64) (R : Nat → Nat → Int32) (K : Nat → Nat → Int64) (D N : Nat) (cl : Nat → Nat) : Prop := q_B6 C R D N cl ∧ q_Nm J K 18 0 D ∧ q_Nm J K 22 4 N
/-- both go on alike, or both refuse alike -/
def q_Good (v : Nat → Nat) (n s L : Nat) (e : QP) (C : Nat → Nat → Int32) (J : Nat → Nat → Int64) (R : Nat → Nat → Int32) (K : Nat → Nat → Int64) (x y : Option QR) : Prop := ∃ (C' : Nat → Nat → Int32) (J' : Nat → Nat → Int64) (R' : Nat → Nat → Int32) (K' : Nat → Nat → Int64) (D' N' : Nat) (cl' : Nat → Nat) (s' : Nat), x = some (some (.int 1), qm C' J' (3, 17, 17, 2, L)) ∧ y = some (none, qm R' K' e) ∧ q_Gf C J R K C' J' R' K' ∧ s < s' ∧ q_Pt v n C' J' R' K' s' ∧ q_BR C' J' R' K' D' N' cl'
def q_Bad (L : Nat) (e : QP) (C : Nat → Nat → Int32) (J : Nat → Nat → Int64) (R : Nat → Nat → Int32) (K : Nat → Nat → Int64) (x y : Option QR) : Prop := ∃ (C' : Nat → Nat → Int32) (J' : Nat → Nat → Int64) (R' : Nat → Nat → Int32) (K' : Nat → Nat → Int64), x = some (some (.int 0), qm C' J' (3, 17, 17, 2, L)) ∧ y = some (none, qm R' K' e) ∧ q_Gf C J R K C' J' R' K' ∧ q_Fl C' R'
def q_Res (v : Nat → Nat) (n s L : Nat) (e : QP) (C : Nat → Nat → Int32) (J : Nat → Nat → Int64) (R : Nat → Nat → Int32) (K : Nat → Nat → Int64) (x y : Option QR) : Prop := q_Good v n s L e C J R K x y ∨ q_Bad L e C J R K x y
theorem q_Res.mono {v : Nat → Nat} {n s s1 L : Nat} {e : QP} {C : Nat → Nat → Int32} {J : Nat → Nat → Int64} {R : Nat → Nat → Int32} {K : Nat → Nat → Int64} {C1 : Nat → Nat → Int32} {J1 : Nat → Nat → Int64} {R1 : Nat → Nat → Int32} {K1 : Nat → Nat → Int64} {x y : Option QR} (h : q_Res v n s1 L e C1 J1 R1 K1 x y) (g : q_Gf C J R K C1 J1 R1 K1) (hs : s ≤ s1) : q_Res v n s L e C J R K x y := by
  rcases h with ⟨C', J', R', K', D', N', cl', s', e1, e2, e3, e4, e5, e6⟩ | ⟨C', J', R', K', e1, e2, e3, e4⟩
  · exact Or.inl ⟨C', J', R', K', D', N', cl', s', e1, e2, q_Gf_trans g e3, by omega, e5, e6⟩
  · exact Or.inr ⟨C', J', R', K', e1, e2, q_Gf_trans g e3, e4⟩
/-- a line -/
def q_Line (f g : List Value → QM → Option QR) : Prop := ∀ (v : Nat → Nat) (n s L : Nat) (C : Nat → Nat → Int32) (J : Nat → Nat → Int64) (R : Nat → Nat → Int32) (K : Nat → Nat → Int64) (e : QP) (D N : Nat) (cl : Nat → Nat), q_Pt v n C J R K s → C 31 5 = 2 → q_BR C J R K D N cl → q_Sta C → q_Res v n s L e C J R K (f [.ref 31] (qm C J (3, 17, 17, 2, L))) (g [.ref 64] (qm R K e))
/-- what is told of the board stands still -/
theorem q_B6_st {C R C' R' : Nat → Nat → Int32} {D N : Nat} {cl : Nat → Nat} (h : q_B6 C R D N cl) (c17 : C' 17 = C 17) (cc : ∀ p, 23 ≤ p → p ≤ 29 → C' p = C p) (cd : ∀ d, d < D → C' 19 d = C 19 d ∧ C' 20 d = C 20 d ∧ C' 21 d = C 21 d) (c31 : ∀ k, 9 ≤ k → k ≤ 12 → C' 31 k = C 31 k)
    (rr : ∀ p, 77 ≤ p → p ≤ 82 → R' p = R p) (rd : ∀ d, d < D → R' 74 d = R 74 d ∧ R' 75 d = R 75 d ∧ R' 76 d = R 76 d) (r6 : R' 67 = R 67 ∧ R' 68 = R 68) (r64 : ∀ k, (k = 3 ∨ k = 17 ∨ k = 20 ∨ k = 24 ∨ (46 ≤ k ∧ k ≤ 55)) → R' 64 k = R 64 k) : q_B6 C' R' D N cl := by
  obtain ⟨h1, h2, h3, h4, h5, h6⟩ := h
  refine ⟨?_, ?_, ?_, ?_, ?_, ?_⟩
  · obtain ⟨a, b, c⟩ := h1
    refine ⟨by rw [c17, r64 46 (by omega)]; exact a, by rw [c17, r64 47 (by omega)]; exact b, fun d hd => ?_⟩
    obtain ⟨x1, x2, x3⟩ := cd d hd
    obtain ⟨y1, y2, y3⟩ := rd d hd
    rw [x1, x2, x3, y1, y2, y3]
    exact c d hd
  · unfold q_Rk
    rw [c17, cc 23 (by omega) (by omega), cc 24 (by omega) (by omega), cc 26 (by omega) (by omega), rr 77 (by omega) (by omega), rr 78 (by omega) (by omega)]
    exact h2
  · unfold q_Rs2
    rw [cc 25 (by omega) (by omega), rr 79 (by omega) (by omega)]
    exact h3
  · have hq : qrd R' N = qrd R N := by
      funext k
      unfold qrd
      rw [rr 80 (by omega) (by omega), rr 81 (by omega) (by omega), rr 82 (by omega) (by omega)]
    unfold q_Rf
    rw [hq, cc 27 (by omega) (by omega), c17, rr 81 (by omega) (by omega)]
    exact h4
  · unfold q_Ro
    rw [cc 28 (by omega) (by omega), cc 29 (by omega) (by omega), r6.1, r6.2, c31 9 (by omega) (by omega), r64 24 (by omega), r64 20 (by omega), r64 17 (by omega)]
    exact h5
  · unfold q_Rz
    rw [c17, c31 10 (by omega) (by omega), c31 11 (by omega) (by omega), c31 12 (by omega) (by omega), r64 3 (by omega), r64 54 (by omega), r64 55 (by omega), r64 48 (by omega), r64 49 (by omega)]
    exact h6
theorem q_B6_ad {C R C' R' : Nat → Nat → Int32} {J J' K K' : Nat → Nat → Int64} {D N : Nat} {cl : Nat → Nat} (h : q_B6 C R D N cl) (a : q_Ad C J R K C' J' R' K') : q_B6 C' R' D N cl := by
  obtain ⟨⟨a1, a2⟩, -, ⟨a4, a5⟩, -⟩ := a
  exact q_B6_st h (a1 17 (by decide)) (fun p _ _ => a1 p (by omega)) (fun d _ => ⟨by rw [a1 19 (by decide)], by rw [a1 20 (by decide)], by rw [a1 21 (by decide)]⟩) (fun k _ _ => a2 k (by omega) (by omega) (by omega) (by omega)) (fun p _ _ => a4 p (by omega)) (fun d _ => ⟨by rw [a4 74 (by decide)], by rw [a4 75 (by decide)], by rw [a4 76 (by decide)]⟩) ⟨a4 67 (by decide), a4 68 (by decide)⟩ (fun k _ => a5 k (by omega) (by omega) (by omega) (by omega))
theorem q_Nm_ad {C R C' R' : Nat → Nat → Int32} {J J' K K' : Nat → Nat → Int64} {p o N : Nat} (h : q_Nm J K p o N) (hp : p ≠ 31) (a : q_Ad C J R K C' J' R' K') : q_Nm J' K' p o N := by
  unfold q_Nm
  rw [a.2.1 p hp, a.2.2.2 66 (by decide)]
  exact h
theorem q_Nm_eq {J J' K K' : Nat → Nat → Int64} {p o N : Nat} (h : q_Nm J K p o N) (hj : ∀ i, i < N → J' p i = J p i) (hk : ∀ i, i < N → K' 66 (o + i) = K 66 (o + i)) : q_Nm J' K' p o N :=
  ⟨fun i hi => by rw [hj i hi, hk i hi]; exact h.1 i hi, fun i j hi hj' he => h.2 i j hi hj' (by rw [← hj i hi, ← hj j hj']; exact he)⟩
theorem q_BR_ad {C R C' R' : Nat → Nat → Int32} {J J' K K' : Nat → Nat → Int64} {D N : Nat} {cl : Nat → Nat} (h : q_BR C J R K D N cl) (a : q_Ad C J R K C' J' R' K') : q_BR C' J' R' K' D N cl := ⟨q_B6_ad h.1 a, q_Nm_ad h.2.1 (by decide) a, q_Nm_ad h.2.2 (by decide) a⟩
