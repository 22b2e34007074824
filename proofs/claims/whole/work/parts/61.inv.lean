/-! ===== what holds between class and reference ===== -/
/-- counts, devices -/
def q_Bn (I : Nat → Nat → Int32) (D N : Nat) (cl : Nat → Nat) : Prop := (I 3 0 = nI D ∧ I 64 50 = nI D ∧ D ≤ 4) ∧ (I 3 5 = nI N ∧ I 64 51 = nI N ∧ N ≤ 6) ∧
  ∀ d, d < D → I 5 d = I 83 d ∧ I 6 d = I 84 d ∧ I 7 d = nI (cl d) ∧ I 85 d = nI (cl d) ∧ cl d ≤ 6 ∧ (∃ k : Nat, 2 ≤ k ∧ k ≤ 4 ∧ I 83 d = nI k) ∧ (I 84 d = -1 ∨ ∃ k : Nat, k < 128 ∧ I 84 d = nI k)
/-- cells: nets, who drives, who receives -/
def q_Bc (I : Nat → Nat → Int32) (D N : Nat) (cl : Nat → Nat) : Prop :=
  (∀ x, x < 24 → ((I 12 x = -1 ∨ ∃ n, n < N ∧ I 12 x = nI n) ∧ (I 12 x ≠ -1 → x < 6 * D ∧ x % 6 < cl (x / 6) ∧ (I 87 x = 0 ∨ I 87 x = 1))) ∨ (D = 0 ∧ N = 0 ∧ I 87 x = 0)) ∧
  (∀ x, x < 6 * D → I 86 x = I 12 x) ∧
  (∀ n, n < N → ∀ x, x < 32 → bt (I 9 n) x = (decide (x < 24) && (decide (I 12 x = nI n) && decide (I 87 x = 0))) ∧ bt (I 10 n) x = (decide (x < 24) && (decide (I 12 x = nI n) && decide (I 87 x = 1)))) ∧
  (∀ x, x < 32 → bt (I 3 11) x = (decide (x < 24) && (!decide (I 12 x = -1) && decide (I 87 x = 1)))) ∧
  (∀ n, n < N → ∃ x, x < 24 ∧ I 12 x = nI n ∧ I 87 x = 1)
def q_Bs (I : Nat → Nat → Int32) (N : Nat) : Prop := ∀ n, n < N → I 11 n = I 88 n ∧ (I 88 n = -1 ∨ I 88 n = 0 ∨ I 88 n = 1)
/-- receivers, one behind the other -/
def q_Br (I : Nat → Nat → Int32) (RM : Nat) (rc : Nat → Nat) : Prop := I 64 57 = nI RM ∧ RM ≤ 18 ∧ (∀ r, r < RM → I 92 r = nI (rc r) ∧ rc r < 24 ∧ bt (I 3 11) (rc r) = true ∧ fb_ct (bt (I 3 11)) (rc r) = r) ∧ fb_ct (bt (I 3 11)) 24 = RM
/-- the formula -/
def q_Fo (I : Nat → Nat → Int32) : Prop := ∃ sz : Nat, sz ≤ 300 ∧ I 14 2 = nI sz ∧ I 64 18 = nI sz ∧ (I 64 25 = 0 ∧ sz = 0 ∨ I 64 25 = 1 ∧ qdep (I 69) sz = 1) ∧ q_Fm (I 15) (I 69) (I 70) sz
/-- the state: 24 numbers of the class, 65 of the reference; A: who receives -/
def q_Ch (D N : Nat) (A : Nat → Bool) (c r : Nat → Int32) : Prop :=
  (c 0 = r 0 ∧ ∃ k : Nat, k < 16 ∧ r 0 = nI k) ∧ (c 1 = r 1 ∧ ∃ k : Nat, k ≤ 10000 ∧ r 1 = nI k) ∧ (c 2 = r 2 ∧ ∃ k : Nat, k < 1000 ∧ r 2 = nI k) ∧
  (∀ d, d < D → (c (3 + d) = r (3 + d) ∧ ∃ k : Nat, k < 16 ∧ r (3 + d) = nI k) ∧ (c (7 + d) = r (7 + d) ∧ ∃ k : Nat, k < 16 ∧ r (7 + d) = nI k) ∧ (c (11 + d) = r (11 + d) ∧ ∃ k : Nat, k < 256 ∧ r (11 + d) = nI k) ∧ (c (15 + d) = r (15 + d) ∧ ∃ k : Nat, k < 64 ∧ r (15 + d) = nI k) ∧ (r (3 + d) = 0 → ∃ k : Nat, k < 64 ∧ r (11 + d) = nI k)) ∧
  q_FR N (fun k => c (19 + k)) r ∧ (∀ n, N ≤ n → n < 6 → r (19 + n) = -1) ∧
  (∀ x, x < 32 → bt (c 21) x = (decide (x < 6 * D) && bt (r (25 + x / 6)) (x % 6)) ∧ (bt (c 21) x = true → A x = true)) ∧ (∀ d, d < D → ∃ k : Nat, k < 64 ∧ r (25 + d) = nI k)
/-- the class's state as it is, as a row -/
def qcr (I : Nat → Nat → Int32) (k : Nat) : Int32 := if k < 3 then I 37 k else if k < 7 then I 38 (k - 3) else if k < 11 then I 39 (k - 7) else if k < 15 then I 40 (k - 11) else if k < 19 then I 41 (k - 15) else I 42 (k - 19)
/-- acts that are kept -/
def qst (I : Nat → Nat → Int32) (dn j : Nat) (k : Nat) : Int32 := if j < dn then I 101 (65 * j + k) else if j = dn then I 93 k else I 101 (65 * (j - 1) + k)
def q_Pa (I : Nat → Nat → Int32) (D N : Nat) (A : Nat → Bool) : Prop := ∃ old dn kp : Nat, I 44 1 = nI old ∧ old < 41 ∧ I 44 2 = nI dn ∧ I 44 3 = nI kp ∧ dn ≤ kp ∧ kp ≤ 40 ∧ I 64 68 = nI dn ∧ I 64 69 = nI (kp - dn) ∧
  ∀ j, j ≤ kp → q_Ch D N A (fun k => I 45 ((old + j) % 41 * 24 + k)) (qst I dn j)
def q_Bx (I : Nat → Nat → Int32) (D N : Nat) (A : Nat → Bool) : Prop := ∀ b, b < 3 → (I 47 b = 0 ∧ I 112 b = 0) ∨ (I 47 b = 1 ∧ I 112 b = 1 ∧ q_Ch D N A (fun k => I 46 (b * 24 + k)) (fun k => I 113 (65 * b + k)))
/-- the text on the tape, what the latest board() told, numbers that lie there, the time -/
def q_Tp (I : Nat → Nat → Int32) : Prop := ∃ t : Nat, t ≤ 1600 ∧ I 1 1 = nI t ∧ I 64 1 = nI t ∧ ∀ k, k < t → I 65 k = I 2 k &&& 255 ∧ I 2 k = (I 2 k).toInt8.toInt32
def q_Ft (I : Nat → Nat → Int32) : Prop := I 1 13 = I 64 2 ∧ I 1 14 = I 64 3
def q_Ly (I : Nat → Nat → Int32) : Prop := ∃ c : Nat, c ≤ 16 ∧ I 1 12 = nI c ∧ I 64 62 = nI c ∧ ∀ k, k < c → I 63 k = I 96 k
def q_Tm (I : Nat → Nat → Int32) : Prop := ∃ t : Nat, t ≤ 100000 ∧ I 1 15 = nI t ∧ I 64 80 = nI t
