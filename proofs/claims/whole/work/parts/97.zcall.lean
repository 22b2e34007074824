/-! ===== what a call must keep ===== -/
def q_rh (p : Nat) : Nat := if 3 ≤ p ∧ p ≤ 16 then p + 14 else if 17 ≤ p ∧ p ≤ 30 then p - 14 else p
/-- the invariant, whichever board is the one that is -/
def q_QE (Q : (Nat → Nat → Int32) → (Nat → Nat → Int64) → Prop) (I : Nat → Nat → Int32) (J : Nat → Nat → Int64) (e : QP) : Prop := (e.1 = 3 ∧ e.2.1 = 17 ∧ Q I J) ∨ (e.1 = 17 ∧ e.2.1 = 3 ∧ Q (fun p => I (q_rh p)) (fun p => J (q_rh p)))
def q_Call (Q : (Nat → Nat → Int32) → (Nat → Nat → Int64) → Prop) (f g : List Value → QM → Option QR) (as : List Value) : Prop := ∀ (I : Nat → Nat → Int32) (J : Nat → Nat → Int64) (rb tx L : Nat), Q I J → ∃ (r : Int32) (e1 : QP) (I1 : Nat → Nat → Int32) (J1 : Nat → Nat → Int64) (I2 : Nat → Nat → Int32) (J2 : Nat → Nat → Int64),
  f (.ref 1 :: as) (qm I J (3, 17, rb, tx, L)) = some (some (.int r), qm I1 J1 e1) ∧ g (.ref 64 :: as) (qm I1 J1 e1) = some (some (.int r), qm I2 J2 e1) ∧ q_QE Q I2 J2 e1 ∧ e1.2.2.2.2 = L ∧ I1 1004 = I 1004 ∧ I2 1004 = I 1004
