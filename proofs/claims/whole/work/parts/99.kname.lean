/-! ===== steps of both: names ===== -/
/-- names told so far: N of them, the class's in row p, the reference's from o on -/
def q_Nm (J K : Nat → Nat → Int64) (p o N : Nat) : Prop := (∀ i, i < N → q_Wd (J p i) (K 66 (o + i))) ∧ ∀ i j, i < N → j < N → J p i = J p j → i = j
/-- the first that has the name -/
def qix (f : Nat → Int64) (w : Int64) : Nat → Nat → Option Nat
  | 0, _ => none
  | m + 1, a => if f a = w then some a else qix f w m (a + 1)
theorem qix_none {f : Nat → Int64} {w : Int64} : ∀ {m a : Nat}, qix f w m a = none → ∀ i, a ≤ i → i < a + m → f i ≠ w := by
  intro m
  induction m with
  | zero => intro a _ i h1 h2; omega
  | succ m ih =>
    intro a h i h1 h2
    unfold qix at h
    by_cases g : f a = w
    · rw [if_pos g] at h; cases h
    · rw [if_neg g] at h
      by_cases hi : i = a
      · rw [hi]; exact g
      · exact ih h i (by omega) (by omega)
theorem qix_some {f : Nat → Int64} {w : Int64} : ∀ {m a i : Nat}, qix f w m a = some i → a ≤ i ∧ i < a + m ∧ f i = w := by
  intro m
  induction m with
  | zero => intro a i h; cases h
  | succ m ih =>
    intro a i h
    unfold qix at h
    by_cases g : f a = w
    · rw [if_pos g] at h
      cases h
      exact ⟨Nat.le_refl _, by omega, g⟩
    · rw [if_neg g] at h
      obtain ⟨h1, h2, h3⟩ := ih h
      exact ⟨by omega, by omega, h3⟩
def qno (x : Option Nat) : Int32 := match x with
  | none => -1
  | some i => nI i
theorem q_ix_18 {C : Nat → Nat → Int32} {J : Nat → Nat → Int64} {e : QP} {N : Nat} (hN : N ≤ 4) (w : Int64) : ∀ (m a : Nat), a + m = N → kX9_indexOf 3 [some (.long w), none, some (.ref 18), some (.int (nI N)), some (.int (nI a))] [] (qm C J e) = some (some (.int (qno (qix (J 18) w m a))), qm C J e) := by
  intro m
  induction m with
  | zero =>
    intro a ha
    have ha' : a = N := by omega
    subst ha'
    rw [eX9_indexOf_18_3, if_neg (nI_nlt (Nat.le_refl _) (by omega)), eX9_indexOf_18_34]
    rfl
  | succ m ih =>
    intro a ha
    have h2 : nI a + 1 = nI (a + 1) := nI_add a 1
    rw [eX9_indexOf_18_3, if_pos (nI_lt (by omega) (by omega)), eX9_indexOf_18_9, if_pos (show nI a < (4 : Int32) from nI_lt (b := 4) (by omega) (by omega)), eX9_indexOf_18_16, q_in_nI (by omega) (by omega), nI_n (by omega), Bool.true_and, q_ck_tt]
    unfold qix
    by_cases g : J 18 a = w
    · rw [if_pos ((q_lcm _ _).mpr g), if_pos g, eX9_indexOf_18_25]
      rfl
    · rw [if_neg (fun x => g ((q_lcm _ _).mp x)), if_neg g, eX9_indexOf_18_28, h2]
      exact ih (a + 1) (by omega)
theorem fX9_indexOf_18 {C : Nat → Nat → Int32} {J : Nat → Nat → Int64} {e : QP} {N : Nat} (hN : N ≤ 4) (w : Int64) : mX9_indexOf [.long w, .ref 18, .int (nI N)] (qm C J e) = some (some (.int (qno (qix (J 18) w N 0))), qm C J e) := by
  rw [bX9_indexOf_18, eX9_indexOf_18_0]
  exact q_ix_18 hN w N 0 (by omega)
theorem q_ix_22 {C : Nat → Nat → Int32} {J : Nat → Nat → Int64} {e : QP} {N : Nat} (hN : N ≤ 6) (w : Int64) : ∀ (m a : Nat), a + m = N → kX9_indexOf 3 [some (.long w), none, some (.ref 22), some (.int (nI N)), some (.int (nI a))] [] (qm C J e) = some (some (.int (qno (qix (J 22) w m a))), qm C J e) := by
  intro m
  induction m with
  | zero =>
    intro a ha
    have ha' : a = N := by omega
    subst ha'
    rw [eX9_indexOf_22_3, if_neg (nI_nlt (Nat.le_refl _) (by omega)), eX9_indexOf_22_34]
    rfl
  | succ m ih =>
    intro a ha
    have h2 : nI a + 1 = nI (a + 1) := nI_add a 1
    rw [eX9_indexOf_22_3, if_pos (nI_lt (by omega) (by omega)), eX9_indexOf_22_9, if_pos (show nI a < (6 : Int32) from nI_lt (b := 6) (by omega) (by omega)), eX9_indexOf_22_16, q_in_nI (by omega) (by omega), nI_n (by omega), Bool.true_and, q_ck_tt]
    unfold qix
    by_cases g : J 22 a = w
    · rw [if_pos ((q_lcm _ _).mpr g), if_pos g, eX9_indexOf_22_25]
      rfl
    · rw [if_neg (fun x => g ((q_lcm _ _).mp x)), if_neg g, eX9_indexOf_22_28, h2]
      exact ih (a + 1) (by omega)
theorem fX9_indexOf_22 {C : Nat → Nat → Int32} {J : Nat → Nat → Int64} {e : QP} {N : Nat} (hN : N ≤ 6) (w : Int64) : mX9_indexOf [.long w, .ref 22, .int (nI N)] (qm C J e) = some (some (.int (qno (qix (J 22) w N 0))), qm C J e) := by
  rw [bX9_indexOf_22, eX9_indexOf_22_0]
  exact q_ix_22 hN w N 0 (by omega)
/-- the last that has the name -/
def qlx (f : Nat → Int64) (w : Int64) : Nat → Int32
  | 0 => -1
  | m + 1 => if f m = w then nI m else qlx f w m
theorem q_fd_loop {R : Nat → Nat → Int32} {K : Nat → Nat → Int64} {e : QP} {o N : Nat} (hN : o + N ≤ 10) : mX12_find [.ref 64, .int (nI o), .int (nI N)] (qm R K e) = some (some (.int (qlx (fun i => K 66 (o + i)) (K 64 9) N)), qm R K e) := by
  have hst : ∀ i, i < N → kX12_find 5 [some (.ref 64), some (.int (nI o)), some (.int (nI N)), some (.int (qlx (fun i => K 66 (o + i)) (K 64 9) i)), some (.int (nI i))] [] (qm R K e) = kX12_find 5 [some (.ref 64), some (.int (nI o)), some (.int (nI N)), some (.int (qlx (fun i => K 66 (o + i)) (K 64 9) (i + 1))), some (.int (nI (i + 1)))] [] (qm R K e) := by
    intro i hi
    have h2 : nI i + 1 = nI (i + 1) := nI_add i 1
    rw [eX12_find_5, if_pos (nI_lt hi (by omega)), eX12_find_11, nI_add, q_in_nI (by omega) (by omega), nI_n (by omega), Bool.true_and, q_ck_tt]
    rw [show qlx (fun i => K 66 (o + i)) (K 64 9) (i + 1) = if K 66 (o + i) = K 64 9 then nI i else qlx (fun i => K 66 (o + i)) (K 64 9) i from rfl]
    by_cases g : K 66 (o + i) = K 64 9
    · rw [if_pos ((q_lcm _ _).mpr g), if_pos g, eX12_find_28, eX12_find_34, h2]
    · rw [if_neg (fun x => g ((q_lcm _ _).mp x)), if_neg g, eX12_find_33, eX12_find_34, h2]
  rw [bX12_find, eX12_find_0]
  have hl := q_for (fun i (a : Int32) => kX12_find 5 [some (.ref 64), some (.int (nI o)), some (.int (nI N)), some (.int a), some (.int (nI i))] [] (qm R K e)) N (fun i => qlx (fun i => K 66 (o + i)) (K 64 9) i) hst
  refine Eq.trans hl ?_
  rw [eX12_find_5, if_neg (nI_nlt (Nat.le_refl _) (by omega)), eX12_find_41]
theorem qlx_ix {J K : Nat → Nat → Int64} {p o N : Nat} {w w' : Int64} (hN : q_Nm J K p o N) (hw : q_Wd w w') (hs : N ≤ 10) : qlx (fun i => K 66 (o + i)) w' N = qno (qix (J p) w N 0) := by
  have hiff : ∀ i, i < N → (J p i = w ↔ K 66 (o + i) = w') := fun i hi => q_Wd_iff (hN.1 i hi) hw
  cases hx : qix (J p) w N 0 with
  | none =>
    have h1 := qix_none hx
    have : ∀ m, m ≤ N → qlx (fun i => K 66 (o + i)) w' m = -1 := by
      intro m
      induction m with
      | zero => intro _; rfl
      | succ m ih =>
        intro hm
        show (if K 66 (o + m) = w' then nI m else qlx (fun i => K 66 (o + i)) w' m) = -1
        rw [if_neg (fun g => h1 m (by omega) (by omega) ((hiff m (by omega)).mpr g)), ih (by omega)]
    exact this N (Nat.le_refl _)
  | some i =>
    obtain ⟨_, h2, h3⟩ := qix_some hx
    have h2' : i < N := by omega
    have : ∀ m, m ≤ N → qlx (fun i => K 66 (o + i)) w' m = if i < m then nI i else -1 := by
      intro m
      induction m with
      | zero => intro _; rfl
      | succ m ih =>
        intro hm
        show (if K 66 (o + m) = w' then nI m else qlx (fun i => K 66 (o + i)) w' m) = _
        by_cases g : m = i
        · subst g
          rw [if_pos ((hiff m (by omega)).mp h3), if_pos (by omega)]
        · rw [if_neg (fun x => g (hN.2 m i (by omega) h2' (((hiff m (by omega)).mpr x).trans h3.symm))), ih (by omega)]
          by_cases g2 : i < m
          · rw [if_pos g2, if_pos (by omega)]
          · rw [if_neg g2, if_neg (by omega)]
    rw [this N (Nat.le_refl _), if_pos h2']
    rfl
