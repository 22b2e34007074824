/-! ===== the machine's answer, without fuel ===== -/
theorem q_run_mono {cs : List QE} {O : QO} {R : Nat × Nat} : ∀ {n : Nat} {c : QC} {r : QR}, q_run cs O R n c = some r → ∀ k, q_run cs O R (n + k) c = some r := by
  intro n
  induction n with
  | zero => intro c r h; cases h
  | succ n ih =>
    intro c r h k
    have e : n + 1 + k = (n + k) + 1 := by omega
    rw [e]
    unfold q_run at h ⊢
    cases hs : q_step cs O R c with
    | none => rw [hs] at h; cases h
    | some x =>
      rw [hs] at h
      cases x with
      | inl c' => exact ih h k
      | inr r' => exact h
theorem q_run_det {cs : List QE} {O : QO} {R : Nat × Nat} {n m : Nat} {c : QC} {r r' : QR} (h : q_run cs O R n c = some r) (h' : q_run cs O R m c = some r') : r = r' := by
  have h1 := q_run_mono h m
  have h2 := q_run_mono h' n
  rw [Nat.add_comm] at h2
  exact Option.some.inj (h1.symm.trans h2)
noncomputable def q_D (cs : List QE) (O : QO) (R : Nat × Nat) (c : QC) : Option QR :=
  @dite _ (∃ r n, q_run cs O R n c = some r) (Classical.propDecidable _) (fun h => some (Classical.choose h)) (fun _ => none)
theorem q_D_iff {cs : List QE} {O : QO} {R : Nat × Nat} {c : QC} {r : QR} : q_D cs O R c = some r ↔ ∃ n, q_run cs O R n c = some r := by
  unfold q_D
  constructor
  · intro h
    by_cases hx : ∃ r n, q_run cs O R n c = some r
    · rw [dif_pos hx] at h
      obtain ⟨n, hn⟩ := Classical.choose_spec hx
      exact ⟨n, by rw [hn]; exact h⟩
    · rw [dif_neg hx] at h; cases h
  · intro ⟨n, hn⟩
    have hx : ∃ r n, q_run cs O R n c = some r := ⟨r, n, hn⟩
    rw [dif_pos hx]
    obtain ⟨m, hm⟩ := Classical.choose_spec hx
    rw [q_run_det hm hn]
/-- what follows a step -/
def q_nx (cs : List QE) (O : QO) (R : Nat × Nat) (F : QC → Option QR) : Option (QC ⊕ QR) → Option QR
  | none => none
  | some (.inl c) => F c
  | some (.inr r) => some r
theorem q_D_step (cs : List QE) (O : QO) (R : Nat × Nat) (c : QC) : q_D cs O R c = q_nx cs O R (q_D cs O R) (q_step cs O R c) := by
  apply Option.ext
  intro r
  rw [q_D_iff]
  constructor
  · intro ⟨n, hn⟩
    cases n with
    | zero => cases hn
    | succ n =>
      unfold q_run at hn
      cases hs : q_step cs O R c with
      | none => rw [hs] at hn; cases hn
      | some x =>
        rw [hs] at hn
        cases x with
        | inl c' => exact q_D_iff.mpr ⟨n, hn⟩
        | inr r' => exact hn
  · intro h
    cases hs : q_step cs O R c with
    | none => rw [hs] at h; cases h
    | some x =>
      rw [hs] at h
      cases x with
      | inl c' =>
        obtain ⟨n, hn⟩ := q_D_iff.mp (show q_D cs O R c' = some r from h)
        exact ⟨n + 1, by unfold q_run; rw [hs]; exact hn⟩
      | inr r' => exact ⟨1, by unfold q_run; rw [hs]; exact h⟩
/-- up to n steps -/
def q_go (cs : List QE) (O : QO) (R : Nat × Nat) : Nat → QC → Option (QC ⊕ QR)
  | 0, c => some (.inl c)
  | n + 1, c => match q_step cs O R c with
    | some (.inl c') => q_go cs O R n c'
    | x => x
theorem q_D_go (cs : List QE) (O : QO) (R : Nat × Nat) (n : Nat) : ∀ (c : QC), q_D cs O R c = q_nx cs O R (q_D cs O R) (q_go cs O R n c) := by
  induction n with
  | zero => intro c; rfl
  | succ n ih =>
    intro c
    rw [q_D_step]
    unfold q_go
    cases hs : q_step cs O R c with
    | none => rfl
    | some x =>
      cases x with
      | inl c' => exact ih c'
      | inr r' => rfl
theorem q_D_by {cs : List QE} {O : QO} {R : Nat × Nat} (n : Nat) {c c' : QC} (h : q_go cs O R n c = some (.inl c')) : q_D cs O R c = q_D cs O R c' := by
  rw [q_D_go cs O R n c, h]; rfl
theorem q_D_end {cs : List QE} {O : QO} {R : Nat × Nat} (n : Nat) {c : QC} {r : QR} (h : q_go cs O R n c = some (.inr r)) : q_D cs O R c = some r := by
  rw [q_D_go cs O R n c, h]; rfl
