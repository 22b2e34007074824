/-! ===== the machine's answer, without fuel ===== -/
theorem q_run_mono {cs : List (List QE)} {O : QO} {R : Nat × Nat} : ∀ {n : Nat} {c : QC} {r : QR}, q_run cs O R n c = some r → ∀ k, q_run cs O R (n + k) c = some r := by
  intro n
  induction n with
  | zero => intro c r h; cases h
  | succ n ih =>
    intro c r h k
    have e : n + 1 + k = (n + k) + 1 := by omega
    rw [e]
    unfold q_run at h ⊢
    cases hs : q_step cs O R c with
    | none => rw [hs] at h; cases h
    | some x =>
      rw [hs] at h
      cases x with
      | inl c' => exact ih h k
      | inr r' => exact h
theorem q_run_det {cs : List (List QE)} {O : QO} {R : Nat × Nat} {n m : Nat} {c : QC} {r r' : QR} (h : q_run cs O R n c = some r) (h' : q_run cs O R m c = some r') : r = r' := by
  have h1 := q_run_mono h m
  have h2 := q_run_mono h' n
  rw [Nat.add_comm] at h2
  exact Option.some.inj (h1.symm.trans h2)
noncomputable def q_D (cs : List (List QE)) (O : QO) (R : Nat × Nat) (c : QC) : Option QR :=
  @dite _ (∃ r n, q_run cs O R n c = some r) (Classical.propDecidable _) (fun h => some (Classical.choose h)) (fun _ => none)
theorem q_D_iff {cs : List (List QE)} {O : QO} {R : Nat × Nat} {c : QC} {r : QR} : q_D cs O R c = some r ↔ ∃ n, q_run cs O R n c = some r := by
  unfold q_D
  constructor
  · intro h
    by_cases hx : ∃ r n, q_run cs O R n c = some r
    · rw [dif_pos hx] at h
      obtain ⟨n, hn⟩ := Classical.choose_spec hx
      exact ⟨n, by rw [hn]; exact h⟩
    · rw [dif_neg hx] at h; cases h
  · intro ⟨n, hn⟩
    have hx : ∃ r n, q_run cs O R n c = some r := ⟨r, n, hn⟩
    rw [dif_pos hx]
    obtain ⟨m, hm⟩ := Classical.choose_spec hx
    rw [q_run_det hm hn]
/-- what follows a step -/
def q_nx (cs : List (List QE)) (O : QO) (R : Nat × Nat) (F : QC → Option QR) : Option (QC ⊕ QR) → Option QR
  | none => none
  | some (.inl c) => F c
  | some (.inr r) => some r
theorem q_D_step (cs : List (List QE)) (O : QO) (R : Nat × Nat) (c : QC) : q_D cs O R c = q_nx cs O R (q_D cs O R) (q_step cs O R c) := by
  apply Option.ext
  intro r
  rw [q_D_iff]
  constructor
  · intro ⟨n, hn⟩
    cases n with
    | zero => cases hn
    | succ n =>
      unfold q_run at hn
      cases hs : q_step cs O R c with
      | none => rw [hs] at hn; cases hn
      | some x =>
        rw [hs] at hn
        cases x with
        | inl c' => exact q_D_iff.mpr ⟨n, hn⟩
        | inr r' => exact hn
  · intro h
    cases hs : q_step cs O R c with
    | none => rw [hs] at h; cases h
    | some x =>
      rw [hs] at h
      cases x with
      | inl c' =>
        obtain ⟨n, hn⟩ := q_D_iff.mp (show q_D cs O R c' = some r from h)
        exact ⟨n + 1, by unfold q_run; rw [hs]; exact hn⟩
      | inr r' => exact ⟨1, by unfold q_run; rw [hs]; exact h⟩
/-- up to n steps -/
def q_go (cs : List (List QE)) (O : QO) (R : Nat × Nat) : Nat → QC → Option (QC ⊕ QR)
  | 0, c => some (.inl c)
  | n + 1, c => match q_step cs O R c with
    | some (.inl c') => q_go cs O R n c'
    | x => x
theorem q_D_go (cs : List (List QE)) (O : QO) (R : Nat × Nat) (n : Nat) : ∀ (c : QC), q_D cs O R c = q_nx cs O R (q_D cs O R) (q_go cs O R n c) := by
  induction n with
  | zero => intro c; rfl
  | succ n ih =>
    intro c
    rw [q_D_step]
    unfold q_go
    cases hs : q_step cs O R c with
    | none => rfl
    | some x =>
      cases x with
      | inl c' => exact ih c'
      | inr r' => rfl
theorem q_D_by {cs : List (List QE)} {O : QO} {R : Nat × Nat} (n : Nat) {c c' : QC} (h : q_go cs O R n c = some (.inl c')) : q_D cs O R c = q_D cs O R c' := by
  rw [q_D_go cs O R n c, h]; rfl
theorem q_D_end {cs : List (List QE)} {O : QO} {R : Nat × Nat} (n : Nat) {c : QC} {r : QR} (h : q_go cs O R n c = some (.inr r)) : q_D cs O R c = some r := by
  rw [q_D_go cs O R n c, h]; rfl
/-! ===== a flag that is down stays down ===== -/
def q_bad (x : Option (QC ⊕ QR)) : Prop := ∀ y, x = some y → ∃ c', y = .inl c' ∧ c'.1 = false
theorem q_bad_n : q_bad none := fun _ h => by cases h
theorem q_bad_s {c : QC} (h : c.1 = false) : q_bad (some (.inl c)) := fun _ e => by cases e; exact ⟨c, rfl, h⟩
theorem q_bad_after {X : Option QR} {F : Option Value → QM → QC} (h : ∀ v M, (F v M).1 = false) : q_bad (q_after X F) := by
  unfold q_after; split
  · exact q_bad_n
  · exact q_bad_s (h _ _)
theorem q_fitc_f (t : Nat) (v : Value) : q_fitc t v false = false := by
  unfold q_fitc; split <;> simp
theorem q_bck_f (ns : List Nat) (x : Int32) : q_bck ns x false = false := by
  unfold q_bck; split <;> simp
theorem q_inv_bad (O : QO) (R : Nat × Nat) (len : Nat) (ns : List Nat) (pc : Nat) (L : List (Option Value)) (st : List Value) (M : QM) (ce sl : Nat) : q_bad (q_inv O R len ns (false, pc, L, st, M, ce, sl)) := by
  unfold q_inv
  split
  · unfold q_obj; split
    · rename_i h; cases h; exact q_bad_s (by simp)
    · exact q_bad_n
  · unfold q_cpy; split
    · rename_i h; cases h; exact q_bad_s (by simp)
    · exact q_bad_n
  · unfold q_mn; split
    · rename_i h; cases h; exact q_bad_s (by simp)
    · exact q_bad_n
  · unfold q_mx; split
    · rename_i h; cases h; exact q_bad_s (by simp)
    · exact q_bad_n
  · unfold q_call; exact q_bad_after (fun v M => by simp)
  · exact q_bad_n
set_option maxHeartbeats 4000000 in
set_option maxRecDepth 20000 in
theorem q_ex_bad (O : QO) (R : Nat × Nat) (ins : Instr) (len : Nat) (ns : List Nat) (vs : List Value) (ts : List (Int32 × Nat)) (pc : Nat) (L : List (Option Value)) (st : List Value) (M : QM) (ce sl : Nat) : q_bad (q_ex O R ins len ns vs ts (false, pc, L, st, M, ce, sl)) := by
  unfold q_ex
  dsimp only
  repeat' split
  all_goals first
    | exact q_bad_n
    | exact q_bad_s (by simp [q_fitc_f])
    | exact q_inv_bad _ _ _ _ _ _ _ _ _ _
    | (rw [q_nf_eq]; exact q_bad_s (by simp))
    | (rename_i h; simp [q_bck_f] at h)
    | (simp only [Bool.false_eq_true, if_false]; exact q_bad_n)
theorem q_step_bad {cs : List (List QE)} {O : QO} {R : Nat × Nat} {c : QC} (h : c.1 = false) : q_bad (q_step cs O R c) := by
  obtain ⟨ok, pc, L, st, M, ce, sl⟩ := c
  cases h
  unfold q_step
  dsimp only
  split
  · exact q_bad_n
  · exact q_ex_bad _ _ _ _ _ _ _ _ _ _ _ _ _
theorem q_run_bad {cs : List (List QE)} {O : QO} {R : Nat × Nat} : ∀ (n : Nat) {c : QC}, c.1 = false → q_run cs O R n c = none := by
  intro n
  induction n with
  | zero => intro c _; rfl
  | succ n ih =>
    intro c h
    have hb := q_step_bad (cs := cs) (O := O) (R := R) h
    unfold q_run
    cases hs : q_step cs O R c with
    | none => rfl
    | some x =>
      obtain ⟨c', rfl, hc⟩ := hb x hs
      exact ih hc
theorem q_D_bad {cs : List (List QE)} {O : QO} {R : Nat × Nat} {c : QC} (h : c.1 = false) : q_D cs O R c = none := by
  cases hd : q_D cs O R c with
  | none => rfl
  | some r =>
    obtain ⟨n, hn⟩ := q_D_iff.mp hd
    rw [q_run_bad n h] at hn; cases hn
/-- a check, then what follows -/
def q_ck {α : Type} (b : Bool) (x : Option α) : Option α := match b with
  | true => x
  | false => none
theorem q_ck_t {α : Type} {b : Bool} (h : b = true) (x : Option α) : q_ck b x = x := by rw [h]; rfl
theorem q_D_ck {cs : List (List QE)} {O : QO} {R : Nat × Nat} (b : Bool) (c : Nat × List (Option Value) × List Value × QM × Nat × Nat) : q_D cs O R (b, c) = q_ck b (q_D cs O R (true, c)) := by
  cases b with
  | true => rfl
  | false => exact q_D_bad rfl
/-! ===== dead locals ===== -/
theorem q_kl_len (ks : List Nat) : ∀ (L : List (Option Value)), (q_kl ks L).length = L.length := by
  induction ks with
  | nil => intro L; rfl
  | cons k ks ih => intro L; show (q_kl ks (L.set k none)).length = _; rw [ih]; exact List.length_set
theorem q_kl_at (ks : List Nat) : ∀ (L : List (Option Value)) (i : Nat), (q_kl ks L)[i]? = if i ∈ ks ∧ i < L.length then some none else L[i]? := by
  induction ks with
  | nil => intro L i; simp [q_kl]
  | cons k ks ih =>
    intro L i
    show (q_kl ks (L.set k none))[i]? = _
    rw [ih, List.length_set, List.getElem?_set]
    by_cases h1 : i ∈ ks <;> by_cases h2 : k = i <;> by_cases h3 : i < L.length <;> simp_all
    · intro h; exact absurd h.symm h2
    · intro h; exact absurd h.symm h2
theorem q_kl_kl (ks : List Nat) (L : List (Option Value)) : q_kl ks (q_kl ks L) = q_kl ks L := by
  apply List.ext_getElem?
  intro i
  rw [q_kl_at, q_kl_at, q_kl_len]
  by_cases h : i ∈ ks ∧ i < L.length
  · rw [if_pos h, if_pos h]
  · rw [if_neg h, if_neg h]
def q_ks (cs : List (List QE)) (pc : Nat) : List Nat := match q_fd cs pc with
  | none => []
  | some e => e.2.2.2.2.2.2
theorem q_D_kl (cs : List (List QE)) (O : QO) (R : Nat × Nat) (b : Bool) (pc : Nat) (L : List (Option Value)) (c : List Value × QM × Nat × Nat) : q_D cs O R (b, pc, L, c) = q_D cs O R (b, pc, q_kl (q_ks cs pc) L, c) := by
  rw [q_D_step, q_D_step cs O R (b, pc, q_kl (q_ks cs pc) L, c)]
  have : q_step cs O R (b, pc, L, c) = q_step cs O R (b, pc, q_kl (q_ks cs pc) L, c) := by
    unfold q_step q_ks
    dsimp only
    cases he : q_fd cs pc with
    | none => rfl
    | some e => simp only [q_kl_kl]
  rw [this]
/-! ===== how a stretch of code ends ===== -/
/-- at a place where locals die -/
theorem q_D_to {cs : List (List QE)} {O : QO} {R : Nat × Nat} (n : Nat) {c : QC} {b : Bool} {pc : Nat} {L : List (Option Value)} {d : List Value × QM × Nat × Nat} (h : q_go cs O R n c = some (.inl (b, pc, L, d))) {L' : List (Option Value)} (hL : q_kl (q_ks cs pc) L = L') : q_D cs O R c = q_ck b (q_D cs O R (true, pc, L', d)) := by
  rw [q_D_by n h, q_D_kl, hL, q_D_ck]
/-- at a branch -/
theorem q_D_br {cs : List (List QE)} {O : QO} {R : Nat × Nat} (n : Nat) {c : QC} {b : Bool} {p : Prop} [Decidable p] {pa pb : Nat} {L : List (Option Value)} {d : List Value × QM × Nat × Nat} (h : q_go cs O R n c = some (.inl (b, (if p then pa else pb), L, d))) {La Lb : List (Option Value)} (ha : q_kl (q_ks cs pa) L = La) (hb : q_kl (q_ks cs pb) L = Lb) : q_D cs O R c = q_ck b (if p then q_D cs O R (true, pa, La, d) else q_D cs O R (true, pb, Lb, d)) := by
  rw [q_D_by n h, q_D_ck]
  by_cases hp : p
  · rw [if_pos hp, if_pos hp, q_D_kl, ha]
  · rw [if_neg hp, if_neg hp, q_D_kl, hb]
/-- at a switch -/
noncomputable def q_swD (cs : List (List QE)) (O : QO) (R : Nat × Nat) (x : Int32) (d : List Value × QM × Nat × Nat) (L : List (Option Value)) (t0 : Nat) : List (Int32 × Nat) → Option QR
  | [] => q_D cs O R (true, t0, q_kl (q_ks cs t0) L, d)
  | (k, t) :: r => if x = k then q_D cs O R (true, t, q_kl (q_ks cs t) L, d) else q_swD cs O R x d L t0 r
theorem q_D_sw {cs : List (List QE)} {O : QO} {R : Nat × Nat} (n : Nat) {c : QC} {b : Bool} {x : Int32} {t0 : Nat} {ts : List (Int32 × Nat)} {L : List (Option Value)} {d : List Value × QM × Nat × Nat} (h : q_go cs O R n c = some (.inl (b, q_sw x t0 ts, L, d))) : q_D cs O R c = q_ck b (q_swD cs O R x d L t0 ts) := by
  rw [q_D_by n h, q_D_ck]
  congr 1
  clear h
  induction ts with
  | nil => exact q_D_kl _ _ _ _ _ _ _
  | cons a r ih =>
    obtain ⟨k, t⟩ := a
    show q_D cs O R (true, (if x = k then t else q_sw x t0 r), L, d) = if x = k then _ else _
    by_cases hp : x = k
    · rw [if_pos hp, if_pos hp]; exact q_D_kl _ _ _ _ _ _ _
    · rw [if_neg hp, if_neg hp]; exact ih
/-- at a call -/
theorem q_D_call {cs : List (List QE)} {O : QO} {R : Nat × Nat} (n : Nat) {c : QC} {X : Option QR} {b : Bool} {pc : Nat} {L : List (Option Value)} {st : List Value} {ce sl : Nat} (c1 : QC) (h1 : q_go cs O R n c = some (.inl c1)) (h : q_step cs O R c1 = q_after X (fun v M => (b, pc, L, v.toList ++ st, M, ce, sl))) : q_D cs O R c = q_ck b (X.bind (fun r => q_D cs O R (true, pc, L, r.1.toList ++ st, r.2, ce, sl))) := by
  rw [q_D_by n h1, q_D_step, h]
  cases X with
  | none => cases b <;> rfl
  | some r => exact q_D_ck _ _
/-- at a return -/
theorem q_D_ret {cs : List (List QE)} {O : QO} {R : Nat × Nat} (n : Nat) {c : QC} {b : Bool} {r : QR} (c1 : QC) (h1 : q_go cs O R n c = some (.inl c1)) (h : q_step cs O R c1 = if b then some (.inr r) else none) : q_D cs O R c = q_ck b (some r) := by
  rw [q_D_by n h1, q_D_step, h]
  cases b <;> rfl
