/-! ===== the abstract machine and the machine: what they share ===== -/
/-- classes and slots, array classes, addresses of places, the first address, statics' contents and shapes -/
abbrev QEnv : Type := va_G × (Nat → ClassId) × (Nat → Nat) × Nat × (Nat → Nat → Int32) × (Nat → Nat × Nat)
def q_rf (ad : Nat → Nat) (p : Nat) : Value := if p = 0 then .null else .ref (ad p)
def q_v (ad : Nat → Nat) : Value → Value
  | .ref p => q_rf ad p
  | v => v
def q_tag (c k : Nat) : Nat := (q_tags.getD c []).getD k 0
def q_fs (ad : Nat → Nat) (M : QM) (p c n : Nat) : List Value := (List.range n).map (fun k => q_v ad (q_fld M p k (q_tag c k)))
def q_cell (cA : Nat → ClassId) (ad : Nat → Nat) (M : QM) (p : Nat) : va_E :=
  if q_kd M p < 21 then .inr (q_kd M p - 1, q_fs ad M p (q_kd M p - 1) (q_len M p))
  else if q_kd M p = 23 then .inl (cA 23, q_len M p, .inr (.inl (M.2.1 p)))
  else .inl (cA (q_kd M p), q_len M p, .inl (M.1 p))
def q_ws (E : QEnv) (M : QM) : va_W := (List.range M.2.2.2.2).map (fun i => (E.2.2.1 (i + 1), q_cell E.2.1 E.2.2.1 M (i + 1)))
def q_tys (E : QEnv) : List (ClassId × FieldType) := [(E.2.1 21, .byte), (E.2.1 22, .int), (E.2.1 23, .long), (E.2.1 24, .boolean)]
def q_A (E : QEnv) : Nat → Prop := fun q => E.2.2.2.1 ≤ q
def q_stat : List (Nat × String × String) := [(1000, "ScanBench$Ways", "NEXT"), (1001, "ScanBench$Faults", "LESSER"), (1002, "ScanBench$Faults", "OTHER"), (1003, "ScanBench$Codes", "COUNT_STEPS")]
def q_ad (E : QEnv) : Prop := ∀ p, 1 ≤ p → p < 1000 → E.2.2.1 p + 1 = E.2.2.2.1 + p
def q_wf (E : QEnv) (M : QM) : Prop := M.2.2.2.2 < 901 ∧ (∀ p, 1000 ≤ p → M.2.2.2.1 p = E.2.2.2.2.2 p ∧ M.1 p = E.2.2.2.2.1 p) ∧
  ∀ p, p < 1000 → 0 < q_kd M p → 1 ≤ p ∧ p ≤ M.2.2.2.2 ∧ ((q_kd M p ≤ 12 ∧ ∃ q : vw_C, q_cl[q_kd M p - 1]? = some q ∧ q_len M p = q.2.2) ∨ (21 ≤ q_kd M p ∧ q_kd M p ≤ 24))
/-- words that a nest gives: they are carried along -/
def q_isN : Cond → Bool
  | .fieldLinkNest _ _ _ _ _ _ => true
  | .methodLinkNest _ _ _ _ => true
  | _ => false
def q_nst : List Cond := lw_tbl.filter q_isN
theorem q_nst_mem {w : Cond} (i : Nat) (h : lw_tbl[i]? = some w) (hg : q_isN w = true) : w ∈ q_nst := List.mem_filter.mpr ⟨List.mem_of_getElem? h, hg⟩
theorem q_nst_warm {s U : State} (hW : s.WarmedH U.vm) {w : Cond} (hw : w ∈ q_nst) (h : va_Nw w s) : va_Nw w U := by
  have := (List.mem_filter.mp hw).2
  unfold q_isN at this
  split at this
  · exact va_Nw.warmF hW h
  · exact va_Nw.warmM hW h
  · cases this
theorem q_nst_tab {w : Cond} (hw : w ∈ q_nst) : w.onTables = true := by
  have := (List.mem_filter.mp hw).2
  unfold q_isN at this
  split at this
  · rfl
  · rfl
  · cases this
/-- the text constant, and what its members read -/
def q_Tx (E : QEnv) (s : State) (H : Heap) : Prop := vk_S 1 [102] [q_tx] (fun _ => E.2.2.1 1010) (fun _ => E.2.2.1 1011) (q_A E) s H ∧ va_Z "java/lang/String" "COMPACT_STRINGS" "Z" (.int 1) (q_A E) s H ∧
  (∃ p, va_Z "jdk/internal/util/Preconditions" "SIOOBE_FORMATTER" "Ljava/util/function/BiFunction;" (q_rf E.2.2.1 p) (q_A E) s H) ∧ vk_R "ScanBench$Reader" 59 q_ts (E.2.2.1 1010) s
def q_St (E : QEnv) (s : State) (H : Heap) : Prop := va_K E.1 q_cl (q_tys E) s ∧ (∀ p, 1000 ≤ p → (E.2.2.2.2.2 p).1 = 0 ∨ ((E.2.2.2.2.2 p).1 = 30 ∧ va_T .int (E.2.2.1 p) (E.2.2.2.2.2 p).2 (fun k => .int (E.2.2.2.2.1 p k)) (q_A E) s H) ∨ ((E.2.2.2.2.2 p).1 = 40 ∧ p = 1010)) ∧
  (∀ x ∈ q_stat, va_Z x.2.1 x.2.2 "[I" (.ref (E.2.2.1 x.1)) (q_A E) s H) ∧ q_ad E ∧ (∀ w ∈ q_nst, va_Nw w s) ∧ q_Tx E s H
def q_Dy (E : QEnv) (M : QM) (H : Heap) : Prop := va_P E.1 q_cl (q_ws E M) H ∧ va_D (q_A E) (q_ws E M) ∧ E.2.2.2.1 + M.2.2.2.2 ≤ H.size ∧ q_wf E M
def q_pr (ad : Nat → Nat) : Nat → List (Option Value) → List (Nat × Value)
  | _, [] => []
  | i, none :: r => q_pr ad (i + 1) r
  | i, some v :: r => (i, q_v ad v) :: q_pr ad (i + 1) r
def q_at (E : QEnv) (s : State) (nL N0 ce : Nat) (L : List (Option Value)) (M : QM) (H : Heap) (locs : List Loc) (ls : Array Slot) : Prop :=
  q_Dy E M H ∧ va_S (q_A E) s.heap H locs ∧ lv_has ls nL (q_pr E.2.2.1 0 L) ∧ L.length = nL ∧ M.2.2.2.2 = N0 + ce ∧ s.heap.size = E.2.2.2.1 + N0
/-! ===== locals ===== -/
theorem q_pr_mem {ad : Nat → Nat} : ∀ {L : List (Option Value)} {i j : Nat} {v : Value}, L[j]? = some (some v) → (i + j, q_v ad v) ∈ q_pr ad i L := by
  intro L
  induction L with
  | nil => intro i j v h; simp at h
  | cons o r ih =>
    intro i j v h
    cases j with
    | zero =>
      simp at h
      subst h
      exact List.mem_cons_self
    | succ j =>
      have h1 := ih (i := i + 1) (j := j) (v := v) (by simpa using h)
      rw [show i + (j + 1) = i + 1 + j by omega]
      cases o with
      | none => exact h1
      | some w => exact List.mem_cons_of_mem _ h1
theorem q_pr_of {ad : Nat → Nat} : ∀ {L : List (Option Value)} {i : Nat} {q : Nat × Value}, q ∈ q_pr ad i L → ∃ (j : Nat) (v : Value), L[j]? = some (some v) ∧ q = (i + j, q_v ad v) := by
  intro L
  induction L with
  | nil => intro i q h; cases h
  | cons o r ih =>
    intro i q h
    cases o with
    | none =>
      obtain ⟨j, v, h1, h2⟩ := ih (i := i + 1) h
      exact ⟨j + 1, v, by simpa using h1, by rw [h2, show i + 1 + j = i + (j + 1) by omega]⟩
    | some w =>
      rcases List.mem_cons.mp h with h | h
      · exact ⟨0, w, rfl, h⟩
      · obtain ⟨j, v, h1, h2⟩ := ih (i := i + 1) h
        exact ⟨j + 1, v, by simpa using h1, by rw [h2, show i + 1 + j = i + (j + 1) by omega]⟩
theorem q_get_at {L : List (Option Value)} {i : Nat} {v : Value} (h : q_get L i = some v) : L[i]? = some (some v) := by
  unfold q_get at h
  cases hl : L[i]? with
  | none => rw [hl] at h; cases h
  | some o => rw [hl] at h; cases o with
    | none => cases h
    | some w => cases h; rfl
theorem q_ls {ad : Nat → Nat} {ls : Array Slot} {nL i : Nat} {L : List (Option Value)} {v : Value} (hl : lv_has ls nL (q_pr ad 0 L)) (h : q_get L i = some v) : ls[i]? = some (.val (q_v ad v)) := by
  have := hl.2.2 _ (q_pr_mem (ad := ad) (i := 0) (q_get_at h))
  simpa using this
theorem lv_less {ls : Array Slot} {nL : Nat} {l l' : List (Nat × Value)} (h : lv_has ls nL l) (hs : ∀ q ∈ l', q ∈ l) : lv_has ls nL l' := ⟨h.1, h.2.1, fun q hq => h.2.2 q (hs q hq)⟩
theorem q_v_cat (ad : Nat → Nat) (v : Value) : (q_v ad v).category = v.category := by
  cases v <;> first | rfl | (show (q_rf ad _).category = _; unfold q_rf; split <;> rfl)
/-- a local is written -/
theorem q_pr_set {ad : Nat → Nat} {L : List (Option Value)} {i : Nat} {v : Value} (hi : i < L.length) : ∀ q ∈ q_pr ad 0 (q_set L i v), q ∈ (i, q_v ad v) :: (q_pr ad 0 L).filter (fun q => !(q.1 == i) && !(q.1 + 1 == i && q.2.category == 2)) := by
  intro q hq
  obtain ⟨j, w, h1, rfl⟩ := q_pr_of hq
  rw [Nat.zero_add]
  have hcase : (j = i ∧ w = v) ∨ (j ≠ i ∧ L[j]? = some (some w) ∧ ¬ (j + 1 = i ∧ w.category = 2)) := by
    unfold q_set at h1
    cases i with
    | zero =>
      simp only at h1
      rw [List.getElem?_set] at h1
      by_cases hj : 0 = j
      · subst hj; simp [hi] at h1; exact Or.inl ⟨rfl, h1.symm⟩
      · rw [if_neg hj] at h1; exact Or.inr ⟨fun h => hj h.symm, h1, fun h => by omega⟩
    | succ k =>
      simp only at h1
      by_cases hb : q_isL L[k]? = true
      · rw [if_pos hb, List.getElem?_set] at h1
        by_cases hj : k + 1 = j
        · subst hj; simp [hi] at h1; exact Or.inl ⟨rfl, h1.symm⟩
        · rw [if_neg hj, List.getElem?_set] at h1
          by_cases hj2 : k = j
          · rw [if_pos hj2] at h1; split at h1 <;> cases h1
          · rw [if_neg hj2] at h1; exact Or.inr ⟨fun h => hj h.symm, h1, fun h => hj2 (by omega)⟩
      · rw [if_neg hb, List.getElem?_set] at h1
        by_cases hj : k + 1 = j
        · subst hj; simp [hi] at h1; exact Or.inl ⟨rfl, h1.symm⟩
        · rw [if_neg hj] at h1
          refine Or.inr ⟨fun h => hj h.symm, h1, fun ⟨h2, h3⟩ => ?_⟩
          have : j = k := by omega
          subst this
          rw [h1] at hb
          cases w with
          | long x => exact hb rfl
          | double x => exact hb rfl
          | _ => cases h3
  rcases hcase with ⟨rfl, rfl⟩ | ⟨hj, hl, hn⟩
  · exact List.mem_cons_self
  · refine List.mem_cons_of_mem _ (List.mem_filter.mpr ⟨by have := q_pr_mem (ad := ad) (i := 0) hl; simpa using this, ?_⟩)
    simp only [q_v_cat]
    by_cases h2 : j + 1 = i
    · have : ¬ w.category = 2 := fun h3 => hn ⟨h2, h3⟩
      simp [hj, this]
    · simp [hj, h2]
theorem q_set_len (L : List (Option Value)) (i : Nat) (v : Value) : (q_set L i v).length = L.length := by
  unfold q_set
  split
  · exact List.length_set
  · split <;> simp
theorem q_setL_len (L : List (Option Value)) (i : Nat) (v : Value) : (q_setL L i v).length = L.length := by
  unfold q_setL; rw [List.length_set, q_set_len]
theorem q_pr_setL {ad : Nat → Nat} {L : List (Option Value)} {i : Nat} {v : Value} (hi : i + 1 < L.length) : ∀ q ∈ q_pr ad 0 (q_setL L i v), q ∈ (i, q_v ad v) :: (q_pr ad 0 L).filter (fun q => !(q.1 == i) && (!(q.1 == i + 1) && !(q.1 + 1 == i && q.2.category == 2))) := by
  intro q hq
  obtain ⟨j, w, h1, rfl⟩ := q_pr_of hq
  unfold q_setL at h1
  rw [List.getElem?_set] at h1
  by_cases hj : i + 1 = j
  · rw [if_pos hj] at h1; split at h1 <;> cases h1
  · rw [if_neg hj] at h1
    have h2 := q_pr_set (ad := ad) (L := L) (i := i) (v := v) (by omega) _ (q_pr_mem (i := 0) h1)
    rcases List.mem_cons.mp h2 with h2 | h2
    · rw [h2]; exact List.mem_cons_self
    · obtain ⟨h3, h4⟩ := List.mem_filter.mp h2
      refine List.mem_cons_of_mem _ (List.mem_filter.mpr ⟨h3, ?_⟩)
      simp only [Nat.zero_add] at h4 ⊢
      rw [Bool.and_eq_true] at h4 ⊢
      refine ⟨h4.1, ?_⟩
      rw [Bool.and_eq_true]
      exact ⟨by simp; exact fun h => hj h.symm, h4.2⟩
theorem q_pr_kl {ad : Nat → Nat} (ks : List Nat) (L : List (Option Value)) : ∀ q ∈ q_pr ad 0 (q_kl ks L), q ∈ q_pr ad 0 L := by
  intro q hq
  obtain ⟨j, w, h1, rfl⟩ := q_pr_of hq
  rw [q_kl_at] at h1
  by_cases h : j ∈ ks ∧ j < L.length
  · rw [if_pos h] at h1; cases h1
  · rw [if_neg h] at h1; exact q_pr_mem h1
theorem q_S_trans {A : Nat → Prop} {H0 H H1 : Heap} {locs locs1 : List Loc} (h : va_S A H0 H locs) (h1 : va_S A H H1 locs1) : va_S A H0 H1 locs1 :=
  ⟨Nat.le_trans h.1 h1.1, fun q a b => (h1.2.1 q (Nat.lt_of_lt_of_le a h.1) b).trans (h.2.1 q a b), h1.2.2⟩
theorem q_S_rf {A : Nat → Prop} {H0 H : Heap} {locs : List Loc} (h : va_S A H0 H locs) : va_S A H H locs := ⟨Nat.le_refl _, fun _ _ _ => rfl, h.2.2⟩
/-! ===== cells of places ===== -/
theorem q_ws_at {E : QEnv} {M : QM} {p : Nat} (h1 : 1 ≤ p) (h2 : p ≤ M.2.2.2.2) : (q_ws E M)[p - 1]? = some (E.2.2.1 p, q_cell E.2.1 E.2.2.1 M p) := by
  unfold q_ws
  rw [List.getElem?_map, List.getElem?_range (by omega)]
  show some (E.2.2.1 (p - 1 + 1), _) = _
  rw [show p - 1 + 1 = p by omega]
theorem q_ws_len {E : QEnv} {M : QM} : (q_ws E M).length = M.2.2.2.2 := by unfold q_ws; simp
theorem q_ws_set {E : QEnv} {M M' : QM} {p : Nat} (h1 : 1 ≤ p) (hN : M'.2.2.2.2 = M.2.2.2.2) (hc : ∀ q, q ≠ p → q_cell E.2.1 E.2.2.1 M' q = q_cell E.2.1 E.2.2.1 M q) : (q_ws E M).set (p - 1) (E.2.2.1 p, q_cell E.2.1 E.2.2.1 M' p) = q_ws E M' := by
  apply List.ext_getElem?
  intro i
  rw [List.getElem?_set, q_ws_len]
  unfold q_ws
  rw [List.getElem?_map, List.getElem?_map, hN]
  by_cases hi : p - 1 = i
  · rw [if_pos hi]
    by_cases hl : p - 1 < M.2.2.2.2
    · rw [if_pos hl, List.getElem?_range (by omega)]
      show _ = some (E.2.2.1 (i + 1), q_cell _ _ M' (i + 1))
      rw [show i + 1 = p by omega]
    · rw [if_neg hl, List.getElem?_eq_none (by simp; omega)]; rfl
  · rw [if_neg hi]
    by_cases hl : i < M.2.2.2.2
    · rw [List.getElem?_range hl]
      show some (_, _) = some (_, _)
      rw [hc (i + 1) (by omega)]
    · rw [List.getElem?_eq_none (by simp; omega)]; rfl
