/-! ===== walks: how far ===== -/
def qnt (i : Nat) : Nat := qnx (i / 2) (decide (i % 2 = 1))
theorem qnt_t : ∀ i, i < 32 → q_t0.getD i 0 = nI (qnt i) ∧ qnt i < 16 ∧ nI i / 2 = nI (i / 2) := by decide +kernel
def qMn (bw : Bool) (i : Nat) : Nat := if bw then qnt i else i / 2
def qMb (bw : Bool) (i : Nat) : Nat := if bw then i / 2 else qnt i
theorem qM_lt (bw : Bool) {i : Nat} (h : i < 32) : qMn bw i < 16 ∧ qMb bw i < 16 := by
  have := (qnt_t i h).2.1
  cases bw
  · exact ⟨show i / 2 < 16 by omega, this⟩
  · exact ⟨this, show i / 2 < 16 by omega⟩
def qMs (bw : Bool) (rd i : Nat) (y : Bool × (Nat → Nat)) : Bool × (Nat → Nat) := if y.2 (qMn bw i) = rd - 1 ∧ rd < y.2 (qMb bw i) then (true, va_up y.2 (qMb bw i) rd) else y
def qMi (bw : Bool) (rd : Nat) (f : Nat → Nat) : Nat → Bool × (Nat → Nat)
  | 0 => (false, f)
  | i + 1 => qMs bw rd i (qMi bw rd f i)
def qMo (bw : Bool) (f : Nat → Nat) : Nat → Bool × (Nat → Nat)
  | 0 => (true, f)
  | n + 1 => if (qMo bw f n).1 then qMi bw (n + 1) (qMo bw f n).2 32 else qMo bw f n
theorem qMo_stop {bw : Bool} {f : Nat → Nat} {n : Nat} (h : (qMo bw f n).1 = false) : ∀ k, qMo bw f (n + k) = qMo bw f n
  | 0 => rfl
  | k + 1 => by
    show (if (qMo bw f (n + k)).1 then qMi bw (n + k + 1) (qMo bw f (n + k)).2 32 else qMo bw f (n + k)) = _
    rw [qMo_stop h k, h]; rfl
def q_le (f : Nat → Nat) : Prop := ∀ k, k < 16 → f k ≤ 16
theorem qMs_le {bw : Bool} {rd i : Nat} (hr : rd ≤ 16) {y : Bool × (Nat → Nat)} (h : q_le y.2) : q_le (qMs bw rd i y).2 := by
  unfold qMs
  split
  · intro k hk
    show va_up y.2 (qMb bw i) rd k ≤ 16
    rw [va_up_at]
    split
    · exact hr
    · exact h k hk
  · exact h
theorem qMi_le {bw : Bool} {rd : Nat} (hr : rd ≤ 16) {f : Nat → Nat} (h : q_le f) : ∀ i, q_le (qMi bw rd f i).2
  | 0 => h
  | i + 1 => qMs_le hr (qMi_le hr h i)
theorem qMo_le {bw : Bool} {f : Nat → Nat} (h : q_le f) : ∀ n, n ≤ 15 → q_le (qMo bw f n).2
  | 0, _ => h
  | n + 1, hn => by
    show q_le (if (qMo bw f n).1 then qMi bw (n + 1) (qMo bw f n).2 32 else qMo bw f n).2
    split
    · exact qMi_le (by omega) (qMo_le h n (by omega)) 32
    · exact qMo_le h n (by omega)
/-- a row of sixteen -/
def q16 (f : Nat → Nat) (g : Nat → Int32) : Nat → Int32 := fa_fill (fun k => nI (f k)) g 16
theorem q16_in {f : Nat → Nat} {g : Nat → Int32} {k : Nat} (h : k < 16) : q16 f g k = nI (f k) := fa_fill_in h
theorem q16_up {f : Nat → Nat} {g : Nat → Int32} {k v : Nat} (h : k < 16) : va_up (q16 f g) k (nI v) = q16 (va_up f k v) g := by
  funext j
  rw [va_up_at]
  unfold q16 fa_fill
  by_cases hj : j = k
  · rw [if_pos hj, if_pos (by omega), hj]
    dsimp only
    rw [va_hit]
  · rw [if_neg hj]
    dsimp only
    rw [va_miss hj]
section WY
variable {I : Nat → Nat → Int32} {J : Nat → Nat → Int64} {e : QP}
theorem fJ7_fill_35 (v : Int32) : mJ7_fill_53178 [.ref 35, .int v] (qm I J e) = some (none, qm (va_up I 35 (fa_fill (fun _ => v) (I 35) 16)) J e) := by
  have hst : ∀ n, n < 16 → (fun n (K : Nat → Nat → Int32) => kJ7_fill_53178 5 [some (.ref 35), some (.int v), some (.int (nI n)), some (.int 16)] [] (qm K J e)) n (va_up I 35 (fa_fill (fun _ => v) (I 35) n)) = (fun n (K : Nat → Nat → Int32) => kJ7_fill_53178 5 [some (.ref 35), some (.int v), some (.int (nI n)), some (.int 16)] [] (qm K J e)) (n + 1) (va_up I 35 (fa_fill (fun _ => v) (I 35) (n + 1))) := by
    intro n hn
    show kJ7_fill_53178 5 _ _ _ = kJ7_fill_53178 5 _ _ _
    rw [eJ7_fill_53178_35_5, if_pos (show nI n < (16 : Int32) from nI_lt (b := 16) hn (by decide)), eJ7_fill_53178_35_10, q_in_nI hn (by omega), nI_clamp (by omega), nI_1, q_up_up]
    simp only [Option.bind_some, Option.toList_some, Option.toList_none, List.nil_append, List.cons_append, q_ck_tt, Bool.and_true, Bool.true_and, if_true, if_false, reduceCtorEq]
    rw [fa_next' (f := fun _ => v) rfl]
  have hf := q_for (fun n (K : Nat → Nat → Int32) => kJ7_fill_53178 5 [some (.ref 35), some (.int v), some (.int (nI n)), some (.int 16)] [] (qm K J e)) 16 (fun n => va_up I 35 (fa_fill (fun _ => v) (I 35) n)) hst
  rw [fa_fill_0, va_up_eq (f := I) (p := 35) rfl] at hf
  rw [bJ7_fill_53178_35, eJ7_fill_53178_35_0]
  refine Eq.trans hf ?_
  show kJ7_fill_53178 5 _ _ _ = _
  rw [eJ7_fill_53178_35_5, if_neg (show ¬ nI 16 < 16 by decide), eJ7_fill_53178_35_20]
theorem fJ7_fill_36 (v : Int32) : mJ7_fill_53178 [.ref 36, .int v] (qm I J e) = some (none, qm (va_up I 36 (fa_fill (fun _ => v) (I 36) 16)) J e) := by
  have hst : ∀ n, n < 16 → (fun n (K : Nat → Nat → Int32) => kJ7_fill_53178 5 [some (.ref 36), some (.int v), some (.int (nI n)), some (.int 16)] [] (qm K J e)) n (va_up I 36 (fa_fill (fun _ => v) (I 36) n)) = (fun n (K : Nat → Nat → Int32) => kJ7_fill_53178 5 [some (.ref 36), some (.int v), some (.int (nI n)), some (.int 16)] [] (qm K J e)) (n + 1) (va_up I 36 (fa_fill (fun _ => v) (I 36) (n + 1))) := by
    intro n hn
    show kJ7_fill_53178 5 _ _ _ = kJ7_fill_53178 5 _ _ _
    rw [eJ7_fill_53178_36_5, if_pos (show nI n < (16 : Int32) from nI_lt (b := 16) hn (by decide)), eJ7_fill_53178_36_10, q_in_nI hn (by omega), nI_clamp (by omega), nI_1, q_up_up]
    simp only [Option.bind_some, Option.toList_some, Option.toList_none, List.nil_append, List.cons_append, q_ck_tt, Bool.and_true, Bool.true_and, if_true, if_false, reduceCtorEq]
    rw [fa_next' (f := fun _ => v) rfl]
  have hf := q_for (fun n (K : Nat → Nat → Int32) => kJ7_fill_53178 5 [some (.ref 36), some (.int v), some (.int (nI n)), some (.int 16)] [] (qm K J e)) 16 (fun n => va_up I 36 (fa_fill (fun _ => v) (I 36) n)) hst
  rw [fa_fill_0, va_up_eq (f := I) (p := 36) rfl] at hf
  rw [bJ7_fill_53178_36, eJ7_fill_53178_36_0]
  refine Eq.trans hf ?_
  show kJ7_fill_53178 5 _ _ _ = _
  rw [eJ7_fill_53178_36_5, if_neg (show ¬ nI 16 < 16 by decide), eJ7_fill_53178_36_20]
theorem q_me_in (hS : q_Sta I) (bw : Bool) {rd : Nat} (h1 : 1 ≤ rd) (hr : rd ≤ 15) {f : Nat → Nat} (hf : q_le f) (g : Nat → Int32) : kX10_measure 32 [some (.ref 34), none, some (.int (qb bw)), none, some (.int (nI rd)), none, none, none] [] (qm (va_up I 35 (q16 f g)) J e) = kX10_measure 21 [some (.ref 34), none, some (.int (qb bw)), some (.int (qb (qMi bw rd f 32).1)), some (.int (nI (rd + 1))), none, none, none] [] (qm (va_up I 35 (q16 (qMi bw rd f 32).2 g)) J e) := by
  have hst : ∀ i, i < 32 → (fun i (y : Bool × (Nat → Nat)) => kX10_measure 37 [some (.ref 34), none, some (.int (qb bw)), some (.int (qb y.1)), some (.int (nI rd)), some (.int (nI i)), none, none] [] (qm (va_up I 35 (q16 y.2 g)) J e)) i (qMi bw rd f i) = (fun i (y : Bool × (Nat → Nat)) => kX10_measure 37 [some (.ref 34), none, some (.int (qb bw)), some (.int (qb y.1)), some (.int (nI rd)), some (.int (nI i)), none, none] [] (qm (va_up I 35 (q16 y.2 g)) J e)) (i + 1) (qMi bw rd f (i + 1)) := by
    intro i hi
    have hle := qMi_le (bw := bw) (show rd ≤ 16 by omega) hf i
    show kX10_measure 37 _ _ _ = kX10_measure 37 [some (.ref 34), none, some (.int (qb bw)), some (.int (qb (qMs bw rd i (qMi bw rd f i)).1)), some (.int (nI rd)), some (.int (nI (i + 1))), none, none] [] (qm (va_up I 35 (q16 (qMs bw rd i (qMi bw rd f i)).2 g)) J e)
    generalize qMi bw rd f i = y at hle
    obtain ⟨gr, F⟩ := y
    dsimp only at hle ⊢
    obtain ⟨n1, n2, n3⟩ := qnt_t i hi
    obtain ⟨l1, l2⟩ := qM_lt bw hi
    have h32 : q_in (nI i) 32 = true := q_in_nI hi (by omega)
    have e1000 : (va_up I 35 (q16 F g)) 1000 i = nI (qnt i) := by rw [va_miss (by decide), hS.1, n1]
    have hto : kX10_measure 37 [some (.ref 34), none, some (.int (qb bw)), some (.int (qb gr)), some (.int (nI rd)), some (.int (nI i)), none, none] [] (qm (va_up I 35 (q16 F g)) J e) = kX10_measure 80 [some (.ref 34), none, some (.int (qb bw)), some (.int (qb gr)), some (.int (nI rd)), some (.int (nI i)), some (.int (nI (qMn bw i))), none] [.int (nI (qMb bw i))] (qm (va_up I 35 (q16 F g)) J e) := by
      rw [eX10_measure_37, if_pos (show nI i < (32 : Int32) from nI_lt (b := 32) hi (by decide)), eX10_measure_44]
      cases bw with
      | false =>
        rw [if_pos qb_f, eX10_measure_57, n3, eX10_measure_61, if_pos qb_f, eX10_measure_74, h32, nI_clamp (by omega), e1000]
        rfl
      | true =>
        rw [if_neg (show ¬ qb true = 0 by decide), eX10_measure_48, h32, nI_clamp (by omega), e1000]
        simp only [Option.bind_some, Option.toList_some, Option.toList_none, List.nil_append, List.cons_append, q_ck_tt, Bool.and_true, Bool.true_and, if_true, if_false, reduceCtorEq]
        rw [eX10_measure_61, if_neg (show ¬ qb true = 0 by decide), eX10_measure_67, n3]
        rfl
    have r1 : (va_up I 35 (q16 F g)) 35 (qMn bw i) = nI (F (qMn bw i)) := by rw [va_hit, q16_in l1]
    have r2 : (va_up I 35 (q16 F g)) 35 (qMb bw i) = nI (F (qMb bw i)) := by rw [va_hit, q16_in l2]
    have b1 := hle _ l1
    have b2 := hle _ l2
    rw [hto, eX10_measure_80, q_in_nI l1 (by omega), nI_clamp (by omega), r1, nI_1s h1]
    simp only [Option.bind_some, Option.toList_some, Option.toList_none, List.nil_append, List.cons_append, q_ck_tt, Bool.and_true, Bool.true_and, if_true, if_false, reduceCtorEq]
    unfold qMs
    by_cases c1 : F (qMn bw i) = rd - 1
    · rw [if_pos (show nI (F (qMn bw i)) = nI (rd - 1) by rw [c1]), eX10_measure_96, q_in_nI l2 (by omega), nI_clamp (by omega), r2]
      simp only [Option.bind_some, Option.toList_some, Option.toList_none, List.nil_append, List.cons_append, q_ck_tt, Bool.and_true, Bool.true_and, if_true, if_false, reduceCtorEq]
      by_cases c2 : rd < F (qMb bw i)
      · rw [if_pos (nI_lt c2 (by omega)), if_pos ⟨c1, c2⟩, eX10_measure_108, q_in_nI l2 (by omega), nI_clamp (by omega), q_up_up, q16_up l2]
        simp only [Option.bind_some, Option.toList_some, Option.toList_none, List.nil_append, List.cons_append, q_ck_tt, Bool.and_true, Bool.true_and, if_true, if_false, reduceCtorEq]
        rw [eX10_measure_119, nI_1]
        rfl
      · rw [if_neg (nI_nlt (by omega) (by omega)), if_neg (fun c => c2 c.2), eX10_measure_119, nI_1]
    · rw [if_neg (fun c => c1 (nI_inj (by omega) (by omega) c)), if_neg (fun c => c1 c.1), eX10_measure_119, nI_1]
  have hq := q_for (fun i (y : Bool × (Nat → Nat)) => kX10_measure 37 [some (.ref 34), none, some (.int (qb bw)), some (.int (qb y.1)), some (.int (nI rd)), some (.int (nI i)), none, none] [] (qm (va_up I 35 (q16 y.2 g)) J e)) 32 (fun i => qMi bw rd f i) hst
  rw [eX10_measure_32]
  refine Eq.trans hq ?_
  show kX10_measure 37 _ _ _ = _
  rw [eX10_measure_37, if_neg (show ¬ nI 32 < 32 by decide), eX10_measure_125, nI_1]
theorem qMo_s {bw : Bool} {f : Nat → Nat} {n : Nat} (h : (qMo bw f n).1 = true) : qMo bw f (n + 1) = qMi bw (n + 1) (qMo bw f n).2 32 := by
  rw [qMo, h, if_pos rfl]
theorem q_me_all (hS : q_Sta I) (bw : Bool) {F : Nat → Nat} (hF : q_le F) (g : Nat → Int32) : ∀ m n, n + m = 15 → kX10_measure 21 [some (.ref 34), none, some (.int (qb bw)), some (.int (qb (qMo bw F n).1)), some (.int (nI (n + 1))), none, none, none] [] (qm (va_up I 35 (q16 (qMo bw F n).2 g)) J e) = some (none, qm (va_up I 35 (q16 (qMo bw F 15).2 g)) J e) := by
  intro m
  induction m with
  | zero =>
    intro n hn
    have hn15 : n = 15 := by omega
    rw [eX10_measure_21, if_neg (show ¬ nI (n + 1) < (16 : Int32) from nI_nlt (b := 16) (by omega) (by omega)), eX10_measure_131, hn15]
  | succ m ih =>
    intro n hn
    rw [eX10_measure_21, if_pos (show nI (n + 1) < (16 : Int32) from nI_lt (b := 16) (by omega) (by decide)), eX10_measure_28]
    cases hg : (qMo bw F n).1 with
    | false =>
      rw [if_pos qb_f, eX10_measure_131]
      have h1 := qMo_stop hg (15 - n)
      have h2 : n + (15 - n) = 15 := by omega
      rw [h2] at h1
      rw [h1]
    | true =>
      have h3 := ih (n + 1) (by omega)
      rw [qMo_s hg] at h3
      rw [if_neg (show ¬ qb true = 0 by decide), q_me_in hS bw (show 1 ≤ n + 1 by omega) (show n + 1 ≤ 15 by omega) (qMo_le hF n (by omega))]
      exact h3
/-- how far, as a table of numbers -/
def qMz (bw : Bool) (one : Nat) : Nat → Nat := (qMo bw (va_up (fun _ => 16) one 0) 15).2
theorem fX10_measure (hS : q_Sta I) (bw : Bool) {one : Nat} (ho : one < 16) : mX10_measure [.ref 34, .int (nI one), .int (qb bw)] (qm I J e) = some (none, qm (va_up I 35 (q16 (qMz bw one) (I 35))) J e) := by
  have hf0 : q_le (va_up (fun _ => 16) one 0) := by
    intro k hk
    rw [va_up_at]
    split <;> omega
  have hrow : va_up (fa_fill (fun _ => (16 : Int32)) (I 35) 16) one 0 = q16 (va_up (fun _ => 16) one 0) (I 35) := q16_up (f := fun _ => 16) (v := 0) ho
  have hm := q_me_all (J := J) (e := e) hS bw hf0 (I 35) 15 0 (by omega)
  unfold qMz
  generalize (va_up (fun _ => 16) one 0 : Nat → Nat) = F at hf0 hrow hm
  rw [bX10_measure, eX10_measure_0, fJ7_fill_35]
  simp only [Option.bind_some, Option.toList_some, Option.toList_none, List.nil_append, List.cons_append, q_ck_tt, Bool.and_true, Bool.true_and, if_true, if_false, reduceCtorEq]
  rw [eX10_measure_9, q_in_nI ho (by omega), nI_clamp (by omega), q_up_up, hrow]
  simp only [Option.bind_some, Option.toList_some, Option.toList_none, List.nil_append, List.cons_append, q_ck_tt, Bool.and_true, Bool.true_and, if_true, if_false, reduceCtorEq]
  exact hm
end WY
