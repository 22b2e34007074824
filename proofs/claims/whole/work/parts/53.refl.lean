/-! ===== the reference: what hangs together, levels ===== -/
def qaj (f : Nat → Int32) (a b : Nat) : Bool := decide ((0 : Int32) < qsh f a b)
theorem qsh_sym (f : Nat → Int32) (a b : Nat) : qsh f a b = qsh f b a := by
  unfold qsh
  by_cases h : a = b
  · rw [if_pos h, if_pos h.symm]
  · rw [if_neg h, if_neg (fun g => h g.symm), qtw_sym]
theorem qaj_sym (f : Nat → Int32) (a b : Nat) : qaj f a b = qaj f b a := by unfold qaj; rw [qsh_sym]
theorem qaj_self (f : Nat → Int32) (a : Nat) : qaj f a a = false := by unfold qaj qsh; rw [if_pos rfl]; decide
theorem q_orA (a b c : Int32) : (a ||| b) ||| c = a ||| (b ||| c) := by apply b_ext; intro i _; simp only [b_or, Bool.or_assoc]
/-- one net's neighbours are taken in -/
def qRd (N : Nat) (aj : Nat → Nat → Bool) (x : Int32) : Nat → Int32
  | 0 => x
  | a + 1 => qRd N aj x a ||| qB N (fun v => bt (qRd N aj x a) a && aj a v)
def qRn (N : Nat) (aj : Nat → Nat → Bool) (x : Int32) : Nat → Int32
  | 0 => x
  | k + 1 => qRd N aj (qRn N aj x k) N
theorem qRd_mono {N : Nat} {aj : Nat → Nat → Bool} {x : Int32} {v : Nat} : ∀ (j a : Nat), bt (qRd N aj x a) v = true → bt (qRd N aj x (a + j)) v = true := by
  intro j
  induction j with
  | zero => intro a h; exact h
  | succ j ih => intro a h; show bt (qRd N aj x (a + j) ||| _) v = true; rw [b_or, ih a h, Bool.true_or]
theorem qRd_step {N : Nat} (hN : N ≤ 6) {aj : Nat → Nat → Bool} {x : Int32} {a b : Nat} (ha : a < N) (hb : b < N) (h1 : bt x a = true) (h2 : aj a b = true) : bt (qRd N aj x N) b = true := by
  have h3 : bt (qRd N aj x a) a = true := by
    have := qRd_mono (N := N) (aj := aj) (x := x) (v := a) a 0 h1
    rw [Nat.zero_add] at this; exact this
  have h4 : bt (qRd N aj x (a + 1)) b = true := by
    show bt (_ ||| qB N _) b = true
    rw [b_or, b_qB _ (by omega) (by omega), h3, h2, decide_eq_true hb]
    simp
  have := qRd_mono (N := N) (aj := aj) (x := x) (v := b) (N - (a + 1)) (a + 1) h4
  rw [show a + 1 + (N - (a + 1)) = N by omega] at this
  exact this
theorem qRd_sound {N : Nat} (hN : N ≤ 6) {aj : Nat → Nat → Bool} {x : Int32} {T : Nat → Bool} (hT : q_Cl N aj T) (hx : ∀ v, bt x v = true → T v = true) : ∀ a, a ≤ N → ∀ v, bt (qRd N aj x a) v = true → T v = true := by
  intro a
  induction a with
  | zero => intro _ v h; exact hx v h
  | succ a ih =>
    intro ha v h
    replace h : bt (qRd N aj x a ||| qB N (fun v => bt (qRd N aj x a) a && aj a v)) v = true := h
    rw [b_or, Bool.or_eq_true] at h
    rcases h with h | h
    · exact ih (by omega) v h
    · by_cases hv : v < 32
      · rw [b_qB _ (by omega) hv, Bool.and_eq_true, Bool.and_eq_true] at h
        exact hT a v (by omega) (of_decide_eq_true h.1) (ih (by omega) a h.2.1) h.2.2
      · rw [b_big (by omega)] at h; cases h
theorem qRd_lt {N : Nat} (hN : N ≤ 6) {aj : Nat → Nat → Bool} {x : Int32} (hx : ∀ v, bt x v = true → v < N) : ∀ v, bt (qRd N aj x N) v = true → v < N := by
  intro v h
  have := qRd_sound (T := fun v => decide (v < N)) hN (aj := aj) (x := x) (fun a b _ hb _ _ => decide_eq_true hb) (fun v hv => decide_eq_true (hx v hv)) N (Nat.le_refl N) v h
  exact of_decide_eq_true this
theorem qRn_Co {N : Nat} (hN : N ≤ 6) (aj : Nat → Nat → Bool) {s : Nat} (hs : s < N) : q_Co N aj s (bt (qRn N aj ((1 : Int32) <<< (nI s &&& 31)) N)) := by
  have h0 : ∀ v, bt (qRn N aj ((1 : Int32) <<< (nI s &&& 31)) 0) v = decide (v = s) := by
    intro v
    by_cases hv : v < 32
    · exact b_one (by omega) hv
    · rw [b_big (by omega), decide_eq_false (by omega)]
  have hlt : ∀ k v, bt (qRn N aj ((1 : Int32) <<< (nI s &&& 31)) k) v = true → v < N := by
    intro k
    induction k with
    | zero => intro v h; rw [h0] at h; rw [of_decide_eq_true h]; exact hs
    | succ k ih => intro v h; exact qRd_lt hN ih v h
  refine q_grow (fun k v => bt (qRn N aj ((1 : Int32) <<< (nI s &&& 31)) k) v) h0 hs (fun k v _ h => ?_) (fun k a b _ ha hb h1 h2 => qRd_step hN ha hb h1 h2) (fun k T _ hT h v hv => qRd_sound hN hT h N (Nat.le_refl N) v hv) (fun k v _ h => hlt k v h)
  have := qRd_mono (N := N) (aj := aj) (x := qRn N aj ((1 : Int32) <<< (nI s &&& 31)) k) (v := v) N 0 h
  rw [Nat.zero_add] at this; exact this
section RL
variable (I : Nat → Nat → Int32) (J : Nat → Nat → Int64) (e : QP)
theorem fX12_togetherWith {N s : Nat} (hN : N ≤ 6) (hI : I 64 51 = nI N) (hs : s < N) : mX12_togetherWith [.ref 64, .int (nI s)] (qm I J e) = some (some (.int (qRn N (qaj (I 94)) ((1 : Int32) <<< (nI s &&& 31)) N)), qm I J e) := by
  have hin : ∀ (x : Int32) (k a : Nat), a < N → kX12_togetherWith 29 [some (.ref 64), none, some (.int x), some (.int (nI k)), some (.int (nI a)), some (.int 0)] [] (qm I J e) = kX12_togetherWith 17 [some (.ref 64), none, some (.int (x ||| qB N (fun v => bt x a && qaj (I 94) a v))), some (.int (nI k)), some (.int (nI (a + 1))), none] [] (qm I J e) := by
    intro x k a ha
    have hf := q_for (fun b (y : Int32) => kX12_togetherWith 29 [some (.ref 64), none, some (.int y), some (.int (nI k)), some (.int (nI a)), some (.int (nI b))] [] (qm I J e)) N (fun b => x ||| qB b (fun v => bt x a && qaj (I 94) a v)) (fun b hb => ?_)
    · rw [show x ||| qB 0 _ = x from q_or0 x] at hf
      refine Eq.trans hf ?_
      rw [eX12_togetherWith_29, hI, if_neg (nI_nlt (Nat.le_refl N) (by omega)), eX12_togetherWith_71, nI_1]
    · have hb1 : bt (x ||| qB b (fun v => bt x a && qaj (I 94) a v)) a = bt x a := by
        rw [b_or, b_qB _ (by omega) (by omega), qaj_self]
        simp
      show kX12_togetherWith 29 _ _ _ = kX12_togetherWith 29 _ _ _
      rw [eX12_togetherWith_29, hI, if_pos (nI_lt hb (by omega)), eX12_togetherWith_38, fX12_has I J e _ (by omega), hb1, qB_succ, ← q_orA]
      simp only [Option.bind_some, Option.toList_some, Option.toList_none, List.nil_append, List.cons_append, q_ck_tt, Bool.and_true, Bool.true_and, if_true, if_false, reduceCtorEq]
      rw [eX12_togetherWith_44]
      cases hx : bt x a with
      | false =>
        rw [if_pos qb_f, eX12_togetherWith_65, nI_1]
        simp only [Bool.false_and, if_neg Bool.false_ne_true, q_or0]
      | true =>
        rw [if_neg (by decide), eX12_togetherWith_47, fX12_shortOf I J e (by omega) (by omega)]
        simp only [Option.bind_some, Option.toList_some, Option.toList_none, List.nil_append, List.cons_append, q_ck_tt, Bool.and_true, Bool.true_and, if_true, if_false, reduceCtorEq]
        rw [eX12_togetherWith_55]
        by_cases hg : (0 : Int32) < qsh (I 94) a b
        · rw [if_pos hg, eX12_togetherWith_58, eX12_togetherWith_65, nI_1, show qaj (I 94) a b = true from decide_eq_true hg, if_pos rfl]
        · rw [if_neg hg, eX12_togetherWith_65, nI_1, show qaj (I 94) a b = false from decide_eq_false hg, if_neg Bool.false_ne_true, q_or0]
  have hmid : ∀ (x : Int32) (k : Nat), kX12_togetherWith 17 [some (.ref 64), none, some (.int x), some (.int (nI k)), some (.int 0), none] [] (qm I J e) = kX12_togetherWith 6 [some (.ref 64), none, some (.int (qRd N (qaj (I 94)) x N)), some (.int (nI (k + 1))), none, none] [] (qm I J e) := by
    intro x k
    refine Eq.trans (q_for (fun a (y : Int32) => kX12_togetherWith 17 [some (.ref 64), none, some (.int y), some (.int (nI k)), some (.int (nI a)), none] [] (qm I J e)) N (fun a => qRd N (qaj (I 94)) x a) (fun a ha => ?_)) ?_
    · show kX12_togetherWith 17 _ _ _ = kX12_togetherWith 17 _ _ _
      rw [eX12_togetherWith_17, hI, if_pos (nI_lt ha (by omega)), eX12_togetherWith_26, hin _ k a ha]
      rfl
    · show kX12_togetherWith 17 _ _ _ = _
      rw [eX12_togetherWith_17, hI, if_neg (nI_nlt (Nat.le_refl N) (by omega)), eX12_togetherWith_77, nI_1]
  rw [bX12_togetherWith, eX12_togetherWith_0]
  refine Eq.trans (q_for (fun k (y : Int32) => kX12_togetherWith 6 [some (.ref 64), none, some (.int y), some (.int (nI k)), none, none] [] (qm I J e)) N (fun k => qRn N (qaj (I 94)) ((1 : Int32) <<< (nI s &&& 31)) k) (fun k hk => ?_)) ?_
  · show kX12_togetherWith 6 _ _ _ = kX12_togetherWith 6 _ _ _
    rw [eX12_togetherWith_6, hI, if_pos (nI_lt hk (by omega)), eX12_togetherWith_14, hmid]
    rfl
  · show kX12_togetherWith 6 _ _ _ = _
    rw [eX12_togetherWith_6, hI, if_neg (nI_nlt (Nat.le_refl N) (by omega)), eX12_togetherWith_83]
end RL
