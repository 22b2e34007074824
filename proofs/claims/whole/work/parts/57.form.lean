/-! ===== the formula ===== -/
/-- a sign at work -/
def qDo (s x y : Int32) : Int32 :=
  if s = 43 then x + y else if s = 45 then x - y else if s = 42 then x * y else if s = 47 then (if y = 0 then 0 else x / y) else if s = 37 then (if y = 0 then 0 else x % y)
  else if s = 60 then qb (decide (x < y)) else if s = 62 then qb (decide (y < x)) else if s = 61 then qb (decide (x = y)) else if s = 38 then qb (!decide (x = 0) && !decide (y = 0)) else qb (!decide (x = 0) || !decide (y = 0))
/-- signs of the reference, what the class writes for them -/
def qSg : List (Int32 × Int32) := [(43, -43), (45, -45), (42, -42), (47, -47), (37, -37), (60, -60), (62, -62), (61, -61), (38, -7), (124, -6)]
section FM
variable (I : Nat → Nat → Int32) (J : Nat → Nat → Int64) (e : QP)
set_option maxHeartbeats 2000000 in
theorem fX12_done {s c : Int32} (h : (s, c) ∈ qSg) (x y : Int32) : mX12_done [.int s, .int x, .int y] (qm I J e) = some (some (.int (qDo s x y)), qm I J e) := by
  unfold qSg at h
  simp only [List.mem_cons, Prod.mk.injEq, List.not_mem_nil, or_false] at h
  have h1 := fX12_truth I J e true
  have h0 := fX12_truth I J e false
  rw [qb_t] at h1
  rw [qb_f] at h0
  rcases h with ⟨rfl, -⟩ | ⟨rfl, -⟩ | ⟨rfl, -⟩ | ⟨rfl, -⟩ | ⟨rfl, -⟩ | ⟨rfl, -⟩ | ⟨rfl, -⟩ | ⟨rfl, -⟩ | ⟨rfl, -⟩ | ⟨rfl, -⟩ <;> simp +decide only [bX12_done, eX12_done_0, eX12_done_215, eX12_done_170, eX12_done_184, eX12_done_156, eX12_done_132, eX12_done_124, eX12_done_120, eX12_done_128, eX12_done_198, eX12_done_144, eX12_done_219, eX12_done_223, eX12_done_175, eX12_done_179, eX12_done_189, eX12_done_193, eX12_done_161, eX12_done_165, eX12_done_136, eX12_done_140, eX12_done_210, eX12_done_202, eX12_done_148, eX12_done_152, eX12_done_227, eX12_done_228, eX12_done_180, eX12_done_194, eX12_done_166, eX12_done_143, eX12_done_211, eX12_done_206, eX12_done_155, eX12_done_231, eX12_done_183, eX12_done_197, eX12_done_169, eX12_done_214, h0, h1, Option.bind_some, Option.toList_some, Option.toList_none, List.nil_append, List.cons_append, q_ck_tt, Bool.and_true, Bool.true_and, if_true, if_false, reduceCtorEq, qDo] <;> (repeat' split) <;> simp_all [q_ck, qb]
set_option maxHeartbeats 2000000 in
theorem fX4_joined {s c : Int32} (h : (s, c) ∈ qSg) (x y : Int32) : mX4_joined [.int c, .int x, .int y] (qm I J e) = some (some (.int (qDo s x y)), qm I J e) := by
  unfold qSg at h
  simp only [List.mem_cons, Prod.mk.injEq, List.not_mem_nil, or_false] at h
  rcases h with ⟨rfl, rfl⟩ | ⟨rfl, rfl⟩ | ⟨rfl, rfl⟩ | ⟨rfl, rfl⟩ | ⟨rfl, rfl⟩ | ⟨rfl, rfl⟩ | ⟨rfl, rfl⟩ | ⟨rfl, rfl⟩ | ⟨rfl, rfl⟩ | ⟨rfl, rfl⟩ <;> simp +decide only [bX4_joined, eX4_joined_0, eX4_joined_169, eX4_joined_84, eX4_joined_98, eX4_joined_153, eX4_joined_145, eX4_joined_149, eX4_joined_157, eX4_joined_112, eX4_joined_134, eX4_joined_123, eX4_joined_173, eX4_joined_177, eX4_joined_88, eX4_joined_92, eX4_joined_110, eX4_joined_102, eX4_joined_161, eX4_joined_165, eX4_joined_117, eX4_joined_121, eX4_joined_139, eX4_joined_143, eX4_joined_128, eX4_joined_132, eX4_joined_180, eX4_joined_96, eX4_joined_97, eX4_joined_111, eX4_joined_106, eX4_joined_168, eX4_joined_122, eX4_joined_144, eX4_joined_133, Option.bind_some, Option.toList_some, Option.toList_none, List.nil_append, List.cons_append, q_ck_tt, Bool.and_true, Bool.true_and, if_true, if_false, reduceCtorEq, qDo] <;> (repeat' split) <;> simp_all [q_ck, qb]
theorem fX4_named {j x : Nat} (hj : j < 4) (hx : x < 24) (nt ck : Int32) : mX4_named [.int (-(nI (j + 1))), .int (nI x), .int nt, .int ck] (qm I J e) = some (some (.int (if j = 0 then nI (x / 6) else if j = 1 then nI (x % 6) else if j = 2 then nt else ck)), qm I J e) := by
  have hc : j = 0 ∨ j = 1 ∨ j = 2 ∨ j = 3 := by omega
  have hr : nI x % 6 = nI (x % 6) := by
    exact (by decide +kernel : ∀ x, x < 24 → nI x % 6 = nI (x % 6)) x hx
  have hd : nI x / 6 = nI (x / 6) := by
    exact (by decide +kernel : ∀ x, x < 24 → nI x / 6 = nI (x / 6)) x hx
  rcases hc with rfl | rfl | rfl | rfl
  · rw [bX4_named, eX4_named_0, if_neg (by decide), if_neg (by decide), if_pos (by decide), eX4_named_28, hd]; rfl
  · rw [bX4_named, eX4_named_0, if_neg (by decide), if_pos (by decide), eX4_named_33, hr]; rfl
  · rw [bX4_named, eX4_named_0, if_pos (by decide), eX4_named_38]; rfl
  · rw [bX4_named, eX4_named_0, if_neg (by decide), if_neg (by decide), if_neg (by decide), eX4_named_40]; rfl
end FM
/-! the formula's value, by a stack that is a list -/
def qE1 (s a : Int32) (as : Nat → Int32) (l : List Int32) : List Int32 :=
  if s = 0 then a :: l else if s = 1 then as a.toNatClampNeg :: l else if s = 2 then (match l with | x :: r => qb (decide (x = 0)) :: r | [] => []) else (match l with | y :: x :: r => qDo a x y :: r | l => l)
def qEs (S A as : Nat → Int32) : Nat → List Int32
  | 0 => []
  | k + 1 => qE1 (S k) (A k) as (qEs S A as k)
def qdep (S : Nat → Int32) : Nat → Nat
  | 0 => 0
  | k + 1 => if S k = 0 ∨ S k = 1 then qdep S k + 1 else if S k = 2 then qdep S k else qdep S k - 1
def q_Op (c s a : Int32) : Prop := (s = 0 ∧ c = a ∧ ∃ n : Nat, n < 10000 ∧ a = nI n) ∨ (s = 1 ∧ ∃ j : Nat, j < 4 ∧ a = nI j ∧ c = -(nI (j + 1))) ∨ (s = 2 ∧ c = -5) ∨ (s = 3 ∧ (a, c) ∈ qSg)
/-- a formula's steps: the class's code C, the reference's steps S, A -/
def q_Fm (C S A : Nat → Int32) (sz : Nat) : Prop := ∀ k, k < sz → q_Op (C k) (S k) (A k) ∧ qdep S (k + 1) ≤ 30 ∧ (S k = 2 → 1 ≤ qdep S k) ∧ (S k = 3 → 2 ≤ qdep S k)
theorem qEs_len {C S A as : Nat → Int32} {sz : Nat} (h : q_Fm C S A sz) : ∀ k, k ≤ sz → (qEs S A as k).length = qdep S k := by
  intro k
  induction k with
  | zero => intro _; rfl
  | succ k ih =>
    intro hk
    obtain ⟨ho, -, h2, h3⟩ := h k (by omega)
    have hl := ih (by omega)
    show (qE1 (S k) (A k) as (qEs S A as k)).length = (if S k = 0 ∨ S k = 1 then qdep S k + 1 else if S k = 2 then qdep S k else qdep S k - 1)
    unfold qE1
    rcases ho with ⟨e, -⟩ | ⟨e, -⟩ | ⟨e, -⟩ | ⟨e, -⟩
    · rw [if_pos e, if_pos (Or.inl e), List.length_cons, hl]
    · rw [if_neg (by rw [e]; decide), if_pos e, if_pos (Or.inr e), List.length_cons, hl]
    · have := h2 e
      rw [if_neg (by rw [e]; decide), if_neg (by rw [e]; decide), if_pos e, if_neg (by rw [e]; decide), if_pos e, ← hl]
      cases hq : qEs S A as k with
      | nil => rfl
      | cons x r => rfl
    · have := h3 e
      rw [if_neg (by rw [e]; decide), if_neg (by rw [e]; decide), if_neg (by rw [e]; decide), if_neg (by rw [e]; decide), if_neg (by rw [e]; decide), ← hl]
      rw [← hl] at this
      match hq : qEs S A as k, this with
      | y :: x :: r, _ => simp
/-- a stack in a row -/
def q_Sk (v : Nat → Int32) (l : List Int32) : Prop := ∀ i, i < l.length → v (l.length - 1 - i) = l.getD i 0
theorem q_Sk_push {v : Nat → Int32} {l : List Int32} (h : q_Sk v l) (x : Int32) : q_Sk (va_up v l.length x) (x :: l) := by
  intro i hi
  rw [List.length_cons] at hi
  cases i with
  | zero => rw [List.length_cons, va_up_at, if_pos (by omega)]; rfl
  | succ i =>
    rw [List.length_cons, va_up_at, if_neg (by omega)]
    have := h i (by omega)
    rw [show l.length + 1 - 1 - (i + 1) = l.length - 1 - i by omega, this]
    simp
theorem q_Sk_tail {v : Nat → Int32} {x : Int32} {l : List Int32} (h : q_Sk v (x :: l)) : q_Sk v l ∧ v l.length = x := by
  refine ⟨fun i hi => ?_, ?_⟩
  · have := h (i + 1) (by rw [List.length_cons]; omega)
    rw [List.length_cons, show l.length + 1 - 1 - (i + 1) = l.length - 1 - i by omega] at this
    rw [this]; simp
  · have := h 0 (by rw [List.length_cons]; omega)
    rw [List.length_cons, show l.length + 1 - 1 - 0 = l.length by omega] at this
    exact this
theorem nI_1s {n : Nat} (h : 1 ≤ n) : nI n - 1 = nI (n - 1) := by
  rw [show (1 : Int32) = nI 1 from rfl, pk_sub h]
section FM2
variable (I : Nat → Nat → Int32) (J : Nat → Nat → Int64) (e : QP)
def qAs (x : Nat) (nt ck : Int32) (j : Nat) : Int32 := if j = 0 then nI (x / 6) else if j = 1 then nI (x % 6) else if j = 2 then nt else ck
theorem fX4_value {sz : Nat} (hsz : sz ≤ 300) (hI : I 14 2 = nI sz) {S A : Nat → Int32} (hF : q_Fm (I 15) S A sz) (h1 : qdep S sz ≤ 1) {x : Nat} (hx : x < 24) (nt ck : Int32) : ∃ v, mX4_value [.ref 14, .int (nI x), .int nt, .int ck] (qm I J e) = some (some (.int ((qEs S A (qAs x nt ck) sz).getD 0 0)), qm (va_up I 16 v) J e) := by
  have hl := qEs_len (as := qAs x nt ck) hF
  have hstep : ∀ (k : Nat) (v : Nat → Int32), k < sz → q_Sk v (qEs S A (qAs x nt ck) k) → ∃ v', q_Sk v' (qEs S A (qAs x nt ck) (k + 1)) ∧ kX4_value 6 [some (.ref 14), some (.int (nI x)), some (.int nt), some (.int ck), some (.int (nI (qdep S k))), some (.int (nI k)), none] [] (qm (va_up I 16 v) J e) = kX4_value 6 [some (.ref 14), some (.int (nI x)), some (.int nt), some (.int ck), some (.int (nI (qdep S (k + 1)))), some (.int (nI (k + 1))), none] [] (qm (va_up I 16 v') J e) := by
    intro k v hk hp
    show ∃ v', q_Sk v' (qE1 (S k) (A k) (qAs x nt ck) (qEs S A (qAs x nt ck) k)) ∧ kX4_value 6 _ _ _ = kX4_value 6 _ _ _
    obtain ⟨ho, h30, hn, h3⟩ := hF k hk
    have hlk := hl k (by omega)
    have hdk : qdep S k ≤ 30 := by
      by_cases h0 : k = 0
      · subst h0; show 0 ≤ 30; omega
      · have := (hF (k - 1) (by omega)).2.1
        rw [show k - 1 + 1 = k by omega] at this
        omega
    rw [eX4_value_6, show (va_up I 16 v) 14 2 = nI sz from hI, if_pos (nI_lt hk (by omega)), eX4_value_15, q_in_nI (by omega) (by omega), nI_clamp (by omega)]
    show ∃ v', _ ∧ q_ck (true && true) (if ((-5) : Int32) < I 15 k then kX4_value 31 [_, _, _, _, _, _, some (.int (I 15 k))] _ _ else kX4_value 69 [_, _, _, _, _, _, some (.int (I 15 k))] _ _) = _
    rw [show (true && true) = true from rfl]
    simp only [q_ck_tt]
    unfold qE1
    have hdS : ∀ d, qdep S (k + 1) = d → qdep S (k + 1) = d := fun _ h => h
    rcases ho with ⟨s0, c0, n, hn1, hn2⟩ | ⟨s1, j, hj, ha, hc⟩ | ⟨s2, hc⟩ | ⟨s3, hm⟩
    · have hd1 : qdep S (k + 1) = qdep S k + 1 := if_pos (Or.inl s0)
      refine ⟨va_up v (qdep S k) (A k), ?_, ?_⟩
      · rw [if_pos s0, ← hlk]; exact q_Sk_push hp _
      · rw [c0, hn2, if_pos (by rw [fa_lt, nI_toInt (by omega)]; have : ((-5) : Int32).toInt = -5 := by decide
                                rw [this]; omega), eX4_value_31, show (30 : Int32) = nI 30 from rfl, if_pos (nI_lt (by omega) (by omega)), eX4_value_38, if_neg (nI_pos (by omega)), eX4_value_49, eX4_value_62v1, q_in_nI (by omega) (by omega), nI_clamp (by omega), eX4_value_149, nI_1, nI_1, q_up_up, hd1]
        rfl
    · have hd1 : qdep S (k + 1) = qdep S k + 1 := if_pos (Or.inr s1)
      refine ⟨va_up v (qdep S k) (qAs x nt ck (A k).toNatClampNeg), ?_, ?_⟩
      · rw [if_neg (by rw [s1]; decide), if_pos s1, ← hlk]; exact q_Sk_push hp _
      · have hneg : ((-5) : Int32) < -(nI (j + 1)) ∧ -(nI (j + 1)) < 0 := (by decide +kernel : ∀ j, j < 4 → ((-5) : Int32) < -(nI (j + 1)) ∧ -(nI (j + 1)) < 0) j hj
        rw [hc, if_pos hneg.1, eX4_value_31, show (30 : Int32) = nI 30 from rfl, if_pos (nI_lt (by omega) (by omega)), eX4_value_38, if_pos hneg.2, eX4_value_54, fX4_named _ J e hj hx]
        simp only [Option.bind_some, Option.toList_some, Option.toList_none, List.nil_append, List.cons_append, q_ck_tt, Bool.and_true, Bool.true_and, if_true, if_false, reduceCtorEq]
        rw [eX4_value_62, q_in_nI (by omega) (by omega), nI_clamp (by omega), eX4_value_149, nI_1, nI_1, q_up_up, hd1, ha, nI_clamp (by omega)]
        rfl
    · have hd1 : qdep S (k + 1) = qdep S k := by
        show (if S k = 0 ∨ S k = 1 then _ else if S k = 2 then _ else _) = _
        rw [if_neg (by rw [s2]; decide), if_pos s2]
      have h2 := hn s2
      rw [if_neg (by rw [s2]; decide), if_neg (by rw [s2]; decide), if_pos s2]
      rw [hc, if_neg (by decide), eX4_value_69, if_pos rfl, eX4_value_76, if_pos (by rw [← nI_0]; exact nI_lt (by omega) (by omega)), eX4_value_81, nI_1s h2, q_in_nI (by omega) (by omega), nI_clamp (by omega)]
      match hq : qEs S A (qAs x nt ck) k, hp, hlk with
      | [], _, hlk => rw [← hlk] at h2; exact absurd h2 (by decide)
      | y :: r, hp, hlk =>
        have hlr : qdep S k - 1 = r.length := by rw [← hlk]; rfl
        obtain ⟨t1, t2⟩ := q_Sk_tail hp
        refine ⟨va_up v r.length (qb (decide (y = 0))), q_Sk_push t1 _, ?_⟩
        rw [hlr]
        show q_ck (true && true) (if v r.length = 0 then _ else _) = _
        rw [t2, show (true && true) = true from rfl]
        simp only [q_ck_tt]
        have hst : ∀ w : Int32, w = qb (decide (y = 0)) → kX4_value 106 [some (.ref 14), some (.int (nI x)), some (.int nt), some (.int ck), some (.int (nI (qdep S k))), some (.int (nI k)), none] [.int w, .int (nI r.length), .ref 16] (qm (va_up I 16 v) J e) = kX4_value 6 [some (.ref 14), some (.int (nI x)), some (.int nt), some (.int ck), some (.int (nI (qdep S (k + 1)))), some (.int (nI (k + 1))), none] [] (qm (va_up I 16 (va_up v r.length (qb (decide (y = 0))))) J e) := by
          intro w hw
          rw [eX4_value_106, q_in_nI (by omega) (by omega), nI_clamp (by omega), eX4_value_149, nI_1, q_up_up, hd1, hw]
          rfl
        by_cases hy : y = 0
        · rw [if_pos hy, eX4_value_101]; exact hst 1 (by rw [decide_eq_true hy]; rfl)
        · rw [if_neg hy, eX4_value_105]; exact hst 0 (by rw [decide_eq_false hy]; rfl)
    · have hd1 : qdep S (k + 1) = qdep S k - 1 := by
        show (if S k = 0 ∨ S k = 1 then _ else if S k = 2 then _ else _) = _
        rw [if_neg (by rw [s3]; decide), if_neg (by rw [s3]; decide)]
      have h2 := h3 s3
      have hcl : ∀ q ∈ qSg, ¬ ((-5) : Int32) < q.2 ∧ q.2 ≠ -5 := by decide +kernel
      have hcl := hcl _ hm
      rw [if_neg (by rw [s3]; decide), if_neg (by rw [s3]; decide), if_neg (by rw [s3]; decide)]
      rw [if_neg hcl.1, eX4_value_69, if_neg hcl.2, eX4_value_110, if_pos (by rw [show (1 : Int32) = nI 1 from rfl]; exact nI_lt (by omega) (by omega)), eX4_value_116, show ((-1) : Int32) = -nI 1 from rfl]
      match hq : qEs S A (qAs x nt ck) k, hp, hlk with
      | [], _, hlk => rw [← hlk] at h2; exact absurd h2 (by decide)
      | [_], _, hlk => rw [← hlk] at h2; simp at h2
      | y :: z :: r, hp, hlk =>
        have hl1 : qdep S k = r.length + 2 := by rw [← hlk]; rfl
        obtain ⟨t1, t2⟩ := q_Sk_tail hp
        obtain ⟨t3, t4⟩ := q_Sk_tail t1
        refine ⟨va_up v r.length (qDo (A k) z y), q_Sk_push t3 _, ?_⟩
        have e1 : nI (qdep S k) + -nI 1 = nI (r.length + 1) := by rw [hl1]; exact pk_m1 _
        rw [e1, eX4_value_119, nI_1s (by omega), Nat.add_sub_cancel, q_in_nI (by omega) (by omega), nI_clamp (by omega)]
        rw [show (true && true) = true from rfl]
        simp only [q_ck_tt]
        rw [eX4_value_142, q_in_nI (by omega) (by omega), nI_clamp (by omega)]
        rw [show (va_up I 16 v) 16 r.length = z from t4, show (va_up I 16 v) 16 (r.length + 1) = y from t2, fX4_joined _ J e hm]
        simp only [Option.bind_some, Option.toList_some, Option.toList_none, List.nil_append, List.cons_append, q_ck_tt, Bool.and_true, Bool.true_and, if_true, if_false, reduceCtorEq]
        rw [eX4_value_148, q_in_nI (by omega) (by omega), nI_clamp (by omega), eX4_value_149, nI_1, q_up_up, hd1, hl1]
        rfl
  obtain ⟨v, hv, hr⟩ := q_inv_for (fun k (v : Nat → Int32) => kX4_value 6 [some (.ref 14), some (.int (nI x)), some (.int nt), some (.int ck), some (.int (nI (qdep S k))), some (.int (nI k)), none] [] (qm (va_up I 16 v) J e)) (fun k v => q_Sk v (qEs S A (qAs x nt ck) k)) sz hstep sz 0 (I 16) (by omega) (fun i hi => absurd hi (Nat.not_lt_zero i))
  refine ⟨v, ?_⟩
  rw [bX4_value, eX4_value_0]
  rw [va_up_eq rfl] at hr
  refine Eq.trans hr ?_
  rw [eX4_value_6, show (va_up I 16 v) 14 2 = nI sz from hI, if_neg (nI_nlt (Nat.le_refl sz) (by omega)), eX4_value_155]
  have hd : qdep S sz = 0 ∨ qdep S sz = 1 := by omega
  rcases hd with hd | hd
  · rw [hd, if_neg (by decide), eX4_value_169, eX4_value_170]
    have := hl sz (Nat.le_refl sz)
    rw [hd] at this
    rw [List.eq_nil_of_length_eq_zero this]; rfl
  · rw [hd, if_pos (by decide), eX4_value_160, eX4_value_170]
    have := hl sz (Nat.le_refl sz)
    rw [hd] at this
    have h2 := hv 0 (by omega)
    rw [this] at h2
    show some (some (Value.int (v 0)), _) = _
    rw [← h2]
theorem fX12_floatsAt {sz : Nat} (hsz : sz ≤ 300) (hI : I 64 18 = nI sz) (hn : I 64 27 = -1) (hf : I 64 25 = 0 ∧ sz = 0 ∨ I 64 25 = 1 ∧ qdep (I 69) sz = 1) {C : Nat → Int32} (hF : q_Fm C (I 69) (I 70) sz) {d c : Nat} (hx : 6 * d + c < 24) (hc : c < 6) (ck : Int32) : ∃ a v, mX12_floatsAt [.ref 64, .int (nI d), .int (nI c), .int ck] (qm I J e) = some (some (.int (qb (decide ((0 : Int32) < (qEs (I 69) (I 70) (qAs (6 * d + c) (I 86 (6 * d + c)) ck) sz).getD 0 0)))), qm (va_up (va_up I 73 a) 72 v) J e) := by
  rcases hf with ⟨hf, hz⟩ | ⟨hf, hz⟩
  · refine ⟨I 73, I 72, ?_⟩
    rw [bX12_floatsAt, eX12_floatsAt_0, hn, if_pos (by decide), eX12_floatsAt_12, hf, if_pos rfl, eX12_floatsAt_19, hz]
    rw [va_up_eq (f := I) (p := 73) rfl, va_up_eq (f := I) (p := 72) rfl]
    rfl
  · have hl := qEs_len (as := qAs (6 * d + c) (I 86 (6 * d + c)) ck) hF
    have hd6 : (6 * d + c) / 6 = d := by omega
    have hm6 : (6 * d + c) % 6 = c := by omega
    generalize hA : va_up (va_up (va_up (va_up (I 73) 0 (nI d)) 1 (nI c)) 2 (I 86 (6 * d + c))) 3 ck = AA
    have hAA : ∀ j, j < 4 → AA j = qAs (6 * d + c) (I 86 (6 * d + c)) ck j := by
      intro j hj
      have hj4 : j = 0 ∨ j = 1 ∨ j = 2 ∨ j = 3 := by omega
      unfold qAs
      rw [hd6, hm6, ← hA]
      rcases hj4 with rfl | rfl | rfl | rfl <;> rfl
    have hstep : ∀ (k : Nat) (v : Nat → Int32), k < sz → q_Sk v (qEs (I 69) (I 70) (qAs (6 * d + c) (I 86 (6 * d + c)) ck) k) → ∃ v', q_Sk v' (qEs (I 69) (I 70) (qAs (6 * d + c) (I 86 (6 * d + c)) ck) (k + 1)) ∧ kX12_floatsAt 65 [some (.ref 64), none, none, none, some (.int (nI (qdep (I 69) k))), some (.int (nI k))] [] (qm (va_up (va_up I 73 AA) 72 v) J e) = kX12_floatsAt 65 [some (.ref 64), none, none, none, some (.int (nI (qdep (I 69) (k + 1)))), some (.int (nI (k + 1)))] [] (qm (va_up (va_up I 73 AA) 72 v') J e) := by
      intro k v hk hp
      show ∃ v', q_Sk v' (qE1 (I 69 k) (I 70 k) (qAs (6 * d + c) (I 86 (6 * d + c)) ck) (qEs (I 69) (I 70) (qAs (6 * d + c) (I 86 (6 * d + c)) ck) k)) ∧ kX12_floatsAt 65 _ _ _ = kX12_floatsAt 65 _ _ _
      obtain ⟨ho, h30, hn2, h3⟩ := hF k hk
      have hlk := hl k (by omega)
      have hdk : qdep (I 69) k ≤ 30 := by
        by_cases h0 : k = 0
        · subst h0; show 0 ≤ 30; omega
        · have := (hF (k - 1) (by omega)).2.1
          rw [show k - 1 + 1 = k by omega] at this
          omega
      generalize hG : va_up (va_up I 73 AA) 72 v = G
      have g1 : G 64 18 = nI sz := by rw [← hG]; exact hI
      have g69 : G 69 = I 69 := by rw [← hG]; rfl
      have g70 : G 70 = I 70 := by rw [← hG]; rfl
      have g73 : G 73 = AA := by rw [← hG]; rfl
      have g72 : G 72 = v := by rw [← hG]; rfl
      have gup : ∀ i w, q_up G 72 i w = va_up (va_up I 73 AA) 72 (va_up v i w) := fun i w => by rw [← hG, q_up_up]
      rw [eX12_floatsAt_65, g1, if_pos (nI_lt hk (by omega)), eX12_floatsAt_74, q_in_nI (by omega) (by omega), nI_clamp (by omega), g69, show (true && true) = true from rfl]
      simp only [q_ck_tt]
      unfold qE1
      rcases ho with ⟨s0, -, -⟩ | ⟨s1, j, hj, ha, -⟩ | ⟨s2, -⟩ | ⟨s3, hm⟩
      · have hd1 : qdep (I 69) (k + 1) = qdep (I 69) k + 1 := if_pos (Or.inl s0)
        refine ⟨va_up v (qdep (I 69) k) (I 70 k), ?_, ?_⟩
        · rw [if_pos s0, ← hlk]; exact q_Sk_push hp _
        · rw [if_pos s0, eX12_floatsAt_95, q_in_nI (by omega) (by omega), nI_clamp (by omega), g69, if_pos s0, eX12_floatsAt_111, q_in_nI (by omega) (by omega), nI_clamp (by omega), eX12_floatsAt_133, q_in_nI (by omega) (by omega), nI_clamp (by omega), eX12_floatsAt_221, nI_1, nI_1, gup, g70, hd1]
          rfl
      · have hd1 : qdep (I 69) (k + 1) = qdep (I 69) k + 1 := if_pos (Or.inr s1)
        refine ⟨va_up v (qdep (I 69) k) (qAs (6 * d + c) (I 86 (6 * d + c)) ck (I 70 k).toNatClampNeg), ?_, ?_⟩
        · rw [if_neg (by rw [s1]; decide), if_pos s1, ← hlk]; exact q_Sk_push hp _
        · rw [if_neg (by rw [s1]; decide), eX12_floatsAt_84, q_in_nI (by omega) (by omega), nI_clamp (by omega), g69, if_pos s1, eX12_floatsAt_95, q_in_nI (by omega) (by omega), nI_clamp (by omega), g69, if_neg (by rw [s1]; decide), eX12_floatsAt_121, q_in_nI (by omega) (by omega), nI_clamp (by omega), g70, ha, q_in_nI hj (by omega), nI_clamp (by omega), eX12_floatsAt_133, q_in_nI (by omega) (by omega), nI_clamp (by omega), eX12_floatsAt_221, nI_1, nI_1, gup, g73, hAA j hj, hd1]
          rfl
      · have hd1 : qdep (I 69) (k + 1) = qdep (I 69) k := by
          show (if I 69 k = 0 ∨ I 69 k = 1 then _ else if I 69 k = 2 then _ else _) = _
          rw [if_neg (by rw [s2]; decide), if_pos s2]
        have h2 := hn2 s2
        rw [if_neg (by rw [s2]; decide), if_neg (by rw [s2]; decide), if_pos s2]
        rw [if_neg (by rw [s2]; decide), eX12_floatsAt_84, q_in_nI (by omega) (by omega), nI_clamp (by omega), g69, if_neg (by rw [s2]; decide), eX12_floatsAt_140, q_in_nI (by omega) (by omega), nI_clamp (by omega), g69, if_pos s2, eX12_floatsAt_151, nI_1s h2, q_in_nI (by omega) (by omega), nI_clamp (by omega), g72]
        simp only [Option.bind_some, Option.toList_some, Option.toList_none, List.nil_append, List.cons_append, q_ck_tt, Bool.and_true, Bool.true_and, if_true, if_false, reduceCtorEq]
        match hq : qEs (I 69) (I 70) (qAs (6 * d + c) (I 86 (6 * d + c)) ck) k, hp, hlk with
        | [], _, hlk => rw [← hlk] at h2; exact absurd h2 (by decide)
        | y :: r, hp, hlk =>
          have hlr : qdep (I 69) k - 1 = r.length := by rw [← hlk]; rfl
          obtain ⟨t1, t2⟩ := q_Sk_tail hp
          refine ⟨va_up v r.length (qb (decide (y = 0))), q_Sk_push t1 _, ?_⟩
          rw [hlr, t2]
          have hst : ∀ w : Int32, w = qb (decide (y = 0)) → kX12_floatsAt 176 [some (.ref 64), none, none, none, some (.int (nI (qdep (I 69) k))), some (.int (nI k))] [.int w, .int (nI r.length), .ref 72] (qm G J e) = kX12_floatsAt 65 [some (.ref 64), none, none, none, some (.int (nI (qdep (I 69) (k + 1)))), some (.int (nI (k + 1)))] [] (qm (va_up (va_up I 73 AA) 72 (va_up v r.length (qb (decide (y = 0))))) J e) := by
            intro w hw
            rw [hw, eX12_floatsAt_176, fX12_truth]
            simp only [Option.bind_some, Option.toList_some, Option.toList_none, List.nil_append, List.cons_append, q_ck_tt, Bool.and_true, Bool.true_and, if_true, if_false, reduceCtorEq]
            rw [eX12_floatsAt_179, q_in_nI (by omega) (by omega), nI_clamp (by omega), eX12_floatsAt_221, nI_1, gup, hd1]
            rfl
          by_cases hy : y = 0
          · rw [if_pos hy, eX12_floatsAt_171]; exact hst 1 (by rw [decide_eq_true hy]; rfl)
          · rw [if_neg hy, eX12_floatsAt_175]; exact hst 0 (by rw [decide_eq_false hy]; rfl)
      · have hd1 : qdep (I 69) (k + 1) = qdep (I 69) k - 1 := by
          show (if I 69 k = 0 ∨ I 69 k = 1 then _ else if I 69 k = 2 then _ else _) = _
          rw [if_neg (by rw [s3]; decide), if_neg (by rw [s3]; decide)]
        have h2 := h3 s3
        rw [if_neg (by rw [s3]; decide), if_neg (by rw [s3]; decide), if_neg (by rw [s3]; decide)]
        rw [if_neg (by rw [s3]; decide), eX12_floatsAt_84, q_in_nI (by omega) (by omega), nI_clamp (by omega), g69, if_neg (by rw [s3]; decide), eX12_floatsAt_140, q_in_nI (by omega) (by omega), nI_clamp (by omega), g69, if_neg (by rw [s3]; decide), eX12_floatsAt_183, show ((-1) : Int32) = -nI 1 from rfl]
        simp only [Option.bind_some, Option.toList_some, Option.toList_none, List.nil_append, List.cons_append, q_ck_tt, Bool.and_true, Bool.true_and, if_true, if_false, reduceCtorEq]
        match hq : qEs (I 69) (I 70) (qAs (6 * d + c) (I 86 (6 * d + c)) ck) k, hp, hlk with
        | [], _, hlk => rw [← hlk] at h2; exact absurd h2 (by decide)
        | [_], _, hlk => rw [← hlk] at h2; simp at h2
        | y :: z :: r, hp, hlk =>
          have hl1 : qdep (I 69) k = r.length + 2 := by rw [← hlk]; rfl
          obtain ⟨t1, t2⟩ := q_Sk_tail hp
          obtain ⟨t3, t4⟩ := q_Sk_tail t1
          refine ⟨va_up v r.length (qDo (I 70 k) z y), q_Sk_push t3 _, ?_⟩
          have e1 : nI (qdep (I 69) k) + -nI 1 = nI (r.length + 1) := by rw [hl1]; exact pk_m1 _
          rw [e1, eX12_floatsAt_186, nI_1s (by omega), Nat.add_sub_cancel, q_in_nI (by omega) (by omega), nI_clamp (by omega)]
          simp only [Option.bind_some, Option.toList_some, Option.toList_none, List.nil_append, List.cons_append, q_ck_tt, Bool.and_true, Bool.true_and, if_true, if_false, reduceCtorEq]
          rw [eX12_floatsAt_209, q_in_nI (show r.length < 64 by omega) (by omega), q_in_nI (show r.length + 1 < 64 by omega) (by omega), nI_clamp (by omega), nI_clamp (by omega), g72, g70]
          rw [t4, show v (r.length + 1) = y from t2, fX12_done _ J e hm]
          simp only [Option.bind_some, Option.toList_some, Option.toList_none, List.nil_append, List.cons_append, q_ck_tt, Bool.and_true, Bool.true_and, if_true, if_false, reduceCtorEq]
          rw [eX12_floatsAt_220, q_in_nI (by omega) (by omega), nI_clamp (by omega), eX12_floatsAt_221, nI_1, gup, hd1, hl1]
          rfl
    obtain ⟨v, hv, hr⟩ := q_inv_for (fun k (v : Nat → Int32) => kX12_floatsAt 65 [some (.ref 64), none, none, none, some (.int (nI (qdep (I 69) k))), some (.int (nI k))] [] (qm (va_up (va_up I 73 AA) 72 v) J e)) (fun k v => q_Sk v (qEs (I 69) (I 70) (qAs (6 * d + c) (I 86 (6 * d + c)) ck) k)) sz hstep sz 0 (I 72) (by omega) (fun i hi => absurd hi (Nat.not_lt_zero i))
    refine ⟨AA, v, ?_⟩
    rw [va_up_eq (f := va_up I 73 AA) (p := 72) (a := I 72) rfl] at hr
    have hmem : q_up (q_up (q_up (q_up I 73 0 (nI d)) 73 1 (nI c)) 73 2 (I 86 (6 * d + c))) 73 3 ck = va_up I 73 AA := by
      rw [q_up_va I, q_up_up, q_up_up, q_up_up, hA]
    rw [bX12_floatsAt, eX12_floatsAt_0, hn, if_pos (by decide), eX12_floatsAt_12, hf, if_neg (by decide), eX12_floatsAt_21, eX12_floatsAt_41, show (6 : Int32) = nI 6 from rfl, pk_mul, nI_add, q_in_nI hx (by omega), nI_clamp (by omega), show (2 : Int32) = nI 2 from rfl, q_in_nI (by omega) (by omega), nI_clamp (by omega)]
    simp only [Option.bind_some, Option.toList_some, Option.toList_none, List.nil_append, List.cons_append, q_ck_tt, Bool.and_true, Bool.true_and, if_true, if_false, reduceCtorEq]
    rw [show q_up (q_up I 73 0 (nI d)) 73 1 (nI c) 86 (6 * d + c) = I 86 (6 * d + c) from rfl, hmem, eX12_floatsAt_60]
    refine Eq.trans hr ?_
    rw [eX12_floatsAt_65, show (va_up (va_up I 73 AA) 72 v) 64 18 = nI sz from hI, if_neg (nI_nlt (Nat.le_refl sz) (by omega)), eX12_floatsAt_227]
    have h1 := hl sz (Nat.le_refl sz)
    rw [hz] at h1
    have h2 := hv 0 (by omega)
    rw [h1] at h2
    rw [show (va_up (va_up I 73 AA) 72 v) 72 0 = v 0 from rfl, show v 0 = _ from h2]
    by_cases hp : (0 : Int32) < (qEs (I 69) (I 70) (qAs (6 * d + c) (I 86 (6 * d + c)) ck) sz).getD 0 0
    · rw [if_pos hp, decide_eq_true hp, eX12_floatsAt_236, eX12_floatsAt_241, show (1 : Int32) = qb true from rfl, fX12_truth]
      simp only [Option.bind_some, Option.toList_some, Option.toList_none, List.nil_append, List.cons_append, q_ck_tt, Bool.and_true, Bool.true_and, if_true, if_false, reduceCtorEq]
      rw [eX12_floatsAt_244]
    · rw [if_neg hp, decide_eq_false hp, eX12_floatsAt_240, eX12_floatsAt_241, show (0 : Int32) = qb false from rfl, fX12_truth]
      simp only [Option.bind_some, Option.toList_some, Option.toList_none, List.nil_append, List.cons_append, q_ck_tt, Bool.and_true, Bool.true_and, if_true, if_false, reduceCtorEq]
      rw [eX12_floatsAt_244]
end FM2
