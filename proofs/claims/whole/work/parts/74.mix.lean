/-! ===== the reference beside another state of the class ===== -/
def qmx (C I : Nat → Nat → Int32) (p : Nat) : Nat → Int32 := cond (Nat.ble 64 p && Nat.blt p 1000) (cond (Nat.beq p 93) (I 94) (I p)) (C p)
theorem q_mx_off {C I I' : Nat → Nat → Int32} (h : q_Off I I') (h94 : I' 94 = I 94) : q_Off (qmx C I) (qmx C I') := by
  intro p k hp
  unfold qmx
  rw [h94]
  cases (Nat.ble 64 p && Nat.blt p 1000) with
  | false => rfl
  | true =>
    cases hb : Nat.beq p 93 with
    | true => rfl
    | false => exact h p k hp
/-- a run of numbers put into a row -/
def qblk (b : Nat) (f g : Nat → Int32) (n k : Nat) : Int32 := if b ≤ k ∧ k < b + n then g (k - b) else f k
theorem qblk_0 (b : Nat) (f g : Nat → Int32) : qblk b f g 0 = f := by funext k; unfold qblk; rw [if_neg (by omega)]
theorem qblk_in {b : Nat} {f g : Nat → Int32} {n d : Nat} (h : d < n) : qblk b f g n (b + d) = g d := by unfold qblk; rw [if_pos (by omega), Nat.add_sub_cancel_left]
theorem qblk_out {b : Nat} {f g : Nat → Int32} {n k : Nat} (h : k < b ∨ b + n ≤ k) : qblk b f g n k = f k := by unfold qblk; rw [if_neg (by omega)]
theorem qblk_next {b : Nat} {f g : Nat → Int32} {n : Nat} {x : Int32} (h : x = g n) : va_up (qblk b f g n) (b + n) x = qblk b f g (n + 1) := by
  funext k
  rw [va_up_at]
  unfold qblk
  by_cases h1 : k = b + n
  · rw [if_pos h1, if_pos (by omega), h, show k - b = n by omega]
  · rw [if_neg h1]
    by_cases h2 : b ≤ k ∧ k < b + n
    · rw [if_pos h2, if_pos (by omega)]
    · rw [if_neg h2, if_neg (by omega)]
theorem qblk_same {b : Nat} {f g : Nat → Int32} {n : Nat} (h : g n = f (b + n)) : qblk b f g (n + 1) = qblk b f g n := by
  funext k
  unfold qblk
  by_cases h1 : k = b + n
  · rw [if_pos (by omega), if_neg (by omega), show k - b = n by omega, h, h1]
  · by_cases h2 : b ≤ k ∧ k < b + n
    · rw [if_pos h2, if_pos (by omega)]
    · rw [if_neg h2, if_neg (by omega)]
section MX
variable {C I : Nat → Nat → Int32} {J : Nat → Nat → Int64} {e : QP} {D N : Nat} {cl : Nat → Nat} {RM : Nat} {rc : Nat → Nat} {sz : Nat}
theorem q_lay2 (h : q_Core (qmx C I) D N cl RM rc) : ∃ d' l', mX12_layDriven [.ref 64] (qm I J e) = some (none, qm (va_up (va_up I 99 d') 100 l') J e) ∧ ∀ n, n < N → l' n = qb (bt (qLev (C 42) (qDn C D N)) n) := by
  obtain ⟨d', l', h1, h2⟩ := fX12_layDriven I J e h.d4 h.m50 h.n6 h.m51 h.sf
  refine ⟨d', l', h1, fun n hn => ?_⟩
  obtain ⟨-, g2⟩ := h2 n hn
  have hb : ∀ n, n < N → (fun n => qb (!qAny (6 * D) (fun x => qdo (I 86) (I 87) n x && !qdh (I 94) (I 88) x n))) n = qb (bt (qDn C D N) n) := fun n hn => q_Dn_bit (I := qmx C I) h.bn h.bc h.bs (f := I 94) h.dr hn
  rw [g2]
  exact q_FR_lev (F := C 42) (f := I 94) h.n6 h.fr hb hn
theorem q_read2 (h : q_Core (qmx C I) D N cl RM rc) (hz : q_Fz (qmx C I) sz) {op lv : Int32} (ho : q_Op2 D (bt (C 3 11)) op (I 94)) (hl : ∀ n, n < N → I 100 n = qb (bt lv n)) {x : Nat} (hx : x < 6 * D) (ck : Int32) : ∃ a v, mX12_readsAt [.ref 64, .int (nI x), .int ck] (qm I J e) = some (some (.int (qb (bt (qRa N (C 9) (C 10) lv op (qFa (qmx C I) sz op ck)) x))), qm (va_up (va_up I 73 a) 72 v) J e) := by
  have hD := h.d4
  have hN := h.n6
  have h86 : I 86 x = C 12 x := h.bc.2.1 x hx
  rcases h.nt (show x < 24 by omega) (by omega) with hn | ⟨n, hn, hn2⟩
  · replace hn : C 12 x = -1 := hn
    refine ⟨I 73, I 72, ?_⟩
    have hop : bt op x = false := by
      cases hb : bt op x with
      | false => rfl
      | true =>
        have := (ho x (by omega)).2 hb
        have h2 : bt (C 3 11) x = false := h.rc0 (x := x) (by omega) hn
        rw [h2] at this
        cases this
    have hz0 : bt (qRa N (C 9) (C 10) lv op (qFa (qmx C I) sz op ck)) x = false := q_rd_none (I := qmx C I) h.bc hN (by omega) hn hop
    rw [hz0, va_up_eq (f := I) (p := 73) rfl, va_up_eq (f := I) (p := 72) rfl, bX12_readsAt, eX12_readsAt_0, q_in_nI (show x < 24 by omega) (by omega), nI_clamp (by omega), h86, hn, if_pos (by decide), eX12_readsAt_9]
    rfl
  · replace hn2 : C 12 x = nI n := hn2
    obtain ⟨z1, -, z3, z4, z5⟩ := hz
    obtain ⟨a, v, h1⟩ := fX12_readsAt I J e z1 z3 h.on z4 z5 (show x < 24 by omega) (by rw [h86]; exact hn2) (show n < 6 by omega) ck
    refine ⟨a, v, ?_⟩
    have hrb : bt (qRa N (C 9) (C 10) lv op (qFa (qmx C I) sz op ck)) x = if bt op x then bt (qFa (qmx C I) sz op ck) x else bt lv n := q_rd_bit (I := qmx C I) h.bn h.bc (by omega) hn hn2
    rw [h1, hrb]
    have hb := (ho x (by omega)).1
    rw [decide_eq_true hx, Bool.true_and] at hb
    unfold qRd1
    rw [← hb, hl n hn]
    cases hb2 : bt op x with
    | false => rw [if_neg (by decide), if_neg (by decide)]
    | true =>
      rw [if_pos rfl, if_pos rfl]
      unfold qFa
      rw [b_qB _ (by omega) (by omega), decide_eq_true (show x < 24 by omega), hb2, Bool.true_and, Bool.true_and]
      show some (some (Value.int (qb (qFl (I 69) (I 70) sz (I 86) ck x))), _) = some (some (Value.int (qb (qFl (I 69) (I 70) sz (C 12) ck x))), _)
      unfold qFl
      rw [h86]
/-- what a device captures -/
def qCpr (RA : Int32) (od id : Int32) (k d : Nat) : Int32 := if od = 1 ∧ ¬ id < 0 then 2 * id + 1 else if od = 0 ∨ od = 2 then qB k (fun c => bt RA (6 * d + c)) else 0
theorem fX12_captured (h : q_Core (qmx C I) D N cl RM rc) (hz : q_Fz (qmx C I) sz) {lv : Int32} (hl : ∀ n, n < N → I 100 n = qb (bt lv n)) {d : Nat} (hd : d < D) : ∃ I', mX12_captured [.ref 64, .int (nI d)] (qm I J e) = some (some (.int (qCpr (qRa N (C 9) (C 10) lv (C 42 2) (qFa (qmx C I) sz (C 42 2) (I 94 1))) (I 94 (3 + d)) (I 84 d) (cl d) d)), qm I' J e) ∧ q_Off I I' ∧ I' 94 = I 94 ∧ I' 100 = I 100 := by
  have hD := h.d4
  have h4 : q_in (nI d) 4 = true := q_in_nI (by omega) (by omega)
  have k3 : (3 : Int32) + nI d = nI (3 + d) := by rw [show (3 : Int32) = nI 3 from rfl, nI_add]
  obtain ⟨-, -, -, e4, e5, -, -⟩ := h.bn.2.2 d hd
  replace e4 : I 85 d = nI (cl d) := e4
  have hloop : I 94 (3 + d) = 0 ∨ I 94 (3 + d) = 2 → ∃ I', kX12_captured 45 [some (.ref 64), some (.int (nI d)), none, some (.int 0), none] [] (qm I J e) = some (some (.int (qB (cl d) (fun c => bt (qRa N (C 9) (C 10) lv (C 42 2) (qFa (qmx C I) sz (C 42 2) (I 94 1))) (6 * d + c)))), qm I' J e) ∧ q_Off I I' ∧ I' 94 = I 94 ∧ I' 100 = I 100 := by
    intro _
    have hst : ∀ (i : Nat) (y : Int32 × (Nat → Nat → Int32)), i < cl d → (y.1 = qB i (fun c => bt (qRa N (C 9) (C 10) lv (C 42 2) (qFa (qmx C I) sz (C 42 2) (I 94 1))) (6 * d + c)) ∧ q_Off I y.2 ∧ y.2 94 = I 94 ∧ y.2 100 = I 100) → ∃ y' : Int32 × (Nat → Nat → Int32), (y'.1 = qB (i + 1) (fun c => bt (qRa N (C 9) (C 10) lv (C 42 2) (qFa (qmx C I) sz (C 42 2) (I 94 1))) (6 * d + c)) ∧ q_Off I y'.2 ∧ y'.2 94 = I 94 ∧ y'.2 100 = I 100) ∧ kX12_captured 48 [some (.ref 64), some (.int (nI d)), none, some (.int y.1), some (.int (nI i))] [] (qm y.2 J e) = kX12_captured 48 [some (.ref 64), some (.int (nI d)), none, some (.int y'.1), some (.int (nI (i + 1)))] [] (qm y'.2 J e) := by
      intro i ⟨acc, M⟩ hi ⟨p1, p2, p3, p4⟩
      dsimp only at p1 p2 p3 p4
      have hm : (6 : Int32) * nI d + nI i = nI (6 * d + i) := by rw [show (6 : Int32) = nI 6 from rfl, pk_mul, nI_add]
      have om := q_mx_off (C := C) p2 p3
      have ho : q_Op2 D (bt (C 3 11)) (C 42 2) (M 94) := by rw [p3]; exact h.op
      obtain ⟨a, v, hr⟩ := q_read2 (J := J) (e := e) (q_Core_off h om) (q_Fz_off hz om) ho (fun n hn => by rw [p4]; exact hl n hn) (show 6 * d + i < 6 * D by omega) (I 94 1)
      rw [qFa_off om] at hr
      refine ⟨(qB (i + 1) (fun c => bt (qRa N (C 9) (C 10) lv (C 42 2) (qFa (qmx C I) sz (C 42 2) (I 94 1))) (6 * d + c)), va_up (va_up M 73 a) 72 v), ⟨rfl, q_Off_trans p2 (q_Off_trans (q_Off_va _ rfl _) (q_Off_va _ rfl _)), p3, p4⟩, ?_⟩
      dsimp only
      have m85 : M 85 d = nI (cl d) := by rw [p2.r 85 (fun _ => rfl)]; exact e4
      rw [eX12_captured_48, h4, nI_clamp (by omega), m85, if_pos (nI_lt hi (by omega)), eX12_captured_59, hm, p3, hr]
      simp only [Option.bind_some, Option.toList_some, Option.toList_none, List.nil_append, List.cons_append, q_ck_tt, Bool.and_true, Bool.true_and, if_true, if_false, reduceCtorEq]
      rw [eX12_captured_77, qb_shl _ (by omega), nI_1, p1, qB_succ]
    obtain ⟨⟨acc, M⟩, ⟨q1, q2, q3, q4⟩, hq⟩ := q_inv_for (fun i (y : Int32 × (Nat → Nat → Int32)) => kX12_captured 48 [some (.ref 64), some (.int (nI d)), none, some (.int y.1), some (.int (nI i))] [] (qm y.2 J e)) (fun i y => y.1 = qB i (fun c => bt (qRa N (C 9) (C 10) lv (C 42 2) (qFa (qmx C I) sz (C 42 2) (I 94 1))) (6 * d + c)) ∧ q_Off I y.2 ∧ y.2 94 = I 94 ∧ y.2 100 = I 100) (cl d) hst (cl d) 0 (0, I) (by omega) ⟨rfl, q_Off_refl _, rfl, rfl⟩
    dsimp only at q1 q2 q3 q4 hq
    refine ⟨M, ?_, q2, q3, q4⟩
    have m85 : M 85 d = nI (cl d) := by rw [q2.r 85 (fun _ => rfl)]; exact e4
    rw [eX12_captured_45]
    refine Eq.trans hq ?_
    rw [eX12_captured_48, h4, nI_clamp (by omega), m85, if_neg (nI_nlt (Nat.le_refl _) (by omega)), eX12_captured_88, q1]
    rfl
  rw [bX12_captured, eX12_captured_0, k3, q_in_nI (show 3 + d < 65 by omega) (by omega), nI_clamp (by omega)]
  simp only [Option.bind_some, Option.toList_some, Option.toList_none, List.nil_append, List.cons_append, q_ck_tt, Bool.and_true, Bool.true_and, if_true, if_false, reduceCtorEq]
  unfold qCpr
  have h34 : ¬ (I 94 (3 + d) = 1 ∧ ¬ I 84 d < 0) → ∃ I', kX12_captured 34 [some (.ref 64), some (.int (nI d)), some (.int (I 94 (3 + d))), none, none] [] (qm I J e) = some (some (.int (if I 94 (3 + d) = 0 ∨ I 94 (3 + d) = 2 then qB (cl d) (fun c => bt (qRa N (C 9) (C 10) lv (C 42 2) (qFa (qmx C I) sz (C 42 2) (I 94 1))) (6 * d + c)) else 0)), qm I' J e) ∧ q_Off I I' ∧ I' 94 = I 94 ∧ I' 100 = I 100 := by
    intro _
    rw [eX12_captured_34]
    by_cases c0 : I 94 (3 + d) = 0
    · rw [if_pos c0, if_pos (Or.inl c0)]
      exact hloop (Or.inl c0)
    · rw [if_neg c0, eX12_captured_40]
      by_cases c2 : I 94 (3 + d) = 2
      · rw [if_pos c2, if_pos (Or.inr c2)]
        exact hloop (Or.inr c2)
      · rw [if_neg c2, if_neg (fun c => c.elim c0 c2), eX12_captured_88]
        exact ⟨I, rfl, q_Off_refl _, rfl, rfl⟩
  by_cases c1 : I 94 (3 + d) = 1
  · rw [if_pos c1, eX12_captured_14, h4, nI_clamp (by omega)]
    simp only [Option.bind_some, Option.toList_some, Option.toList_none, List.nil_append, List.cons_append, q_ck_tt, Bool.and_true, Bool.true_and, if_true, if_false, reduceCtorEq]
    by_cases ci : I 84 d < 0
    · rw [if_pos ci, if_neg (fun c => c.2 ci)]
      exact h34 (fun c => c.2 ci)
    · rw [if_neg ci, if_pos ⟨c1, ci⟩, eX12_captured_23, h4, nI_clamp (by omega)]
      exact ⟨I, rfl, q_Off_refl _, rfl, rfl⟩
  · rw [if_neg c1, if_neg (fun c => c1 c.1)]
    exact h34 (fun c => c1 c.1)
end MX
