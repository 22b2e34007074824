/-! ===== safest ===== -/
theorem q_sh1 : ∀ N, N < 7 → ((1 : Int32) <<< (nI N &&& 31)) = nI (2 ^ N) ∧ 2 ^ N ≤ 64 := by decide +kernel
section SF
variable {I : Nat → Nat → Int32} {J : Nat → Nat → Int64} {e : QP} {rb tx L : Nat} {D N : Nat} {cl : Nat → Nat} {RM : Nat} {rc : Nat → Nat} {sz : Nat} {F : Nat → Int32} {fl : Int32}
def qSq (I : Nat → Nat → Int32) (N p : Nat) : Bool := !qAny N (fun n => !decide (I 88 n < 0) && !decide (qb (bt (qLev (I 42) (nI p)) n) = I 88 n))
def qSc (I : Nat → Nat → Int32) (N RM : Nat) (rc : Nat → Nat) (fl : Int32) (p : Nat) : Nat := fb_ct (fun r => bt (qRa N (I 9) (I 10) (qLev (I 42) (nI p)) (I 42 2) fl) (rc r) == bt (nI p) (qNn I (rc r))) RM
theorem qSc_24 (h : q_Core I D N cl RM rc) (fl : Int32) (p : Nat) : qSc I N RM rc fl p ≤ 24 := by
  have := fb_ct_le (fun r => bt (qRa N (I 9) (I 10) (qLev (I 42) (nI p)) (I 42 2) fl) (rc r) == bt (nI p) (qNn I (rc r))) RM
  have := h.br.2.1
  unfold qSc
  omega
theorem q_us0 (h : q_Core I D N cl RM rc) (lv : Int32) : (qKs (I 11) lv N ^^^ lv = 0) ↔ qAny N (fun n => !decide (I 88 n < 0) && !decide (qb (bt lv n) = I 88 n)) = false := by
  have hN := h.n6
  have hbit : ∀ v, v < 32 → bt (qKs (I 11) lv N ^^^ lv) v = (decide (v < N) && (!decide (I 88 v < 0) && !decide (qb (bt lv v) = I 88 v))) := by
    intro v hv
    rw [b_xor, b_qKs (by omega) hv]
    by_cases c : v < N
    · rw [if_pos c, decide_eq_true c, Bool.true_and, (h.bs v c).1]
      exact q_uns (h.sf v c)
    · rw [if_neg c, decide_eq_false c, Bool.false_and, Bool.xor_self]
  constructor
  · intro g
    cases hc : qAny N (fun n => !decide (I 88 n < 0) && !decide (qb (bt lv n) = I 88 n)) with
    | false => rfl
    | true =>
      obtain ⟨v, hv, h1⟩ := qAny_iff.mp hc
      have := hbit v (by omega)
      rw [g, b_0, decide_eq_true hv, h1] at this
      cases this
  · intro g
    refine b_zero.mpr (fun v hv => ?_)
    rw [hbit v hv]
    by_cases c : v < N
    · cases hc : (!decide (I 88 v < 0) && !decide (qb (bt lv v) = I 88 v)) with
      | false => rw [Bool.and_false]
      | true =>
        have : qAny N (fun n => !decide (I 88 n < 0) && !decide (qb (bt lv n) = I 88 n)) = true := qAny_iff.mpr ⟨v, c, hc⟩
        rw [g] at this
        cases this
    · rw [decide_eq_false c, Bool.false_and]
theorem q_sc_cnt (h : q_Core I D N cl RM rc) (fl : Int32) (p : Nat) : fb_ct (bt (I 3 11 &&& ((qRa N (I 9) (I 10) (qLev (I 42) (nI p)) (I 42 2) fl ^^^ (qRa N (I 9) (I 10) (nI p) 0 0 &&& I 3 11)) ^^^ (-1)))) 32 = qSc I N RM rc fl p := by
  unfold qSc
  generalize qRa N (I 9) (I 10) (qLev (I 42) (nI p)) (I 42 2) fl = rd
  rw [q_cnt_rc h (fun x => bt rd x == bt (nI p) (qNn I x)), fb_ct_cong (p := bt (I 3 11 &&& ((rd ^^^ (qRa N (I 9) (I 10) (nI p) 0 0 &&& I 3 11)) ^^^ (-1)))) (q := fun x => bt (I 3 11) x && (bt rd x == bt (nI p) (qNn I x))) (fun x hx => by
    rw [b_and, b_not _ hx, b_xor, b_and]
    cases hA : bt (I 3 11) x with
    | false => rfl
    | true =>
      obtain ⟨n1, n2⟩ := h.nn hA
      rw [q_rd_bit h.bn h.bc (h.a24 hA) n2 n1, b_0, if_neg (by decide)]
      cases bt rd x <;> cases bt (nI p) (qNn I x) <;> rfl)]
  exact q_ct_cut (m := 24) 8 (fun x x1 x2 => by
    cases hA : bt (I 3 11) x with
    | false => rw [Bool.false_and]
    | true => exact absurd (h.a24 hA) (by omega))
theorem fX5_safestPattern (h : q_Core I D N cl RM rc) (fl : Int32) : ∃ K, mX5_safestPattern [.ref 48, .ref 3, .ref 42, .int fl] (qm I J e) = some (some (.int (qBi (qBm (qSq I N) (qSc I N RM rc fl) (2 ^ N)))), qm K J e) ∧ q_Off I K ∧ ∀ i c, qBm (qSq I N) (qSc I N RM rc fl) (2 ^ N) = some (i, c) → K 48 5 = nI c := by
  have hN := h.n6
  obtain ⟨sh1, sh2⟩ := q_sh1 N (by omega)
  have hst : ∀ p (y : Int32 × (Nat → Nat → Int32)), p < 2 ^ N → (y.1 = qBi (qBm (qSq I N) (qSc I N RM rc fl) p) ∧ (∀ q, q ≠ 48 → y.2 q = I q) ∧ ∀ i c, qBm (qSq I N) (qSc I N RM rc fl) p = some (i, c) → y.2 48 5 = nI c) → ∃ y' : Int32 × (Nat → Nat → Int32), (y'.1 = qBi (qBm (qSq I N) (qSc I N RM rc fl) (p + 1)) ∧ (∀ q, q ≠ 48 → y'.2 q = I q) ∧ ∀ i c, qBm (qSq I N) (qSc I N RM rc fl) (p + 1) = some (i, c) → y'.2 48 5 = nI c) ∧ (fun p (y : Int32 × (Nat → Nat → Int32)) => kX5_safestPattern 6 [some (.ref 48), some (.ref 3), some (.ref 42), some (.int fl), some (.int y.1), some (.int (nI p)), none, none, none] [] (qm y.2 J e)) p y = (fun p (y : Int32 × (Nat → Nat → Int32)) => kX5_safestPattern 6 [some (.ref 48), some (.ref 3), some (.ref 42), some (.int fl), some (.int y.1), some (.int (nI p)), none, none, none] [] (qm y.2 J e)) (p + 1) y' := by
    intro p y hp hP
    obtain ⟨b, K⟩ := y
    obtain ⟨hb, kp, hc⟩ := hP
    dsimp only at hb kp hc
    have oK : q_Off I K := fun q j hq => by rw [kp q (fun c => by rw [c] at hq; cases hq)]
    have hK := q_Core_off h oK
    have h1 := fX3_levels_42 K J e hK.st (nI p)
    have h2 := fX0_unsafeAt K J e hN hK.i35 (qLev (I 42) (nI p))
    have h3 := fX0_readsAt K J e hN hK.i35 (qLev (I 42) (nI p)) (I 42 2) fl
    have h4 := fX0_receiversAt K J e hN hK.i35 (nI p)
    rw [kp 42 (by decide)] at h1
    rw [kp 11 (by decide)] at h2
    rw [kp 9 (by decide), kp 10 (by decide)] at h3 h4
    rw [kp 3 (by decide)] at h4
    have hus := q_us0 h (qLev (I 42) (nI p))
    have hgo : kX5_safestPattern 6 [some (.ref 48), some (.ref 3), some (.ref 42), some (.int fl), some (.int b), some (.int (nI p)), none, none, none] [] (qm K J e) = kX5_safestPattern 31 [some (.ref 48), some (.ref 3), some (.ref 42), some (.int fl), some (.int b), some (.int (nI p)), some (.int (qLev (I 42) (nI p))), none, none] [.int (qKs (I 11) (qLev (I 42) (nI p)) N ^^^ qLev (I 42) (nI p))] (qm K J e) := by
      rw [eX5_safestPattern_6, hK.i35, sh1, if_pos (nI_lt hp (by omega)), eX5_safestPattern_17, h1]
      simp only [Option.bind_some, Option.toList_some, Option.toList_none, List.nil_append, List.cons_append, q_ck_tt, Bool.and_true, Bool.true_and, if_true, if_false, reduceCtorEq]
      rw [eX5_safestPattern_23, h2]
      simp only [Option.bind_some, Option.toList_some, Option.toList_none, List.nil_append, List.cons_append, q_ck_tt, Bool.and_true, Bool.true_and, if_true, if_false, reduceCtorEq]
    rw [qBm]
    cases hsel : qSq I N p with
    | false =>
      have hne : ¬ (qKs (I 11) (qLev (I 42) (nI p)) N ^^^ qLev (I 42) (nI p) = 0) := fun g => by
        have := hus.mp g
        unfold qSq at hsel
        rw [this] at hsel
        cases hsel
      refine ⟨(b, K), ⟨hb, kp, hc⟩, ?_⟩
      show kX5_safestPattern 6 _ _ _ = kX5_safestPattern 6 _ _ _
      rw [hgo, eX5_safestPattern_31, if_neg hne, eX5_safestPattern_93, nI_1]
    | true =>
      rw [if_pos rfl]
      have hz : qKs (I 11) (qLev (I 42) (nI p)) N ^^^ qLev (I 42) (nI p) = 0 := hus.mpr (by
        unfold qSq at hsel
        cases hc : qAny N (fun n => !decide (I 88 n < 0) && !decide (qb (bt (qLev (I 42) (nI p)) n) = I 88 n)) with
        | false => rfl
        | true => rw [hc] at hsel; cases hsel)
      have hd := qSc_24 h fl p
      have hgo2 : kX5_safestPattern 6 [some (.ref 48), some (.ref 3), some (.ref 42), some (.int fl), some (.int b), some (.int (nI p)), none, none, none] [] (qm K J e) = kX5_safestPattern 66 [some (.ref 48), some (.ref 3), some (.ref 42), some (.int fl), some (.int b), some (.int (nI p)), some (.int (qLev (I 42) (nI p))), some (.int (qRa N (I 9) (I 10) (qLev (I 42) (nI p)) (I 42 2) fl ^^^ (qRa N (I 9) (I 10) (nI p) 0 0 &&& I 3 11))), none] [.int (nI (qSc I N RM rc fl p))] (qm K J e) := by
        rw [hgo, eX5_safestPattern_31, if_pos hz, eX5_safestPattern_34, kp 42 (by decide), h3]
        simp only [Option.bind_some, Option.toList_some, Option.toList_none, List.nil_append, List.cons_append, q_ck_tt, Bool.and_true, Bool.true_and, if_true, if_false, reduceCtorEq]
        rw [eX5_safestPattern_45, h4]
        simp only [Option.bind_some, Option.toList_some, Option.toList_none, List.nil_append, List.cons_append, q_ck_tt, Bool.and_true, Bool.true_and, if_true, if_false, reduceCtorEq]
        rw [eX5_safestPattern_51, kp 3 (by decide), fJ6_bitCount, q_sc_cnt h]
        simp only [Option.bind_some, Option.toList_some, Option.toList_none, List.nil_append, List.cons_append, q_ck_tt, Bool.and_true, Bool.true_and, if_true, if_false, reduceCtorEq]
      have h83 : kX5_safestPattern 83 [some (.ref 48), some (.ref 3), some (.ref 42), some (.int fl), none, some (.int (nI p)), none, none, some (.int (nI (qSc I N RM rc fl p)))] [] (qm K J e) = kX5_safestPattern 6 [some (.ref 48), some (.ref 3), some (.ref 42), some (.int fl), some (.int (nI p)), some (.int (nI (p + 1))), none, none, none] [] (qm (q_up K 48 5 (nI (qSc I N RM rc fl p))) J e) := by
        rw [eX5_safestPattern_83, eX5_safestPattern_93, nI_1]
      have kU : ∀ q, q ≠ 48 → (q_up K 48 5 (nI (qSc I N RM rc fl p))) q = I q := fun q hq => by rw [q_up_va, va_miss hq, kp q hq]
      cases hm : qBm (qSq I N) (qSc I N RM rc fl) p with
      | none =>
        refine ⟨(nI p, q_up K 48 5 (nI (qSc I N RM rc fl p))), ⟨rfl, kU, fun i c hic => ?_⟩, ?_⟩
        · injection hic with hic
          injection hic with e1 e2
          show q_up K 48 5 (nI (qSc I N RM rc fl p)) 48 5 = nI c
          rw [q_up_va, va_hit, va_hit, e2]
        · show kX5_safestPattern 6 _ _ _ = kX5_safestPattern 6 _ _ _
          rw [hgo2, eX5_safestPattern_66, hb, hm, if_pos (show qBi none = -1 from rfl), h83]
      | some y =>
        obtain ⟨i, c⟩ := y
        obtain ⟨ilt, cle⟩ := qBm_lt (qSc_24 h fl) p i c hm
        have hc5 := hc i c hm
        dsimp only
        by_cases g : c < qSc I N RM rc fl p
        · rw [if_pos g]
          refine ⟨(nI p, q_up K 48 5 (nI (qSc I N RM rc fl p))), ⟨rfl, kU, fun i c hic => ?_⟩, ?_⟩
          · injection hic with hic
            injection hic with e1 e2
            show q_up K 48 5 (nI (qSc I N RM rc fl p)) 48 5 = nI c
            rw [q_up_va, va_hit, va_hit, e2]
          · show kX5_safestPattern 6 _ _ _ = kX5_safestPattern 6 _ _ _
            rw [hgo2, eX5_safestPattern_66, hb, hm, if_neg (show ¬ qBi (some (i, c)) = -1 from nI_ne1 (by omega)), eX5_safestPattern_74, hc5, if_pos (nI_lt g (by omega)), h83]
        · rw [if_neg g]
          refine ⟨(nI i, K), ⟨rfl, kp, fun i' c' hic => ?_⟩, ?_⟩
          · injection hic with hic
            injection hic with e1 e2
            show K 48 5 = nI c'
            rw [hc5, e2]
          · show kX5_safestPattern 6 _ _ _ = kX5_safestPattern 6 _ _ _
            rw [hgo2, eX5_safestPattern_66, hb, hm, if_neg (show ¬ qBi (some (i, c)) = -1 from nI_ne1 (by omega)), eX5_safestPattern_74, hc5, if_neg (nI_nlt (by omega) (by omega)), eX5_safestPattern_93, nI_1]
            rfl
  obtain ⟨y, ⟨y1, y2, y3⟩, y4⟩ := q_inv_for (fun p (y : Int32 × (Nat → Nat → Int32)) => kX5_safestPattern 6 [some (.ref 48), some (.ref 3), some (.ref 42), some (.int fl), some (.int y.1), some (.int (nI p)), none, none, none] [] (qm y.2 J e)) (fun p y => y.1 = qBi (qBm (qSq I N) (qSc I N RM rc fl) p) ∧ (∀ q, q ≠ 48 → y.2 q = I q) ∧ ∀ i c, qBm (qSq I N) (qSc I N RM rc fl) p = some (i, c) → y.2 48 5 = nI c) (2 ^ N) hst (2 ^ N) 0 (-1, I) (by omega) ⟨rfl, fun _ _ => rfl, fun i c hic => by cases hic⟩
  refine ⟨y.2, ?_, fun q j hq => by rw [y2 q (fun c => by rw [c] at hq; cases hq)], y3⟩
  rw [bX5_safestPattern, eX5_safestPattern_0]
  refine Eq.trans y4 ?_
  show kX5_safestPattern 6 _ _ _ = _
  rw [eX5_safestPattern_6, y2 3 (by decide), h.i35, sh1, if_neg (nI_nlt (Nat.le_refl _) (by omega)), eX5_safestPattern_99, y1]
theorem fX12_readBy (h : q_Core I D N cl RM rc) (hz : q_Fz I sz) (hq : q_FQ D N (bt (I 3 11)) (I 42) (I 94)) {p : Nat} (hp : p < 64) : ∃ K, mX12_readBy [.ref 64, .int (nI p)] (qm I J e) = some (some (.int (if qSq I N p then nI (qSc I N RM rc (qFa I sz (I 42 2) (I 94 1)) p) else -1)), qm K J e) ∧ q_Off I K ∧ K 94 = I 94 := by
  have hN := h.n6
  have h18 := h.br.2.1
  have l1 : ∀ n, n < N → (fun n (y : Nat → Int32) => kX12_readBy 2 [some (.ref 64), some (.int (nI p)), some (.int (nI n)), none] [] (qm (va_up I 99 y) J e)) n (fa_fill (fun n => qb (bt (nI p) n)) (I 99) n) = (fun n (y : Nat → Int32) => kX12_readBy 2 [some (.ref 64), some (.int (nI p)), some (.int (nI n)), none] [] (qm (va_up I 99 y) J e)) (n + 1) (fa_fill (fun n => qb (bt (nI p) n)) (I 99) (n + 1)) := by
    intro n hn
    show kX12_readBy 2 _ _ _ = kX12_readBy 2 _ _ _
    rw [eX12_readBy_2, va_miss (by decide), h.m51, if_pos (nI_lt hn (by omega)), eX12_readBy_10, q_in_nI (show n < 6 by omega) (by omega), nI_clamp (by omega), b_tst _ (by omega), q_up_up, fa_next' (f := fun n => qb (bt (nI p) n)) rfl, nI_1]
    simp only [Option.bind_some, Option.toList_some, Option.toList_none, List.nil_append, List.cons_append, q_ck_tt, Bool.and_true, Bool.true_and, if_true, if_false, reduceCtorEq]
  have q1 := q_for (fun n (y : Nat → Int32) => kX12_readBy 2 [some (.ref 64), some (.int (nI p)), some (.int (nI n)), none] [] (qm (va_up I 99 y) J e)) N (fun n => fa_fill (fun n => qb (bt (nI p) n)) (I 99) n) l1
  rw [fa_fill_0, va_up_id] at q1
  have hG : ∀ n, n < N → (va_up I 99 (fa_fill (fun n => qb (bt (nI p) n)) (I 99) N)) 99 n = qb (bt (nI p) n) := fun n hn => by rw [va_hit, fa_fill_in hn]
  have hGp : ∀ q, q ≠ 99 → (va_up I 99 (fa_fill (fun n => qb (bt (nI p) n)) (I 99) N)) q = I q := fun q hq => va_miss hq
  generalize va_up I 99 (fa_fill (fun n => qb (bt (nI p) n)) (I 99) N) = G at q1 hG hGp
  have hll := fX12_layLevels G J e hN (by rw [hGp 64 (by decide)]; exact h.m51)
  have hlv : ∀ n, n < N → (va_up (va_up G 99 (fa_fill (qdr (G 94) (G 99)) (G 99) N)) 100 (fa_fill (qLvI N (G 94) (G 99)) (G 100) N)) 100 n = qb (bt (qLev (I 42) (nI p)) n) := by
    intro n hn
    rw [va_hit, fa_fill_in hn, hGp 94 (by decide)]
    exact q_FR_lev hN hq.1 hG hn
  have hHp : ∀ q, q ≠ 99 → q ≠ 100 → (va_up (va_up G 99 (fa_fill (qdr (G 94) (G 99)) (G 99) N)) 100 (fa_fill (qLvI N (G 94) (G 99)) (G 100) N)) q = I q := fun q h1 h2 => by rw [va_miss h2, va_miss h1, hGp q h1]
  generalize va_up (va_up G 99 (fa_fill (qdr (G 94) (G 99)) (G 99) N)) 100 (fa_fill (qLvI N (G 94) (G 99)) (G 100) N) = H at hll hlv hHp
  have oH : q_Off I H := fun q j hq => by rw [hHp q (fun c => by rw [c] at hq; cases hq) (fun c => by rw [c] at hq; cases hq)]
  have hgo : mX12_readBy [.ref 64, .int (nI p)] (qm I J e) = kX12_readBy 33 [some (.ref 64), some (.int (nI p)), some (.int 0), none] [] (qm H J e) := by
    rw [bX12_readBy, eX12_readBy_0]
    refine Eq.trans q1 ?_
    rw [eX12_readBy_2, hGp 64 (by decide), h.m51, if_neg (nI_nlt (Nat.le_refl _) (by omega)), eX12_readBy_27, hll]
    simp only [Option.bind_some, Option.toList_some, Option.toList_none, List.nil_append, List.cons_append, q_ck_tt, Bool.and_true, Bool.true_and, if_true, if_false, reduceCtorEq]
    rw [eX12_readBy_31]
  have step : ∀ n, n < N → kX12_readBy 33 [some (.ref 64), some (.int (nI p)), some (.int (nI n)), none] [] (qm H J e) = if (!decide (I 88 n < 0) && !decide (qb (bt (qLev (I 42) (nI p)) n) = I 88 n)) then some (some (.int (-1)), qm H J e) else kX12_readBy 33 [some (.ref 64), some (.int (nI p)), some (.int (nI (n + 1))), none] [] (qm H J e) := by
    intro n hn
    rw [eX12_readBy_33, hHp 64 (by decide) (by decide), h.m51, if_pos (nI_lt hn (by omega)), eX12_readBy_41, q_in_nI (show n < 6 by omega) (by omega), nI_clamp (by omega), hHp 88 (by decide) (by decide)]
    simp only [Option.bind_some, Option.toList_some, Option.toList_none, List.nil_append, List.cons_append, q_ck_tt, Bool.and_true, Bool.true_and, if_true, if_false, reduceCtorEq]
    by_cases c : I 88 n < 0
    · rw [if_pos c, eX12_readBy_67, nI_1, decide_eq_true c, Bool.not_true, Bool.false_and, if_neg (by decide)]
    · rw [if_neg c, eX12_readBy_50, q_in_nI (show n < 6 by omega) (by omega), nI_clamp (by omega), hHp 88 (by decide) (by decide), hlv n hn, decide_eq_false c, Bool.not_false, Bool.true_and]
      simp only [Option.bind_some, Option.toList_some, Option.toList_none, List.nil_append, List.cons_append, q_ck_tt, Bool.and_true, Bool.true_and, if_true, if_false, reduceCtorEq]
      by_cases g : qb (bt (qLev (I 42) (nI p)) n) = I 88 n
      · rw [if_pos g, eX12_readBy_67, nI_1, decide_eq_true g, Bool.not_true, if_neg (by decide)]
      · rw [if_neg g, eX12_readBy_65, decide_eq_false g, Bool.not_false, if_pos rfl]
  cases hsel : qSq I N p with
  | false =>
    refine ⟨H, ?_, oH, hHp 94 (by decide) (by decide)⟩
    rw [hgo, if_neg (by decide)]
    have hany : qAny N (fun n => !decide (I 88 n < 0) && !decide (qb (bt (qLev (I 42) (nI p)) n) = I 88 n)) = true := by
      unfold qSq at hsel
      cases hc : qAny N (fun n => !decide (I 88 n < 0) && !decide (qb (bt (qLev (I 42) (nI p)) n) = I 88 n)) with
      | true => rfl
      | false => rw [hc] at hsel; cases hsel
    obtain ⟨v, hv, h1⟩ := qAny_iff.mp hany
    obtain ⟨v0, hv0, hv1, hv2⟩ := fb_first (p := fun n => (!decide (I 88 n < 0) && !decide (qb (bt (qLev (I 42) (nI p)) n) = I 88 n)) = true) ⟨v, hv, h1⟩
    have hf := q_for (fun n (_ : Unit) => kX12_readBy 33 [some (.ref 64), some (.int (nI p)), some (.int (nI n)), none] [] (qm H J e)) v0 (fun _ => ()) (fun n hn => by
      show kX12_readBy 33 _ _ _ = kX12_readBy 33 _ _ _
      rw [step n (by omega), if_neg (hv2 n hn)])
    refine Eq.trans hf ?_
    show kX12_readBy 33 _ _ _ = _
    rw [step v0 hv0, if_pos hv1]
  | true =>
    have hno : ∀ n, n < N → ¬ (!decide (I 88 n < 0) && !decide (qb (bt (qLev (I 42) (nI p)) n) = I 88 n)) = true := by
      intro n hn g
      unfold qSq at hsel
      rw [qAny_iff.mpr ⟨n, hn, g⟩] at hsel
      cases hsel
    have hf := q_for (fun n (_ : Unit) => kX12_readBy 33 [some (.ref 64), some (.int (nI p)), some (.int (nI n)), none] [] (qm H J e)) N (fun _ => ()) (fun n hn => by
      show kX12_readBy 33 _ _ _ = kX12_readBy 33 _ _ _
      rw [step n (by omega), if_neg (hno n hn)])
    have l5 : ∀ r (A : Nat × (Nat → Nat → Int32)), r < RM → (A.1 = fb_ct (fun r => bt (qRa N (I 9) (I 10) (qLev (I 42) (nI p)) (I 42 2) (qFa I sz (I 42 2) (I 94 1))) (rc r) == bt (nI p) (qNn I (rc r))) r ∧ (∀ q, q ≠ 72 → q ≠ 73 → A.2 q = H q)) → ∃ A' : Nat × (Nat → Nat → Int32), (A'.1 = fb_ct (fun r => bt (qRa N (I 9) (I 10) (qLev (I 42) (nI p)) (I 42 2) (qFa I sz (I 42 2) (I 94 1))) (rc r) == bt (nI p) (qNn I (rc r))) (r + 1) ∧ (∀ q, q ≠ 72 → q ≠ 73 → A'.2 q = H q)) ∧ (fun r (A : Nat × (Nat → Nat → Int32)) => kX12_readBy 77 [some (.ref 64), some (.int (nI p)), some (.int (nI A.1)), some (.int (nI r))] [] (qm A.2 J e)) r A = (fun r (A : Nat × (Nat → Nat → Int32)) => kX12_readBy 77 [some (.ref 64), some (.int (nI p)), some (.int (nI A.1)), some (.int (nI r))] [] (qm A.2 J e)) (r + 1) A' := by
      intro r A hr hA
      obtain ⟨z, A⟩ := A
      obtain ⟨hz1, hA2⟩ := hA
      dsimp only at hz1 hA2
      have oA : q_Off I A := fun q j hq => by rw [hA2 q (fun c => by rw [c] at hq; cases hq) (fun c => by rw [c] at hq; cases hq)]; exact oH q j hq
      have CA := q_Core_off h oA
      have a94 : A 94 = I 94 := by rw [hA2 94 (by decide) (by decide), hHp 94 (by decide) (by decide)]
      obtain ⟨r1, r24, rA, -⟩ := h.br.2.2.1 r hr
      obtain ⟨a, v, hrd⟩ := q_read (J := J) (e := e) CA (q_Fz_off hz oA) (op := I 42 2) (lv := qLev (I 42) (nI p)) (by rw [oA.r 3 (fun _ => rfl), a94]; exact hq.2.2.1) (fun n hn => by rw [hA2 100 (by decide) (by decide)]; exact hlv n hn) (h.r6 r24 rA) (I 94 1)
      rw [oA.r 9 (fun _ => rfl), oA.r 10 (fun _ => rfl), qFa_off oA] at hrd
      have a92 : A 92 r = nI (rc r) := by rw [oA.r 92 (fun _ => rfl)]; exact r1
      have a57 : A 64 57 = nI RM := CA.br.1
      have oA' : q_Off I (va_up (va_up A 73 a) 72 v) := q_Off_trans oA (q_Off_trans (q_Off_va A rfl a) (q_Off_va _ rfl v))
      have CA' := q_Core_off h oA'
      have hn2 := (h.nn rA).2
      have hnn := qNn_off oA'
      refine ⟨(fb_ct (fun r => bt (qRa N (I 9) (I 10) (qLev (I 42) (nI p)) (I 42 2) (qFa I sz (I 42 2) (I 94 1))) (rc r) == bt (nI p) (qNn I (rc r))) (r + 1), va_up (va_up A 73 a) 72 v), ⟨rfl, fun q h1 h2 => by show (va_up (va_up A 73 a) 72 v) q = H q; rw [va_miss h1, va_miss h2, hA2 q h1 h2]⟩, ?_⟩
      show kX12_readBy 77 _ _ _ = kX12_readBy 77 _ _ _
      dsimp only
      rw [fb_ct_succ, ← hz1]
      generalize qRa N (I 9) (I 10) (qLev (I 42) (nI p)) (I 42 2) (qFa I sz (I 42 2) (I 94 1)) = rd at hrd
      have h119 : ∀ b : Bool, kX12_readBy 119 [some (.ref 64), some (.int (nI p)), none, some (.int (nI r))] [.int (qb b), .int (nI z)] (qm (va_up (va_up A 73 a) 72 v) J e) = kX12_readBy 77 [some (.ref 64), some (.int (nI p)), some (.int (nI (z + if b = true then 1 else 0))), some (.int (nI (r + 1)))] [] (qm (va_up (va_up A 73 a) 72 v) J e) := by
        intro b
        rw [eX12_readBy_119, fX12_truth]
        simp only [Option.bind_some, Option.toList_some, Option.toList_none, List.nil_append, List.cons_append, q_ck_tt, Bool.and_true, Bool.true_and, if_true, if_false, reduceCtorEq]
        rw [eX12_readBy_122, nI_1]
        cases b with
        | false => rw [show qb false = nI 0 from rfl, nI_add]; rfl
        | true => rw [show qb true = nI 1 from rfl, nI_add]; rfl
      rw [eX12_readBy_77, a57, if_pos (nI_lt hr (by omega)), eX12_readBy_85, q_in_nI (show r < 24 by omega) (by omega), nI_clamp (by omega), a92, a94, hrd]
      simp only [Option.bind_some, Option.toList_some, Option.toList_none, List.nil_append, List.cons_append, q_ck_tt, Bool.and_true, Bool.true_and, if_true, if_false, reduceCtorEq]
      rw [eX12_readBy_102, fX12_netAt CA' hr, hnn]
      simp only [Option.bind_some, Option.toList_some, Option.toList_none, List.nil_append, List.cons_append, q_ck_tt, Bool.and_true, Bool.true_and, if_true, if_false, reduceCtorEq]
      rw [eX12_readBy_108, b_tst _ (by omega)]
      cases bt rd (rc r) <;> cases bt (nI p) (qNn I (rc r))
      · rw [if_pos rfl, eX12_readBy_114]; exact h119 true
      · rw [if_neg (by decide), eX12_readBy_118]; exact h119 false
      · rw [if_neg (by decide), eX12_readBy_118]; exact h119 false
      · rw [if_pos rfl, eX12_readBy_114]; exact h119 true
    obtain ⟨A, ⟨a1, a2⟩, a3⟩ := q_inv_for (fun r (A : Nat × (Nat → Nat → Int32)) => kX12_readBy 77 [some (.ref 64), some (.int (nI p)), some (.int (nI A.1)), some (.int (nI r))] [] (qm A.2 J e)) (fun r A => A.1 = fb_ct (fun r => bt (qRa N (I 9) (I 10) (qLev (I 42) (nI p)) (I 42 2) (qFa I sz (I 42 2) (I 94 1))) (rc r) == bt (nI p) (qNn I (rc r))) r ∧ (∀ q, q ≠ 72 → q ≠ 73 → A.2 q = H q)) RM l5 RM 0 (0, H) (by omega) ⟨rfl, fun _ _ _ => rfl⟩
    have oA : q_Off I A.2 := fun q j hq => by rw [a2 q (fun c => by rw [c] at hq; cases hq) (fun c => by rw [c] at hq; cases hq)]; exact oH q j hq
    refine ⟨A.2, ?_, oA, by rw [a2 94 (by decide) (by decide), hHp 94 (by decide) (by decide)]⟩
    rw [hgo, if_pos rfl]
    refine Eq.trans hf ?_
    show kX12_readBy 33 _ _ _ = _
    rw [eX12_readBy_33, hHp 64 (by decide) (by decide), h.m51, if_neg (nI_nlt (Nat.le_refl _) (by omega)), eX12_readBy_73]
    refine Eq.trans a3 ?_
    show kX12_readBy 77 _ _ _ = _
    rw [eX12_readBy_77, (q_Core_off h oA).br.1, if_neg (nI_nlt (Nat.le_refl _) (by omega)), eX12_readBy_130, a1]
    rfl
theorem q_sf_ref (h : q_Core I D N cl RM rc) (hz : q_Fz I sz) (ha : q_Air I) (w : Int32) : ∃ K, kX12_safest 15 [some (.ref 64), some (.int w), none, none, none, none] [] (qm I J e) = kX12_safest 62 [none, some (.int w), some (.int (qBi (qBm (qSq I N) (qSc I N RM rc (qFa I sz (I 42 2) (I 94 1))) (2 ^ N)))), some (.int (qBc (qBm (qSq I N) (qSc I N RM rc (qFa I sz (I 42 2) (I 94 1))) (2 ^ N)))), none, none] [] (qm K J e) ∧ q_Off I K := by
  have hN := h.n6
  obtain ⟨sh1, sh2⟩ := q_sh1 N (by omega)
  have hst : ∀ p (y : Int32 × (Int32 × (Nat → Nat → Int32))), p < 2 ^ N → (y.1 = qBi (qBm (qSq I N) (qSc I N RM rc (qFa I sz (I 42 2) (I 94 1))) p) ∧ y.2.1 = qBc (qBm (qSq I N) (qSc I N RM rc (qFa I sz (I 42 2) (I 94 1))) p) ∧ q_Off I y.2.2 ∧ y.2.2 94 = I 94) → ∃ y' : Int32 × (Int32 × (Nat → Nat → Int32)), (y'.1 = qBi (qBm (qSq I N) (qSc I N RM rc (qFa I sz (I 42 2) (I 94 1))) (p + 1)) ∧ y'.2.1 = qBc (qBm (qSq I N) (qSc I N RM rc (qFa I sz (I 42 2) (I 94 1))) (p + 1)) ∧ q_Off I y'.2.2 ∧ y'.2.2 94 = I 94) ∧ (fun p (y : Int32 × (Int32 × (Nat → Nat → Int32))) => kX12_safest 22 [some (.ref 64), some (.int w), some (.int y.1), some (.int y.2.1), some (.int (nI p)), none] [] (qm y.2.2 J e)) p y = (fun p (y : Int32 × (Int32 × (Nat → Nat → Int32))) => kX12_safest 22 [some (.ref 64), some (.int w), some (.int y.1), some (.int y.2.1), some (.int (nI p)), none] [] (qm y.2.2 J e)) (p + 1) y' := by
    intro p y hp hP
    obtain ⟨b, c, K⟩ := y
    obtain ⟨hb, hc, oK, k94⟩ := hP
    dsimp only at hb hc oK k94
    have hK := q_Core_off h oK
    have hqK : q_FQ D N (bt (K 3 11)) (K 42) (K 94) := by
      rw [k94, oK.r 3 (fun _ => rfl), oK.r 42 (fun _ => rfl)]
      exact h.fqA ha
    obtain ⟨M, m0, m1, m2⟩ := fX12_readBy (J := J) (e := e) hK (q_Fz_off hz oK) hqK (show p < 64 by omega)
    have eS : qSq K N = qSq I N := by funext p; unfold qSq; rw [oK.r 88 (fun _ => rfl), oK.r 42 (fun _ => rfl)]
    have eC : qSc K N RM rc (qFa K sz (K 42 2) (K 94 1)) = qSc I N RM rc (qFa I sz (I 42 2) (I 94 1)) := by
      funext p
      unfold qSc
      rw [qNn_off oK, oK.r 9 (fun _ => rfl), oK.r 10 (fun _ => rfl), oK.r 42 (fun _ => rfl), qFa_off oK, k94]
    rw [eS, eC] at m0
    have oM := q_Off_trans oK m1
    have m94 : M 94 = I 94 := by rw [m2, k94]
    have hd := qSc_24 h (qFa I sz (I 42 2) (I 94 1)) p
    have hgo : kX12_safest 22 [some (.ref 64), some (.int w), some (.int b), some (.int c), some (.int (nI p)), none] [] (qm K J e) = kX12_safest 39 [some (.ref 64), some (.int w), some (.int b), some (.int c), some (.int (nI p)), none] [.int (if qSq I N p then nI (qSc I N RM rc (qFa I sz (I 42 2) (I 94 1)) p) else -1)] (qm M J e) := by
      rw [eX12_safest_22, hK.m51, sh1, if_pos (nI_lt hp (by omega)), eX12_safest_33, m0]
      simp only [Option.bind_some, Option.toList_some, Option.toList_none, List.nil_append, List.cons_append, q_ck_tt, Bool.and_true, Bool.true_and, if_true, if_false, reduceCtorEq]
    rw [qBm]
    have hnm1 : ∀ {y : Option (Nat × Nat)}, (∀ i c, y = some (i, c) → c ≤ 24) → ¬ qBc y < -1 := by
      intro y hy
      cases y with
      | none => exact (by decide : ¬ (-1 : Int32) < -1)
      | some y =>
        obtain ⟨i, c⟩ := y
        have := hy i c rfl
        intro g
        have h1 : (-1 : Int32) < nI c := q_m1_lt (by omega)
        rw [Int32.lt_iff_toInt_lt] at h1
        have g2 : nI c < -1 := g
        rw [Int32.lt_iff_toInt_lt] at g2
        omega
    cases hsel : qSq I N p with
    | false =>
      refine ⟨(b, c, M), ⟨hb, hc, oM, m94⟩, ?_⟩
      show kX12_safest 22 _ _ _ = kX12_safest 22 _ _ _
      rw [hgo, hsel, if_neg Bool.false_ne_true, eX12_safest_39, hc, if_neg (hnm1 (fun i c hic => (qBm_lt (qSc_24 h (qFa I sz (I 42 2) (I 94 1))) p i c hic).2)), eX12_safest_47, eX12_safest_56, nI_1]
    | true =>
      rw [if_pos rfl]
      rw [hsel, if_pos rfl] at hgo
      generalize qSc I N RM rc (qFa I sz (I 42 2) (I 94 1)) p = cs at hd hgo
      cases hm : qBm (qSq I N) (qSc I N RM rc (qFa I sz (I 42 2) (I 94 1))) p with
      | none =>
        refine ⟨(nI p, nI cs, M), ⟨rfl, rfl, oM, m94⟩, ?_⟩
        show kX12_safest 22 _ _ _ = kX12_safest 22 _ _ _
        rw [hgo, eX12_safest_39, hc, hm, if_pos (show qBc none < nI cs from q_m1_lt (by omega)), eX12_safest_50, eX12_safest_56, nI_1]
      | some y =>
        obtain ⟨i, c0⟩ := y
        obtain ⟨ilt, cle⟩ := qBm_lt (qSc_24 h (qFa I sz (I 42 2) (I 94 1))) p i c0 hm
        dsimp only
        by_cases g : c0 < cs
        · rw [if_pos g]
          refine ⟨(nI p, nI cs, M), ⟨rfl, rfl, oM, m94⟩, ?_⟩
          show kX12_safest 22 _ _ _ = kX12_safest 22 _ _ _
          rw [hgo, eX12_safest_39, hc, hm, if_pos (show qBc (some (i, c0)) < nI cs from nI_lt g (by omega)), eX12_safest_50, eX12_safest_56, nI_1]
        · rw [if_neg g]
          refine ⟨(nI i, nI c0, M), ⟨rfl, rfl, oM, m94⟩, ?_⟩
          show kX12_safest 22 _ _ _ = kX12_safest 22 _ _ _
          rw [hgo, eX12_safest_39, hc, hb, hm, if_neg (show ¬ qBc (some (i, c0)) < nI cs from nI_nlt (by omega) (by omega)), eX12_safest_47, eX12_safest_56, nI_1]
          rfl
  obtain ⟨y, ⟨y1, y2, y3, -⟩, y4⟩ := q_inv_for (fun p (y : Int32 × (Int32 × (Nat → Nat → Int32))) => kX12_safest 22 [some (.ref 64), some (.int w), some (.int y.1), some (.int y.2.1), some (.int (nI p)), none] [] (qm y.2.2 J e)) (fun p y => y.1 = qBi (qBm (qSq I N) (qSc I N RM rc (qFa I sz (I 42 2) (I 94 1))) p) ∧ y.2.1 = qBc (qBm (qSq I N) (qSc I N RM rc (qFa I sz (I 42 2) (I 94 1))) p) ∧ q_Off I y.2.2 ∧ y.2.2 94 = I 94) (2 ^ N) hst (2 ^ N) 0 (-1, -1, I) (by omega) ⟨rfl, rfl, q_Off_refl _, rfl⟩
  refine ⟨y.2.2, ?_, y3⟩
  rw [eX12_safest_15]
  refine Eq.trans y4 ?_
  show kX12_safest 22 _ _ _ = _
  rw [eX12_safest_22, (q_Core_off h y3).m51, sh1, if_neg (nI_nlt (Nat.le_refl _) (by omega)), y1, y2]
theorem o_safest (h : q_Core I D N cl RM rc) (a : Int32) : q_Obs mX11_safest mX12_safest [.int a] I J (3, 17, rb, tx, L) := by
  have h10 : ¬ ((1 : Int32) = 0) := by decide
  obtain ⟨⟨-, -⟩, ⟨z0, ck, -, z1⟩, -⟩ := h.ch
  obtain ⟨sh1, sh2⟩ := q_sh1 N (by have := h.n6; omega)
  cases hq : q_in a 2 with
  | false =>
    refine ⟨-1, I, I, ?_, ?_, q_Off_refl _, q_Off_refl _⟩
    · rw [bX11_safest, eX11_safest_0, fX11_isBit, hq]
      simp only [Option.bind_some, Option.toList_some, Option.toList_none, List.nil_append, List.cons_append, q_ck_tt, Bool.and_true, Bool.true_and, if_true, if_false, reduceCtorEq]
      rw [eX11_safest_4, if_pos qb_f, eX11_safest_7]
    · rw [bX12_safest, eX12_safest_0, fX12_isBit, hq]
      simp only [Option.bind_some, Option.toList_some, Option.toList_none, List.nil_append, List.cons_append, q_ck_tt, Bool.and_true, Bool.true_and, if_true, if_false, reduceCtorEq]
      rw [eX12_safest_6, if_pos qb_f, eX12_safest_9]
  | true =>
    obtain ⟨sz, hz⟩ : ∃ sz, q_Fz I sz := h.fo
    obtain ⟨v, hfl⟩ := fX0_floatingAt I J (3, 17, rb, tx, L) hz.1 hz.2.1 hz.2.2.2.2 hz.d1 (I 42 2) (I 37 1)
    have o0 : q_Off I (va_up I 16 v) := q_Off_va I rfl v
    have h0 := q_Core_off h o0
    obtain ⟨K, k0, k1, k2⟩ := fX5_safestPattern (J := J) (e := (3, 17, rb, tx, L)) h0 (qFa I sz (I 42 2) (I 37 1))
    have k0' : mX5_safestPattern [.ref 48, .ref 3, .ref 42, .int (qB 24 (fun x => bt (I 42 2) x && qFl (I 69) (I 70) sz (I 12) (I 37 1) x))] (qm (va_up I 16 v) J (3, 17, rb, tx, L)) = some (some (.int (qBi (qBm (qSq (va_up I 16 v) N) (qSc (va_up I 16 v) N RM rc (qFa I sz (I 42 2) (I 37 1))) (2 ^ N)))), qm K J (3, 17, rb, tx, L)) := k0
    have oK := q_Off_trans o0 k1
    have hK := q_Core_off h oK
    obtain ⟨A, f1, o1, a1, C1⟩ := hK.fill J (3, 17, rb, tx, L)
    have oA := q_Off_trans oK o1
    obtain ⟨K2, m0, m1⟩ := q_sf_ref (J := J) (e := (3, 17, rb, tx, L)) C1 (q_Fz_off hz oA) a1 a
    have hck : A 94 1 = I 37 1 := by rw [a1 1 (by omega), oA.r 93 (fun _ => rfl)]; exact z0.symm
    have eS : ∀ B : Nat → Nat → Int32, q_Off I B → qSq B N = qSq I N := fun B o => by funext p; unfold qSq; rw [o.r 88 (fun _ => rfl), o.r 42 (fun _ => rfl)]
    have eC : ∀ B : Nat → Nat → Int32, q_Off I B → ∀ fl, qSc B N RM rc fl = qSc I N RM rc fl := fun B o fl => by
      funext p
      unfold qSc
      rw [qNn_off o, o.r 9 (fun _ => rfl), o.r 10 (fun _ => rfl), o.r 42 (fun _ => rfl)]
    rw [hck, qFa_off oA, oA.r 42 (fun _ => rfl), eS A oA, eC A oA] at m0
    rw [eS _ o0, eC _ o0] at k0' k2
    have hlt := qBm_lt (sel := qSq I N) (qSc_24 h (qFa I sz (I 42 2) (I 37 1))) (2 ^ N)
    generalize qBm (qSq I N) (qSc I N RM rc (qFa I sz (I 42 2) (I 37 1))) (2 ^ N) = bm at m0 k0' k2 hlt
    have hc : mX11_safest [.ref 1, .int a] (qm I J (3, 17, rb, tx, L)) = kX11_safest 38 [some (.ref 1), some (.int a), none] [.int (qBi bm)] (qm K J (3, 17, rb, tx, L)) := by
      rw [bX11_safest, eX11_safest_0, fX11_isBit, hq]
      simp only [Option.bind_some, Option.toList_some, Option.toList_none, List.nil_append, List.cons_append, q_ck_tt, Bool.and_true, Bool.true_and, if_true, if_false, reduceCtorEq]
      rw [eX11_safest_4, qb_t, if_neg h10, eX11_safest_9, bX1_floating, eX1_floating_0, hfl]
      simp only [Option.bind_some, Option.toList_some, Option.toList_none, List.nil_append, List.cons_append, q_ck_tt, Bool.and_true, Bool.true_and, if_true, if_false, reduceCtorEq]
      rw [eX1_floating_15]
      simp only [Option.bind_some, Option.toList_some, Option.toList_none, List.nil_append, List.cons_append, q_ck_tt, Bool.and_true, Bool.true_and, if_true, if_false, reduceCtorEq]
      rw [eX11_safest_35, k0']
      simp only [Option.bind_some, Option.toList_some, Option.toList_none, List.nil_append, List.cons_append, q_ck_tt, Bool.and_true, Bool.true_and, if_true, if_false, reduceCtorEq]
    have hr : mX12_safest [.ref 64, .int a] (qm K J (3, 17, rb, tx, L)) = kX12_safest 62 [none, some (.int a), some (.int (qBi bm)), some (.int (qBc bm)), none, none] [] (qm K2 J (3, 17, rb, tx, L)) := by
      rw [bX12_safest, eX12_safest_0, fX12_isBit, hq]
      simp only [Option.bind_some, Option.toList_some, Option.toList_none, List.nil_append, List.cons_append, q_ck_tt, Bool.and_true, Bool.true_and, if_true, if_false, reduceCtorEq]
      rw [eX12_safest_6, qb_t, if_neg h10, eX12_safest_11, f1]
      simp only [Option.bind_some, Option.toList_some, Option.toList_none, List.nil_append, List.cons_append, q_ck_tt, Bool.and_true, Bool.true_and, if_true, if_false, reduceCtorEq]
      rw [m0]
    have oo := q_Off_trans o1 m1
    by_cases c0 : a = 0
    · refine ⟨qBi bm, K, K2, ?_, ?_, oK, oo⟩
      · rw [hc, eX11_safest_38, if_pos c0, eX11_safest_48, eX11_safest_59]
      · rw [hr, eX12_safest_62, if_pos c0, eX12_safest_66, eX12_safest_71]
    · refine ⟨qBc bm, K, K2, ?_, ?_, oK, oo⟩
      · rw [hc, eX11_safest_38, if_neg c0, eX11_safest_43]
        cases bm with
        | none => rw [if_pos (show qBi none = -1 from rfl), eX11_safest_48, eX11_safest_59]; rfl
        | some y =>
          obtain ⟨i, c⟩ := y
          obtain ⟨h1, h2⟩ := hlt i c rfl
          rw [if_neg (show ¬ qBi (some (i, c)) = -1 from nI_ne1 (by omega)), eX11_safest_52, eX11_safest_59, k2 i c rfl]
          rfl
      · rw [hr, eX12_safest_62, if_neg c0, eX12_safest_70, eX12_safest_71]
end SF
