/-! ===== ask ===== -/
def qCq (fit : Nat → Bool) (E : Nat → Nat → Bool) (n q : Nat) : Nat := fb_ct (fun p => fit p && E q p) n
def qMx (fit : Nat → Bool) (E : Nat → Nat → Bool) (n : Nat) : Nat → Nat
  | 0 => 0
  | q + 1 => if fit q then (if qMx fit E n q < qCq fit E n q then qCq fit E n q else qMx fit E n q) else qMx fit E n q
theorem qMx_le (fit : Nat → Bool) (E : Nat → Nat → Bool) (n : Nat) : ∀ q, qMx fit E n q ≤ n
  | 0 => Nat.zero_le _
  | q + 1 => by
    have ih := qMx_le fit E n q
    have hc : qCq fit E n q ≤ n := fb_ct_le _ _
    rw [qMx]
    split
    · split
      · exact hc
      · exact ih
    · exact ih
def qMm (lf : Nat → Nat) : Nat → Nat × Nat
  | 0 => (0, lf 0)
  | n + 1 => if lf (n + 1) < (qMm lf n).2 then (n + 1, lf (n + 1)) else qMm lf n
theorem qMm_b {lf : Nat → Nat} {b : Nat} (h : ∀ n, lf n ≤ b) : ∀ n, (qMm lf n).1 ≤ n ∧ (qMm lf n).2 ≤ b
  | 0 => ⟨Nat.le_refl _, h 0⟩
  | n + 1 => by
    have ih := qMm_b h n
    rw [qMm]
    split
    · exact ⟨Nat.le_refl _, h _⟩
    · exact ⟨by omega, ih.2⟩
section AK
variable {I : Nat → Nat → Int32} {J : Nat → Nat → Int64} {e : QP} {rb tx L : Nat} {D N : Nat} {cl : Nat → Nat} {RM : Nat} {rc : Nat → Nat} {sz : Nat} {k c : Nat} {fit : Nat → Bool} {X : Nat}
def qEq (I : Nat → Nat → Int32) (N RM : Nat) (rc : Nat → Nat) (sz k s i j : Nat) : Bool := decide (qRq I N RM rc sz j (qCol N k s) = qRq I N RM rc sz i (qCol N k s))
theorem q_eq_r (h : q_Core I D N cl RM rc) (hk : k < 3) {s i j : Nat} (hs : s < qSt k N) (hi : i ≤ qSN N RM) (hj : j ≤ qSN N RM) : (!qAny RM (fun r => bt (qAi I N RM rc sz k i (rc r)) s ^^ bt (qAi I N RM rc sz k j (rc r)) s)) = qEq I N RM rc sz k s i j := by
  unfold qEq
  cases hc : qAny RM (fun r => bt (qAi I N RM rc sz k i (rc r)) s ^^ bt (qAi I N RM rc sz k j (rc r)) s) with
  | true =>
    obtain ⟨r, hr, h1⟩ := qAny_iff.mp hc
    rw [← qRq_bit h hk hi hs hr, ← qRq_bit h hk hj hs hr] at h1
    rw [decide_eq_false (fun g => by rw [g, Bool.xor_self] at h1; cases h1)]
    rfl
  | false =>
    rw [decide_eq_true ?_]
    · rfl
    · apply b_ext
      intro x hx
      cases hA : bt (I 3 11) x with
      | false => rw [qRq_w h hk hi hs, qRq_w h hk hj hs, b_and, b_and, hA, Bool.and_false, Bool.and_false]
      | true =>
        obtain ⟨r, hr, hrx⟩ := h.rcof (h.a24 hA) hA
        rw [← hrx, qRq_bit h hk hi hs hr, qRq_bit h hk hj hs hr]
        cases hx2 : (bt (qAi I N RM rc sz k i (rc r)) s ^^ bt (qAi I N RM rc sz k j (rc r)) s) with
        | true =>
          have : qAny RM (fun r => bt (qAi I N RM rc sz k i (rc r)) s ^^ bt (qAi I N RM rc sz k j (rc r)) s) = true := qAny_iff.mpr ⟨r, hr, hx2⟩
          rw [hc] at this
          cases this
        | false => cases ha : bt (qAi I N RM rc sz k i (rc r)) s <;> cases hb : bt (qAi I N RM rc sz k j (rc r)) s <;> rw [ha, hb] at hx2 <;> first | rfl | cases hx2
theorem fX7_mostAlike (h : q_Core I D N cl RM rc) (ht : q_Tb I N RM rc sz) (hX : q_Xf X (qSN N RM + 1) fit) (hk : k < 3) {s : Nat} (hs : s < qSt k N) : mX7_mostAlike [.ref 52, .int (nI (qCol N k s)), .int (nI (qSN N RM)), .long (lN X)] (qm I J e) = some (some (.int (nI (qMx fit (qEq I N RM rc sz k s) (qSN N RM + 1) (qSN N RM + 1)))), qm I J e) := by
  have h60 := qSN_60 h
  obtain ⟨l1, l2⟩ := qCol_lt h.n6 hk hs
  obtain ⟨x1, x2⟩ := hX
  have htb : ∀ q, q < qSN N RM + 1 → X.testBit q = fit q := fun q hq => by rw [x2 q, decide_eq_true hq, Bool.true_and]
  have hlt : ∀ q, q < qSN N RM + 1 → nI q - 1 < nI (qSN N RM) := by
    intro q hq
    cases q with
    | zero => exact q_m1_lt (a := qSN N RM) (by omega)
    | succ s => rw [nI_pred]; exact nI_lt (by omega) (by omega)
  have hinc : ∀ q, nI q - 1 + 1 = nI (q + 1) - 1 := fun q => by rw [Int32.sub_add_cancel, nI_pred]
  have hbit : ∀ q, q < qSN N RM + 1 → ((lg_cmp ((lN X >>> ((nI q - 1 + 1).toInt64 &&& 63)) &&& 1) 0 = 0) ↔ fit q = false) := fun q hq => by
    rw [Int32.sub_add_cancel, q_lt0 x1 (by omega), htb q hq]
  have hst : ∀ q, q < qSN N RM + 1 → (fun q (y : Nat) => kX7_mostAlike 6 [some (.ref 52), some (.int (nI (qCol N k s))), some (.int (nI (qSN N RM))), some (.long (lN X)), none, some (.int (nI y)), some (.int (nI q - 1)), none, none, none] [] (qm I J e)) q (qMx fit (qEq I N RM rc sz k s) (qSN N RM + 1) q) = (fun q (y : Nat) => kX7_mostAlike 6 [some (.ref 52), some (.int (nI (qCol N k s))), some (.int (nI (qSN N RM))), some (.long (lN X)), none, some (.int (nI y)), some (.int (nI q - 1)), none, none, none] [] (qm I J e)) (q + 1) (qMx fit (qEq I N RM rc sz k s) (qSN N RM + 1) (q + 1)) := by
    intro q hq
    show kX7_mostAlike 6 _ _ _ = kX7_mostAlike 6 _ _ _
    have hb := qMx_le fit (qEq I N RM rc sz k s) (qSN N RM + 1) q
    have hcq : qCq fit (qEq I N RM rc sz k s) (qSN N RM + 1) q ≤ qSN N RM + 1 := fb_ct_le _ _
    rw [qMx]
    generalize qMx fit (qEq I N RM rc sz k s) (qSN N RM + 1) q = y at hb
    rw [eX7_mostAlike_6, if_pos (hlt q hq), eX7_mostAlike_12]
    cases hf : fit q with
    | false => rw [if_pos ((hbit q hq).mpr hf), eX7_mostAlike_89, hinc, if_neg (by decide)]
    | true =>
      have hin : ∀ p, p < qSN N RM + 1 → (fun p (z : Nat) => kX7_mostAlike 40 [some (.ref 52), some (.int (nI (qCol N k s))), some (.int (nI (qSN N RM))), some (.long (lN X)), none, some (.int (nI y)), some (.int (nI q - 1)), some (.int (qRq I N RM rc sz q (qCol N k s))), some (.int (nI z)), some (.int (nI p - 1))] [] (qm I J e)) p (qCq fit (qEq I N RM rc sz k s) p q) = (fun p (z : Nat) => kX7_mostAlike 40 [some (.ref 52), some (.int (nI (qCol N k s))), some (.int (nI (qSN N RM))), some (.long (lN X)), none, some (.int (nI y)), some (.int (nI q - 1)), some (.int (qRq I N RM rc sz q (qCol N k s))), some (.int (nI z)), some (.int (nI p - 1))] [] (qm I J e)) (p + 1) (qCq fit (qEq I N RM rc sz k s) (p + 1) q) := by
        intro p hp
        show kX7_mostAlike 40 _ _ _ = kX7_mostAlike 40 _ _ _
        unfold qCq
        rw [fb_ct_succ, eX7_mostAlike_40, if_pos (hlt p hp), eX7_mostAlike_46]
        cases hfp : fit p with
        | false => rw [if_pos ((hbit p hp).mpr hfp), eX7_mostAlike_74, hinc]; rfl
        | true =>
          rw [if_neg (fun g => by rw [(hbit p hp).mp g] at hfp; cases hfp), eX7_mostAlike_59, fX6_readsIn h ht (show p ≤ qSN N RM by omega) l1, Bool.true_and]
          simp only [Option.bind_some, Option.toList_some, Option.toList_none, List.nil_append, List.cons_append, q_ck_tt, Bool.and_true, Bool.true_and, if_true, if_false, reduceCtorEq]
          rw [eX7_mostAlike_66]
          unfold qEq
          by_cases g : qRq I N RM rc sz p (qCol N k s) = qRq I N RM rc sz q (qCol N k s)
          · rw [if_pos g, eX7_mostAlike_71, eX7_mostAlike_74, hinc, nI_1, decide_eq_true g]; rfl
          · rw [if_neg g, eX7_mostAlike_74, hinc, decide_eq_false g]; rfl
      have hfq := q_for (fun p (z : Nat) => kX7_mostAlike 40 [some (.ref 52), some (.int (nI (qCol N k s))), some (.int (nI (qSN N RM))), some (.long (lN X)), none, some (.int (nI y)), some (.int (nI q - 1)), some (.int (qRq I N RM rc sz q (qCol N k s))), some (.int (nI z)), some (.int (nI p - 1))] [] (qm I J e)) (qSN N RM + 1) (fun p => qCq fit (qEq I N RM rc sz k s) p q) hin
      rw [if_neg (fun g => by rw [(hbit q hq).mp g] at hf; cases hf), eX7_mostAlike_25, fX6_readsIn h ht (show q ≤ qSN N RM by omega) l1]
      simp only [Option.bind_some, Option.toList_some, Option.toList_none, List.nil_append, List.cons_append, q_ck_tt, Bool.and_true, Bool.true_and, if_true, if_false, reduceCtorEq]
      rw [eX7_mostAlike_32]
      refine Eq.trans hfq ?_
      show kX7_mostAlike 40 _ _ _ = _
      rw [nI_pred, eX7_mostAlike_40, if_neg (nI_nlt (Nat.le_refl _) (by omega)), eX7_mostAlike_80, eX7_mostAlike_89, hinc]
      by_cases g : y < qCq fit (qEq I N RM rc sz k s) (qSN N RM + 1) q
      · rw [if_pos (nI_lt g (by omega)), if_pos g]
      · rw [if_neg (nI_nlt (by omega) (by omega)), if_neg g]
  have hf := q_for (fun q (y : Nat) => kX7_mostAlike 6 [some (.ref 52), some (.int (nI (qCol N k s))), some (.int (nI (qSN N RM))), some (.long (lN X)), none, some (.int (nI y)), some (.int (nI q - 1)), none, none, none] [] (qm I J e)) (qSN N RM + 1) (fun q => qMx fit (qEq I N RM rc sz k s) (qSN N RM + 1) q) hst
  rw [bX7_mostAlike, eX7_mostAlike_0]
  refine Eq.trans hf ?_
  show kX7_mostAlike 6 _ _ _ = _
  rw [nI_pred, eX7_mostAlike_6, if_neg (nI_nlt (Nat.le_refl _) (by omega)), eX7_mostAlike_95]
theorem fX12_readAlike (h : q_Core I D N cl RM rc) {T : Nat → Nat → Int32} (hT : ∀ i, i ≤ qSN N RM → ∀ r, r < RM → I 104 (24 * i + r) = T i r) {i j s : Nat} (hi : i ≤ qSN N RM) (hj : j ≤ qSN N RM) (hs : s < 32) : mX12_readAlike [.ref 64, .int (nI i), .int (nI j), .int (nI s)] (qm I J e) = some (some (.int (qb (!qAny RM (fun r => bt (T i r) s ^^ bt (T j r) s)))), qm I J e) := by
  have h60 := qSN_60 h
  have h18 := h.br.2.1
  have hst : ∀ r, r < RM → (fun r (y : Bool) => kX12_readAlike 6 [some (.ref 64), some (.int (nI i)), some (.int (nI j)), some (.int (nI s)), some (.int (qb (!y))), some (.int (nI r))] [] (qm I J e)) r (qAny r (fun r => bt (T i r) s ^^ bt (T j r) s)) = (fun r (y : Bool) => kX12_readAlike 6 [some (.ref 64), some (.int (nI i)), some (.int (nI j)), some (.int (nI s)), some (.int (qb (!y))), some (.int (nI r))] [] (qm I J e)) (r + 1) (qAny (r + 1) (fun r => bt (T i r) s ^^ bt (T j r) s)) := by
    intro r hr
    show kX12_readAlike 6 _ _ _ = kX12_readAlike 6 [some (.ref 64), some (.int (nI i)), some (.int (nI j)), some (.int (nI s)), some (.int (qb (!(qAny r (fun r => bt (T i r) s ^^ bt (T j r) s) || (bt (T i r) s ^^ bt (T j r) s))))), some (.int (nI (r + 1)))] [] (qm I J e)
    have hm : ∀ i, (24 : Int32) * nI i + nI r = nI (24 * i + r) := fun i => by rw [show (24 : Int32) = nI 24 from rfl, pk_mul, nI_add]
    rw [eX12_readAlike_6, h.br.1, if_pos (nI_lt hr (by omega)), eX12_readAlike_15]
    cases qAny r (fun r => bt (T i r) s ^^ bt (T j r) s) with
    | true => rw [if_pos (show qb (!true) = 0 from rfl), eX12_readAlike_59, eX12_readAlike_60, nI_1, Bool.true_or]; rfl
    | false =>
      rw [if_neg (show ¬ qb (!false) = 0 by decide), eX12_readAlike_20, hm, q_in_nI (show 24 * i + r < 1464 by omega) (by omega), nI_clamp (show 24 * i + r < 2 ^ 31 by omega), hT i hi r hr, fX12_has _ _ _ _ hs, Bool.false_or]
      simp only [Option.bind_some, Option.toList_some, Option.toList_none, List.nil_append, List.cons_append, q_ck_tt, Bool.and_true, Bool.true_and, if_true, if_false, reduceCtorEq]
      rw [eX12_readAlike_36, hm, q_in_nI (show 24 * j + r < 1464 by omega) (by omega), nI_clamp (show 24 * j + r < 2 ^ 31 by omega), hT j hj r hr, fX12_has _ _ _ _ hs]
      simp only [Option.bind_some, Option.toList_some, Option.toList_none, List.nil_append, List.cons_append, q_ck_tt, Bool.and_true, Bool.true_and, if_true, if_false, reduceCtorEq]
      rw [eX12_readAlike_52]
      cases bt (T i r) s <;> cases bt (T j r) s
      · rw [if_pos rfl, eX12_readAlike_55, eX12_readAlike_60, nI_1]; rfl
      · rw [if_neg (by decide), eX12_readAlike_59, eX12_readAlike_60, nI_1]; rfl
      · rw [if_neg (by decide), eX12_readAlike_59, eX12_readAlike_60, nI_1]; rfl
      · rw [if_pos rfl, eX12_readAlike_55, eX12_readAlike_60, nI_1]; rfl
  have hf := q_for (fun r (y : Bool) => kX12_readAlike 6 [some (.ref 64), some (.int (nI i)), some (.int (nI j)), some (.int (nI s)), some (.int (qb (!y))), some (.int (nI r))] [] (qm I J e)) RM (fun r => qAny r (fun r => bt (T i r) s ^^ bt (T j r) s)) hst
  rw [bX12_readAlike, eX12_readAlike_0]
  refine Eq.trans hf ?_
  show kX12_readAlike 6 _ _ _ = _
  rw [eX12_readAlike_6, h.br.1, if_neg (nI_nlt (Nat.le_refl _) (by omega)), eX12_readAlike_68]
  simp only [Option.bind_some, Option.toList_some, Option.toList_none, List.nil_append, List.cons_append, q_ck_tt, Bool.and_true, Bool.true_and, if_true, if_false, reduceCtorEq, qb_ck]
theorem fX12_leftBy (h : q_Core I D N cl RM rc) {E : Nat → Nat → Bool} {s : Nat} (h111 : ∀ i, i ≤ qSN N RM → I 111 i = qb (fit i)) (hra : ∀ i j, i ≤ qSN N RM → j ≤ qSN N RM → mX12_readAlike [.ref 64, .int (nI i), .int (nI j), .int (nI s)] (qm I J e) = some (some (.int (qb (E i j))), qm I J e)) : mX12_leftBy [.ref 64, .int (nI s)] (qm I J e) = some (some (.int (nI (qMx fit E (qSN N RM + 1) (qSN N RM + 1)))), qm I J e) := by
  have h60 := qSN_60 h
  have hst : ∀ q, q < qSN N RM + 1 → (fun q (y : Nat) => kX12_leftBy 4 [some (.ref 64), some (.int (nI s)), some (.int (nI y)), some (.int (nI q)), none, none] [] (qm I J e)) q (qMx fit E (qSN N RM + 1) q) = (fun q (y : Nat) => kX12_leftBy 4 [some (.ref 64), some (.int (nI s)), some (.int (nI y)), some (.int (nI q)), none, none] [] (qm I J e)) (q + 1) (qMx fit E (qSN N RM + 1) (q + 1)) := by
    intro q hq
    show kX12_leftBy 4 _ _ _ = kX12_leftBy 4 _ _ _
    have hb := qMx_le fit E (qSN N RM + 1) q
    have hcq : qCq fit E (qSN N RM + 1) q ≤ qSN N RM + 1 := fb_ct_le _ _
    rw [qMx]
    generalize qMx fit E (qSN N RM + 1) q = y at hb
    have h76 : ∀ z : Nat, z ≤ 61 → kX12_leftBy 76 [some (.ref 64), some (.int (nI s)), some (.int (nI y)), some (.int (nI q)), some (.int (nI z)), none] [] (qm I J e) = kX12_leftBy 4 [some (.ref 64), some (.int (nI s)), some (.int (nI (if y < z then z else y))), some (.int (nI (q + 1))), none, none] [] (qm I J e) := by
      intro z hz
      rw [eX12_leftBy_76, fX12_greater I J e]
      simp only [Option.bind_some, Option.toList_some, Option.toList_none, List.nil_append, List.cons_append, q_ck_tt, Bool.and_true, Bool.true_and, if_true, if_false, reduceCtorEq]
      rw [eX12_leftBy_82, nI_1]
      by_cases g : y < z
      · rw [if_neg (nI_nlt (by omega) (by omega)), if_pos g]
      · rw [if_neg g]
        by_cases g2 : z < y
        · rw [if_pos (nI_lt g2 (by omega))]
        · rw [if_neg (nI_nlt (by omega) (by omega)), show z = y by omega]
    rw [eX12_leftBy_4, fX12_singleMany h]
    simp only [Option.bind_some, Option.toList_some, Option.toList_none, List.nil_append, List.cons_append, q_ck_tt, Bool.and_true, Bool.true_and, if_true, if_false, reduceCtorEq]
    rw [eX12_leftBy_9, if_neg (nI_nlt (by omega) (by omega)), eX12_leftBy_12]
    cases hf : fit q with
    | false =>
      rw [eX12_leftBy_18, fX12_singleMany h]
      simp only [Option.bind_some, Option.toList_some, Option.toList_none, List.nil_append, List.cons_append, q_ck_tt, Bool.and_true, Bool.true_and, if_true, if_false, reduceCtorEq]
      rw [eX12_leftBy_24, if_neg (show ¬ nI (qSN N RM) < 0 from nI_pos (by omega)), eX12_leftBy_27, q_in_nI (show q < 61 by omega) (by omega), nI_clamp (by omega), h111 q (by omega), hf, if_pos qb_f]
      simp only [Option.bind_some, Option.toList_some, Option.toList_none, List.nil_append, List.cons_append, q_ck_tt, Bool.and_true, Bool.true_and, if_true, if_false, reduceCtorEq]
      have := h76 0 (by omega)
      rw [if_neg (show ¬ y < 0 by omega)] at this
      exact this
    | true =>
      have hin : ∀ p, p < qSN N RM + 1 → (fun p (z : Nat) => kX12_leftBy 18 [some (.ref 64), some (.int (nI s)), some (.int (nI y)), some (.int (nI q)), some (.int (nI z)), some (.int (nI p))] [] (qm I J e)) p (qCq fit E p q) = (fun p (z : Nat) => kX12_leftBy 18 [some (.ref 64), some (.int (nI s)), some (.int (nI y)), some (.int (nI q)), some (.int (nI z)), some (.int (nI p))] [] (qm I J e)) (p + 1) (qCq fit E (p + 1) q) := by
        intro p hp
        show kX12_leftBy 18 _ _ _ = kX12_leftBy 18 _ _ _
        unfold qCq
        rw [fb_ct_succ]
        generalize fb_ct (fun p => fit p && E q p) p = z
        have h64 : ∀ b : Bool, kX12_leftBy 64 [some (.ref 64), some (.int (nI s)), some (.int (nI y)), some (.int (nI q)), none, some (.int (nI p))] [.int (qb b), .int (nI z)] (qm I J e) = kX12_leftBy 18 [some (.ref 64), some (.int (nI s)), some (.int (nI y)), some (.int (nI q)), some (.int (nI (z + if b = true then 1 else 0))), some (.int (nI (p + 1)))] [] (qm I J e) := by
          intro b
          rw [eX12_leftBy_64, fX12_truth]
          simp only [Option.bind_some, Option.toList_some, Option.toList_none, List.nil_append, List.cons_append, q_ck_tt, Bool.and_true, Bool.true_and, if_true, if_false, reduceCtorEq]
          rw [eX12_leftBy_67, nI_1]
          cases b with
          | false => rw [show qb false = nI 0 from rfl, nI_add]; rfl
          | true => rw [show qb true = nI 1 from rfl, nI_add]; rfl
        rw [eX12_leftBy_18, fX12_singleMany h]
        simp only [Option.bind_some, Option.toList_some, Option.toList_none, List.nil_append, List.cons_append, q_ck_tt, Bool.and_true, Bool.true_and, if_true, if_false, reduceCtorEq]
        rw [eX12_leftBy_24, if_neg (nI_nlt (by omega) (by omega)), eX12_leftBy_27, q_in_nI (show q < 61 by omega) (by omega), nI_clamp (show q < 2 ^ 31 by omega), h111 q (by omega), hf, if_neg (show ¬ qb true = 0 by decide)]
        simp only [Option.bind_some, Option.toList_some, Option.toList_none, List.nil_append, List.cons_append, q_ck_tt, Bool.and_true, Bool.true_and, if_true, if_false, reduceCtorEq]
        rw [eX12_leftBy_36, q_in_nI (show p < 61 by omega) (by omega), nI_clamp (show p < 2 ^ 31 by omega), h111 p (by omega)]
        simp only [Option.bind_some, Option.toList_some, Option.toList_none, List.nil_append, List.cons_append, q_ck_tt, Bool.and_true, Bool.true_and, if_true, if_false, reduceCtorEq]
        cases hfp : fit p with
        | false =>
          rw [if_pos qb_f, eX12_leftBy_63, Bool.false_and]
          exact h64 false
        | true =>
          rw [if_neg (show ¬ qb true = 0 by decide), eX12_leftBy_48, hra q p (by omega) (by omega), Bool.true_and]
          simp only [Option.bind_some, Option.toList_some, Option.toList_none, List.nil_append, List.cons_append, q_ck_tt, Bool.and_true, Bool.true_and, if_true, if_false, reduceCtorEq]
          rw [eX12_leftBy_56]
          cases E q p with
          | false =>
            rw [if_pos qb_f, eX12_leftBy_63]
            exact h64 false
          | true =>
            rw [if_neg (show ¬ qb true = 0 by decide), eX12_leftBy_59]
            exact h64 true
      have hfq := q_for (fun p (z : Nat) => kX12_leftBy 18 [some (.ref 64), some (.int (nI s)), some (.int (nI y)), some (.int (nI q)), some (.int (nI z)), some (.int (nI p))] [] (qm I J e)) (qSN N RM + 1) (fun p => qCq fit E p q) hin
      refine Eq.trans hfq ?_
      show kX12_leftBy 18 _ _ _ = _
      rw [eX12_leftBy_18, fX12_singleMany h]
      simp only [Option.bind_some, Option.toList_some, Option.toList_none, List.nil_append, List.cons_append, q_ck_tt, Bool.and_true, Bool.true_and, if_true, if_false, reduceCtorEq]
      rw [eX12_leftBy_24, if_pos (nI_lt (by omega) (by omega)), h76 _ (by omega)] <;> try rfl
  have hf := q_for (fun q (y : Nat) => kX12_leftBy 4 [some (.ref 64), some (.int (nI s)), some (.int (nI y)), some (.int (nI q)), none, none] [] (qm I J e)) (qSN N RM + 1) (fun q => qMx fit E (qSN N RM + 1) q) hst
  rw [bX12_leftBy, eX12_leftBy_0]
  refine Eq.trans hf ?_
  show kX12_leftBy 4 _ _ _ = _
  rw [eX12_leftBy_4, fX12_singleMany h]
  simp only [Option.bind_some, Option.toList_some, Option.toList_none, List.nil_append, List.cons_append, q_ck_tt, Bool.and_true, Bool.true_and, if_true, if_false, reduceCtorEq]
  rw [eX12_leftBy_9, if_pos (nI_lt (by omega) (by omega)), eX12_leftBy_89]
theorem fX7_bestStep (h : q_Core I D N cl RM rc) (ht : q_Tb I N RM rc sz) (hX : q_Xf X (qSN N RM + 1) fit) (hk : k < 3) {n : Nat} (hn : qSt k N = n + 1) : ∃ K, kX7_bestStep 19 [some (.ref 56), some (.ref 3), some (.ref 52), some (.int (nI k)), none, some (.long (lN X)), none, none, none, none, none] [] (qm I J e) = some (some (.int (nI (qMm (fun s => qMx fit (qEq I N RM rc sz k s) (qSN N RM + 1) (qSN N RM + 1)) n).1)), qm K J e) ∧ K 56 7 = nI (qMm (fun s => qMx fit (qEq I N RM rc sz k s) (qSN N RM + 1) (qSN N RM + 1)) n).2 ∧ (∀ j, j ≠ 7 → K 56 j = I 56 j) ∧ ∀ p, p ≠ 56 → K p = I p := by
  have h60 := qSN_60 h
  have h6 := qSt_6 (k := k) h.n6
  have hlf : ∀ s, (fun s => qMx fit (qEq I N RM rc sz k s) (qSN N RM + 1) (qSN N RM + 1)) s ≤ 61 := fun s => by
    have := qMx_le fit (qEq I N RM rc sz k s) (qSN N RM + 1) (qSN N RM + 1)
    show qMx fit (qEq I N RM rc sz k s) (qSN N RM + 1) (qSN N RM + 1) ≤ 61
    omega
  have hrow : ∀ v : Int32, q_Core (va_up I 56 (va_up (I 56) 7 v)) D N cl RM rc ∧ q_Tb (va_up I 56 (va_up (I 56) 7 v)) N RM rc sz ∧ (∀ s, qEq (va_up I 56 (va_up (I 56) 7 v)) N RM rc sz k s = qEq I N RM rc sz k s) := by
    intro v
    have o : q_Off I (va_up I 56 (va_up (I 56) 7 v)) := by
      intro p j hp
      by_cases c : p = 56
      · rw [c, va_hit]
        by_cases g : j = 7
        · rw [c, g] at hp; cases hp
        · rw [va_miss g]
      · rw [va_miss c]
    refine ⟨q_Core_off h o, ?_, fun s => ?_⟩
    · unfold q_Tb at ht ⊢
      rw [qRq_off o, va_miss (by decide)]
      exact ht
    · funext i j
      unfold qEq
      rw [qRq_off o]
  have hgo : ∀ s v b, s < n + 1 → kX7_bestStep 32 [some (.ref 56), some (.ref 3), some (.ref 52), some (.int (nI k)), none, some (.long (lN X)), none, some (.int b), some (.int (nI (n + 1))), some (.int (nI s)), none] [] (qm (va_up I 56 (va_up (I 56) 7 v)) J e) = kX7_bestStep 57 [some (.ref 56), some (.ref 3), some (.ref 52), some (.int (nI k)), none, some (.long (lN X)), none, some (.int b), some (.int (nI (n + 1))), some (.int (nI s)), none] [.int (nI (qMx fit (qEq I N RM rc sz k s) (qSN N RM + 1) (qSN N RM + 1)))] (qm (va_up I 56 (va_up (I 56) 7 v)) J e) := by
    intro s v b hs
    obtain ⟨c1, c2, c3⟩ := hrow v
    have hm := fX7_mostAlike (J := J) (e := e) c1 c2 hX hk (show s < qSt k N by omega)
    rw [c3] at hm
    rw [eX7_bestStep_32, if_pos (nI_lt hs (by omega)), eX7_bestStep_39, fX6_columnOf c1 hk]
    simp only [Option.bind_some, Option.toList_some, Option.toList_none, List.nil_append, List.cons_append, q_ck_tt, Bool.and_true, Bool.true_and, if_true, if_false, reduceCtorEq]
    rw [eX7_bestStep_48, fX0_singleCount c1]
    simp only [Option.bind_some, Option.toList_some, Option.toList_none, List.nil_append, List.cons_append, q_ck_tt, Bool.and_true, Bool.true_and, if_true, if_false, reduceCtorEq]
    rw [eX7_bestStep_52, hm]
    simp only [Option.bind_some, Option.toList_some, Option.toList_none, List.nil_append, List.cons_append, q_ck_tt, Bool.and_true, Bool.true_and, if_true, if_false, reduceCtorEq]
  generalize hlfd : (fun s => qMx fit (qEq I N RM rc sz k s) (qSN N RM + 1) (qSN N RM + 1)) = lf at hlf
  have elf : ∀ s, qMx fit (qEq I N RM rc sz k s) (qSN N RM + 1) (qSN N RM + 1) = lf s := fun s => by rw [← hlfd]
  have h74 : ∀ s v x, kX7_bestStep 74 [some (.ref 56), some (.ref 3), some (.ref 52), some (.int (nI k)), none, some (.long (lN X)), none, none, some (.int (nI (n + 1))), some (.int (nI s)), some (.int x)] [] (qm (va_up I 56 (va_up (I 56) 7 v)) J e) = kX7_bestStep 32 [some (.ref 56), some (.ref 3), some (.ref 52), some (.int (nI k)), none, some (.long (lN X)), none, some (.int (nI s)), some (.int (nI (n + 1))), some (.int (nI (s + 1))), none] [] (qm (va_up I 56 (va_up (I 56) 7 x)) J e) := by
    intro s v x
    rw [eX7_bestStep_74, eX7_bestStep_84, q_up_up, va_up_up, nI_1]
  have hst : ∀ m, m < n → (fun m (y : Nat × Nat) => kX7_bestStep 32 [some (.ref 56), some (.ref 3), some (.ref 52), some (.int (nI k)), none, some (.long (lN X)), none, some (.int (nI y.1)), some (.int (nI (n + 1))), some (.int (nI (m + 1))), none] [] (qm (va_up I 56 (va_up (I 56) 7 (nI y.2))) J e)) m (qMm lf m) = (fun m (y : Nat × Nat) => kX7_bestStep 32 [some (.ref 56), some (.ref 3), some (.ref 52), some (.int (nI k)), none, some (.long (lN X)), none, some (.int (nI y.1)), some (.int (nI (n + 1))), some (.int (nI (m + 1))), none] [] (qm (va_up I 56 (va_up (I 56) 7 (nI y.2))) J e)) (m + 1) (qMm lf (m + 1)) := by
    intro m hm
    obtain ⟨b1, b2⟩ := qMm_b hlf m
    have hl := hlf (m + 1)
    show kX7_bestStep 32 _ _ _ = kX7_bestStep 32 _ _ _
    rw [qMm]
    generalize qMm lf m = y at b1 b2
    rw [hgo (m + 1) _ _ (by omega), elf, eX7_bestStep_57, if_neg (nI_ne1 (by omega)), eX7_bestStep_65, va_hit, va_hit]
    by_cases g : lf (m + 1) < y.2
    · rw [if_pos (nI_lt g (by omega)), if_pos g, h74]
    · rw [if_neg (nI_nlt (by omega) (by omega)), if_neg g, eX7_bestStep_84, nI_1]
  have hf := q_for (fun m (y : Nat × Nat) => kX7_bestStep 32 [some (.ref 56), some (.ref 3), some (.ref 52), some (.int (nI k)), none, some (.long (lN X)), none, some (.int (nI y.1)), some (.int (nI (n + 1))), some (.int (nI (m + 1))), none] [] (qm (va_up I 56 (va_up (I 56) 7 (nI y.2))) J e)) n (fun m => qMm lf m) hst
  have h0 := hgo 0 (I 56 7) (-1) (by omega)
  rw [va_up_id, va_up_id, elf] at h0
  have h74' := h74 0 (I 56 7) (nI (lf 0))
  rw [va_up_id, va_up_id] at h74'
  have h0' : kX7_bestStep 32 [some (.ref 56), some (.ref 3), some (.ref 52), some (.int (nI k)), none, some (.long (lN X)), none, some (.int (-1)), some (.int (nI (n + 1))), some (.int 0), none] [] (qm I J e) = kX7_bestStep 57 [some (.ref 56), some (.ref 3), some (.ref 52), some (.int (nI k)), none, some (.long (lN X)), none, some (.int (-1)), some (.int (nI (n + 1))), some (.int (nI 0)), none] [.int (nI (lf 0))] (qm I J e) := h0
  refine ⟨va_up I 56 (va_up (I 56) 7 (nI (qMm lf n).2)), ?_, by rw [va_hit, va_hit], fun j hj => by rw [va_hit, va_miss hj], fun p hp => va_miss hp⟩
  rw [eX7_bestStep_19, fX2_stepCount I J e h.st h.n6 h.i35 hk, hn]
  simp only [Option.bind_some, Option.toList_some, Option.toList_none, List.nil_append, List.cons_append, q_ck_tt, Bool.and_true, Bool.true_and, if_true, if_false, reduceCtorEq]
  rw [eX7_bestStep_27, h0', eX7_bestStep_57, if_pos rfl, h74']
  refine Eq.trans hf ?_
  show kX7_bestStep 32 _ _ _ = _
  rw [eX7_bestStep_32, if_neg (nI_nlt (Nat.le_refl _) (by omega)), eX7_bestStep_90]
theorem o_ask (h : q_Core I D N cl RM rc) (hl : q_Lb I N RM rc) (hn : q_Nt I N RM rc) (a b t : Int32) : q_Lab mX11_ask mX12_ask [.int a, .int b, .int t] I J (3, 17, rb, tx, L) N RM rc := by
  have h10 : ¬ ((1 : Int32) = 0) := by decide
  have h60 := qSN_60 h
  have hN := h.n6
  cases hq : q_in a 3 with
  | false =>
    refine q_Lab_no (r := -1) hl ?_ ?_
    · rw [bX11_ask, eX11_ask_0, fX11_isKind, hq]
      simp only [Option.bind_some, Option.toList_some, Option.toList_none, List.nil_append, List.cons_append, q_ck_tt, Bool.and_true, Bool.true_and, if_true, if_false, reduceCtorEq]
      rw [eX11_ask_4, if_pos qb_f, eX11_ask_14]
    · rw [bX12_ask, eX12_ask_0, fX12_isKind, hq]
      simp only [Option.bind_some, Option.toList_some, Option.toList_none, List.nil_append, List.cons_append, q_ck_tt, Bool.and_true, Bool.true_and, if_true, if_false, reduceCtorEq]
      rw [eX12_ask_4, if_pos qb_f, eX12_ask_32]
  | true =>
    obtain ⟨k, hk, rfl, -⟩ := q_in_of hq
    have h6 := qSt_6 (k := k) hN
    cases hqb : q_in b 2 with
    | false =>
      refine q_Lab_no (r := -1) hl ?_ ?_
      · rw [bX11_ask, eX11_ask_0, fX11_isKind, hq]
        simp only [Option.bind_some, Option.toList_some, Option.toList_none, List.nil_append, List.cons_append, q_ck_tt, Bool.and_true, Bool.true_and, if_true, if_false, reduceCtorEq]
        rw [eX11_ask_4, qb_t, if_neg h10, eX11_ask_7, fX11_isBit, hqb]
        simp only [Option.bind_some, Option.toList_some, Option.toList_none, List.nil_append, List.cons_append, q_ck_tt, Bool.and_true, Bool.true_and, if_true, if_false, reduceCtorEq]
        rw [eX11_ask_11, if_pos qb_f, eX11_ask_14]
      · rw [bX12_ask, eX12_ask_0, fX12_isKind, hq]
        simp only [Option.bind_some, Option.toList_some, Option.toList_none, List.nil_append, List.cons_append, q_ck_tt, Bool.and_true, Bool.true_and, if_true, if_false, reduceCtorEq]
        rw [eX12_ask_4, qb_t, if_neg h10, eX12_ask_7, fX12_isBit, hqb]
        simp only [Option.bind_some, Option.toList_some, Option.toList_none, List.nil_append, List.cons_append, q_ck_tt, Bool.and_true, Bool.true_and, if_true, if_false, reduceCtorEq]
        rw [eX12_ask_13, if_pos qb_f, eX12_ask_32]
    | true =>
      obtain ⟨sz, c, K, k0, k1, k2, k3, k4, k5, k6, k7⟩ := q_nl (J := J) (rb := rb) (tx := tx) (L := L) h hl hn
      obtain ⟨X, x0, hX⟩ := fX7_fitting (J := J) (e := (3, 17, rb, tx, L)) k2 k1 k5 t
      have hcl : mX11_ask [.ref 1, .int (nI k), .int b, .int t] (qm I J (3, 17, rb, tx, L)) = (kX7_bestStep 8 [some (.ref 56), some (.ref 3), some (.ref 52), some (.int (nI k)), some (.int t), none, none, none, none, none, none] [.long (lN X)] (qm K J (3, 17, rb, tx, L))).bind (fun r => kX11_ask 33 [some (.ref 1), some (.int (nI k)), some (.int b), some (.int t), none] (r.1.toList ++ []) r.2) := by
        rw [bX11_ask, eX11_ask_0, fX11_isKind, hq]
        simp only [Option.bind_some, Option.toList_some, Option.toList_none, List.nil_append, List.cons_append, q_ck_tt, Bool.and_true, Bool.true_and, if_true, if_false, reduceCtorEq]
        rw [eX11_ask_4, qb_t, if_neg h10, eX11_ask_7, fX11_isBit, hqb]
        simp only [Option.bind_some, Option.toList_some, Option.toList_none, List.nil_append, List.cons_append, q_ck_tt, Bool.and_true, Bool.true_and, if_true, if_false, reduceCtorEq]
        rw [eX11_ask_11, qb_t, if_neg h10, eX11_ask_16, k0]
        simp only [Option.bind_some, Option.toList_some, Option.toList_none, List.nil_append, List.cons_append, q_ck_tt, Bool.and_true, Bool.true_and, if_true, if_false, reduceCtorEq]
        rw [eX11_ask_28, bX7_bestStep, eX7_bestStep_0, x0]
        simp only [Option.bind_some, Option.toList_some, Option.toList_none, List.nil_append, List.cons_append, q_ck_tt, Bool.and_true, Bool.true_and, if_true, if_false, reduceCtorEq]
      have hrf : ∀ M : Nat → Nat → Int32, M 64 51 = nI N → mX12_ask [.ref 64, .int (nI k), .int b, .int t] (qm M J (3, 17, rb, tx, L)) = kX12_ask 21 [some (.ref 64), some (.int (nI k)), some (.int b), some (.int t), none, none, none, none] [.int (nI (qSt k N))] (qm M J (3, 17, rb, tx, L)) := by
        intro M hM
        rw [bX12_ask, eX12_ask_0, fX12_isKind, hq]
        simp only [Option.bind_some, Option.toList_some, Option.toList_none, List.nil_append, List.cons_append, q_ck_tt, Bool.and_true, Bool.true_and, if_true, if_false, reduceCtorEq]
        rw [eX12_ask_4, qb_t, if_neg h10, eX12_ask_7, fX12_isBit, hqb]
        simp only [Option.bind_some, Option.toList_some, Option.toList_none, List.nil_append, List.cons_append, q_ck_tt, Bool.and_true, Bool.true_and, if_true, if_false, reduceCtorEq]
        rw [eX12_ask_13, qb_t, if_neg h10, eX12_ask_16, fX12_stepsOf M J _ hN hM hk]
        simp only [Option.bind_some, Option.toList_some, Option.toList_none, List.nil_append, List.cons_append, q_ck_tt, Bool.and_true, Bool.true_and, if_true, if_false, reduceCtorEq]
      have hmin : ∀ M : Nat → Nat → Int32, kX11_ask 33 [some (.ref 1), some (.int (nI k)), some (.int b), some (.int t), none] [.int (-1)] (qm M J (3, 17, rb, tx, L)) = some (some (.int (-1)), qm M J (3, 17, rb, tx, L)) := by
        intro M
        rw [eX11_ask_33]
        by_cases g : b = 0
        · rw [if_pos g, eX11_ask_45, eX11_ask_57]
        · rw [if_neg g, eX11_ask_39, if_pos rfl, eX11_ask_45, eX11_ask_57]
      have hX' := hX
      obtain ⟨x1, x2⟩ := hX'
      rcases Nat.eq_zero_or_pos (qSt k N) with hz0 | hpos
      · refine ⟨-1, K, K, ?_, ?_, k7 1004 (by decide) (by decide) (by decide) (by decide) (by decide), k4, q_lab_fr k6 k7 (q_Off_refl _)⟩
        · have hbs : kX7_bestStep 8 [some (.ref 56), some (.ref 3), some (.ref 52), some (.int (nI k)), some (.int t), none, none, none, none, none, none] [.long (lN X)] (qm K J (3, 17, rb, tx, L)) = some (some (.int (-1)), qm K J (3, 17, rb, tx, L)) := by
            rw [eX7_bestStep_8]
            by_cases g : lg_cmp (lN X) 0 = 0
            · rw [if_pos g, eX7_bestStep_17]
            · rw [if_neg g, eX7_bestStep_19, fX2_stepCount K J _ k2.st hN k2.i35 hk, hz0]
              simp only [Option.bind_some, Option.toList_some, Option.toList_none, List.nil_append, List.cons_append, q_ck_tt, Bool.and_true, Bool.true_and, if_true, if_false, reduceCtorEq]
              rw [eX7_bestStep_27, eX7_bestStep_32, if_neg (by decide), eX7_bestStep_90]
          rw [hcl, hbs]
          simp only [Option.bind_some, Option.toList_some, Option.toList_none, List.nil_append, List.cons_append, q_ck_tt, Bool.and_true, Bool.true_and, if_true, if_false, reduceCtorEq]
          rw [hmin]
        · rw [hrf K k2.m51, hz0, eX12_ask_21, if_pos (show nI 0 = 0 from rfl), eX12_ask_32]
      · obtain ⟨n, hn1⟩ : ∃ n, qSt k N = n + 1 := ⟨qSt k N - 1, by omega⟩
        obtain ⟨K2, l0, l1, l2⟩ := fX12_layFits (J := J) (e := (3, 17, rb, tx, L)) k2 k3 k5 t
        by_cases hc0 : fb_ct (qFit K N RM rc sz c t) (qSN N RM + 1) = 0
        · have hX0 : X = 0 := by
            apply Nat.eq_of_testBit_eq
            intro i
            rw [x2 i, Nat.zero_testBit]
            by_cases g : i < qSN N RM + 1
            · rw [fb_ct_zero.mp hc0 i g, Bool.and_false]
            · rw [decide_eq_false g, Bool.false_and]
          refine ⟨-1, K, K2, ?_, ?_, k7 1004 (by decide) (by decide) (by decide) (by decide) (by decide), q_Lb_off k4 l1, q_lab_fr k6 k7 l1⟩
          · rw [hcl, eX7_bestStep_8, hX0, if_pos (show lg_cmp (lN 0) 0 = 0 from (q_lc _).mpr rfl), eX7_bestStep_17]
            simp only [Option.bind_some, Option.toList_some, Option.toList_none, List.nil_append, List.cons_append, q_ck_tt, Bool.and_true, Bool.true_and, if_true, if_false, reduceCtorEq]
            rw [hmin]
          · rw [hrf K k2.m51, eX12_ask_21, if_neg (nI_ne0 hpos (by omega)), eX12_ask_24, l0, hc0]
            simp only [Option.bind_some, Option.toList_some, Option.toList_none, List.nil_append, List.cons_append, q_ck_tt, Bool.and_true, Bool.true_and, if_true, if_false, reduceCtorEq]
            rw [eX12_ask_29, if_pos (show nI 0 = 0 from rfl), eX12_ask_32]
        · have hXn : ¬ lg_cmp (lN X) 0 = 0 := fun g => by
            have h1 := (q_lc _).mp g
            have h2 : X = 0 := (fb_lN_inj (by omega) (by omega)).mp h1
            refine hc0 (fb_ct_zero.mpr (fun i hi => ?_))
            have := x2 i
            rw [h2, Nat.zero_testBit, decide_eq_true hi, Bool.true_and] at this
            exact this.symm
          have hcnt : fb_ct (qFit K N RM rc sz c t) (qSN N RM + 1) ≤ qSN N RM + 1 := fb_ct_le _ _
          obtain ⟨K1, b0, b1, b2, b3⟩ := fX7_bestStep (J := J) (e := (3, 17, rb, tx, L)) k2 k1 hX hk hn1
          have oK1 : q_Off K K1 := by
            intro p j hp
            by_cases g : p = 56
            · rw [g]
              refine b2 j (fun g2 => ?_)
              rw [g, g2] at hp
              cases hp
            · rw [b3 p g]
          have C1 := q_Core_off k2 oK1
          have Z1 := q_Fz_off k3 oK1
          obtain ⟨N1, eK, eS, eR, eB, eC⟩ := q_Nc_o k5 oK1
          have hfe : qFit K1 N RM rc sz c t = qFit K N RM rc sz c t := by
            funext i
            unfold qFit
            congr 1
            refine qAny_cong (fun j hj => ?_)
            rw [eC]
            unfold qMt
            rw [eK, eS, eR, eB, qAi_off oK1]
          obtain ⟨K3, m0, m1, m2⟩ := fX12_layFits (J := J) (e := (3, 17, rb, tx, L)) C1 Z1 N1 t
          rw [hfe] at m0 m2
          have C3 := q_Core_off C1 m1
          obtain ⟨K4, p0, p1, p2, p3⟩ := fX12_layTable (J := J) (e := (3, 17, rb, tx, L)) C3 (q_Fz_off Z1 m1) hk
          have o4 := q_Off_trans oK1 (q_Off_trans m1 p2)
          have C4 := q_Core_off k2 o4
          rw [qAi_off (q_Off_trans oK1 m1)] at p1
          have h111 : ∀ i, i ≤ qSN N RM → K4 111 i = qb (qFit K N RM rc sz c t i) := fun i hi => by rw [p3]; exact m2 i hi
          have hlb : ∀ s, s < n + 1 → mX12_leftBy [.ref 64, .int (nI s)] (qm K4 J (3, 17, rb, tx, L)) = some (some (.int (nI (qMx (qFit K N RM rc sz c t) (qEq K N RM rc sz k s) (qSN N RM + 1) (qSN N RM + 1)))), qm K4 J (3, 17, rb, tx, L)) := by
            intro s hs
            refine fX12_leftBy C4 h111 (fun i j hi hj => ?_)
            rw [fX12_readAlike C4 p1 hi hj (by omega), q_eq_r k2 hk (by omega) hi hj]
          have hlf : ∀ s, (fun s => qMx (qFit K N RM rc sz c t) (qEq K N RM rc sz k s) (qSN N RM + 1) (qSN N RM + 1)) s ≤ 61 := fun s => by
            have := qMx_le (qFit K N RM rc sz c t) (qEq K N RM rc sz k s) (qSN N RM + 1) (qSN N RM + 1)
            show qMx (qFit K N RM rc sz c t) (qEq K N RM rc sz k s) (qSN N RM + 1) (qSN N RM + 1) ≤ 61
            omega
          generalize hlfd : (fun s => qMx (qFit K N RM rc sz c t) (qEq K N RM rc sz k s) (qSN N RM + 1) (qSN N RM + 1)) = lf at hlf b0 b1
          have elf : ∀ s, qMx (qFit K N RM rc sz c t) (qEq K N RM rc sz k s) (qSN N RM + 1) (qSN N RM + 1) = lf s := fun s => by rw [← hlfd]
          simp only [elf] at hlb
          have hst : ∀ m, m < n → (fun m (y : Nat × Nat) => kX12_ask 52 [some (.ref 64), some (.int (nI k)), some (.int b), none, some (.int (nI y.1)), some (.int (nI y.2)), some (.int (nI (m + 1))), none] [] (qm K4 J (3, 17, rb, tx, L))) m (qMm lf m) = (fun m (y : Nat × Nat) => kX12_ask 52 [some (.ref 64), some (.int (nI k)), some (.int b), none, some (.int (nI y.1)), some (.int (nI y.2)), some (.int (nI (m + 1))), none] [] (qm K4 J (3, 17, rb, tx, L))) (m + 1) (qMm lf (m + 1)) := by
            intro m hm
            obtain ⟨d1, d2⟩ := qMm_b hlf m
            have hl := hlf (m + 1)
            show kX12_ask 52 _ _ _ = kX12_ask 52 _ _ _
            rw [qMm]
            generalize qMm lf m = y at d1 d2
            rw [eX12_ask_52, fX12_stepsOf K4 J _ hN C4.m51 hk, hn1]
            simp only [Option.bind_some, Option.toList_some, Option.toList_none, List.nil_append, List.cons_append, q_ck_tt, Bool.and_true, Bool.true_and, if_true, if_false, reduceCtorEq]
            rw [eX12_ask_59, if_pos (nI_lt (by omega) (by omega)), eX12_ask_62, hlb (m + 1) (by omega)]
            simp only [Option.bind_some, Option.toList_some, Option.toList_none, List.nil_append, List.cons_append, q_ck_tt, Bool.and_true, Bool.true_and, if_true, if_false, reduceCtorEq]
            rw [eX12_ask_68]
            by_cases g : lf (m + 1) < y.2
            · rw [if_pos (nI_lt g (by omega)), if_pos g, eX12_ask_80, eX12_ask_88, nI_1]
            · rw [if_neg (nI_nlt (by omega) (by omega)), if_neg g, eX12_ask_77, eX12_ask_88, nI_1]
          have hf := q_for (fun m (y : Nat × Nat) => kX12_ask 52 [some (.ref 64), some (.int (nI k)), some (.int b), none, some (.int (nI y.1)), some (.int (nI y.2)), some (.int (nI (m + 1))), none] [] (qm K4 J (3, 17, rb, tx, L))) n (fun m => qMm lf m) hst
          obtain ⟨d1, d2⟩ := qMm_b hlf n
          have hr94 : mX12_ask [.ref 64, .int (nI k), .int b, .int t] (qm K1 J (3, 17, rb, tx, L)) = kX12_ask 94 [none, none, some (.int b), none, some (.int (nI (qMm lf n).1)), some (.int (nI (qMm lf n).2)), none, none] [] (qm K4 J (3, 17, rb, tx, L)) := by
            have hlb0 : mX12_leftBy [.ref 64, .int 0] (qm K4 J (3, 17, rb, tx, L)) = some (some (.int (nI (lf 0))), qm K4 J (3, 17, rb, tx, L)) := hlb 0 (by omega)
            rw [hrf K1 C1.m51, eX12_ask_21, if_neg (nI_ne0 hpos (by omega)), eX12_ask_24, m0]
            simp only [Option.bind_some, Option.toList_some, Option.toList_none, List.nil_append, List.cons_append, q_ck_tt, Bool.and_true, Bool.true_and, if_true, if_false, reduceCtorEq]
            rw [eX12_ask_29, if_neg (nI_ne0 (by omega) (by omega)), eX12_ask_34, p0]
            simp only [Option.bind_some, Option.toList_some, Option.toList_none, List.nil_append, List.cons_append, q_ck_tt, Bool.and_true, Bool.true_and, if_true, if_false, reduceCtorEq]
            rw [eX12_ask_39, hlb0]
            simp only [Option.bind_some, Option.toList_some, Option.toList_none, List.nil_append, List.cons_append, q_ck_tt, Bool.and_true, Bool.true_and, if_true, if_false, reduceCtorEq]
            rw [eX12_ask_47]
            refine Eq.trans hf ?_
            show kX12_ask 52 _ _ _ = _
            rw [eX12_ask_52, fX12_stepsOf K4 J _ hN C4.m51 hk, hn1]
            simp only [Option.bind_some, Option.toList_some, Option.toList_none, List.nil_append, List.cons_append, q_ck_tt, Bool.and_true, Bool.true_and, if_true, if_false, reduceCtorEq]
            rw [eX12_ask_59, if_neg (nI_nlt (Nat.le_refl _) (by omega))]
          have hc33 : mX11_ask [.ref 1, .int (nI k), .int b, .int t] (qm I J (3, 17, rb, tx, L)) = kX11_ask 33 [some (.ref 1), some (.int (nI k)), some (.int b), some (.int t), none] [.int (nI (qMm lf n).1)] (qm K1 J (3, 17, rb, tx, L)) := by
            rw [hcl, eX7_bestStep_8, if_neg hXn, b0]
            simp only [Option.bind_some, Option.toList_some, Option.toList_none, List.nil_append, List.cons_append, q_ck_tt, Bool.and_true, Bool.true_and, if_true, if_false, reduceCtorEq]
          by_cases g : b = 0
          · refine ⟨nI (qMm lf n).1, K1, K4, ?_, ?_, (b3 1004 (by decide)).trans (k7 1004 (by decide) (by decide) (by decide) (by decide) (by decide)), q_Lb_off k4 o4, q_lab_fr k6 k7 o4⟩
            · rw [hc33, eX11_ask_33, if_pos g, eX11_ask_45, eX11_ask_57]
            · rw [hr94, eX12_ask_94, if_pos g, eX12_ask_98, eX12_ask_105]
          · refine ⟨nI (qMm lf n).2, K1, K4, ?_, ?_, (b3 1004 (by decide)).trans (k7 1004 (by decide) (by decide) (by decide) (by decide) (by decide)), q_Lb_off k4 o4, q_lab_fr k6 k7 o4⟩
            · rw [hc33, eX11_ask_33, if_neg g, eX11_ask_39, if_neg (nI_ne1 (by omega)), eX11_ask_50, eX11_ask_57, b1]
            · rw [hr94, eX12_ask_94, if_neg g, eX12_ask_103, eX12_ask_105]
end AK
