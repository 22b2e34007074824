/-! ===== the reference's tokens: the whole of token() ===== -/
def qwr (v : Nat → Nat) (s m : Nat) : Nat := qpv 256 96 (fun i => v (s + i) - 96) m
theorem qwr_lt {v : Nat → Nat} {n s m : Nat} (hv : ∀ k, k < n → v k < 256) (hm : m ≤ 7) (hs : s + m ≤ n) : qwr v s m < 2 ^ 56 := by
  have h1 := qpv_lt (B := 256) (o := 96) (g := fun i => v (s + i) - 96) (k := m) (fun i hi => by have := hv (s + i) (by omega); show v (s + i) - 96 + 96 < 256; omega)
  have h2 : (256 : Nat) ^ m ≤ 256 ^ 7 := Nat.pow_le_pow_right (by decide) hm
  have h3 : (256 : Nat) ^ 7 = 2 ^ 56 := by decide
  unfold qwr
  omega
theorem q_rw_loop {e : QP} {v : Nat → Nat} {n : Nat} {R : Nat → Nat → Int32} (hT : q_Tf R v n) {s : Nat} (hp : R 64 4 = nI s) : ∀ (f m : Nat) (K : Nat → Nat → Int64), s + m + f = n → (∀ i, i < m → qLe (v (s + i)) = true) → K 64 9 = lN (qwr v s (min m 8)) →
    kX12_token 78 [some (.ref 64), none, some (.int (nI m))] [] (qm R K e) = kX12_token 119 [some (.ref 64), none, some (.int (nI (qre (fun k => qLe (v k)) f (s + m) - s)))] [] (qm R (q_up K 64 9 (lN (qwr v s (min (qre (fun k => qLe (v k)) f (s + m) - s) 8)))) e) := by
  intro f
  have hn := hT.1
  induction f with
  | zero =>
    intro m K hf hl hK
    have hh := fX12_here (K := K) (e := e) (k := m) hT hp (by omega)
    rw [eX12_token_78, hh]
    simp only [Option.bind_some, Option.toList_some, Option.toList_none, List.nil_append, List.cons_append, q_ck_tt, Bool.and_true, Bool.true_and, if_true, if_false, reduceCtorEq]
    rw [eX12_token_83]
    rw [fX12_isLetterh (fun h => (hT.2.2 _ h).1), decide_eq_false (by omega), Bool.false_and]
    simp only [Option.bind_some, Option.toList_some, Option.toList_none, List.nil_append, List.cons_append, q_ck_tt, Bool.and_true, Bool.true_and, if_true, if_false, reduceCtorEq]
    rw [eX12_token_86]
    rw [if_pos (by decide), show qre (fun k => qLe (v k)) 0 (s + m) = s + m from rfl, Nat.add_sub_cancel_left, q_up_eq hK]
  | succ f ih =>
    intro m K hf hl hK
    have hh := fX12_here (K := K) (e := e) (k := m) hT hp (by omega)
    obtain ⟨hv, h2⟩ := hT.2.2 (s + m) (by omega)
    rw [eX12_token_78, hh]
    simp only [Option.bind_some, Option.toList_some, Option.toList_none, List.nil_append, List.cons_append, q_ck_tt, Bool.and_true, Bool.true_and, if_true, if_false, reduceCtorEq]
    rw [eX12_token_83]
    rw [fX12_isLetterh (fun h => (hT.2.2 _ h).1), decide_eq_true (show s + m < n by omega), Bool.true_and]
    simp only [Option.bind_some, Option.toList_some, Option.toList_none, List.nil_append, List.cons_append, q_ck_tt, Bool.and_true, Bool.true_and, if_true, if_false, reduceCtorEq]
    rw [eX12_token_86]
    cases hc : qLe (v (s + m)) with
    | false =>
      have he : qre (fun k => qLe (v k)) (f + 1) (s + m) = s + m := by rw [qre_s, if_neg (by rw [hc]; decide)]
      rw [if_pos (by decide), he, Nat.add_sub_cancel_left, q_up_eq hK]
    | true =>
      have he : qre (fun k => qLe (v k)) (f + 1) (s + m) = qre (fun k => qLe (v k)) f (s + (m + 1)) := by
        rw [show qre (fun k => qLe (v k)) (f + 1) (s + m) = if qLe (v (s + m)) then qre (fun k => qLe (v k)) f (s + m + 1) else s + m from rfl, if_pos hc]
        rfl
      have hl' : ∀ i, i < m + 1 → qLe (v (s + i)) = true := fun i hi => by
        by_cases hi' : i = m
        · rw [hi']; exact hc
        · exact hl i (by omega)
      have hm1 : nI m + 1 = nI (m + 1) := nI_add m 1
      rw [if_neg (by decide), eX12_token_89, he]
      by_cases h8 : m < 8
      · rw [if_pos (show nI m < (8 : Int32) from nI_lt (b := 8) h8 (by omega)), eX12_token_95, hh]
        simp only [Option.bind_some, Option.toList_some, Option.toList_none, List.nil_append, List.cons_append, q_ck_tt, Bool.and_true, Bool.true_and, if_true, if_false, reduceCtorEq]
        rw [eX12_token_108]
        rw [eX12_token_113, hm1]
        have hx : (K 64 9 <<< ((8 : Int32).toInt64 &&& 63)) ||| (qhv v n (s + m)).toInt64 = lN (qwr v s (min (m + 1) 8)) := by
          unfold qhv
          rw [if_pos (by omega), (q_by_l _ hv hc).2, hK, show min m 8 = m by omega, show min (m + 1) 8 = m + 1 by omega, q_w256 (qwr_lt (n := n) (fun k hk => (hT.2.2 k hk).1) (by omega) (by omega)) hv]
          have hge : 97 ≤ v (s + m) := by
            unfold qLe at hc
            simp at hc
            omega
          show lN (qwr v s m * 256 + v (s + m)) = lN (qwr v s m * 256 + ((v (s + m) - 96) + 96))
          rw [Nat.sub_add_cancel (by omega)]
        rw [hx, ih (m + 1) _ (by omega) hl' (q_up_at1 _ _ _ _), q_up_2]
      · rw [if_neg (show ¬ nI m < (8 : Int32) from nI_nlt (b := 8) (by omega) (by omega)), eX12_token_113, hm1, ih (m + 1) K (by omega) hl' (by rw [hK, show min m 8 = 8 by omega, show min (m + 1) 8 = 8 by omega])]
def qnr (v : Nat → Nat) (s m : Nat) : Nat := qpv 10 0 (fun i => v (s + i) - 48) m
theorem q_rn_loop {e : QP} {v : Nat → Nat} {n : Nat} {K : Nat → Nat → Int64} {s : Nat} : ∀ (f m : Nat) (R : Nat → Nat → Int32), q_Tf R v n → R 64 4 = nI s → s + m + f = n → R 64 8 = nI (qnr v s (min m 4)) →
    kX12_token 144 [some (.ref 64), none, some (.int (nI m))] [] (qm R K e) = kX12_token 186 [some (.ref 64), none, some (.int (nI (qre (fun k => qDi (v k)) f (s + m) - s)))] [] (qm (q_up R 64 8 (nI (qnr v s (min (qre (fun k => qDi (v k)) f (s + m) - s) 4)))) K e) := by
  intro f
  induction f with
  | zero =>
    intro m R hT hp hf hK
    have hn := hT.1
    have hh := fX12_here (K := K) (e := e) (k := m) hT hp (by omega)
    rw [eX12_token_144, hh]
    simp only [Option.bind_some, Option.toList_some, Option.toList_none, List.nil_append, List.cons_append, q_ck_tt, Bool.and_true, Bool.true_and, if_true, if_false, reduceCtorEq]
    rw [eX12_token_149]
    rw [fX12_isDigith (fun h => (hT.2.2 _ h).1), decide_eq_false (by omega), Bool.false_and]
    simp only [Option.bind_some, Option.toList_some, Option.toList_none, List.nil_append, List.cons_append, q_ck_tt, Bool.and_true, Bool.true_and, if_true, if_false, reduceCtorEq]
    rw [eX12_token_152]
    rw [if_pos (by decide), show qre (fun k => qDi (v k)) 0 (s + m) = s + m from rfl, Nat.add_sub_cancel_left, q_up_eq hK]
  | succ f ih =>
    intro m R hT hp hf hK
    have hn := hT.1
    have hh := fX12_here (K := K) (e := e) (k := m) hT hp (by omega)
    obtain ⟨hv, h2⟩ := hT.2.2 (s + m) (by omega)
    rw [eX12_token_144, hh]
    simp only [Option.bind_some, Option.toList_some, Option.toList_none, List.nil_append, List.cons_append, q_ck_tt, Bool.and_true, Bool.true_and, if_true, if_false, reduceCtorEq]
    rw [eX12_token_149]
    rw [fX12_isDigith (fun h => (hT.2.2 _ h).1), decide_eq_true (show s + m < n by omega), Bool.true_and]
    simp only [Option.bind_some, Option.toList_some, Option.toList_none, List.nil_append, List.cons_append, q_ck_tt, Bool.and_true, Bool.true_and, if_true, if_false, reduceCtorEq]
    rw [eX12_token_152]
    cases hc : qDi (v (s + m)) with
    | false =>
      have he : qre (fun k => qDi (v k)) (f + 1) (s + m) = s + m := by rw [qre_s, if_neg (by rw [hc]; decide)]
      rw [if_pos (by decide), he, Nat.add_sub_cancel_left, q_up_eq hK]
    | true =>
      have he : qre (fun k => qDi (v k)) (f + 1) (s + m) = qre (fun k => qDi (v k)) f (s + (m + 1)) := by
        rw [show qre (fun k => qDi (v k)) (f + 1) (s + m) = if qDi (v (s + m)) then qre (fun k => qDi (v k)) f (s + m + 1) else s + m from rfl, if_pos hc]
        rfl
      have hm1 : nI m + 1 = nI (m + 1) := nI_add m 1
      rw [if_neg (by decide), eX12_token_155, he]
      by_cases h8 : m < 4
      · rw [if_pos (show nI m < (4 : Int32) from nI_lt (b := 4) h8 (by omega)), eX12_token_160, hh]
        simp only [Option.bind_some, Option.toList_some, Option.toList_none, List.nil_append, List.cons_append, q_ck_tt, Bool.and_true, Bool.true_and, if_true, if_false, reduceCtorEq]
        rw [eX12_token_173]
        rw [eX12_token_180, hm1]
        have hx : (10 : Int32) * R 64 8 + qhv v n (s + m) - 48 = nI (qnr v s (min (m + 1) 4)) := by
          have hge : 48 ≤ v (s + m) := by
            unfold qDi at hc
            simp at hc
            omega
          unfold qhv
          rw [if_pos (by omega), hK, show min m 4 = m by omega, show min (m + 1) 4 = m + 1 by omega, show (10 : Int32) = nI 10 from rfl, show nI 10 * nI (qnr v s m) = nI (10 * qnr v s m) from (Int32.ofNat_mul _ _).symm, nI_add, show (48 : Int32) = nI 48 from rfl, nI_sb (by omega)]
          show nI (10 * qnr v s m + v (s + m) - 48) = nI (qnr v s m * 10 + ((v (s + m) - 48) + 0))
          rw [show 10 * qnr v s m + v (s + m) - 48 = qnr v s m * 10 + ((v (s + m) - 48) + 0) by omega]
        rw [hx, ih (m + 1) _ (q_Tf_up hT (by decide)) (by rw [q_up_at2 _ _ (by decide)]; exact hp) (by omega) (q_up_at1 _ _ _ _), q_up_2]
      · rw [if_neg (show ¬ nI m < (4 : Int32) from nI_nlt (b := 4) (by omega) (by omega)), eX12_token_180, hm1, ih (m + 1) R hT hp (by omega) (by rw [hK, show min m 4 = 4 by omega, show min (m + 1) 4 = 4 by omega])]
/-- the token that stands at p, as the reference has it -/
def q_Rt (v : Nat → Nat) (n p : Nat) (a s c x : Int32) (w : Int64) : Prop := s = nI (qse v n p) ∧
  ((qse v n p = n ∧ c = 0 ∧ a = nI n) ∨
   (qse v n p < n ∧ qLe (v (qse v n p)) = true ∧ ((8 < qwe v n (qse v n p) - qse v n p ∧ c = 3) ∨ (qwe v n (qse v n p) - qse v n p ≤ 8 ∧ c = 1 ∧ a = nI (qwe v n (qse v n p)) ∧ w = lN (qwr v (qse v n p) (qwe v n (qse v n p) - qse v n p))))) ∨
   (qse v n p < n ∧ qLe (v (qse v n p)) = false ∧ qDi (v (qse v n p)) = true ∧ (((4 < qne v n (qse v n p) - qse v n p ∨ (qne v n (qse v n p) < n ∧ qLe (v (qne v n (qse v n p))) = true)) ∧ c = 3) ∨ (¬ (4 < qne v n (qse v n p) - qse v n p ∨ (qne v n (qse v n p) < n ∧ qLe (v (qne v n (qse v n p))) = true)) ∧ c = 2 ∧ a = nI (qne v n (qse v n p)) ∧ x = nI (qnv v n (qse v n p))))) ∨
   (qse v n p < n ∧ qLe (v (qse v n p)) = false ∧ qDi (v (qse v n p)) = false ∧ ((qSn (v (qse v n p)) = true ∧ c = nI (v (qse v n p)) ∧ a = nI (qse v n p + 1)) ∨ (qSn (v (qse v n p)) = false ∧ c = 3))))
theorem q_tokR {R : Nat → Nat → Int32} {K : Nat → Nat → Int64} {e : QP} {v : Nat → Nat} {n p : Nat} (hT : q_Tf R v n) (hp : R 64 4 = nI p) (hpn : p ≤ n) :
    ∃ (g : Nat → Int32) (w : Int64), mX12_token [.ref 64] (qm R K e) = some (none, qm (va_up R 64 g) (q_up K 64 9 w) e) ∧ (∀ k, k ≠ 4 → k ≠ 6 → k ≠ 7 → k ≠ 8 → g k = R 64 k) ∧ q_Rt v n p (g 4) (g 7) (g 6) (g 8) w := by
  have hn := hT.1
  have hq := qre_le (fun k => qBk (v k)) (n - p) p
  have hqe : qre (fun k => qBk (v k)) (n - p) p = qse v n p := rfl
  rw [hqe] at hq
  generalize hs : qse v n p = s at hq hqe
  have h0 : mX12_token [.ref 64] (qm R K e) = (mX12_here [.ref 64, .int (nI 0)] (qm (va_up R 64 (va_up (va_up (R 64) 4 (nI s)) 7 (nI s))) K e)).bind (fun r => kX12_token 46 [some (.ref 64), none, none] (r.1.toList ++ []) r.2) := by
    rw [bX12_token, q_tok_skip (v := v) (n := n) (n - p) p R hT hp (by omega), hqe, q_up_va R, eX12_token_33, q_up_up, va_hit, va_hit]
    rfl
  generalize hg : va_up (va_up (R 64) 4 (nI s)) 7 (nI s) = g at h0
  have g4 : g 4 = nI s := by rw [← hg, va_miss (by decide), va_hit]
  have g7 : g 7 = nI s := by rw [← hg, va_hit]
  have g5 : g 5 = nI n := by rw [← hg, va_miss (by decide), va_miss (by decide)]; exact hT.2.1
  have go : ∀ k, k ≠ 4 → k ≠ 7 → g k = R 64 k := fun k a b => by rw [← hg, va_miss b, va_miss a]
  have hTf : ∀ h : Nat → Int32, h 5 = nI n → q_Tf (va_up R 64 h) v n := fun h h5 => ⟨hn, by rw [va_hit]; exact h5, fun k hk => by rw [va_miss (by decide)]; exact hT.2.2 k hk⟩
  rw [h0, fX12_here (v := v) (n := n) (p := s) (hTf g g5) (by rw [va_hit]; exact g4) (by omega)]
  simp only [Option.bind_some, Option.toList_some, Option.toList_none, List.nil_append, List.cons_append, q_ck_tt, Bool.and_true, Bool.true_and, if_true, if_false, reduceCtorEq]
  rw [eX12_token_46, q_up_up, Nat.add_zero]
  generalize hg1 : va_up g 8 0 = g1
  have a4 : g1 4 = nI s := by rw [← hg1, va_miss (by decide), g4]
  have a7 : g1 7 = nI s := by rw [← hg1, va_miss (by decide), g7]
  have a5 : g1 5 = nI n := by rw [← hg1, va_miss (by decide), g5]
  have a8 : g1 8 = 0 := by rw [← hg1, va_hit]
  have ao : ∀ k, k ≠ 4 → k ≠ 7 → k ≠ 8 → g1 k = R 64 k := fun k a b c => by rw [← hg1, va_miss c, go k a b]
  have hT1 := hTf g1 a5
  have hv256 : ∀ q, q < n → v q < 256 := fun q h => (hT.2.2 q h).1
  -- the end: the sort is laid, the place behind the token
  have h3 : ∀ (h : Nat → Int32) (K' : Nat → Nat → Int64) (m : Int32), h 6 = 3 → kX12_token 232 [some (.ref 64), none, some (.int m)] [] (qm (va_up R 64 h) K' e) = some (none, qm (va_up R 64 h) K' e) := fun h K' m h6 => by
    rw [eX12_token_232, va_hit, if_pos h6, eX12_token_250]
  have hno : ∀ (h : Nat → Int32) (K' : Nat → Nat → Int64) (m : Nat), h 6 ≠ 3 → h 4 = nI s → kX12_token 232 [some (.ref 64), none, some (.int (nI m))] [] (qm (va_up R 64 h) K' e) = some (none, qm (va_up R 64 (va_up h 4 (nI (s + m)))) K' e) := fun h K' m h6 h4 => by
    rw [eX12_token_232, va_hit, if_neg h6, eX12_token_240, eX12_token_250, va_hit, h4, nI_add, q_up_up]
  by_cases hlt : s < n
  · have hv := hv256 s hlt
    have hqs : qhv v n s = nI (v s) := by unfold qhv; rw [if_pos hlt]
    rw [hqs, if_neg (q_by_t _ hv).2.2.2.2.2.2.2.2, eX12_token_71, ← hqs, fX12_isLetterh (hv256 s), decide_eq_true hlt, Bool.true_and]
    simp only [Option.bind_some, Option.toList_some, Option.toList_none, List.nil_append, List.cons_append, q_ck_tt, Bool.and_true, Bool.true_and, if_true, if_false, reduceCtorEq]
    rw [eX12_token_75]
    cases hl : qLe (v s) with
    | true =>
      have hb := qre_le (fun k => qLe (v k)) (n - s) s
      have hwe : qre (fun k => qLe (v k)) (n - s) (s + 0) = qwe v n s := rfl
      have hwe' : qre (fun k => qLe (v k)) (n - s) s = qwe v n s := rfl
      rw [hwe'] at hb
      rw [if_neg (by decide), show (0 : Int32) = nI 0 from rfl, q_rw_loop (v := v) (n := n) (s := s) hT1 (by rw [va_hit]; exact a4) (n - s) 0 (q_up K 64 9 0) (by omega) (fun i hi => absurd hi (by omega)) (by rw [q_up_at1]; rfl), q_up_2, hwe, eX12_token_119]
      by_cases h8 : 8 < qwe v n s - s
      · rw [if_pos (show (8 : Int32) < nI (qwe v n s - s) from nI_lt (a := 8) h8 (by omega)), eX12_token_126, eX12_token_131, q_up_up]
        refine ⟨va_up g1 6 3, _, h3 _ _ _ va_hit, ?_, ?_, Or.inr (Or.inl ?_)⟩
        · intro k a b c d; rw [va_miss b, ao k a c d]
        · rw [va_miss (by decide), a7, hs]
        · rw [hs]; exact ⟨hlt, hl, Or.inl ⟨h8, va_hit⟩⟩
      · rw [if_neg (show ¬ (8 : Int32) < nI (qwe v n s - s) from nI_nlt (a := 8) (by omega) (by omega)), eX12_token_130, eX12_token_131, q_up_up]
        refine ⟨va_up (va_up g1 6 1) 4 (nI (s + (qwe v n s - s))), _, hno _ _ _ (by rw [va_hit]; decide) (by rw [va_miss (by decide)]; exact a4), ?_, ?_, Or.inr (Or.inl ?_)⟩
        · intro k a b c d; rw [va_miss a, va_miss b, ao k a c d]
        · rw [va_miss (by decide), va_miss (by decide), a7, hs]
        · rw [hs]
          refine ⟨hlt, hl, Or.inr ⟨by omega, ?_, ?_, ?_⟩⟩
          · rw [va_miss (by decide), va_hit]
          · rw [va_hit, show s + (qwe v n s - s) = qwe v n s by omega]
          · rw [show min (qwe v n s - s) 8 = qwe v n s - s by omega]
    | false =>
      rw [if_pos (by decide), eX12_token_137, fX12_isDigith (hv256 s), decide_eq_true hlt, Bool.true_and]
      simp only [Option.bind_some, Option.toList_some, Option.toList_none, List.nil_append, List.cons_append, q_ck_tt, Bool.and_true, Bool.true_and, if_true, if_false, reduceCtorEq]
      rw [eX12_token_141]
      cases hd : qDi (v s) with
      | true =>
        have hb := qre_le (fun k => qDi (v k)) (n - s) s
        have hwe : qre (fun k => qDi (v k)) (n - s) (s + 0) = qne v n s := rfl
        have hwe' : qre (fun k => qDi (v k)) (n - s) s = qne v n s := rfl
        rw [hwe'] at hb
        have hg8 : ∀ x, q_up (va_up R 64 g1) 64 8 x = va_up R 64 (va_up g1 8 x) := fun x => q_up_up _ _ _ _ _
        rw [if_neg (by decide), show (0 : Int32) = nI 0 from rfl, q_rn_loop (v := v) (n := n) (s := s) (n - s) 0 _ hT1 (by rw [va_hit]; exact a4) (by omega) (by rw [va_hit]; exact a8), hwe, hg8, eX12_token_186]
        generalize hg2 : va_up g1 8 (nI (qnr v s (min (qne v n s - s) 4))) = g2
        have b4 : g2 4 = nI s := by rw [← hg2, va_miss (by decide), a4]
        have b7 : g2 7 = nI s := by rw [← hg2, va_miss (by decide), a7]
        have b5 : g2 5 = nI n := by rw [← hg2, va_miss (by decide), a5]
        have b8 : g2 8 = nI (qnr v s (min (qne v n s - s) 4)) := by rw [← hg2, va_hit]
        have bo : ∀ k, k ≠ 4 → k ≠ 7 → k ≠ 8 → g2 k = R 64 k := fun k a b c => by rw [← hg2, va_miss c, ao k a b c]
        have hbad : (4 < qne v n s - s ∨ (qne v n s < n ∧ qLe (v (qne v n s)) = true)) → ∃ (g : Nat → Int32) (w : Int64), kX12_token 203 [some (.ref 64), none, some (.int (nI (qne v n s - s)))] [.ref 64] (qm (va_up R 64 g2) (q_up K 64 9 0) e) = some (none, qm (va_up R 64 g) (q_up K 64 9 w) e) ∧ (∀ k, k ≠ 4 → k ≠ 6 → k ≠ 7 → k ≠ 8 → g k = R 64 k) ∧ q_Rt v n p (g 4) (g 7) (g 6) (g 8) w := by
          intro hc
          rw [eX12_token_203, eX12_token_208, q_up_up]
          refine ⟨va_up g2 6 3, _, h3 _ _ _ va_hit, ?_, ?_, Or.inr (Or.inr (Or.inl ?_))⟩
          · intro k a b c d; rw [va_miss b, bo k a c d]
          · rw [va_miss (by decide), b7, hs]
          · rw [hs]; exact ⟨hlt, hl, hd, Or.inl ⟨hc, va_hit⟩⟩
        by_cases h8 : 4 < qne v n s - s
        · rw [if_pos (show (4 : Int32) < nI (qne v n s - s) from nI_lt (a := 4) h8 (by omega))]
          exact hbad (Or.inl h8)
        · rw [if_neg (show ¬ (4 : Int32) < nI (qne v n s - s) from nI_nlt (a := 4) (by omega) (by omega)), eX12_token_192, fX12_here (v := v) (n := n) (p := s) (hTf g2 b5) (by rw [va_hit]; exact b4) (by omega)]
          simp only [Option.bind_some, Option.toList_some, Option.toList_none, List.nil_append, List.cons_append, q_ck_tt, Bool.and_true, Bool.true_and, if_true, if_false, reduceCtorEq]
          rw [eX12_token_197, fX12_isLetterh (hv256 _), show s + (qne v n s - s) = qne v n s by omega]
          simp only [Option.bind_some, Option.toList_some, Option.toList_none, List.nil_append, List.cons_append, q_ck_tt, Bool.and_true, Bool.true_and, if_true, if_false, reduceCtorEq]
          rw [eX12_token_200]
          by_cases hc : qne v n s < n ∧ qLe (v (qne v n s)) = true
          · rw [decide_eq_true hc.1, hc.2, if_neg (by decide)]
            exact hbad (Or.inr hc)
          · have hf : (decide (qne v n s < n) && qLe (v (qne v n s))) = false := by
              cases hx : (decide (qne v n s < n) && qLe (v (qne v n s))) with
              | false => rfl
              | true => exact absurd (by simpa using hx) hc
            rw [hf, if_pos (by decide), eX12_token_207, eX12_token_208, q_up_up]
            refine ⟨va_up (va_up g2 6 2) 4 (nI (s + (qne v n s - s))), _, hno _ _ _ (by rw [va_hit]; decide) (by rw [va_miss (by decide)]; exact b4), ?_, ?_, Or.inr (Or.inr (Or.inl ?_))⟩
            · intro k a b c d; rw [va_miss a, va_miss b, bo k a c d]
            · rw [va_miss (by decide), va_miss (by decide), b7, hs]
            · rw [hs]
              refine ⟨hlt, hl, hd, Or.inr ⟨fun g => by rcases g with g | g; exact h8 g; exact hc g, ?_, ?_, ?_⟩⟩
              · rw [va_miss (by decide), va_hit]
              · rw [va_hit, show s + (qne v n s - s) = qne v n s by omega]
              · rw [va_miss (by decide), va_miss (by decide), b8, show min (qne v n s - s) 4 = qne v n s - s by omega]; rfl
      | false =>
        rw [if_pos (by decide), hqs, eX12_token_214, fX12_isSign, q_ss _ hv]
        simp only [Option.bind_some, Option.toList_some, Option.toList_none, List.nil_append, List.cons_append, q_ck_tt, Bool.and_true, Bool.true_and, if_true, if_false, reduceCtorEq]
        rw [eX12_token_221]
        cases hg : qSn (v s) with
        | true =>
          rw [if_neg (by decide), eX12_token_224, eX12_token_229, q_up_up]
          have hne : nI (v s) ≠ 3 := fun g => by
            have := (by decide +kernel : ∀ v, v < 256 → qSn v = true → nI v ≠ 3) (v s) hv hg
            exact this g
          refine ⟨va_up (va_up g1 6 (nI (v s))) 4 (nI (s + 1)), _, hno _ _ 1 (by rw [va_hit]; exact hne) (by rw [va_miss (by decide)]; exact a4), ?_, ?_, Or.inr (Or.inr (Or.inr ?_))⟩
          · intro k a b c d; rw [va_miss a, va_miss b, ao k a c d]
          · rw [va_miss (by decide), va_miss (by decide), a7, hs]
          · rw [hs]
            exact ⟨hlt, hl, hd, Or.inl ⟨hg, by rw [va_miss (by decide), va_hit], va_hit⟩⟩
        | false =>
          rw [if_pos (by decide), eX12_token_228, eX12_token_229, q_up_up]
          refine ⟨va_up g1 6 3, _, h3 _ _ _ va_hit, ?_, ?_, Or.inr (Or.inr (Or.inr ?_))⟩
          · intro k a b c d; rw [va_miss b, ao k a c d]
          · rw [va_miss (by decide), a7, hs]
          · rw [hs]
            exact ⟨hlt, hl, hd, Or.inr ⟨hg, va_hit⟩⟩
  · have hsn : s = n := by omega
    rw [show qhv v n s = -1 by unfold qhv; rw [if_neg hlt], if_pos (by decide), eX12_token_63, q_up_up]
    refine ⟨va_up (va_up g1 6 0) 4 (nI (s + 0)), _, hno _ _ 0 (by rw [va_hit]; decide) (by rw [va_miss (by decide)]; exact a4), ?_, ?_, Or.inl ?_⟩
    · intro k a b c d; rw [va_miss a, va_miss b, ao k a c d]
    · rw [va_miss (by decide), va_miss (by decide), a7, hs]
    · rw [hs]
      exact ⟨hsn, by rw [va_miss (by decide), va_hit], by rw [va_hit, hsn]; rfl⟩
