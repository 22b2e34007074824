/-! ===== law, mendFirst, safest ===== -/
theorem qLev_cong {F G : Nat → Int32} (h0 : F 0 = G 0) (h1 : F 1 = G 1) (h3 : F 3 = G 3) (h4 : F 4 = G 4) (d : Int32) : qLev F d = qLev G d := by
  have hd : qdv F d = qdv G d := by unfold qdv; rw [h0, h1]
  have hp : ∀ g, qPl F g = qPl G g := fun g => by unfold qPl; rw [h3]
  have hu : ∀ g, qUp F d g = qUp G d g := fun g => by unfold qUp; rw [hp, hd]
  have hl : ∀ n, qLs F d n = qLs G d n := by
    intro n
    induction n with
    | zero => rfl
    | succ n ih => rw [qLs, qLs, ih, hu, h3, h4]
  unfold qLev
  rw [h3, h4, hd, hl]
theorem qTu_cong {N RM : Nat} {rc : Nat → Nat} {F G : Nat → Int32} (h : ∀ j, j < 5 → G j = F j) (s : Nat) : ∀ k, k < 5 → qTu N RM rc G s k = qTu N RM rc F s k := by
  intro k hk
  unfold qTu
  by_cases c1 : s < 2 * N
  · rw [if_pos c1, if_pos c1]
    simp only [va_up_at]
    rw [h 0 (by omega), h 1 (by omega), h k hk]
  · rw [if_neg c1, if_neg c1]
    by_cases c2 : s < qSF N RM
    · rw [if_pos c2, if_pos c2]
      simp only [va_up_at]
      rw [h 2 (by omega), h k hk]
    · rw [if_neg c2, if_neg c2]
      simp only [va_up_at]
      rw [h 3 (by omega), h 4 (by omega), h k hk]
theorem qRw_cong {I : Nat → Nat → Int32} {N k : Nat} {F G : Nat → Int32} (h : ∀ j, j < 5 → G j = F j) (fl : Int32) (i : Nat) : qRw I N k G fl i = qRw I N k F fl i := by
  unfold qRw
  rw [qLev_cong (h 0 (by omega)) (h 1 (by omega)) (h 3 (by omega)) (h 4 (by omega)), h 2 (by omega)]
theorem qRa_fl {N : Nat} {dr rc : Nat → Int32} {lv op fl fl' : Int32} (h : fl &&& op = fl' &&& op) : qRa N dr rc lv op fl = qRa N dr rc lv op fl' := by unfold qRa; rw [h]
theorem qFa_sub {I : Nat → Nat → Int32} {sz : Nat} {op op' ck : Int32} (h : ∀ x, bt op' x = true → bt op x = true) : qFa I sz op ck &&& op' = qFa I sz op' ck &&& op' := by
  apply b_ext
  intro x hx
  unfold qFa
  rw [b_and, b_and, b_qB _ (by omega) hx, b_qB _ (by omega) hx]
  cases hb : bt op' x with
  | false => rw [Bool.and_false, Bool.and_false]
  | true => rw [h x hb]
def qBm (sel : Nat → Bool) (ct : Nat → Nat) : Nat → Option (Nat × Nat)
  | 0 => none
  | s + 1 => if sel s then (match qBm sel ct s with
    | none => some (s, ct s)
    | some (i, c) => if c < ct s then some (s, ct s) else some (i, c)) else qBm sel ct s
def qBi : Option (Nat × Nat) → Int32
  | none => -1
  | some (i, _) => nI i
def qBc : Option (Nat × Nat) → Int32
  | none => -1
  | some (_, c) => nI c
theorem qBm_lt {sel : Nat → Bool} {ct : Nat → Nat} (hc : ∀ s, ct s ≤ 24) : ∀ s i c, qBm sel ct s = some (i, c) → i < s ∧ c ≤ 24
  | 0, i, c, h => by cases h
  | s + 1, i, c, h => by
    rw [qBm] at h
    cases hs : sel s with
    | false =>
      rw [hs] at h
      have := qBm_lt hc s i c h
      omega
    | true =>
      rw [hs, if_pos rfl] at h
      cases hm : qBm sel ct s with
      | none =>
        rw [hm] at h
        injection h with h
        injection h with h1 h2
        have := hc s
        omega
      | some y =>
        obtain ⟨j, d⟩ := y
        rw [hm] at h
        have ih := qBm_lt hc s j d hm
        dsimp only at h
        by_cases g : d < ct s
        · rw [if_pos g] at h
          injection h with h
          injection h with h1 h2
          have := hc s
          omega
        · rw [if_neg g] at h
          injection h with h
          injection h with h1 h2
          omega
section LW
variable {I : Nat → Nat → Int32} {J : Nat → Nat → Int64} {e : QP} {rb tx L : Nat} {D N : Nat} {cl : Nat → Nat} {RM : Nat} {rc : Nat → Nat} {sz : Nat} {F : Nat → Int32} {fl : Int32} {k st : Nat} {an wn : Nat → Int32}
theorem q_look51 (h : q_Core I D N cl RM rc) (hk : k < 3) (fl : Int32) : ∃ K, mX5_look [.ref 48, .ref 3, .ref 51, .int (nI k), .int fl] (qm I J e) = some (none, qm K J e) ∧ q_Jc K N (qSt k N) (qAn I N k (I 51) fl) (fun n => qWa (I 88 n) k N n) ∧ (∀ p, p ≠ 48 → p ≠ 49 → p ≠ 50 → K p = I p) ∧ ∀ j, j ≠ 2 → j ≠ 3 → K 48 j = I 48 j := by
  refine ⟨_, fX5_look_51 h hk fl, q_Jc_of (F := I 51) (fl := fl) h ?_ ?_ ?_ ?_ ?_ ?_, ?_, ?_⟩
  · rw [va_miss (by decide), va_miss (by decide), va_hit, va_miss (by decide), va_hit]
  · rw [va_miss (by decide), va_miss (by decide), va_hit, va_hit]
  · intro i hi; rw [va_miss (by decide), va_hit, fa_fill_in hi]
  · intro i hi; rw [va_hit, fa_fill_in hi]
  · rw [va_miss (by decide), va_miss (by decide), va_miss (by decide)]
  · rw [va_miss (by decide), va_miss (by decide), va_miss (by decide)]
  · intro p h1 h2 h3; rw [va_miss h3, va_miss h2, va_miss h1]
  · intro j h1 h2; rw [va_miss (by decide), va_miss (by decide), va_hit, va_miss h2, va_miss h1]
theorem o_lawn (h : q_Core I D N cl RM rc) (a : Int32) : q_Obs mX11_law mX12_law [.int a] I J (3, 17, rb, tx, L) := by
  have h10 : ¬ ((1 : Int32) = 0) := by decide
  have hN := h.n6
  have hD := h.d4
  cases hq : q_in a 2 with
  | false =>
    refine ⟨-1, I, I, ?_, ?_, q_Off_refl _, q_Off_refl _⟩
    · rw [bX11_law, eX11_law_0, fX11_isBit, hq]
      simp only [Option.bind_some, Option.toList_some, Option.toList_none, List.nil_append, List.cons_append, q_ck_tt, Bool.and_true, Bool.true_and, if_true, if_false, reduceCtorEq]
      rw [eX11_law_4, if_pos qb_f, eX11_law_7]
    · rw [bX12_law, eX12_law_0, fX12_isBit, hq]
      simp only [Option.bind_some, Option.toList_some, Option.toList_none, List.nil_append, List.cons_append, q_ck_tt, Bool.and_true, Bool.true_and, if_true, if_false, reduceCtorEq]
      rw [eX12_law_6, if_pos qb_f, eX12_law_9]
  | true =>
    have hbit : ∃ b : Bool, a = qb b := by
      obtain ⟨j, hj, rfl, -⟩ := q_in_of hq
      have : j = 0 ∨ j = 1 := by omega
      rcases this with rfl | rfl
      · exact ⟨false, rfl⟩
      · exact ⟨true, rfl⟩
    obtain ⟨b, rfl⟩ := hbit
    obtain ⟨K, k0, k1, k2, -⟩ := q_look42 (J := J) (e := (3, 17, rb, tx, L)) (k := 0) h (by omega) (if b then I 42 2 else 0)
    have o1 : q_Off I K := by
      intro p j hp
      rw [k2 p (fun c => by rw [c] at hp; cases hp) (fun c => by rw [c] at hp; cases hp) (fun c => by rw [c] at hp; cases hp)]
    have hK := q_Core_off h o1
    -- the reference, told what opens read
    have u64 : ∀ p, p ≠ 64 → (q_up K 64 27 (qb b)) p = K p := fun p hp => by rw [q_up_va, va_miss hp]
    have u27 : (q_up K 64 27 (qb b)) 64 27 = qb b := by rw [q_up_va, va_hit, va_hit]
    have uk : ∀ j, j ≠ 27 → (q_up K 64 27 (qb b)) 64 j = K 64 j := fun j hj => by rw [q_up_va, va_hit, va_miss hj]
    have u64r : (q_up K 64 27 (qb b)) 64 = va_up (K 64) 27 (qb b) := by rw [q_up_va, va_hit]
    generalize hU : q_up K 64 27 (qb b) = U at u64 u27 uk u64r
    have fU : mX12_fill [.ref 64] (qm U J (3, 17, rb, tx, L)) = some (none, qm (va_up U 94 (fa_fill (U 93) (U 94) 65)) J (3, 17, rb, tx, L)) := fX12_fill U J _
    have a94 : ∀ j, j < 65 → (va_up U 94 (fa_fill (U 93) (U 94) 65)) 94 j = I 93 j := fun j hj => by rw [va_hit, fa_fill_in hj, u64 93 (by decide), o1.r 93 (fun _ => rfl)]
    have ap : ∀ p, p ≠ 64 → p ≠ 94 → (va_up U 94 (fa_fill (U 93) (U 94) 65)) p = K p := fun p h1 h2 => by rw [va_miss h2, u64 p h1]
    have a64 : (va_up U 94 (fa_fill (U 93) (U 94) 65)) 64 = U 64 := va_miss (by decide)
    generalize va_up U 94 (fa_fill (U 93) (U 94) 65) = A at fU a94 ap a64
    have rsA : q_Rs A D N RM rc := by
      have := hK.rs
      unfold q_Rs at this ⊢
      rw [a64, uk 51 (by decide), uk 57 (by decide), ap 92 (by decide) (by decide)]
      exact this
    have qA : q_FQ D N (bt (I 3 11)) (I 42) (A 94) := q_FQ_row hD hN h.fq a94
    have r9 : A 9 = I 9 := by rw [ap 9 (by decide) (by decide), o1.r 9 (fun _ => rfl)]
    have r10 : A 10 = I 10 := by rw [ap 10 (by decide) (by decide), o1.r 10 (fun _ => rfl)]
    have r11 : A 11 = I 11 := by rw [ap 11 (by decide) (by decide), o1.r 11 (fun _ => rfl)]
    have r88 : A 88 = I 88 := by rw [ap 88 (by decide) (by decide), o1.r 88 (fun _ => rfl)]
    have r86 : A 86 = I 86 := by rw [ap 86 (by decide) (by decide), o1.r 86 (fun _ => rfl)]
    obtain ⟨B, b0, b1, b2, b3⟩ := fX12_layAnswers (J := J) (e := (3, 17, rb, tx, L)) (F := I 42) (fl := if b then I 42 2 else 0) (k := 0) rsA (by rw [r88]; exact h.sf) qA.1 (by rw [r11, r88]; exact fun n hn => (h.bs n hn).1) (by omega) (A 94 1) (by
      intro M hM lv hl r hr
      obtain ⟨m1, m24, m6⟩ := rsA.2.2.2 r hr
      have mA : bt (I 3 11) (rc r) = true := (h.br.2.2.1 r hr).2.2.1
      obtain ⟨n1, n2⟩ := h.nn mA
      have g94 : M 94 = A 94 := hM 94 (by decide) (by decide) (by decide) (by decide) (by decide) (by decide)
      have g86 : M 86 (rc r) = nI (qNn I (rc r)) := by rw [hM 86 (by decide) (by decide) (by decide) (by decide) (by decide) (by decide), r86, h.bc.2.1 _ m6, n1]
      have g27 : M 64 27 = qb b := by rw [hM 64 (by decide) (by decide) (by decide) (by decide) (by decide) (by decide), a64, u27]
      have hop := (qA.2.2.1 (rc r) (by omega)).1
      rw [decide_eq_true m6, Bool.true_and] at hop
      obtain ⟨-, -, d3, d4⟩ := q_d64 (rc r) (by omega)
      refine ⟨M 73, M 72, ?_⟩
      rw [va_up_id, va_up_id, r9, r10, q_rd_bit h.bn h.bc m24 n2 n1, bX12_readsAt, eX12_readsAt_0, q_in_nI m24 (by omega), nI_clamp (show rc r < 2 ^ 31 by omega), g86, if_neg (nI_pos (by omega))]
      simp only [Option.bind_some, Option.toList_some, Option.toList_none, List.nil_append, List.cons_append, q_ck_tt, Bool.and_true, Bool.true_and, if_true, if_false, reduceCtorEq]
      rw [eX12_readsAt_11, d3, d4, show (25 : Int32) = nI 25 from rfl, nI_add, q_in_nI (show 25 + rc r / 6 < 65 by omega) (by omega), nI_clamp (by omega), g94, fX12_has _ _ _ _ (show rc r % 6 < 32 by omega), ← hop]
      simp only [Option.bind_some, Option.toList_some, Option.toList_none, List.nil_append, List.cons_append, q_ck_tt, Bool.and_true, Bool.true_and, if_true, if_false, reduceCtorEq]
      rw [eX12_readsAt_30]
      cases hb : bt (I 42 2) (rc r) with
      | false =>
        rw [if_pos qb_f, eX12_readsAt_49, nI_clamp (show rc r < 2 ^ 31 by omega), g86, q_in_nI (show qNn I (rc r) < 6 by omega) (by omega), q_in_nI m24 (by omega), nI_clamp (by omega), hl _ n2]
        simp only [Option.bind_some, Option.toList_some, Option.toList_none, List.nil_append, List.cons_append, q_ck_tt, Bool.and_true, Bool.true_and, if_true, if_false, reduceCtorEq]
        rw [eX12_readsAt_60]
        try rfl
      | true =>
        rw [if_neg (show ¬ qb true = 0 by decide), eX12_readsAt_33, bX12_floatsAt, eX12_floatsAt_0, g27, if_neg (show ¬ qb b < 0 by cases b <;> decide), eX12_floatsAt_7, g27]
        simp only [Option.bind_some, Option.toList_some, Option.toList_none, List.nil_append, List.cons_append, q_ck_tt, Bool.and_true, Bool.true_and, if_true, if_false, reduceCtorEq]
        rw [eX12_readsAt_46, eX12_readsAt_60]
        cases b with
        | false => rw [if_neg (by decide), b_0] <;> try rfl
        | true => rw [if_pos rfl, hb] <;> try rfl)
    have B64 : B 64 = va_up (K 64) 27 (qb b) := by rw [b3 64 (by decide) (by decide) (by decide) (by decide) (by decide) (by decide), a64, u64r]
    have o2 : q_Off K (q_up B 64 27 (-1)) := by
      intro p j hp
      rw [q_up_va]
      by_cases c : p = 64
      · rw [c, va_hit, B64, va_up_up, va_up_eq hK.on]
      · rw [va_miss c, b3 p (fun c => by rw [c] at hp; cases hp) (fun c => by rw [c] at hp; cases hp) (fun c => by rw [c] at hp; cases hp) (fun c => by rw [c] at hp; cases hp) (fun c => by rw [c] at hp; cases hp) (fun c => by rw [c] at hp; cases hp), ap p c (fun c => by rw [c] at hp; cases hp)]
    have hK2 := q_Core_off hK o2
    have eRw : qRw A N 0 (I 42) (if b then I 42 2 else 0) = qRw I N 0 (I 42) (if b then I 42 2 else 0) := by
      funext i
      unfold qRw
      rw [r9, r10, r11]
    have jf : q_Jf (q_up B 64 27 (-1)) N RM rc (qAn I N 0 (I 42) (if b then I 42 2 else 0)) (fun n => qWa (I 88 n) 0 N n) := by
      refine ⟨fun n hn => ?_, fun r hr => ?_⟩
      · rw [q_up_va, va_miss (by decide), b1 n hn, r88]
      · rw [q_up_va, va_miss (by decide), b2 r hr]
        unfold qAn
        rw [eRw]
    have k0' : mX5_look [.ref 48, .ref 3, .ref 42, .int 0, .int (if b then I 42 2 else 0)] (qm I J (3, 17, rb, tx, L)) = some (none, qm K J (3, 17, rb, tx, L)) := k0
    have b0' : mX12_layAnswers [.ref 64, .int 0, .int (A 94 1)] (qm A J (3, 17, rb, tx, L)) = some (none, qm B J (3, 17, rb, tx, L)) := b0
    refine ⟨nI (fb_ct (fun r => qGz K (qAn I N 0 (I 42) (if b then I 42 2 else 0)) (fun n => qWa (I 88 n) 0 N n) (rc r)) RM), K, q_up B 64 27 (-1), ?_, ?_, o1, o2⟩
    · have h44 : kX11_law 9 [some (.ref 1), some (.int (qb b)), ] [] (qm I J (3, 17, rb, tx, L)) = kX11_law 44 [some (.ref 1), none] [.int (if b then I 42 2 else 0), .int 0, .ref 42, .ref 3, .ref 48] (qm I J (3, 17, rb, tx, L)) := by
        rw [eX11_law_9]
        cases b with
        | false => rw [if_neg (show ¬ qb false = 1 by decide), eX11_law_43]; rfl
        | true => rw [if_pos (show qb true = 1 from rfl), eX11_law_30]; rfl
      rw [bX11_law, eX11_law_0, fX11_isBit, hq]
      simp only [Option.bind_some, Option.toList_some, Option.toList_none, List.nil_append, List.cons_append, q_ck_tt, Bool.and_true, Bool.true_and, if_true, if_false, reduceCtorEq]
      rw [eX11_law_4, qb_t, if_neg h10, h44, eX11_law_44, k0']
      simp only [Option.bind_some, Option.toList_some, Option.toList_none, List.nil_append, List.cons_append, q_ck_tt, Bool.and_true, Bool.true_and, if_true, if_false, reduceCtorEq]
      rw [eX11_law_47, fX5_goodCount hK k1]
      simp only [Option.bind_some, Option.toList_some, Option.toList_none, List.nil_append, List.cons_append, q_ck_tt, Bool.and_true, Bool.true_and, if_true, if_false, reduceCtorEq]
      rw [eX11_law_54]
    · rw [bX12_law, eX12_law_0, fX12_isBit, hq]
      simp only [Option.bind_some, Option.toList_some, Option.toList_none, List.nil_append, List.cons_append, q_ck_tt, Bool.and_true, Bool.true_and, if_true, if_false, reduceCtorEq]
      rw [eX12_law_6, qb_t, if_neg h10, eX12_law_11, hU, bX12_layNow, eX12_layNow_0, fU]
      simp only [Option.bind_some, Option.toList_some, Option.toList_none, List.nil_append, List.cons_append, q_ck_tt, Bool.and_true, Bool.true_and, if_true, if_false, reduceCtorEq]
      rw [eX12_layNow_4, b0']
      simp only [Option.bind_some, Option.toList_some, Option.toList_none, List.nil_append, List.cons_append, q_ck_tt, Bool.and_true, Bool.true_and, if_true, if_false, reduceCtorEq]
      rw [eX12_layNow_15]
      simp only [Option.bind_some, Option.toList_some, Option.toList_none, List.nil_append, List.cons_append, q_ck_tt, Bool.and_true, Bool.true_and, if_true, if_false, reduceCtorEq]
      rw [eX12_law_21, fX12_goodMany hK2 jf, qGz_off o2]
      simp only [Option.bind_some, Option.toList_some, Option.toList_none, List.nil_append, List.cons_append, q_ck_tt, Bool.and_true, Bool.true_and, if_true, if_false, reduceCtorEq]
      rw [eX12_law_30]
theorem fX3_takeOver_51 : ∃ v : Nat → Int32, mX3_takeOver [.ref 51, .ref 42] (qm I J e) = some (none, qm (va_up I 51 v) J e) ∧ ∀ j, j < 5 → v j = I 42 j := by
  refine ⟨va_up (va_up (va_up (va_up (va_up (I 51) 0 (I 42 0)) 1 (I 42 1)) 2 (I 42 2)) 3 (I 42 3)) 4 (I 42 4), ?_, ?_⟩
  · rw [bX3_takeOver_51_42, eX3_takeOver_51_42_0, eX3_takeOver_51_42_26]
    rw [q_up_va I, q_up_up, q_up_up, q_up_up, q_up_up, va_miss (show (42 : Nat) ≠ 51 by decide)]
  · intro j hj
    have : j = 0 ∨ j = 1 ∨ j = 2 ∨ j = 3 ∨ j = 4 := by omega
    rcases this with rfl | rfl | rfl | rfl | rfl <;> rfl
/-- how many are good, a fault being mended -/
def qMd (I : Nat → Nat → Int32) (N RM : Nat) (rc : Nat → Nat) (fl : Int32) (s : Nat) : Nat := fb_ct (fun r => qGz I (qAn I N 0 (qTu N RM rc (I 42) s) fl) (fun n => qWa (I 88 n) 0 N n) (rc r)) RM
theorem qMd_24 (h : q_Core I D N cl RM rc) (fl : Int32) (s : Nat) : qMd I N RM rc fl s ≤ 24 := by
  have := fb_ct_le (fun r => qGz I (qAn I N 0 (qTu N RM rc (I 42) s) fl) (fun n => qWa (I 88 n) 0 N n) (rc r)) RM
  have := h.br.2.1
  unfold qMd
  omega
theorem qAn_off {I' : Nat → Nat → Int32} (o : q_Off I I') : qAn I' N k F fl = qAn I N k F fl := by
  funext x
  unfold qAn qRw
  rw [o.r 9 (fun _ => rfl), o.r 10 (fun _ => rfl), o.r 11 (fun _ => rfl)]
theorem fX5_bestMended (h : q_Core I D N cl RM rc) (fl : Int32) : ∃ K, mX5_bestMended [.ref 48, .ref 3, .ref 42, .int fl] (qm I J e) = some (some (.int (qBi (qBm (qth N RM rc (I 42)) (qMd I N RM rc fl) (qSN N RM)))), qm K J e) ∧ q_Off I K ∧ ∀ i c, qBm (qth N RM rc (I 42)) (qMd I N RM rc fl) (qSN N RM) = some (i, c) → K 48 5 = nI c := by
  have h60 := qSN_60 h
  have hst : ∀ s (y : Int32 × (Nat → Nat → Int32)), s < qSN N RM → (y.1 = qBi (qBm (qth N RM rc (I 42)) (qMd I N RM rc fl) s) ∧ q_Off I y.2 ∧ ∀ i c, qBm (qth N RM rc (I 42)) (qMd I N RM rc fl) s = some (i, c) → y.2 48 5 = nI c) → ∃ y' : Int32 × (Nat → Nat → Int32), (y'.1 = qBi (qBm (qth N RM rc (I 42)) (qMd I N RM rc fl) (s + 1)) ∧ q_Off I y'.2 ∧ ∀ i c, qBm (qth N RM rc (I 42)) (qMd I N RM rc fl) (s + 1) = some (i, c) → y'.2 48 5 = nI c) ∧ (fun s (y : Int32 × (Nat → Nat → Int32)) => kX5_bestMended 12 [some (.ref 48), some (.ref 3), some (.ref 42), some (.int fl), some (.int y.1), some (.int (nI (qSN N RM))), some (.int (nI s))] [] (qm y.2 J e)) s y = (fun s (y : Int32 × (Nat → Nat → Int32)) => kX5_bestMended 12 [some (.ref 48), some (.ref 3), some (.ref 42), some (.int fl), some (.int y.1), some (.int (nI (qSN N RM))), some (.int (nI s))] [] (qm y.2 J e)) (s + 1) y' := by
    intro s y hs hP
    obtain ⟨b, K⟩ := y
    obtain ⟨hb, oK, hc⟩ := hP
    dsimp only at hb oK hc
    have hK := q_Core_off h oK
    have k42 : K 42 = I 42 := oK.r 42 (fun _ => rfl)
    have hth := fX0_isThere (J := J) (e := e) hK hs
    rw [k42] at hth
    rw [qBm]
    cases hsel : qth N RM rc (I 42) s with
    | false =>
      refine ⟨(b, K), ⟨hb, oK, hc⟩, ?_⟩
      show kX5_bestMended 12 _ _ _ = kX5_bestMended 12 _ _ _
      rw [eX5_bestMended_12, if_pos (nI_lt hs (by omega)), eX5_bestMended_19, hth, hsel]
      simp only [Option.bind_some, Option.toList_some, Option.toList_none, List.nil_append, List.cons_append, q_ck_tt, Bool.and_true, Bool.true_and, if_true, if_false, reduceCtorEq]
      rw [eX5_bestMended_26, if_pos qb_f, eX5_bestMended_87, nI_1]
    | true =>
      rw [if_pos rfl]
      obtain ⟨v, t0, t1⟩ := fX3_takeOver_51 (I := K) (J := J) (e := e)
      have o1 : q_Off K (va_up K 51 v) := q_Off_va K rfl v
      have h1 := q_Core_off hK o1
      have u0 := fX0_turnSingle_51 (J := J) (e := e) h1 hs
      rw [va_hit, va_up_up] at u0
      have o2 : q_Off K (va_up K 51 (qTu N RM rc v s)) := q_Off_va K rfl _
      have oI2 := q_Off_trans oK o2
      have h2 := q_Core_off hK o2
      obtain ⟨M, m0, m1, m2, m3⟩ := q_look51 (J := J) (e := e) (k := 0) h2 (by omega) fl
      have m0' : mX5_look [.ref 48, .ref 3, .ref 51, .int 0, .int fl] (qm (va_up K 51 (qTu N RM rc v s)) J e) = some (none, qm M J e) := m0
      have oM : q_Off (va_up K 51 (qTu N RM rc v s)) M := by
        intro p j hp
        rw [m2 p (fun c => by rw [c] at hp; cases hp) (fun c => by rw [c] at hp; cases hp) (fun c => by rw [c] at hp; cases hp)]
      have oIM := q_Off_trans oI2 oM
      have hM := q_Core_off h oIM
      have hg := fX5_goodCount (J := J) (e := e) hM m1
      have hgc : fb_ct (fun r => qGz M (qAn (va_up K 51 (qTu N RM rc v s)) N 0 ((va_up K 51 (qTu N RM rc v s)) 51) fl) (fun n => qWa ((va_up K 51 (qTu N RM rc v s)) 88 n) 0 N n) (rc r)) RM = qMd I N RM rc fl s := by
        unfold qMd
        rw [qGz_off oIM, qAn_off oI2, oI2.r 88 (fun _ => rfl), va_hit]
        have : qAn I N 0 (qTu N RM rc v s) fl = qAn I N 0 (qTu N RM rc (I 42) s) fl := by
          funext x
          unfold qAn
          refine qB_cong (fun i hi => ?_)
          rw [qRw_cong (qTu_cong (fun j hj => by rw [t1 j hj, k42]) s)]
        rw [this]
      rw [hgc] at hg
      have m5 : M 48 5 = K 48 5 := by rw [m3 5 (by decide) (by decide), va_miss (by decide)]
      have hgo : kX5_bestMended 12 [some (.ref 48), some (.ref 3), some (.ref 42), some (.int fl), some (.int b), some (.int (nI (qSN N RM))), some (.int (nI s))] [] (qm K J e) = kX5_bestMended 58 [some (.ref 48), some (.ref 3), some (.ref 42), some (.int fl), some (.int b), some (.int (nI (qSN N RM))), some (.int (nI s))] [] (qm M J e) := by
        rw [eX5_bestMended_12, if_pos (nI_lt hs (by omega)), eX5_bestMended_19, hth, hsel]
        simp only [Option.bind_some, Option.toList_some, Option.toList_none, List.nil_append, List.cons_append, q_ck_tt, Bool.and_true, Bool.true_and, if_true, if_false, reduceCtorEq]
        rw [eX5_bestMended_26, if_neg (show ¬ qb true = 0 by decide), eX5_bestMended_29, t0]
        simp only [Option.bind_some, Option.toList_some, Option.toList_none, List.nil_append, List.cons_append, q_ck_tt, Bool.and_true, Bool.true_and, if_true, if_false, reduceCtorEq]
        rw [eX5_bestMended_37, u0]
        simp only [Option.bind_some, Option.toList_some, Option.toList_none, List.nil_append, List.cons_append, q_ck_tt, Bool.and_true, Bool.true_and, if_true, if_false, reduceCtorEq]
        rw [eX5_bestMended_47, m0']
        simp only [Option.bind_some, Option.toList_some, Option.toList_none, List.nil_append, List.cons_append, q_ck_tt, Bool.and_true, Bool.true_and, if_true, if_false, reduceCtorEq]
      have h75 : kX5_bestMended 75 [some (.ref 48), some (.ref 3), some (.ref 42), some (.int fl), none, some (.int (nI (qSN N RM))), some (.int (nI s))] [] (qm M J e) = kX5_bestMended 12 [some (.ref 48), some (.ref 3), some (.ref 42), some (.int fl), some (.int (nI s)), some (.int (nI (qSN N RM))), some (.int (nI (s + 1)))] [] (qm (q_up M 48 5 (nI (qMd I N RM rc fl s))) J e) := by
        rw [eX5_bestMended_75, hg]
        simp only [Option.bind_some, Option.toList_some, Option.toList_none, List.nil_append, List.cons_append, q_ck_tt, Bool.and_true, Bool.true_and, if_true, if_false, reduceCtorEq]
        rw [eX5_bestMended_84, eX5_bestMended_87, nI_1]
      have oU : q_Off I (q_up M 48 5 (nI (qMd I N RM rc fl s))) := by
        intro p j hp
        rw [q_up_va, va_miss (fun c => by rw [c] at hp; cases hp)]
        exact oIM p j hp
      cases hm : qBm (qth N RM rc (I 42)) (qMd I N RM rc fl) s with
      | none =>
        refine ⟨(nI s, q_up M 48 5 (nI (qMd I N RM rc fl s))), ⟨rfl, oU, fun i c hic => ?_⟩, ?_⟩
        · injection hic with hic
          injection hic with h1 h2
          show q_up M 48 5 (nI (qMd I N RM rc fl s)) 48 5 = nI c
          rw [q_up_va, va_hit, va_hit, h2]
        · show kX5_bestMended 12 _ _ _ = kX5_bestMended 12 _ _ _
          rw [hgo, eX5_bestMended_58, hb, hm, if_pos (show qBi none = -1 from rfl), h75]
      | some y =>
        obtain ⟨i, c⟩ := y
        obtain ⟨ilt, cle⟩ := qBm_lt (qMd_24 h fl) s i c hm
        have hc5 := hc i c hm
        have hd := qMd_24 h fl s
        dsimp only
        by_cases g : c < qMd I N RM rc fl s
        · rw [if_pos g]
          refine ⟨(nI s, q_up M 48 5 (nI (qMd I N RM rc fl s))), ⟨rfl, oU, fun i c hic => ?_⟩, ?_⟩
          · injection hic with hic
            injection hic with h1 h2
            show q_up M 48 5 (nI (qMd I N RM rc fl s)) 48 5 = nI c
            rw [q_up_va, va_hit, va_hit, h2]
          · show kX5_bestMended 12 _ _ _ = kX5_bestMended 12 _ _ _
            rw [hgo, eX5_bestMended_58, hb, hm, if_neg (show ¬ qBi (some (i, c)) = -1 from nI_ne1 (by omega)), eX5_bestMended_64, hg]
            simp only [Option.bind_some, Option.toList_some, Option.toList_none, List.nil_append, List.cons_append, q_ck_tt, Bool.and_true, Bool.true_and, if_true, if_false, reduceCtorEq]
            rw [eX5_bestMended_68, m5, hc5, if_pos (nI_lt g (by omega)), h75]
        · rw [if_neg g]
          refine ⟨(nI i, M), ⟨rfl, oIM, fun i' c' hic => ?_⟩, ?_⟩
          · injection hic with hic
            injection hic with h1 h2
            show M 48 5 = nI c'
            rw [m5, hc5, h2]
          · show kX5_bestMended 12 _ _ _ = kX5_bestMended 12 _ _ _
            rw [hgo, eX5_bestMended_58, hb, hm, if_neg (show ¬ qBi (some (i, c)) = -1 from nI_ne1 (by omega)), eX5_bestMended_64, hg]
            simp only [Option.bind_some, Option.toList_some, Option.toList_none, List.nil_append, List.cons_append, q_ck_tt, Bool.and_true, Bool.true_and, if_true, if_false, reduceCtorEq]
            rw [eX5_bestMended_68, m5, hc5, if_neg (nI_nlt (by omega) (by omega)), eX5_bestMended_87, nI_1]
            rfl
  obtain ⟨y, ⟨y1, y2, y3⟩, y4⟩ := q_inv_for (fun s (y : Int32 × (Nat → Nat → Int32)) => kX5_bestMended 12 [some (.ref 48), some (.ref 3), some (.ref 42), some (.int fl), some (.int y.1), some (.int (nI (qSN N RM))), some (.int (nI s))] [] (qm y.2 J e)) (fun s y => y.1 = qBi (qBm (qth N RM rc (I 42)) (qMd I N RM rc fl) s) ∧ q_Off I y.2 ∧ ∀ i c, qBm (qth N RM rc (I 42)) (qMd I N RM rc fl) s = some (i, c) → y.2 48 5 = nI c) (qSN N RM) hst (qSN N RM) 0 (-1, I) (by omega) ⟨rfl, q_Off_refl _, fun i c hic => by cases hic⟩
  refine ⟨y.2, ?_, y2, y3⟩
  rw [bX5_bestMended, eX5_bestMended_0, fX0_singleCount h]
  simp only [Option.bind_some, Option.toList_some, Option.toList_none, List.nil_append, List.cons_append, q_ck_tt, Bool.and_true, Bool.true_and, if_true, if_false, reduceCtorEq]
  rw [eX5_bestMended_7]
  refine Eq.trans y4 ?_
  show kX5_bestMended 12 _ _ _ = _
  rw [eX5_bestMended_12, if_neg (nI_nlt (Nat.le_refl _) (by omega)), eX5_bestMended_93, y1]
end LW
