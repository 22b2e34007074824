/-! ===== reading a cell ===== -/
def q_Op2 (D : Nat) (A : Nat → Bool) (op : Int32) (f : Nat → Int32) : Prop := ∀ x, x < 32 → bt op x = (decide (x < 6 * D) && bt (f (25 + x / 6)) (x % 6)) ∧ (bt op x = true → A x = true)
def q_Fz (I : Nat → Nat → Int32) (sz : Nat) : Prop := sz ≤ 300 ∧ I 14 2 = nI sz ∧ I 64 18 = nI sz ∧ (I 64 25 = 0 ∧ sz = 0 ∨ I 64 25 = 1 ∧ qdep (I 69) sz = 1) ∧ q_Fm (I 15) (I 69) (I 70) sz
/-- what floats, of all -/
def qFa (I : Nat → Nat → Int32) (sz : Nat) (op ck : Int32) : Int32 := qB 24 (fun x => bt op x && qFl (I 69) (I 70) sz (I 12) ck x)
theorem qFa_off {I I' : Nat → Nat → Int32} (h : q_Off I I') (sz : Nat) (op ck : Int32) : qFa I' sz op ck = qFa I sz op ck := by
  unfold qFa
  rw [h.r 69 (fun _ => rfl), h.r 70 (fun _ => rfl), h.r 12 (fun _ => rfl)]
theorem q_Fz_off {I I' : Nat → Nat → Int32} {sz : Nat} (hz : q_Fz I sz) (h : q_Off I I') : q_Fz I' sz := by
  unfold q_Fz
  rw [h.r 14 (fun _ => rfl), h.r 64 (fun _ => rfl), h.r 69 (fun _ => rfl), h.r 15 (fun _ => rfl), h.r 70 (fun _ => rfl)]
  exact hz
def q_Bd (I : Nat → Nat → Int32) (D N : Nat) (cl : Nat → Nat) : Prop := q_Sta I ∧ q_Bn I D N cl
section RD
variable {I : Nat → Nat → Int32} {J : Nat → Nat → Int64} {e : QP} {rb tx L : Nat} {D N : Nat} {cl : Nat → Nat} {RM : Nat} {rc : Nat → Nat} {sz : Nat}
theorem q_Fz.d1 (h : q_Fz I sz) : qdep (I 69) sz ≤ 1 := by
  rcases h.2.2.2.1 with ⟨-, h0⟩ | ⟨-, h1⟩
  · rw [h0]; exact Nat.zero_le _
  · omega
theorem q_Core.op (h : q_Core I D N cl RM rc) : q_Op2 D (bt (I 3 11)) (I 42 2) (I 93) := by
  obtain ⟨-, -, -, -, -, -, h7, -⟩ := h.ch
  intro x hx
  exact h7 x hx
theorem q_Op2_cong {A : Nat → Bool} {op : Int32} {f f' : Nat → Int32} (hD : D ≤ 4) (h : q_Op2 D A op f) (he : ∀ k, k < 65 → f' k = f k) : q_Op2 D A op f' := by
  intro x hx
  rw [he _ (by omega)]
  exact h x hx
theorem q_Core.rc0 (h : q_Core I D N cl RM rc) {x : Nat} (hx : x < 24) (hn : I 12 x = -1) : bt (I 3 11) x = false := by
  rw [h.bc.2.2.2.1 x (by omega), decide_eq_true hn]
  simp
theorem q_Core.nt (h : q_Core I D N cl RM rc) {x : Nat} (hx : x < 24) (hd : 0 < D) : I 12 x = -1 ∨ ∃ n, n < N ∧ I 12 x = nI n := (q_Bc_1d h.bc hx hd).1
theorem q_read (h : q_Core I D N cl RM rc) (hz : q_Fz I sz) {op lv : Int32} (ho : q_Op2 D (bt (I 3 11)) op (I 94)) (hl : ∀ n, n < N → I 100 n = qb (bt lv n)) {x : Nat} (hx : x < 6 * D) (ck : Int32) : ∃ a v, mX12_readsAt [.ref 64, .int (nI x), .int ck] (qm I J e) = some (some (.int (qb (bt (qRa N (I 9) (I 10) lv op (qFa I sz op ck)) x))), qm (va_up (va_up I 73 a) 72 v) J e) := by
  have hD := h.d4
  have hN := h.n6
  have h86 := h.bc.2.1 x hx
  rcases h.nt (show x < 24 by omega) (by omega) with hn | ⟨n, hn, hn2⟩
  · refine ⟨I 73, I 72, ?_⟩
    have hop : bt op x = false := by
      cases hb : bt op x with
      | false => rfl
      | true =>
        have := (ho x (by omega)).2 hb
        rw [h.rc0 (by omega) hn] at this
        cases this
    rw [q_rd_none h.bc hN (by omega) hn hop, va_up_eq (f := I) (p := 73) rfl, va_up_eq (f := I) (p := 72) rfl, bX12_readsAt, eX12_readsAt_0, q_in_nI (show x < 24 by omega) (by omega), nI_clamp (by omega), h86, hn, if_pos (by decide), eX12_readsAt_9]
    rfl
  · obtain ⟨z1, -, z3, z4, z5⟩ := hz
    obtain ⟨a, v, h1⟩ := fX12_readsAt I J e z1 z3 h.on z4 z5 (show x < 24 by omega) (by rw [h86]; exact hn2) (show n < 6 by omega) ck
    refine ⟨a, v, ?_⟩
    rw [h1, q_rd_bit h.bn h.bc (by omega) hn hn2]
    have hb := (ho x (by omega)).1
    rw [decide_eq_true hx, Bool.true_and] at hb
    unfold qRd1
    rw [← hb, hl n hn]
    cases hb2 : bt op x with
    | false => rw [if_neg (by decide), if_neg (by decide)]
    | true =>
      rw [if_pos rfl, if_pos rfl]
      unfold qFa
      rw [b_qB _ (by omega) (by omega), decide_eq_true (show x < 24 by omega), hb2, Bool.true_and, Bool.true_and]
      unfold qFl
      rw [h86]
theorem q_Bd.st (h : q_Bd I D N cl) : q_Sta I := h.1
theorem q_Bd.bn (h : q_Bd I D N cl) : q_Bn I D N cl := h.2
theorem q_Bd.d4 (h : q_Bd I D N cl) : D ≤ 4 := h.bn.1.2.2
theorem q_Bd.n6 (h : q_Bd I D N cl) : N ≤ 6 := h.bn.2.1.2.2
theorem q_Bd.i30 (h : q_Bd I D N cl) : I 3 0 = nI D := h.bn.1.1
theorem q_Bd.i35 (h : q_Bd I D N cl) : I 3 5 = nI N := h.bn.2.1.1
theorem q_Core.bd (h : q_Core I D N cl RM rc) : q_Bd I D N cl := ⟨h.st, h.bn⟩
theorem fX1_reads (h : q_Bd I D N cl) (hz : q_Fz I sz) : ∃ v, mX1_reads [.ref 37, .ref 3] (qm I J (3, 17, rb, tx, L)) = some (some (.int (qRa N (I 9) (I 10) (qLev (I 42) (qDn I D N)) (I 42 2) (qFa I sz (I 42 2) (I 37 1)))), qm (va_up I 16 v) J (3, 17, rb, tx, L)) := by
  have hdv : mX1_driven [.ref 37, .ref 3] (qm I J (3, 17, rb, tx, L)) = some (some (.int (qDn I D N)), qm I J (3, 17, rb, tx, L)) := fX1_driven I J _ h.n6 h.i35 h.d4 h.i30
  obtain ⟨v, hv⟩ := fX0_floatingAt I J (3, 17, rb, tx, L) hz.1 hz.2.1 hz.2.2.2.2 hz.d1 (I 42 2) (I 37 1)
  refine ⟨v, ?_⟩
  rw [bX1_reads, eX1_reads_0, hdv]
  simp only [Option.bind_some, Option.toList_some, Option.toList_none, List.nil_append, List.cons_append, q_ck_tt, Bool.and_true, Bool.true_and, if_true, if_false, reduceCtorEq]
  rw [eX1_reads_10, fX3_levels_42 I J _ h.st]
  simp only [Option.bind_some, Option.toList_some, Option.toList_none, List.nil_append, List.cons_append, q_ck_tt, Bool.and_true, Bool.true_and, if_true, if_false, reduceCtorEq]
  rw [eX1_reads_13, hv]
  simp only [Option.bind_some, Option.toList_some, Option.toList_none, List.nil_append, List.cons_append, q_ck_tt, Bool.and_true, Bool.true_and, if_true, if_false, reduceCtorEq]
  rw [eX1_reads_35, fX0_readsAt (va_up I 16 v) J _ h.n6 h.i35]
  simp only [Option.bind_some, Option.toList_some, Option.toList_none, List.nil_append, List.cons_append, q_ck_tt, Bool.and_true, Bool.true_and, if_true, if_false, reduceCtorEq]
  rw [eX1_reads_38]
  rfl
theorem o_cell (hC : q_Core I D N cl RM rc) (a b w : Int32) : q_Obs mX11_cell mX12_cell [.int a, .int b, .int w] I J (3, 17, rb, tx, L) := by
  have hD := hC.d4
  have hN := hC.n6
  have h10 : ¬ ((1 : Int32) = 0) := by decide
  cases hq : q_in a D with
  | false =>
    refine ⟨-2, I, I, ?_, ?_, q_Off_refl _, q_Off_refl _⟩
    · simp only [bX11_cell, eX11_cell_0, eX11_cell_9, eX11_cell_12, eX11_cell_15, eX11_cell_20, eX11_cell_127, eX11_cell_110, eX11_cell_94, eX11_cell_63, eX11_cell_52, eX11_cell_121, eX11_cell_77, eX11_cell_81, eX11_cell_93, fX0_hasCell_n _ _ _ hD hC.i30 hq, Option.bind_some, Option.toList_some, Option.toList_none, List.nil_append, List.cons_append, q_ck_tt, Bool.and_true, Bool.true_and, if_true, if_false, reduceCtorEq, q_10, eq_self, qb_t, qb_f]
    · simp only [bX12_cell, eX12_cell_0, eX12_cell_6, eX12_cell_9, eX12_cell_12, eX12_cell_24, eX12_cell_28, eX12_cell_120, eX12_cell_107, eX12_cell_90, eX12_cell_68, eX12_cell_60, eX12_cell_119, eX12_cell_103, eX12_cell_78, eX12_cell_82, eX12_cell_106, eX12_cell_89, fX12_isCell_n _ _ _ hD hC.m50 hq, Option.bind_some, Option.toList_some, Option.toList_none, List.nil_append, List.cons_append, q_ck_tt, Bool.and_true, Bool.true_and, if_true, if_false, reduceCtorEq, q_10, eq_self, qb_t, qb_f]
  | true =>
    obtain ⟨d, hd, rfl, -⟩ := q_in_of hq
    obtain ⟨e1, e2, e3, e4, e5, e6, e7⟩ := hC.bn.2.2 d hd
    cases hk : q_in b (cl d) with
    | false =>
      refine ⟨-2, I, I, ?_, ?_, q_Off_refl _, q_Off_refl _⟩
      · simp only [bX11_cell, eX11_cell_0, eX11_cell_9, eX11_cell_12, eX11_cell_15, eX11_cell_20, eX11_cell_127, eX11_cell_110, eX11_cell_94, eX11_cell_63, eX11_cell_52, eX11_cell_121, eX11_cell_77, eX11_cell_81, eX11_cell_93, fX0_hasCell_y _ _ _ hD hC.i30 hd e3 e5, hk, Option.bind_some, Option.toList_some, Option.toList_none, List.nil_append, List.cons_append, q_ck_tt, Bool.and_true, Bool.true_and, if_true, if_false, reduceCtorEq, q_10, eq_self, qb_t, qb_f]
      · simp only [bX12_cell, eX12_cell_0, eX12_cell_6, eX12_cell_9, eX12_cell_12, eX12_cell_24, eX12_cell_28, eX12_cell_120, eX12_cell_107, eX12_cell_90, eX12_cell_68, eX12_cell_60, eX12_cell_119, eX12_cell_103, eX12_cell_78, eX12_cell_82, eX12_cell_106, eX12_cell_89, fX12_isCell_y _ _ _ hD hC.m50 hd e4 e5, hk, Option.bind_some, Option.toList_some, Option.toList_none, List.nil_append, List.cons_append, q_ck_tt, Bool.and_true, Bool.true_and, if_true, if_false, reduceCtorEq, q_10, eq_self, qb_t, qb_f]
    | true =>
      obtain ⟨c, hc, rfl, -⟩ := q_in_of hk
      obtain ⟨sz, hz⟩ : ∃ sz, q_Fz I sz := hC.fo
      obtain ⟨I1, I2, f1, f2, o2, a2, C2, hl⟩ := hC.fill2 J (3, 17, rb, tx, L)
      have hx : 6 * d + c < 6 * D := by omega
      have hx24 : 6 * d + c < 24 := by omega
      have hxc := nI_clamp (show 6 * d + c < 2 ^ 31 by omega)
      have hxi : q_in (nI (6 * d + c)) 24 = true := q_in_nI hx24 (by omega)
      have hm : (6 : Int32) * nI d + nI c = nI (6 * d + c) := by rw [show (6 : Int32) = nI 6 from rfl, pk_mul, nI_add]
      have h93 : I 93 1 = I 37 1 := by obtain ⟨-, ⟨g, -⟩, -⟩ := hC.ch; rw [← g]; rfl
      by_cases h3 : w = 3
      · subst h3
        obtain ⟨v, hv⟩ := fX1_reads (J := J) (rb := rb) (tx := tx) (L := L) hC.bd hz
        have ov : q_Off I (va_up I 16 v) := q_Off_va _ rfl _
        obtain ⟨I1, I2, f1, f2, o2, a2, C2, hl⟩ := (q_Core_off hC ov).fill2 J (3, 17, rb, tx, L)
        have o3 : q_Off I I2 := q_Off_trans ov o2
        have ho : q_Op2 D (bt (I2 3 11)) (I2 42 2) (I2 94) := q_Op2_cong hD C2.op a2
        obtain ⟨p, q, hr⟩ := q_read (J := J) (e := (3, 17, rb, tx, L)) C2 (q_Fz_off hz o3) ho (fun n hn => (hl n hn).2) hx (I 37 1)
        rw [q_Dn_off ov, ov.r 42 (fun _ => rfl), qFa_off o3, o3.r 9 (fun _ => rfl), o3.r 10 (fun _ => rfl), o3.r 42 (fun _ => rfl)] at hr
        refine ⟨qb (bt (qRa N (I 9) (I 10) (qLev (I 42) (qDn I D N)) (I 42 2) (qFa I sz (I 42 2) (I 37 1))) (6 * d + c)), va_up I 16 v, va_up (va_up I2 73 p) 72 q, ?_, ?_, ov, q_Off_trans o2 (q_Off_trans (q_Off_va _ rfl _) (q_Off_va _ rfl _))⟩
        · rw [bX11_cell, eX11_cell_0, fX0_hasCell_y _ _ _ hD hC.i30 hd e3 e5, hk]
          simp only [Option.bind_some, Option.toList_some, Option.toList_none, List.nil_append, List.cons_append, q_ck_tt, Bool.and_true, Bool.true_and, if_true, if_false, reduceCtorEq]
          rw [eX11_cell_9, qb_t, if_neg h10, eX11_cell_15, fX11_placeOf]
          simp only [Option.bind_some, Option.toList_some, Option.toList_none, List.nil_append, List.cons_append, q_ck_tt, Bool.and_true, Bool.true_and, if_true, if_false, reduceCtorEq]
          rw [eX11_cell_20, if_neg (by decide), if_neg (by decide), if_neg (by decide), if_pos rfl, eX11_cell_110, hv]
          simp only [Option.bind_some, Option.toList_some, Option.toList_none, List.nil_append, List.cons_append, q_ck_tt, Bool.and_true, Bool.true_and, if_true, if_false, reduceCtorEq]
          rw [eX11_cell_121, b_tst _ (by omega)]
        · rw [bX12_cell, eX12_cell_0, fX12_isCell_y _ _ _ hD (q_Core_off hC ov).m50 hd e4 e5, hk]
          simp only [Option.bind_some, Option.toList_some, Option.toList_none, List.nil_append, List.cons_append, q_ck_tt, Bool.and_true, Bool.true_and, if_true, if_false, reduceCtorEq]
          rw [eX12_cell_6, qb_t, if_neg h10, eX12_cell_12, f1]
          simp only [Option.bind_some, Option.toList_some, Option.toList_none, List.nil_append, List.cons_append, q_ck_tt, Bool.and_true, Bool.true_and, if_true, if_false, reduceCtorEq]
          rw [eX12_cell_24, f2]
          simp only [Option.bind_some, Option.toList_some, Option.toList_none, List.nil_append, List.cons_append, q_ck_tt, Bool.and_true, Bool.true_and, if_true, if_false, reduceCtorEq]
          rw [eX12_cell_28, if_neg (by decide), if_neg (by decide), if_neg (by decide), if_pos rfl, hm, eX12_cell_107, o3.r 93 (fun _ => rfl), h93, hr]
          simp only [Option.bind_some, Option.toList_some, Option.toList_none, List.nil_append, List.cons_append, q_ck_tt, Bool.and_true, Bool.true_and, if_true, if_false, reduceCtorEq]
          rw [eX12_cell_119]
      · have hop := hC.op (6 * d + c) (by omega)
        rw [decide_eq_true hx, Bool.true_and, show (6 * d + c) / 6 = d by omega, show (6 * d + c) % 6 = c by omega] at hop
        have hrv : (if I 12 (6 * d + c) = -1 then (-1 : Int32) else I 87 (6 * d + c)) = (if I 12 (6 * d + c) = -1 then (-1 : Int32) else qb (bt (I 3 11) (6 * d + c))) := by
          by_cases hn : I 12 (6 * d + c) = -1
          · rw [if_pos hn, if_pos hn]
          · rw [if_neg hn, if_neg hn, hC.bc.2.2.2.1 _ (by omega), decide_eq_true hx24, decide_eq_false hn]
            rcases ((q_Bc_1d hC.bc hx24 (by omega)).2 hn).2.2 with h | h
            · rw [h]; decide
            · rw [h]; decide
        have hlt : (I 12 (6 * d + c) < 0) ↔ I 12 (6 * d + c) = -1 := by
          rcases hC.nt hx24 (by omega) with h | ⟨n, hn, h⟩
          · rw [h]; decide
          · rw [h]
            refine ⟨fun g => absurd g (nI_pos (by omega)), fun g => ?_⟩
            have := congrArg Int32.toInt g
            rw [nI_toInt (by omega)] at this
            have h3 : ((-1) : Int32).toInt = -1 := by decide
            rw [h3] at this; omega
        refine ⟨if w = 0 then I 12 (6 * d + c) else if w = 1 then (if I 12 (6 * d + c) = -1 then -1 else qb (bt (I 3 11) (6 * d + c))) else if w = 2 then qb (bt (I 42 2) (6 * d + c)) else -2, I, I2, ?_, ?_, q_Off_refl _, o2⟩
        · simp only [bX11_cell, eX11_cell_0, eX11_cell_9, eX11_cell_12, eX11_cell_15, eX11_cell_20, eX11_cell_127, eX11_cell_110, eX11_cell_94, eX11_cell_63, eX11_cell_52, eX11_cell_121, eX11_cell_77, eX11_cell_81, eX11_cell_93, fX0_hasCell_y _ _ _ hD hC.i30 hd e3 e5, hk, Option.bind_some, Option.toList_some, Option.toList_none, List.nil_append, List.cons_append, q_ck_tt, Bool.and_true, Bool.true_and, if_true, if_false, reduceCtorEq, q_10, eq_self, qb_t, qb_f, fX11_placeOf, if_neg h3, hxc, hxi, b_tst _ (show 6 * d + c < 32 by omega)]
          (repeat' split) <;> rfl
        · have k25 : (25 : Int32) + nI d = nI (25 + d) := by rw [show (25 : Int32) = nI 25 from rfl, nI_add]
          have hha := fX12_has I2 J (3, 17, rb, tx, L) (I 93 (25 + d)) (show c < 32 by omega)
          rw [← hop.1] at hha
          rw [← hrv]
          simp only [bX12_cell, eX12_cell_0, eX12_cell_6, eX12_cell_9, eX12_cell_12, eX12_cell_24, eX12_cell_28, eX12_cell_120, eX12_cell_107, eX12_cell_90, eX12_cell_68, eX12_cell_60, eX12_cell_119, eX12_cell_103, eX12_cell_78, eX12_cell_82, eX12_cell_106, eX12_cell_89, fX12_isCell_y _ _ _ hD hC.m50 hd e4 e5, hk, Option.bind_some, Option.toList_some, Option.toList_none, List.nil_append, List.cons_append, q_ck_tt, Bool.and_true, Bool.true_and, if_true, if_false, reduceCtorEq, q_10, eq_self, qb_t, qb_f, f1, f2, hm, if_neg h3, hxc, hxi, k25, q_in_nI (show 25 + d < 65 by omega) (by omega), nI_clamp (show 25 + d < 2 ^ 31 by omega), o2.r 93 (fun _ => rfl), o2.r 86 (fun _ => rfl), o2.r 87 (fun _ => rfl), hC.bc.2.1 _ hx, hha, fX12_truth, hlt]
          (repeat' split) <;> rfl
end RD
