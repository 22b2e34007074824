/-! ===== least ===== -/
def qLk (N sn : Nat) (cnt : Nat → Nat) : Nat → Option Nat
  | 0 => none
  | k + 1 => if cnt k = sn ∧ ((qLk N sn cnt k).elim true (fun b => decide (qSt k N < qSt b N))) = true then some k else qLk N sn cnt k
def qLi : Option Nat → Int32
  | none => -1
  | some b => nI b
def qLf (N : Nat) : Option Nat → Int32
  | none => 0
  | some b => nI (qSt b N)
theorem qLk_lt {N sn : Nat} {cnt : Nat → Nat} : ∀ k b, qLk N sn cnt k = some b → b < k
  | 0, b, h => by cases h
  | k + 1, b, h => by
    rw [qLk] at h
    split at h
    · injection h with h; omega
    · have := qLk_lt k b h; omega
section LE
variable {I : Nat → Nat → Int32} {J : Nat → Nat → Int64} {e : QP} {rb tx L : Nat} {D N : Nat} {cl : Nat → Nat} {RM : Nat} {rc : Nat → Nat} {sz : Nat} {k : Nat}
theorem qAp_off {K : Nat → Nat → Int32} (o : q_Off I K) : qAp K N RM rc sz = qAp I N RM rc sz := by
  funext k i j
  unfold qAp
  rw [qRq_off o]
theorem fX6_leastKind (h : q_Core I D N cl RM rc) (ht : q_Tb I N RM rc sz) : mX6_leastKind [.ref 52, .ref 3] (qm I J e) = some (some (.int (qLi (qLk N (qSN N RM) (fun k => fb_ct (fun s => qAp I N RM rc sz k (s + 1) 0) (qSN N RM)) 3))), qm I J e) := by
  have hN := h.n6
  have h60 := qSN_60 h
  have hcl : ∀ k, fb_ct (fun s => qAp I N RM rc sz k (s + 1) 0) (qSN N RM) ≤ qSN N RM := fun k => fb_ct_le _ _
  have hst : ∀ k, k < 3 → (fun k (y : Option Nat) => kX6_leastKind 7 [some (.ref 52), some (.ref 3), some (.int (qLi y)), some (.int (qLf N y)), some (.int (nI k)), none, none] [] (qm I J e)) k (qLk N (qSN N RM) (fun k => fb_ct (fun s => qAp I N RM rc sz k (s + 1) 0) (qSN N RM)) k) = (fun k (y : Option Nat) => kX6_leastKind 7 [some (.ref 52), some (.ref 3), some (.int (qLi y)), some (.int (qLf N y)), some (.int (nI k)), none, none] [] (qm I J e)) (k + 1) (qLk N (qSN N RM) (fun k => fb_ct (fun s => qAp I N RM rc sz k (s + 1) 0) (qSN N RM)) (k + 1)) := by
    intro k hk
    have hlt := qLk_lt (N := N) (sn := qSN N RM) (cnt := fun k => fb_ct (fun s => qAp I N RM rc sz k (s + 1) 0) (qSN N RM)) k
    have hk6 := qSt_6 (k := k) hN
    show kX6_leastKind 7 _ _ _ = kX6_leastKind 7 _ _ _
    rw [qLk]
    have hcn := fX6_countFromNone (J := J) (e := e) h ht hk
    have hck := hcl k
    generalize fb_ct (fun s => qAp I N RM rc sz k (s + 1) 0) (qSN N RM) = cn at hcn hck
    generalize qLk N (qSN N RM) (fun k => fb_ct (fun s => qAp I N RM rc sz k (s + 1) 0) (qSN N RM)) k = y at hlt
    have h37t : kX6_leastKind 37 [some (.ref 52), some (.ref 3), some (.int (qLi y)), some (.int (qLf N y)), some (.int (nI k)), some (.int (nI (qSt k N))), none] [.int 1] (qm I J e) = kX6_leastKind 7 [some (.ref 52), some (.ref 3), some (.int (qLi (if cn = qSN N RM then some k else y))), some (.int (qLf N (if cn = qSN N RM then some k else y))), some (.int (nI (k + 1))), none, none] [] (qm I J e) := by
      rw [eX6_leastKind_37, if_neg (show ¬ (1 : Int32) = 0 by decide), eX6_leastKind_44, hcn]
      simp only [Option.bind_some, Option.toList_some, Option.toList_none, List.nil_append, List.cons_append, q_ck_tt, Bool.and_true, Bool.true_and, if_true, if_false, reduceCtorEq]
      rw [eX6_leastKind_51, fX0_singleCount h]
      simp only [Option.bind_some, Option.toList_some, Option.toList_none, List.nil_append, List.cons_append, q_ck_tt, Bool.and_true, Bool.true_and, if_true, if_false, reduceCtorEq]
      rw [eX6_leastKind_55]
      by_cases c : cn = qSN N RM
      · rw [if_pos (by rw [c]), if_pos c, eX6_leastKind_58, eX6_leastKind_64, nI_1]; rfl
      · rw [if_neg (fun g => c (nI_inj (by omega) (by omega) g)), if_neg c, eX6_leastKind_64, nI_1]
    rw [eX6_leastKind_7, if_pos (show nI k < (3 : Int32) from nI_lt (b := 3) hk (by decide)), eX6_leastKind_13, fX2_stepCount I J e h.st hN h.i35 hk]
    simp only [Option.bind_some, Option.toList_some, Option.toList_none, List.nil_append, List.cons_append, q_ck_tt, Bool.and_true, Bool.true_and, if_true, if_false, reduceCtorEq]
    rw [eX6_leastKind_19]
    cases y with
    | none =>
      rw [if_pos (show qLi none = -1 from rfl), eX6_leastKind_32, h37t]
      simp only [Option.elim, and_true]
    | some b =>
      have hb := hlt b rfl
      have hb6 := qSt_6 (k := b) hN
      rw [if_neg (show ¬ qLi (some b) = -1 from nI_ne1 (by omega)), eX6_leastKind_26]
      by_cases c : qSt k N < qSt b N
      · rw [if_pos (show nI (qSt k N) < qLf N (some b) from nI_lt c (by omega)), eX6_leastKind_32, h37t]
        simp only [Option.elim, decide_eq_true c, and_true]
      · rw [if_neg (show ¬ nI (qSt k N) < qLf N (some b) from nI_nlt (by omega) (by omega)), eX6_leastKind_36, eX6_leastKind_37, if_pos rfl, eX6_leastKind_64, nI_1]
        simp only [Option.elim, decide_eq_false c, Bool.false_eq_true, and_false, if_false]
  have hf := q_for (fun k (y : Option Nat) => kX6_leastKind 7 [some (.ref 52), some (.ref 3), some (.int (qLi y)), some (.int (qLf N y)), some (.int (nI k)), none, none] [] (qm I J e)) 3 (fun k => qLk N (qSN N RM) (fun k => fb_ct (fun s => qAp I N RM rc sz k (s + 1) 0) (qSN N RM)) k) hst
  rw [bX6_leastKind, eX6_leastKind_0]
  refine Eq.trans hf ?_
  show kX6_leastKind 7 _ _ _ = _
  rw [eX6_leastKind_7, if_neg (show ¬ nI 3 < (3 : Int32) by decide), eX6_leastKind_70]
theorem fX12_told0 (h : q_Core I D N cl RM rc) (hz : q_Fz I sz) (hk : k < 3) : ∃ K, mX12_told [.ref 64, .int (nI k), .int 0] (qm I J e) = some (some (.int (nI (fb_ct (fun s => qAp I N RM rc sz k (s + 1) 0) (qSN N RM)))), qm K J e) ∧ q_Off I K := by
  obtain ⟨K, l0, l1, l2, -⟩ := fX12_layTable (J := J) (e := e) h hz hk
  have c2 := q_Core_off h l2
  have hq : q_in (nI k) 3 = true := q_in_nI hk (by omega)
  have h10 : ¬ ((1 : Int32) = 0) := by decide
  have ap : ∀ i j, i ≤ qSN N RM → j ≤ qSN N RM → mX12_areApart [.ref 64, .int (nI i - 1), .int (nI j - 1)] (qm K J e) = some (some (.int (qb (qAp I N RM rc sz k i j))), qm K J e) := fun i j hi hj => by rw [fX12_areApart c2 l1 hi hj, q_ap_eq h hk hi hj]
  have ht : kX12_told 23 [some (.ref 64), some (.int (nI k)), some (.int 0), none, none, none, none] [] (qm K J e) = some (some (.int (nI (fb_ct (fun s => qAp I N RM rc sz k (s + 1) 0) (qSN N RM)))), qm K J e) := q_td_ref c2 (nI k) false ap
  refine ⟨K, ?_, l2⟩
  rw [bX12_told, eX12_told_0, fX12_isKind, hq]
  simp only [Option.bind_some, Option.toList_some, Option.toList_none, List.nil_append, List.cons_append, q_ck_tt, Bool.and_true, Bool.true_and, if_true, if_false, reduceCtorEq]
  rw [eX12_told_4, qb_t, if_neg h10, eX12_told_7, fX12_isBit, show q_in (0 : Int32) 2 = true from rfl]
  simp only [Option.bind_some, Option.toList_some, Option.toList_none, List.nil_append, List.cons_append, q_ck_tt, Bool.and_true, Bool.true_and, if_true, if_false, reduceCtorEq]
  rw [eX12_told_13, qb_t, if_neg h10, eX12_told_18, l0]
  simp only [Option.bind_some, Option.toList_some, Option.toList_none, List.nil_append, List.cons_append, q_ck_tt, Bool.and_true, Bool.true_and, if_true, if_false, reduceCtorEq]
  rw [ht]
theorem o_least (h : q_Core I D N cl RM rc) (hl : q_Lb I N RM rc) : q_Lab mX11_least mX12_least [] I J (3, 17, rb, tx, L) N RM rc := by
  have hN := h.n6
  have h60 := qSN_60 h
  obtain ⟨sz, hz⟩ : ∃ sz, q_Fz I sz := h.fo
  obtain ⟨K, k0, k1, k2, k3, k4, k5, k6⟩ := q_prep (J := J) (rb := rb) (tx := tx) (L := L) h hz hl
  have hst : ∀ k (M : Nat → Nat → Int32), k < 3 → q_Off K M → ∃ M' : Nat → Nat → Int32, q_Off K M' ∧ (fun k (M : Nat → Nat → Int32) => kX12_least 4 [some (.ref 64), some (.int (qLi (qLk N (qSN N RM) (fun k => fb_ct (fun s => qAp K N RM rc sz k (s + 1) 0) (qSN N RM)) k))), some (.int (nI k))] [] (qm M J (3, 17, rb, tx, L))) k M = (fun k (M : Nat → Nat → Int32) => kX12_least 4 [some (.ref 64), some (.int (qLi (qLk N (qSN N RM) (fun k => fb_ct (fun s => qAp K N RM rc sz k (s + 1) 0) (qSN N RM)) k))), some (.int (nI k))] [] (qm M J (3, 17, rb, tx, L))) (k + 1) M' := by
    intro k M hk oM
    have hM := q_Core_off k2 oM
    obtain ⟨M', m0, m1⟩ := fX12_told0 (J := J) (e := (3, 17, rb, tx, L)) hM (q_Fz_off k3 oM) hk
    rw [qAp_off oM] at m0
    have o2 := q_Off_trans oM m1
    have hM' := q_Core_off k2 o2
    have hlt := qLk_lt (N := N) (sn := qSN N RM) (cnt := fun k => fb_ct (fun s => qAp K N RM rc sz k (s + 1) 0) (qSN N RM)) k
    have hck : fb_ct (fun s => qAp K N RM rc sz k (s + 1) 0) (qSN N RM) ≤ qSN N RM := fb_ct_le _ _
    have hk6 := qSt_6 (k := k) hN
    refine ⟨M', o2, ?_⟩
    show kX12_least 4 _ _ _ = kX12_least 4 _ _ _
    rw [qLk]
    generalize fb_ct (fun s => qAp K N RM rc sz k (s + 1) 0) (qSN N RM) = cn at m0 hck
    generalize qLk N (qSN N RM) (fun k => fb_ct (fun s => qAp K N RM rc sz k (s + 1) 0) (qSN N RM)) k = y at hlt
    rw [eX12_least_4, if_pos (show nI k < (3 : Int32) from nI_lt (b := 3) hk (by decide)), eX12_least_9, m0]
    simp only [Option.bind_some, Option.toList_some, Option.toList_none, List.nil_append, List.cons_append, q_ck_tt, Bool.and_true, Bool.true_and, if_true, if_false, reduceCtorEq]
    rw [eX12_least_15, fX12_singleMany hM']
    simp only [Option.bind_some, Option.toList_some, Option.toList_none, List.nil_append, List.cons_append, q_ck_tt, Bool.and_true, Bool.true_and, if_true, if_false, reduceCtorEq]
    rw [eX12_least_19]
    by_cases c : cn = qSN N RM
    · rw [if_pos (by rw [c]), eX12_least_22]
      cases y with
      | none =>
        rw [if_pos (show qLi none < 0 by decide), eX12_least_39, eX12_least_41, nI_1, if_pos ⟨c, rfl⟩]
        rfl
      | some b =>
        have hb := hlt b rfl
        have hb6 := qSt_6 (k := b) hN
        have hsb : mX12_stepsOf [.ref 64, .int (qLi (some b))] (qm M' J (3, 17, rb, tx, L)) = some (some (.int (nI (qSt b N))), qm M' J (3, 17, rb, tx, L)) := fX12_stepsOf M' J _ hN hM'.m51 (by omega)
        rw [if_neg (show ¬ qLi (some b) < 0 from nI_pos (by omega)), eX12_least_26, fX12_stepsOf M' J _ hN hM'.m51 hk]
        simp only [Option.bind_some, Option.toList_some, Option.toList_none, List.nil_append, List.cons_append, q_ck_tt, Bool.and_true, Bool.true_and, if_true, if_false, reduceCtorEq]
        rw [eX12_least_31, hsb]
        simp only [Option.bind_some, Option.toList_some, Option.toList_none, List.nil_append, List.cons_append, q_ck_tt, Bool.and_true, Bool.true_and, if_true, if_false, reduceCtorEq]
        rw [eX12_least_36]
        by_cases g : qSt k N < qSt b N
        · rw [if_pos (nI_lt g (by omega)), eX12_least_39, eX12_least_41, nI_1, if_pos ⟨c, decide_eq_true g⟩]
          rfl
        · rw [if_neg (nI_nlt (by omega) (by omega)), eX12_least_41, nI_1, if_neg (fun q => g (of_decide_eq_true q.2))]
    · rw [if_neg (fun g => c (nI_inj (by omega) (by omega) g)), eX12_least_41, nI_1, if_neg (fun q => c q.1)]
  obtain ⟨M, m1, m2⟩ := q_inv_for (fun k (M : Nat → Nat → Int32) => kX12_least 4 [some (.ref 64), some (.int (qLi (qLk N (qSN N RM) (fun k => fb_ct (fun s => qAp K N RM rc sz k (s + 1) 0) (qSN N RM)) k))), some (.int (nI k))] [] (qm M J (3, 17, rb, tx, L))) (fun _ M => q_Off K M) 3 hst 3 0 K (by omega) (q_Off_refl _)
  refine ⟨qLi (qLk N (qSN N RM) (fun k => fb_ct (fun s => qAp K N RM rc sz k (s + 1) 0) (qSN N RM)) 3), K, M, ?_, ?_, k6 1004 (by decide) (by decide) (by decide) (by decide) (by decide), q_Lb_off k4 m1, q_lab_fr k5 k6 m1⟩
  · rw [bX11_least, eX11_least_0, k0]
    simp only [Option.bind_some, Option.toList_some, Option.toList_none, List.nil_append, List.cons_append, q_ck_tt, Bool.and_true, Bool.true_and, if_true, if_false, reduceCtorEq]
    rw [eX11_least_4, fX6_leastKind k2 k1]
    simp only [Option.bind_some, Option.toList_some, Option.toList_none, List.nil_append, List.cons_append, q_ck_tt, Bool.and_true, Bool.true_and, if_true, if_false, reduceCtorEq]
    rw [eX11_least_11]
  · rw [bX12_least, eX12_least_0]
    refine Eq.trans m2 ?_
    show kX12_least 4 _ _ _ = _
    rw [eX12_least_4, if_neg (show ¬ nI 3 < (3 : Int32) by decide), eX12_least_47]
end LE
