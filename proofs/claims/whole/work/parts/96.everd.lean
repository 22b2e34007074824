/-! ===== verdict, law ===== -/
section VE
variable {I : Nat → Nat → Int32} {J : Nat → Nat → Int64} {e : QP} {rb tx L : Nat} {D N : Nat} {cl : Nat → Nat} {RM : Nat} {rc : Nat → Nat} {sz : Nat} {F : Nat → Int32} {st : Nat} {an wn : Nat → Int32}
theorem q_Jc.ne (hj : q_Jc I N st an wn) (x : Nat) : ¬ an x = -1 := by
  obtain ⟨h6, -, ⟨rd, -, r2⟩, -, -⟩ := hj
  intro c
  have h1 := b_qB (fun i => bt (rd i) x) (show st ≤ 32 by omega) (show 31 < 32 by omega)
  rw [← r2, c, b_m1 31 (by omega), decide_eq_false (by omega)] at h1
  cases h1
theorem q_cm_all (hj : q_Jc I N st an wn) {w a : Int32} (hs : ∃ x, x < 24 ∧ bt w x = true) (ha : ∀ x, x < 24 → bt w x = true → an x = a) : mX5_commonAnswer [.ref 48, .int w] (qm I J e) = some (some (.int a), qm I J e) := by
  have hst : ∀ x, x < 24 → (fun x (y : Int32) => kX5_commonAnswer 4 [some (.ref 48), some (.int w), some (.int y), some (.int (nI x)), none] [] (qm I J e)) x (if qAny x (bt w) then a else -1) = (fun x (y : Int32) => kX5_commonAnswer 4 [some (.ref 48), some (.int w), some (.int y), some (.int (nI x)), none] [] (qm I J e)) (x + 1) (if qAny (x + 1) (bt w) then a else -1) := by
    intro x hx
    show kX5_commonAnswer 4 _ _ _ = kX5_commonAnswer 4 [some (.ref 48), some (.int w), some (.int (if (qAny x (bt w) || bt w x) then a else -1)), some (.int (nI (x + 1))), none] [] (qm I J e)
    rw [eX5_commonAnswer_4, if_pos (show nI x < (24 : Int32) from nI_lt (b := 24) hx (by decide)), eX5_commonAnswer_10, b_tst _ (by omega)]
    cases hb : bt w x with
    | false => rw [if_pos qb_f, eX5_commonAnswer_41, nI_1, Bool.or_false]
    | true =>
      have h1 := ha x hx hb
      have h2 := hj.ne x
      rw [if_neg (show ¬ qb true = 0 by decide), eX5_commonAnswer_18, fX5_answerAt hj (by omega), h1, Bool.or_true, if_pos rfl]
      rw [h1] at h2
      simp only [Option.bind_some, Option.toList_some, Option.toList_none, List.nil_append, List.cons_append, q_ck_tt, Bool.and_true, Bool.true_and, if_true, if_false, reduceCtorEq]
      rw [eX5_commonAnswer_23]
      cases hq : qAny x (bt w) with
      | false => rw [if_neg Bool.false_ne_true, if_pos rfl, eX5_commonAnswer_38, eX5_commonAnswer_41, nI_1]
      | true => rw [if_pos (show true = true from rfl), if_neg h2, eX5_commonAnswer_30, if_pos rfl, eX5_commonAnswer_38, eX5_commonAnswer_41, nI_1]
  have hf := q_for (fun x (y : Int32) => kX5_commonAnswer 4 [some (.ref 48), some (.int w), some (.int y), some (.int (nI x)), none] [] (qm I J e)) 24 (fun x => if qAny x (bt w) then a else -1) hst
  have hq : qAny 24 (bt w) = true := qAny_iff.mpr hs
  rw [bX5_commonAnswer, eX5_commonAnswer_0]
  refine Eq.trans hf ?_
  show kX5_commonAnswer 4 _ _ _ = _
  rw [hq, if_pos rfl, eX5_commonAnswer_4, if_neg (show ¬ nI 24 < (24 : Int32) by decide), eX5_commonAnswer_47]
theorem q_cm_not (hj : q_Jc I N st an wn) {w : Int32} {x0 y0 : Nat} (hx0 : bt w x0 = true) (hx1 : ∀ j, j < x0 → ¬ bt w j = true) (hy : y0 < 24) (hy0 : bt w y0 = true) (hy1 : ¬ an y0 = an x0) (hy2 : ∀ j, j < y0 → ¬ (bt w j = true ∧ ¬ an j = an x0)) : mX5_commonAnswer [.ref 48, .int w] (qm I J e) = some (some (.int (-1)), qm I J e) := by
  have hlt : x0 < y0 := by
    rcases Nat.lt_trichotomy x0 y0 with c | c | c
    · exact c
    · rw [c] at hy1; exact absurd rfl hy1
    · exact absurd hy0 (hx1 y0 c)
  have hst : ∀ x, x < y0 → (fun x (y : Int32) => kX5_commonAnswer 4 [some (.ref 48), some (.int w), some (.int y), some (.int (nI x)), none] [] (qm I J e)) x (if x ≤ x0 then -1 else an x0) = (fun x (y : Int32) => kX5_commonAnswer 4 [some (.ref 48), some (.int w), some (.int y), some (.int (nI x)), none] [] (qm I J e)) (x + 1) (if x + 1 ≤ x0 then -1 else an x0) := by
    intro x hx
    show kX5_commonAnswer 4 _ _ _ = kX5_commonAnswer 4 _ _ _
    rw [eX5_commonAnswer_4, if_pos (show nI x < (24 : Int32) from nI_lt (b := 24) (by omega) (by decide)), eX5_commonAnswer_10, b_tst _ (by omega)]
    cases hb : bt w x with
    | false =>
      have hne : x ≠ x0 := fun c => by rw [c, hx0] at hb; cases hb
      rw [if_pos qb_f, eX5_commonAnswer_41, nI_1]
      by_cases c : x ≤ x0
      · rw [if_pos c, if_pos (show x + 1 ≤ x0 by omega)]
      · rw [if_neg c, if_neg (show ¬ x + 1 ≤ x0 by omega)]
    | true =>
      have hge : x0 ≤ x := by
        rcases Nat.lt_or_ge x x0 with c | c
        · exact absurd hb (hx1 x c)
        · exact c
      rw [if_neg (show ¬ qb true = 0 by decide), eX5_commonAnswer_18, fX5_answerAt hj (by omega)]
      simp only [Option.bind_some, Option.toList_some, Option.toList_none, List.nil_append, List.cons_append, q_ck_tt, Bool.and_true, Bool.true_and, if_true, if_false, reduceCtorEq]
      rw [eX5_commonAnswer_23, if_neg (show ¬ x + 1 ≤ x0 by omega)]
      by_cases c : x = x0
      · rw [if_pos (show x ≤ x0 by omega), if_pos rfl, eX5_commonAnswer_38, eX5_commonAnswer_41, nI_1, c]
      · have h1 : an x = an x0 := Classical.byContradiction (fun g => hy2 x hx ⟨hb, g⟩)
        rw [if_neg (show ¬ x ≤ x0 by omega), if_neg (hj.ne x0), eX5_commonAnswer_30, if_pos h1.symm, eX5_commonAnswer_38, eX5_commonAnswer_41, nI_1, h1]
  have hf := q_for (fun x (y : Int32) => kX5_commonAnswer 4 [some (.ref 48), some (.int w), some (.int y), some (.int (nI x)), none] [] (qm I J e)) y0 (fun x => if x ≤ x0 then -1 else an x0) hst
  rw [if_pos (Nat.zero_le _)] at hf
  rw [bX5_commonAnswer, eX5_commonAnswer_0]
  refine Eq.trans hf ?_
  show kX5_commonAnswer 4 _ _ _ = _
  rw [if_neg (show ¬ y0 ≤ x0 by omega), eX5_commonAnswer_4, if_pos (show nI y0 < (24 : Int32) from nI_lt (b := 24) hy (by decide)), eX5_commonAnswer_10, b_tst _ (by omega), hy0, if_neg (show ¬ qb true = 0 by decide), eX5_commonAnswer_18, fX5_answerAt hj (by omega)]
  simp only [Option.bind_some, Option.toList_some, Option.toList_none, List.nil_append, List.cons_append, q_ck_tt, Bool.and_true, Bool.true_and, if_true, if_false, reduceCtorEq]
  rw [eX5_commonAnswer_23, if_neg (hj.ne x0), eX5_commonAnswer_30, if_neg (fun g => hy1 g.symm), eX5_commonAnswer_36]
theorem q_w0 (h : q_Core I D N cl RM rc) {w : Int32} {g : Nat → Bool} (hw : ∀ x, x < 32 → bt w x = (bt (I 3 11) x && g x)) : w = 0 ↔ qAny RM (fun r => g (rc r)) = false := by
  rw [q_any_rc h g]
  constructor
  · intro c
    cases hc : qAny 24 (fun x => bt (I 3 11) x && g x) with
    | false => rfl
    | true =>
      obtain ⟨x, hx, hg⟩ := qAny_iff.mp hc
      rw [← hw x (by omega), c, b_0] at hg
      cases hg
  · intro c
    refine b_zero.mpr (fun x hx => ?_)
    rw [hw x hx]
    cases hA : bt (I 3 11) x with
    | false => rfl
    | true =>
      cases hg : g x with
      | false => rfl
      | true =>
        have : qAny 24 (fun x => bt (I 3 11) x && g x) = true := qAny_iff.mpr ⟨x, h.a24 hA, by rw [hA, hg]; rfl⟩
        rw [c] at this
        cases this
/-- what all receivers tell of a net -/
def qVd (I : Nat → Nat → Int32) (RM : Nat) (rc : Nat → Nat) (an wn : Nat → Int32) (st n r0 : Nat) : Int32 :=
  if qAny RM (fun r => decide (qNn I (rc r) = n) && !qGz I an wn (rc r)) = false then 0
  else if qAny RM (fun r => decide (qNn I (rc r) = n) && !decide (an (rc r) = an (rc r0))) = false then
    (if an (rc r0) = 0 then 1 else if an (rc r0) = ((1 : Int32) <<< (nI st &&& 31)) - 1 then 2 else if qAny RM (fun r => !decide (qNn I (rc r) = n) && decide (an (rc r) = an (rc r0))) = true then 3 else 4)
  else 4
theorem fX5_verdictOf (h : q_Core I D N cl RM rc) (hj : q_Jc I N st an wn) {n r0 : Nat} (hn : n < N) (hr0 : r0 < RM) (hr1 : qNn I (rc r0) = n) : mX5_verdictOf [.ref 48, .ref 3, .int (nI n)] (qm I J e) = some (some (.int (qVd I RM rc an wn st n r0)), qm I J e) := by
  have hN := h.n6
  have hw := q_w0 h (w := I 10 n &&& (I 48 3 ^^^ (-1))) (g := fun x => decide (qNn I x = n) && !qGz I an wn x) (fun x hx => q_own h hj hn hx)
  obtain ⟨-, x24, xA, -⟩ := h.br.2.2.1 r0 hr0
  have hb0 : bt (I 10 n) (rc r0) = true := by rw [q_rcv h hn (by omega), xA, decide_eq_true hr1]; rfl
  rw [bX5_verdictOf, eX5_verdictOf_0, q_in_nI (show n < 6 by omega) (by omega), nI_clamp (by omega)]
  simp only [Option.bind_some, Option.toList_some, Option.toList_none, List.nil_append, List.cons_append, q_ck_tt, Bool.and_true, Bool.true_and, if_true, if_false, reduceCtorEq]
  unfold qVd
  by_cases c1 : qAny RM (fun r => decide (qNn I (rc r) = n) && !qGz I an wn (rc r)) = false
  · rw [if_pos (hw.mpr c1), if_pos c1, eX5_verdictOf_18]
  · rw [if_neg (fun g => c1 (hw.mp g)), if_neg c1, eX5_verdictOf_20]
    by_cases c2 : qAny RM (fun r => decide (qNn I (rc r) = n) && !decide (an (rc r) = an (rc r0))) = false
    · have hall : ∀ x, x < 24 → bt (I 10 n) x = true → an x = an (rc r0) := by
        intro x hx hb
        rw [q_rcv h hn (by omega), Bool.and_eq_true] at hb
        obtain ⟨r, hr, hrx⟩ := h.rcof hx hb.1
        by_cases c : an x = an (rc r0)
        · exact c
        · have : qAny RM (fun r => decide (qNn I (rc r) = n) && !decide (an (rc r) = an (rc r0))) = true := qAny_iff.mpr ⟨r, hr, by rw [hrx, hb.2, decide_eq_false c]; rfl⟩
          rw [c2] at this
          cases this
      rw [if_pos c2, q_cm_all hj ⟨_, x24, hb0⟩ hall]
      simp only [Option.bind_some, Option.toList_some, Option.toList_none, List.nil_append, List.cons_append, q_ck_tt, Bool.and_true, Bool.true_and, if_true, if_false, reduceCtorEq]
      rw [eX5_verdictOf_25, if_neg (hj.ne _), eX5_verdictOf_35]
      by_cases c3 : an (rc r0) = 0
      · rw [if_pos c3, if_pos c3, eX5_verdictOf_40]
      · rw [if_neg c3, if_neg c3, eX5_verdictOf_42, hj.2.1]
        by_cases c4 : an (rc r0) = ((1 : Int32) <<< (nI st &&& 31)) - 1
        · rw [if_pos c4, if_pos c4, eX5_verdictOf_55]
        · have hoth : qAny 24 (fun x => bt (I 3 11 &&& (I 10 n ^^^ (-1))) x && decide (an x = an (rc r0))) = qAny RM (fun r => !decide (qNn I (rc r) = n) && decide (an (rc r) = an (rc r0))) := by
            refine Eq.trans (qAny_cong (fun x hx => ?_)) (q_any_rc h (fun x => !decide (qNn I x = n) && decide (an x = an (rc r0)))).symm
            rw [b_and, b_not _ (by omega), q_rcv h hn (by omega)]
            cases bt (I 3 11) x <;> cases decide (qNn I x = n) <;> rfl
          rw [if_neg c4, if_neg c4, eX5_verdictOf_57, fX5_isAnswerAmong hj, hoth]
          simp only [Option.bind_some, Option.toList_some, Option.toList_none, List.nil_append, List.cons_append, q_ck_tt, Bool.and_true, Bool.true_and, if_true, if_false, reduceCtorEq]
          rw [eX5_verdictOf_71]
          cases qAny RM (fun r => !decide (qNn I (rc r) = n) && decide (an (rc r) = an (rc r0))) with
          | false => rw [if_pos qb_f, eX5_verdictOf_78, eX5_verdictOf_79]; rfl
          | true => rw [if_neg (show ¬ qb true = 0 by decide), eX5_verdictOf_74, eX5_verdictOf_79]; rfl
    · rw [if_neg c2]
      obtain ⟨x0, hx0, hx1, hx2⟩ := fb_first (p := fun x => bt (I 10 n) x = true) (n := 24) ⟨_, x24, hb0⟩
      have hex : ∃ y, y < 24 ∧ (bt (I 10 n) y = true ∧ ¬ an y = an x0) := by
        by_cases c : an (rc r0) = an x0
        · obtain ⟨r, hr, hg⟩ := qAny_iff.mp (show qAny RM (fun r => decide (qNn I (rc r) = n) && !decide (an (rc r) = an (rc r0))) = true by
            cases hc : qAny RM (fun r => decide (qNn I (rc r) = n) && !decide (an (rc r) = an (rc r0))) with
            | false => exact absurd hc c2
            | true => rfl)
          rw [Bool.and_eq_true] at hg
          obtain ⟨-, y24, yA, -⟩ := h.br.2.2.1 r hr
          refine ⟨rc r, y24, by rw [q_rcv h hn (by omega), yA, hg.1]; rfl, fun g => ?_⟩
          rw [g, ← c, decide_eq_true rfl] at hg
          exact absurd hg.2 (by decide)
        · exact ⟨_, x24, hb0, c⟩
      obtain ⟨y0, hy0, hy1, hy2⟩ := fb_first (p := fun y => bt (I 10 n) y = true ∧ ¬ an y = an x0) (n := 24) hex
      rw [q_cm_not hj hx1 hx2 hy0 hy1.1 hy1.2 hy2]
      simp only [Option.bind_some, Option.toList_some, Option.toList_none, List.nil_append, List.cons_append, q_ck_tt, Bool.and_true, Bool.true_and, if_true, if_false, reduceCtorEq]
      rw [eX5_verdictOf_25, if_pos rfl, eX5_verdictOf_33]
theorem q_ve_ref (h : q_Core I D N cl RM rc) (hj : q_Jf I N RM rc an wn) {k n r0 : Nat} (hk : k < 3) (hn : n < N) (hr0 : r0 < RM) (hr1 : qNn I (rc r0) = n) (hr2 : ∀ r, r < r0 → ¬ qNn I (rc r) = n) : kX12_verdict 22 [some (.ref 64), some (.int (nI k)), some (.int (nI n)), none, none, none, none, none, none, none, none] [] (qm I J e) = some (some (.int (qVd I RM rc an wn (qSt k N) n r0)), qm I J e) := by
  have hN := h.n6
  have h18 := h.br.2.1
  have h10 : ¬ ((1 : Int32) = 0) := by decide
  have nz : ∀ b : Bool, (qb b = 0) ↔ b = false := qb_0
  have hst : ∀ r, r < RM → (fun r (y : (Bool × Bool) × ((Bool × Bool) × Int32)) => kX12_verdict 50 [some (.ref 64), none, some (.int (nI n)), some (.int (((1 : Int32) <<< (nI (qSt k N) &&& 31)) - 1)), some (.int (qb y.1.1)), some (.int (qb y.1.2)), some (.int (qb y.2.1.1)), some (.int (qb y.2.1.2)), some (.int y.2.2), some (.int (nI r)), none] [] (qm I J e)) r ((!qAny r (fun r => decide (qNn I (rc r) = n) && !qGz I an wn (rc r)), !qAny r (fun r => decide (qNn I (rc r) = n) && !decide (an (rc r) = 0))), (!qAny r (fun r => decide (qNn I (rc r) = n) && !decide (an (rc r) = ((1 : Int32) <<< (nI (qSt k N) &&& 31)) - 1)), !qAny r (fun r => decide (qNn I (rc r) = n) && !decide (an (rc r) = an (rc r0)))), (if r ≤ r0 then -1 else nI r0)) = (fun r (y : (Bool × Bool) × ((Bool × Bool) × Int32)) => kX12_verdict 50 [some (.ref 64), none, some (.int (nI n)), some (.int (((1 : Int32) <<< (nI (qSt k N) &&& 31)) - 1)), some (.int (qb y.1.1)), some (.int (qb y.1.2)), some (.int (qb y.2.1.1)), some (.int (qb y.2.1.2)), some (.int y.2.2), some (.int (nI r)), none] [] (qm I J e)) (r + 1) ((!qAny (r + 1) (fun r => decide (qNn I (rc r) = n) && !qGz I an wn (rc r)), !qAny (r + 1) (fun r => decide (qNn I (rc r) = n) && !decide (an (rc r) = 0))), (!qAny (r + 1) (fun r => decide (qNn I (rc r) = n) && !decide (an (rc r) = ((1 : Int32) <<< (nI (qSt k N) &&& 31)) - 1)), !qAny (r + 1) (fun r => decide (qNn I (rc r) = n) && !decide (an (rc r) = an (rc r0)))), (if r + 1 ≤ r0 then -1 else nI r0)) := by
    intro r hr
    obtain ⟨n1, n2⟩ := h.nn (h.br.2.2.1 r hr).2.2.1
    have hsu : ∀ p : Nat → Bool, qAny (r + 1) p = (qAny r p || p r) := fun p => rfl
    dsimp only
    rw [hsu, hsu, hsu, hsu]
    generalize qAny r (fun r => decide (qNn I (rc r) = n) && !qGz I an wn (rc r)) = yg
    generalize qAny r (fun r => decide (qNn I (rc r) = n) && !decide (an (rc r) = 0)) = yl
    generalize qAny r (fun r => decide (qNn I (rc r) = n) && !decide (an (rc r) = ((1 : Int32) <<< (nI (qSt k N) &&& 31)) - 1)) = yh
    generalize qAny r (fun r => decide (qNn I (rc r) = n) && !decide (an (rc r) = an (rc r0))) = yk
    generalize ((1 : Int32) <<< (nI (qSt k N) &&& 31)) - 1 = al
    rw [eX12_verdict_50, h.br.1, if_pos (nI_lt hr (by omega)), eX12_verdict_59, fX12_netAt h hr]
    simp only [Option.bind_some, Option.toList_some, Option.toList_none, List.nil_append, List.cons_append, q_ck_tt, Bool.and_true, Bool.true_and, if_true, if_false, reduceCtorEq]
    rw [eX12_verdict_65]
    by_cases c : qNn I (rc r) = n
    · have hge : r0 ≤ r := by
        rcases Nat.lt_or_ge r r0 with g | g
        · exact absurd c (hr2 r g)
        · exact g
      have hfirst : kX12_verdict 72 [some (.ref 64), none, some (.int (nI n)), some (.int al), some (.int (qb (!yg))), some (.int (qb (!yl))), some (.int (qb (!yh))), some (.int (qb (!yk))), some (.int (if r ≤ r0 then -1 else nI r0)), some (.int (nI r)), none] [] (qm I J e) = kX12_verdict 84 [some (.ref 64), none, some (.int (nI n)), some (.int al), some (.int (qb (!yg))), some (.int (qb (!yl))), some (.int (qb (!yh))), some (.int (qb (!yk))), none, some (.int (nI r)), none] [.int (nI r0)] (qm I J e) := by
        by_cases g : r = r0
        · rw [if_pos (show r ≤ r0 by omega), eX12_verdict_72, if_pos (by decide), eX12_verdict_77, g]
        · rw [if_neg (show ¬ r ≤ r0 by omega), eX12_verdict_72, if_neg (nI_pos (by omega)), eX12_verdict_82]
      have s1 : ∀ l2 l3 l4 : Int32, kX12_verdict 84 [some (.ref 64), none, some (.int (nI n)), some (.int al), some (.int (qb (!yg))), some (.int l2), some (.int l3), some (.int l4), none, some (.int (nI r)), none] [.int (nI r0)] (qm I J e) = kX12_verdict 105 [some (.ref 64), none, some (.int (nI n)), some (.int al), none, some (.int l2), some (.int l3), some (.int l4), some (.int (nI r0)), some (.int (nI r)), none] [.int (qb (!(yg || !qGz I an wn (rc r))))] (qm I J e) := by
        intro l2 l3 l4
        rw [eX12_verdict_84]
        cases yg with
        | true => rw [if_pos (show qb (!true) = 0 from rfl), eX12_verdict_104]; rfl
        | false =>
          rw [if_neg (show ¬ qb (!false) = 0 by decide), eX12_verdict_91, fX12_isGood h hj hr]
          simp only [Option.bind_some, Option.toList_some, Option.toList_none, List.nil_append, List.cons_append, q_ck_tt, Bool.and_true, Bool.true_and, if_true, if_false, reduceCtorEq]
          rw [eX12_verdict_97]
          cases qGz I an wn (rc r) with
          | false => rw [if_pos qb_f, eX12_verdict_104]; rfl
          | true => rw [if_neg (show ¬ qb true = 0 by decide), eX12_verdict_100]; rfl
      have s2 : ∀ l1 l3 l4 : Int32, kX12_verdict 105 [some (.ref 64), none, some (.int (nI n)), some (.int al), none, some (.int (qb (!yl))), some (.int l3), some (.int l4), some (.int (nI r0)), some (.int (nI r)), none] [.int l1] (qm I J e) = kX12_verdict 127 [some (.ref 64), none, some (.int (nI n)), some (.int al), some (.int l1), none, some (.int l3), some (.int l4), some (.int (nI r0)), some (.int (nI r)), none] [.int (qb (!(yl || !decide (an (rc r) = 0))))] (qm I J e) := by
        intro l1 l3 l4
        rw [eX12_verdict_105]
        cases yl with
        | true => rw [if_pos (show qb (!true) = 0 from rfl), eX12_verdict_126]; rfl
        | false =>
          rw [if_neg (show ¬ qb (!false) = 0 by decide), eX12_verdict_112, q_in_nI (show r < 24 by omega) (by omega), nI_clamp (by omega), hj.2 r hr]
          simp only [Option.bind_some, Option.toList_some, Option.toList_none, List.nil_append, List.cons_append, q_ck_tt, Bool.and_true, Bool.true_and, if_true, if_false, reduceCtorEq]
          by_cases g : an (rc r) = 0
          · rw [if_pos g, eX12_verdict_122, decide_eq_true g]; rfl
          · rw [if_neg g, eX12_verdict_126, decide_eq_false g]; rfl
      have s3 : ∀ l1 l2 l4 : Int32, kX12_verdict 127 [some (.ref 64), none, some (.int (nI n)), some (.int al), some (.int l1), none, some (.int (qb (!yh))), some (.int l4), some (.int (nI r0)), some (.int (nI r)), none] [.int l2] (qm I J e) = kX12_verdict 150 [some (.ref 64), none, some (.int (nI n)), some (.int al), some (.int l1), some (.int l2), none, some (.int l4), some (.int (nI r0)), some (.int (nI r)), none] [.int (qb (!(yh || !decide (an (rc r) = al))))] (qm I J e) := by
        intro l1 l2 l4
        rw [eX12_verdict_127]
        cases yh with
        | true => rw [if_pos (show qb (!true) = 0 from rfl), eX12_verdict_149]; rfl
        | false =>
          rw [if_neg (show ¬ qb (!false) = 0 by decide), eX12_verdict_134, q_in_nI (show r < 24 by omega) (by omega), nI_clamp (by omega), hj.2 r hr]
          simp only [Option.bind_some, Option.toList_some, Option.toList_none, List.nil_append, List.cons_append, q_ck_tt, Bool.and_true, Bool.true_and, if_true, if_false, reduceCtorEq]
          by_cases g : an (rc r) = al
          · rw [if_pos g, eX12_verdict_145, decide_eq_true g]; rfl
          · rw [if_neg g, eX12_verdict_149, decide_eq_false g]; rfl
      have s4 : ∀ l1 l2 l3 : Int32, kX12_verdict 150 [some (.ref 64), none, some (.int (nI n)), some (.int al), some (.int l1), some (.int l2), none, some (.int (qb (!yk))), some (.int (nI r0)), some (.int (nI r)), none] [.int l3] (qm I J e) = kX12_verdict 179 [some (.ref 64), none, some (.int (nI n)), some (.int al), some (.int l1), some (.int l2), some (.int l3), none, some (.int (nI r0)), some (.int (nI r)), none] [.int (qb (!(yk || !decide (an (rc r) = an (rc r0)))))] (qm I J e) := by
        intro l1 l2 l3
        rw [eX12_verdict_150]
        cases yk with
        | true => rw [if_pos (show qb (!true) = 0 from rfl), eX12_verdict_178]; rfl
        | false =>
          rw [if_neg (show ¬ qb (!false) = 0 by decide), eX12_verdict_157, q_in_nI (show r < 24 by omega) (by omega), q_in_nI (show r0 < 24 by omega) (by omega), nI_clamp (show r < 2 ^ 31 by omega), nI_clamp (show r0 < 2 ^ 31 by omega), hj.2 r hr, hj.2 r0 hr0]
          simp only [Option.bind_some, Option.toList_some, Option.toList_none, List.nil_append, List.cons_append, q_ck_tt, Bool.and_true, Bool.true_and, if_true, if_false, reduceCtorEq]
          by_cases g : an (rc r) = an (rc r0)
          · rw [if_pos g, eX12_verdict_174, decide_eq_true g]; rfl
          · rw [if_neg g, eX12_verdict_178, decide_eq_false g]; rfl
      rw [if_pos (by rw [c]), hfirst, s1, s2, s3, s4, eX12_verdict_179, eX12_verdict_181, nI_1, decide_eq_true c, Bool.true_and, Bool.true_and, Bool.true_and, Bool.true_and, if_neg (show ¬ r + 1 ≤ r0 by omega)]
    · have hne : r ≠ r0 := fun g => c (by rw [g]; exact hr1)
      rw [if_neg (fun g => c (nI_inj (by omega) (by omega) g)), eX12_verdict_69, eX12_verdict_181, nI_1, decide_eq_false c, Bool.false_and, Bool.false_and, Bool.false_and, Bool.false_and, Bool.or_false, Bool.or_false, Bool.or_false, Bool.or_false]
      by_cases g : r ≤ r0
      · rw [if_pos g, if_pos (show r + 1 ≤ r0 by omega)]
      · rw [if_neg g, if_neg (show ¬ r + 1 ≤ r0 by omega)]
  have hf := q_for (fun r (y : (Bool × Bool) × ((Bool × Bool) × Int32)) => kX12_verdict 50 [some (.ref 64), none, some (.int (nI n)), some (.int (((1 : Int32) <<< (nI (qSt k N) &&& 31)) - 1)), some (.int (qb y.1.1)), some (.int (qb y.1.2)), some (.int (qb y.2.1.1)), some (.int (qb y.2.1.2)), some (.int y.2.2), some (.int (nI r)), none] [] (qm I J e)) RM (fun r => ((!qAny r (fun r => decide (qNn I (rc r) = n) && !qGz I an wn (rc r)), !qAny r (fun r => decide (qNn I (rc r) = n) && !decide (an (rc r) = 0))), (!qAny r (fun r => decide (qNn I (rc r) = n) && !decide (an (rc r) = ((1 : Int32) <<< (nI (qSt k N) &&& 31)) - 1)), !qAny r (fun r => decide (qNn I (rc r) = n) && !decide (an (rc r) = an (rc r0)))), (if r ≤ r0 then -1 else nI r0))) hst
  dsimp only at hf
  rw [if_pos (Nat.zero_le _), if_neg (show ¬ RM ≤ r0 by omega)] at hf
  have key : ∀ g l hh kk : Bool, kX12_verdict 187 [some (.ref 64), none, some (.int (nI n)), none, some (.int (qb g)), some (.int (qb l)), some (.int (qb hh)), some (.int (qb kk)), some (.int (nI r0)), none, none] [] (qm I J e) = some (some (.int (if g then 0 else if l then 1 else if hh then 2 else if kk && qAny RM (fun r => !decide (qNn I (rc r) = n) && decide (an (rc r) = an (rc r0))) then 3 else 4)), qm I J e) := by
    intro g l hh kk
    have hs2 : ∀ r, r < RM → (fun r (y : Bool) => kX12_verdict 193 [some (.ref 64), none, some (.int (nI n)), none, some (.int (qb g)), some (.int (qb l)), some (.int (qb hh)), some (.int (qb kk)), some (.int (nI r0)), some (.int (qb y)), some (.int (nI r))] [] (qm I J e)) r (qAny r (fun r => !decide (qNn I (rc r) = n) && decide (an (rc r) = an (rc r0)))) = (fun r (y : Bool) => kX12_verdict 193 [some (.ref 64), none, some (.int (nI n)), none, some (.int (qb g)), some (.int (qb l)), some (.int (qb hh)), some (.int (qb kk)), some (.int (nI r0)), some (.int (qb y)), some (.int (nI r))] [] (qm I J e)) (r + 1) (qAny (r + 1) (fun r => !decide (qNn I (rc r) = n) && decide (an (rc r) = an (rc r0)))) := by
      intro r hr
      obtain ⟨n1, n2⟩ := h.nn (h.br.2.2.1 r hr).2.2.1
      show kX12_verdict 193 _ _ _ = kX12_verdict 193 [some (.ref 64), none, some (.int (nI n)), none, some (.int (qb g)), some (.int (qb l)), some (.int (qb hh)), some (.int (qb kk)), some (.int (nI r0)), some (.int (qb (qAny r (fun r => !decide (qNn I (rc r) = n) && decide (an (rc r) = an (rc r0))) || (!decide (qNn I (rc r) = n) && decide (an (rc r) = an (rc r0)))))), some (.int (nI (r + 1)))] [] (qm I J e)
      generalize qAny r (fun r => !decide (qNn I (rc r) = n) && decide (an (rc r) = an (rc r0))) = yo
      rw [eX12_verdict_193, h.br.1, if_pos (nI_lt hr (by omega)), eX12_verdict_202]
      cases yo with
      | true => rw [if_neg (show ¬ qb true = 0 by decide), eX12_verdict_234, eX12_verdict_239, nI_1, Bool.true_or]; rfl
      | false =>
        rw [if_pos qb_f, eX12_verdict_207, fX12_netAt h hr, Bool.false_or]
        simp only [Option.bind_some, Option.toList_some, Option.toList_none, List.nil_append, List.cons_append, q_ck_tt, Bool.and_true, Bool.true_and, if_true, if_false, reduceCtorEq]
        rw [eX12_verdict_213]
        by_cases c : qNn I (rc r) = n
        · rw [if_pos (by rw [c]), eX12_verdict_238, eX12_verdict_239, nI_1, decide_eq_true c]; rfl
        · rw [if_neg (fun g => c (nI_inj (by omega) (by omega) g)), eX12_verdict_217, q_in_nI (show r < 24 by omega) (by omega), q_in_nI (show r0 < 24 by omega) (by omega), nI_clamp (show r < 2 ^ 31 by omega), nI_clamp (show r0 < 2 ^ 31 by omega), hj.2 r hr, hj.2 r0 hr0, decide_eq_false c]
          simp only [Option.bind_some, Option.toList_some, Option.toList_none, List.nil_append, List.cons_append, q_ck_tt, Bool.and_true, Bool.true_and, if_true, if_false, reduceCtorEq]
          by_cases g : an (rc r) = an (rc r0)
          · rw [if_pos g, eX12_verdict_234, eX12_verdict_239, nI_1, decide_eq_true g]; rfl
          · rw [if_neg g, eX12_verdict_238, eX12_verdict_239, nI_1, decide_eq_false g]; rfl
    have hf2 := q_for (fun r (y : Bool) => kX12_verdict 193 [some (.ref 64), none, some (.int (nI n)), none, some (.int (qb g)), some (.int (qb l)), some (.int (qb hh)), some (.int (qb kk)), some (.int (nI r0)), some (.int (qb y)), some (.int (nI r))] [] (qm I J e)) RM (fun r => qAny r (fun r => !decide (qNn I (rc r) = n) && decide (an (rc r) = an (rc r0)))) hs2
    rw [eX12_verdict_187]
    refine Eq.trans hf2 ?_
    show kX12_verdict 193 _ _ _ = _
    rw [eX12_verdict_193, h.br.1, if_neg (nI_nlt (Nat.le_refl _) (by omega)), eX12_verdict_247]
    generalize qAny RM (fun r => !decide (qNn I (rc r) = n) && decide (an (rc r) = an (rc r0))) = yo
    cases g with
    | true => rw [if_neg (show ¬ qb true = 0 by decide), eX12_verdict_252, eX12_verdict_289]; rfl
    | false =>
      rw [if_pos qb_f, eX12_verdict_256]
      cases l with
      | true => rw [if_neg (show ¬ qb true = 0 by decide), eX12_verdict_261, eX12_verdict_289]; rfl
      | false =>
        rw [if_pos qb_f, eX12_verdict_265]
        cases hh with
        | true => rw [if_neg (show ¬ qb true = 0 by decide), eX12_verdict_270, eX12_verdict_289]; rfl
        | false =>
          rw [if_pos qb_f, eX12_verdict_274]
          cases kk with
          | false => rw [if_pos qb_f, eX12_verdict_288, eX12_verdict_289]; rfl
          | true =>
            rw [if_neg (show ¬ qb true = 0 by decide), eX12_verdict_279]
            cases yo with
            | false => rw [if_pos qb_f, eX12_verdict_288, eX12_verdict_289]; rfl
            | true => rw [if_neg (show ¬ qb true = 0 by decide), eX12_verdict_284, eX12_verdict_289]; rfl
  rw [eX12_verdict_22, fX12_stepsOf I J e hN h.m51 hk]
  simp only [Option.bind_some, Option.toList_some, Option.toList_none, List.nil_append, List.cons_append, q_ck_tt, Bool.and_true, Bool.true_and, if_true, if_false, reduceCtorEq]
  rw [eX12_verdict_28, eX12_verdict_47]
  refine Eq.trans hf ?_
  rw [eX12_verdict_50, h.br.1, if_neg (nI_nlt (Nat.le_refl _) (by omega)), key]
  congr 4
  unfold qVd
  cases hyg : qAny RM (fun r => decide (qNn I (rc r) = n) && !qGz I an wn (rc r)) with
  | false => rfl
  | true =>
    rw [if_neg (show ¬ (!true) = true by decide), if_neg (show ¬ true = false by decide)]
    have hz : ∀ v : Int32, qAny RM (fun r => decide (qNn I (rc r) = n) && !decide (an (rc r) = v)) = false → an (rc r0) = v ∧ qAny RM (fun r => decide (qNn I (rc r) = n) && !decide (an (rc r) = an (rc r0))) = false := by
      intro v hv
      have ho : ∀ r, r < RM → qNn I (rc r) = n → an (rc r) = v := by
        intro r hr hrn
        by_cases g : an (rc r) = v
        · exact g
        · have : qAny RM (fun r => decide (qNn I (rc r) = n) && !decide (an (rc r) = v)) = true := qAny_iff.mpr ⟨r, hr, by rw [decide_eq_true hrn, decide_eq_false g]; rfl⟩
          rw [hv] at this
          cases this
      have h0 := ho r0 hr0 hr1
      rw [h0]
      exact ⟨rfl, hv⟩
    cases hyk : qAny RM (fun r => decide (qNn I (rc r) = n) && !decide (an (rc r) = an (rc r0))) with
    | true =>
      have hl : qAny RM (fun r => decide (qNn I (rc r) = n) && !decide (an (rc r) = 0)) = true := by
        cases hc : qAny RM (fun r => decide (qNn I (rc r) = n) && !decide (an (rc r) = 0)) with
        | true => rfl
        | false =>
          have := (hz _ hc).2
          rw [hyk] at this
          cases this
      have hh : qAny RM (fun r => decide (qNn I (rc r) = n) && !decide (an (rc r) = ((1 : Int32) <<< (nI (qSt k N) &&& 31)) - 1)) = true := by
        cases hc : qAny RM (fun r => decide (qNn I (rc r) = n) && !decide (an (rc r) = ((1 : Int32) <<< (nI (qSt k N) &&& 31)) - 1)) with
        | true => rfl
        | false =>
          have := (hz _ hc).2
          rw [hyk] at this
          cases this
      rw [hl, hh]
      rfl
    | false =>
      have hal : ∀ v : Int32, qAny RM (fun r => decide (qNn I (rc r) = n) && !decide (an (rc r) = v)) = !decide (an (rc r0) = v) := by
        intro v
        by_cases g : an (rc r0) = v
        · rw [decide_eq_true g, ← g]
          exact hyk
        · rw [decide_eq_false g]
          exact qAny_iff.mpr ⟨r0, hr0, by rw [decide_eq_true hr1, decide_eq_false g]; rfl⟩
      rw [hal, hal, if_pos rfl, Bool.not_not, Bool.not_not]
      by_cases g : an (rc r0) = 0
      · rw [if_pos (decide_eq_true g), if_pos g]
      · rw [if_neg (by rw [decide_eq_false g]; decide), if_neg g]
        by_cases g2 : an (rc r0) = ((1 : Int32) <<< (nI (qSt k N) &&& 31)) - 1
        · rw [if_pos (decide_eq_true g2), if_pos g2]
        · rw [if_neg (by rw [decide_eq_false g2]; decide), if_neg g2]
          rfl
theorem o_verdict (h : q_Core I D N cl RM rc) (a b : Int32) : q_Obs mX11_verdict mX12_verdict [.int a, .int b] I J (3, 17, rb, tx, L) := by
  have h10 : ¬ ((1 : Int32) = 0) := by decide
  have hN := h.n6
  cases hq : q_in a 3 with
  | false =>
    refine ⟨-1, I, I, ?_, ?_, q_Off_refl _, q_Off_refl _⟩
    · rw [bX11_verdict, eX11_verdict_0, fX11_isKind, hq]
      simp only [Option.bind_some, Option.toList_some, Option.toList_none, List.nil_append, List.cons_append, q_ck_tt, Bool.and_true, Bool.true_and, if_true, if_false, reduceCtorEq]
      rw [eX11_verdict_4, if_pos qb_f, eX11_verdict_34, eX11_verdict_35]
    · rw [bX12_verdict, eX12_verdict_0, fX12_isKind, hq]
      simp only [Option.bind_some, Option.toList_some, Option.toList_none, List.nil_append, List.cons_append, q_ck_tt, Bool.and_true, Bool.true_and, if_true, if_false, reduceCtorEq]
      rw [eX12_verdict_4, if_pos qb_f, eX12_verdict_15]
  | true =>
    obtain ⟨k, hk, rfl, -⟩ := q_in_of hq
    cases hqb : q_in b N with
    | false =>
      refine ⟨-1, I, I, ?_, ?_, q_Off_refl _, q_Off_refl _⟩
      · rw [bX11_verdict, eX11_verdict_0, fX11_isKind, hq]
        simp only [Option.bind_some, Option.toList_some, Option.toList_none, List.nil_append, List.cons_append, q_ck_tt, Bool.and_true, Bool.true_and, if_true, if_false, reduceCtorEq]
        rw [eX11_verdict_4, qb_t, if_neg h10, eX11_verdict_7, fX0_hasNet I J _ hN h.i35, hqb]
        simp only [Option.bind_some, Option.toList_some, Option.toList_none, List.nil_append, List.cons_append, q_ck_tt, Bool.and_true, Bool.true_and, if_true, if_false, reduceCtorEq]
        rw [eX11_verdict_15, if_pos qb_f, eX11_verdict_34, eX11_verdict_35]
      · rw [bX12_verdict, eX12_verdict_0, fX12_isKind, hq]
        simp only [Option.bind_some, Option.toList_some, Option.toList_none, List.nil_append, List.cons_append, q_ck_tt, Bool.and_true, Bool.true_and, if_true, if_false, reduceCtorEq]
        rw [eX12_verdict_4, qb_t, if_neg h10, eX12_verdict_7, fX12_isNet I J _ hN h.m51, hqb]
        simp only [Option.bind_some, Option.toList_some, Option.toList_none, List.nil_append, List.cons_append, q_ck_tt, Bool.and_true, Bool.true_and, if_true, if_false, reduceCtorEq]
        rw [eX12_verdict_12, if_pos qb_f, eX12_verdict_15]
    | true =>
      obtain ⟨n, hn, rfl, -⟩ := q_in_of hqb
      obtain ⟨sz, hz⟩ : ∃ sz, q_Fz I sz := h.fo
      obtain ⟨an, wn, K, j0, o1, j1, K2, j2, o2, j3, j4⟩ := q_judge (J := J) (rb := rb) (tx := tx) (L := L) h hz hk
      have hK := q_Core_off h o1
      have hK2 := q_Core_off hK o2
      have hex : ∃ r, r < RM ∧ qNn K (rc r) = n := by
        obtain ⟨x, hx, x1, x2⟩ := hK.bc.2.2.2.2 n hn
        have hA : bt (K 3 11) x = true := by
          rw [hK.bc.2.2.2.1 x (by omega), decide_eq_true hx, x1, x2, decide_eq_false (nI_ne1 (by omega))]; rfl
        obtain ⟨r, hr, hrx⟩ := hK.rcof hx hA
        refine ⟨r, hr, ?_⟩
        rw [hrx]
        unfold qNn
        rw [x1, nI_clamp (by omega)]
      obtain ⟨r0, hr0, hr1, hr2⟩ := fb_first (p := fun r => qNn K (rc r) = n) hex
      have hnn := qNn_off o2
      have hvd : qVd K2 RM rc an wn (qSt k N) n r0 = qVd K RM rc an wn (qSt k N) n r0 := by
        unfold qVd
        rw [qGz_off o2, hnn]
      refine ⟨qVd K RM rc an wn (qSt k N) n r0, K, K2, ?_, ?_, o1, o2⟩
      · rw [bX11_verdict, eX11_verdict_0, fX11_isKind, hq]
        simp only [Option.bind_some, Option.toList_some, Option.toList_none, List.nil_append, List.cons_append, q_ck_tt, Bool.and_true, Bool.true_and, if_true, if_false, reduceCtorEq]
        rw [eX11_verdict_4, qb_t, if_neg h10, eX11_verdict_7, fX0_hasNet I J _ hN h.i35, hqb]
        simp only [Option.bind_some, Option.toList_some, Option.toList_none, List.nil_append, List.cons_append, q_ck_tt, Bool.and_true, Bool.true_and, if_true, if_false, reduceCtorEq]
        rw [eX11_verdict_15, qb_t, if_neg h10, eX11_verdict_18, j0]
        simp only [Option.bind_some, Option.toList_some, Option.toList_none, List.nil_append, List.cons_append, q_ck_tt, Bool.and_true, Bool.true_and, if_true, if_false, reduceCtorEq]
        rw [eX11_verdict_23, fX5_verdictOf hK j1 hn hr0 hr1]
        simp only [Option.bind_some, Option.toList_some, Option.toList_none, List.nil_append, List.cons_append, q_ck_tt, Bool.and_true, Bool.true_and, if_true, if_false, reduceCtorEq]
        rw [eX11_verdict_31, eX11_verdict_35]
      · rw [bX12_verdict, eX12_verdict_0, fX12_isKind, hq]
        simp only [Option.bind_some, Option.toList_some, Option.toList_none, List.nil_append, List.cons_append, q_ck_tt, Bool.and_true, Bool.true_and, if_true, if_false, reduceCtorEq]
        rw [eX12_verdict_4, qb_t, if_neg h10, eX12_verdict_7, fX12_isNet K J _ hN hK.m51, hqb]
        simp only [Option.bind_some, Option.toList_some, Option.toList_none, List.nil_append, List.cons_append, q_ck_tt, Bool.and_true, Bool.true_and, if_true, if_false, reduceCtorEq]
        rw [eX12_verdict_12, qb_t, if_neg h10, eX12_verdict_17, j2]
        simp only [Option.bind_some, Option.toList_some, Option.toList_none, List.nil_append, List.cons_append, q_ck_tt, Bool.and_true, Bool.true_and, if_true, if_false, reduceCtorEq]
        rw [q_ve_ref hK2 j3 hk hn hr0 (by rw [hnn]; exact hr1) (by rw [hnn]; exact hr2), hvd]
end VE
