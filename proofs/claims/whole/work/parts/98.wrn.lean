/-! ===== the machine doesn't mind names of places: both boards may change places (by program, over hand-written rows) ===== -/
theorem q_rh_rh (p : Nat) : q_rh (q_rh p) = p := by
  unfold q_rh
  by_cases h1 : 3 ≤ p ∧ p ≤ 16
  · rw [if_pos h1, if_neg (by omega), if_pos (by omega)]; omega
  · rw [if_neg h1]
    by_cases h2 : 17 ≤ p ∧ p ≤ 30
    · rw [if_pos h2, if_pos (by omega)]; omega
    · rw [if_neg h2, if_neg h1, if_neg h2]
theorem q_rh_eq {p q : Nat} : q_rh p = q ↔ p = q_rh q := ⟨fun h => by rw [← h, q_rh_rh], fun h => by rw [h, q_rh_rh]⟩
def q_rv : Value → Value
  | .ref p => .ref (q_rh p)
  | v => v
def q_rn (M : QM) : QM := (fun p => M.1 (q_rh p), fun p => M.2.1 (q_rh p), fun p k => q_rh (M.2.2.1 (q_rh p) k), fun p => M.2.2.2.1 (q_rh p), M.2.2.2.2)
def q_rl (L : List (Option Value)) : List (Option Value) := L.map (Option.map q_rv)
def q_rc (c : QC) : QC := (c.1, c.2.1, q_rl c.2.2.1, c.2.2.2.1.map q_rv, q_rn c.2.2.2.2.1, c.2.2.2.2.2)
def q_rr (r : QR) : QR := (r.1.map q_rv, q_rn r.2)
def q_rx : QC ⊕ QR → QC ⊕ QR := Sum.map q_rc q_rr
def q_Eqv (f : List Value → QM → Option QR) : Prop := ∀ as M, f (as.map q_rv) (q_rn M) = (f as M).map q_rr
theorem q_rv_cat (v : Value) : (q_rv v).category = v.category := by cases v <;> rfl
theorem q_rv_fit (t : Nat) (v : Value) (ok : Bool) : q_fitc t (q_rv v) ok = q_fitc t v ok := by
  match t, v with
  | 0, .ref _ => rfl
  | 1, .ref _ => rfl
  | 2, .ref _ => rfl
  | 3, .ref _ => rfl
  | _ + 4, .ref _ => rfl
  | _, .int _ => rfl
  | _, .long _ => rfl
  | _, .float _ => rfl
  | _, .double _ => rfl
  | _, .null => rfl
  | _, .retAddr _ => rfl
theorem q_rl_len (L : List (Option Value)) : (q_rl L).length = L.length := by unfold q_rl; simp
theorem q_rl_at (L : List (Option Value)) (i : Nat) : (q_rl L)[i]? = (L[i]?).map (Option.map q_rv) := by unfold q_rl; rw [List.getElem?_map]
theorem q_rl_get (L : List (Option Value)) (i : Nat) : q_get (q_rl L) i = (q_get L i).map q_rv := by
  unfold q_get
  rw [q_rl_at]
  cases L[i]? with
  | none => rfl
  | some o => rfl
theorem q_rl_isL (o : Option (Option Value)) : q_isL (o.map (Option.map q_rv)) = q_isL o := by
  cases o with
  | none => rfl
  | some o => cases o with
    | none => rfl
    | some v => cases v <;> rfl
theorem q_rl_ls (L : List (Option Value)) (i : Nat) (o : Option Value) : (q_rl L).set i (o.map q_rv) = q_rl (L.set i o) := by unfold q_rl; rw [List.map_set]
theorem q_rl_set (L : List (Option Value)) (i : Nat) (v : Value) : q_set (q_rl L) i (q_rv v) = q_rl (q_set L i v) := by
  unfold q_set
  cases i with
  | zero => exact q_rl_ls L 0 (some v)
  | succ j =>
    show (if q_isL (q_rl L)[j]? then ((q_rl L).set j none).set (j + 1) (some (q_rv v)) else (q_rl L).set (j + 1) (some (q_rv v))) = q_rl (if q_isL L[j]? then (L.set j none).set (j + 1) (some v) else L.set (j + 1) (some v))
    rw [q_rl_at, q_rl_isL]
    split
    · rw [show ((q_rl L).set j none) = q_rl (L.set j none) from q_rl_ls L j none]
      exact q_rl_ls _ (j + 1) (some v)
    · exact q_rl_ls L (j + 1) (some v)
theorem q_rl_setL (L : List (Option Value)) (i : Nat) (v : Value) : q_setL (q_rl L) i (q_rv v) = q_rl (q_setL L i v) := by
  unfold q_setL
  rw [q_rl_set]
  exact q_rl_ls _ (i + 1) none
theorem q_rl_set_i (L : List (Option Value)) (i : Nat) (x : Int32) : q_set (q_rl L) i (.int x) = q_rl (q_set L i (.int x)) := q_rl_set L i (.int x)
theorem q_rl_set_r (L : List (Option Value)) (i : Nat) (x : Nat) : q_set (q_rl L) i (.ref (q_rh x)) = q_rl (q_set L i (.ref x)) := q_rl_set L i (.ref x)
theorem q_rl_setL_l (L : List (Option Value)) (i : Nat) (x : Int64) : q_setL (q_rl L) i (.long x) = q_rl (q_setL L i (.long x)) := q_rl_setL L i (.long x)
theorem q_rl_kl (ks : List Nat) : ∀ (L : List (Option Value)), q_kl ks (q_rl L) = q_rl (q_kl ks L) := by
  induction ks with
  | nil => intro L; rfl
  | cons k ks ih =>
    intro L
    show q_kl ks ((q_rl L).set k none) = q_rl (q_kl ks (L.set k none))
    rw [show (q_rl L).set k none = q_rl (L.set k none) from q_rl_ls L k none, ih]
/-! memory -/
theorem q_rn_kd (M : QM) (p : Nat) : q_kd (q_rn M) (q_rh p) = q_kd M p := by unfold q_kd q_rn; simp only [q_rh_rh]
theorem q_rn_len (M : QM) (p : Nat) : q_len (q_rn M) (q_rh p) = q_len M p := by unfold q_len q_rn; simp only [q_rh_rh]
theorem q_rn_I (M : QM) (p : Nat) : (q_rn M).1 (q_rh p) = M.1 p := by unfold q_rn; simp only [q_rh_rh]
theorem q_rn_J (M : QM) (p : Nat) : (q_rn M).2.1 (q_rh p) = M.2.1 p := by unfold q_rn; simp only [q_rh_rh]
theorem q_rn_R (M : QM) (p k : Nat) : (q_rn M).2.2.1 (q_rh p) k = q_rh (M.2.2.1 p k) := by unfold q_rn; simp only [q_rh_rh]
theorem q_rn_fld (M : QM) (p k t : Nat) : q_fld (q_rn M) (q_rh p) k t = q_rv (q_fld M p k t) := by
  unfold q_fld
  split
  · rw [q_rn_J]; rfl
  · rw [q_rn_R]; rfl
  · rw [q_rn_I]; rfl
theorem va_up_rh {α : Type} (f : Nat → α) (a : Nat) (v : α) : va_up (fun p => f (q_rh p)) (q_rh a) v = fun p => va_up f a v (q_rh p) := by
  funext p
  unfold va_up
  by_cases h : p = q_rh a
  · rw [if_pos h, if_pos (q_rh_eq.mpr h)]
  · rw [if_neg h, if_neg (fun g => h (q_rh_eq.mp g))]
theorem q_up_rh {α : Type} (f : Nat → Nat → α) (a k : Nat) (v : α) : q_up (fun p => f (q_rh p)) (q_rh a) k v = fun p => q_up f a k v (q_rh p) := by
  unfold q_up
  simp only [q_rh_rh]
  exact va_up_rh f a _
theorem q_rn_upI (M : QM) (a k : Nat) (x : Int32) : (q_up (q_rn M).1 (q_rh a) k x, (q_rn M).2) = q_rn (q_up M.1 a k x, M.2) := by
  unfold q_rn
  exact congrArg (fun z => (z, _)) (q_up_rh M.1 a k x)
theorem q_rn_vaI (M : QM) (a : Nat) (f : Nat → Int32) : (va_up (q_rn M).1 (q_rh a) f, (q_rn M).2) = q_rn (va_up M.1 a f, M.2) := by
  unfold q_rn
  exact congrArg (fun z => (z, _)) (va_up_rh M.1 a f)
theorem q_rn_upJ (M : QM) (a k : Nat) (x : Int64) : ((q_rn M).1, q_up (q_rn M).2.1 (q_rh a) k x, (q_rn M).2.2) = q_rn (M.1, q_up M.2.1 a k x, M.2.2) := by
  unfold q_rn
  exact congrArg (fun z => (_, z, _)) (q_up_rh M.2.1 a k x)
theorem q_rn_put (M : QM) (a k : Nat) (v : Value) : q_putM (q_rn M) (q_rh a) k (q_rv v) = q_rn (q_putM M a k v) := by
  cases v
  case int x => exact q_rn_upI M a k x
  case long x => exact q_rn_upJ M a k x
  case ref x =>
    show ((q_rn M).1, (q_rn M).2.1, q_up (q_rn M).2.2.1 (q_rh a) k (q_rh x), (q_rn M).2.2.2) = q_rn (M.1, M.2.1, q_up M.2.2.1 a k x, M.2.2.2)
    unfold q_rn
    refine Prod.ext rfl (Prod.ext rfl (Prod.ext ?_ rfl))
    funext p j
    dsimp only
    unfold q_up va_up
    simp only [q_rh_rh]
    by_cases h : p = q_rh a
    · rw [if_pos h, if_pos (q_rh_eq.mpr h)]
      by_cases g : j = k
      · rw [if_pos g, if_pos g]
      · rw [if_neg g, if_neg g]
    · rw [if_neg h, if_neg (fun g => h (q_rh_eq.mp g))]
  all_goals rfl
def q_vf : List Value → Bool
  | .ref p :: _ => Nat.beq (q_rh p) p
  | _ => true
/-- a row that names no place but fixed ones, and makes none -/
def q_eb (ins : Instr) (ns : List Nat) (vs : List Value) : Bool := match ins with
  | .new _ => false
  | .newarray _ => false
  | .getstatic _ => Nat.beq (q_rh (ns.getD 1 0)) (ns.getD 1 0)
  | _ => q_vf vs
theorem q_vf_ok {v : Value} {vs : List Value} (h : q_vf (v :: vs) = true) : q_rv v = v := by
  cases v
  case ref p => exact congrArg Value.ref (Nat.eq_of_beq_eq_true h)
  all_goals rfl
theorem q_eb_gs {n : Nat} {ns : List Nat} {vs : List Value} (h : q_eb (.getstatic n) ns vs = true) : q_rh (ns.getD 1 0) = ns.getD 1 0 := Nat.eq_of_beq_eq_true h
theorem q_rv_mcat (st : List Value) : q_cat (st.map q_rv) = q_cat st := by
  unfold q_cat
  rw [List.map_map]
  congr 1
  apply List.map_congr_left
  intro v _
  exact q_rv_cat v
theorem q_call_eq {O : QO} {R : Nat × Nat} {y n z mc ms len : Nat} (hO : ∀ y, q_Eqv (O y)) (ok : Bool) (pc : Nat) (L : List (Option Value)) (st : List Value) (M : QM) (ce sl : Nat) :
    q_call O R y n z mc ms len (ok, pc, q_rl L, st.map q_rv, q_rn M, ce, sl) = (q_call O R y n z mc ms len (ok, pc, L, st, M, ce, sl)).map q_rx := by
  unfold q_call
  dsimp only
  rw [← List.map_take, ← List.map_reverse, ← List.map_drop, hO y]
  have fin : ∀ (X : Option QR) (b : Bool) (rest : List Value), q_after (X.map q_rr) (fun v M' => (b, pc + len, q_rl L, v.toList ++ rest.map q_rv, M', ce + mc, sl + ms)) = Option.map q_rx (q_after X (fun v M' => (b, pc + len, L, v.toList ++ rest, M', ce + mc, sl + ms))) := by
    intro X b rest
    cases X with
    | none => rfl
    | some r =>
      have e1 : (r.1.map q_rv).toList ++ rest.map q_rv = (r.1.toList ++ rest).map q_rv := by cases r.1 <;> simp
      show some (Sum.inl (b, pc + len, q_rl L, (r.1.map q_rv).toList ++ rest.map q_rv, q_rn r.2, ce + mc, sl + ms)) = some (Sum.inl (b, pc + len, q_rl L, (r.1.toList ++ rest).map q_rv, q_rn r.2, ce + mc, sl + ms))
      rw [e1]
  rw [q_rv_mcat, List.length_map, List.length_map]
  generalize (st.take n).reverse = as
  cases z with
  | zero => exact fin _ _ _
  | succ z =>
    cases as with
    | nil => exact fin _ _ _
    | cons v as =>
      cases v
      case ref p =>
        have h := fin (O y (.ref p :: as) M) (cond (decide (st.length = n + (st.drop n).length)) ((cond (Nat.beq (q_kd (q_rn M) (q_rh p)) (z + 1)) ((cond (decide (q_cat (st.drop n) ≤ 8)) ((cond (decide (ce + mc ≤ R.1)) ((cond (decide (sl + ms ≤ R.2)) (ok) false)) false)) false)) false)) false) (st.drop n)
        refine h.trans ?_
        rw [q_rn_kd]
      all_goals exact fin _ _ _
theorem q_inv_eq {O : QO} {R : Nat × Nat} {len : Nat} {ns : List Nat} (hO : ∀ y, q_Eqv (O y)) (ok : Bool) (pc : Nat) (L : List (Option Value)) (st : List Value) (M : QM) (ce sl : Nat) :
    q_inv O R len ns (ok, pc, q_rl L, st.map q_rv, q_rn M, ce, sl) = (q_inv O R len ns (ok, pc, L, st, M, ce, sl)).map q_rx := by
  match ns with
  | [] => rfl
  | [_] => rfl
  | _ :: 0 :: _ =>
    show q_obj len _ = Option.map q_rx (q_obj len _)
    cases st with
    | nil => rfl
    | cons v st =>
      cases v
      case ref p =>
        refine congrArg (fun z => some (Sum.inl z)) ?_
        have hp : Nat.blt 0 (q_rh p) = Nat.blt 0 p := by
          cases p with
          | zero => rfl
          | succ p =>
            have h1 : 0 < q_rh (p + 1) := by unfold q_rh; split <;> (try split) <;> omega
            rw [show Nat.blt 0 (q_rh (p + 1)) = true from Nat.ble_eq.mpr h1]; rfl
        show (cond (Nat.blt 0 (q_rh p)) (cond (decide (q_cat (st.map q_rv) ≤ 8)) ok false) false, _, _, _, _, _, _) = (cond (Nat.blt 0 p) (cond (decide (q_cat st ≤ 8)) ok false) false, _, _, _, _, _, _)
        rw [hp, q_rv_mcat]
      all_goals rfl
  | _ :: 1 :: _ =>
    show q_cpy len _ = Option.map q_rx (q_cpy len _)
    cases st with
    | nil => rfl
    | cons v st =>
      cases v
      case int n =>
        cases st with
        | nil => rfl
        | cons v st =>
          cases v
          case int d =>
            cases st with
            | nil => rfl
            | cons v st =>
              cases v
              case ref b =>
                cases st with
                | nil => rfl
                | cons v st =>
                  cases v
                  case int sp =>
                    cases st with
                    | nil => rfl
                    | cons v st =>
                      cases v
                      case ref a =>
                        refine congrArg (fun z => some (Sum.inl z)) ?_
                        show (cond (Nat.beq (q_kd (q_rn M) (q_rh a)) 22) (cond (Nat.beq (q_kd (q_rn M) (q_rh b)) 22) (!(decide (sp < 0)) && (!(decide (d < 0)) && (!(decide (n < 0)) && (decide (sp.toNatClampNeg + n.toNatClampNeg ≤ q_len (q_rn M) (q_rh a)) && (decide (d.toNatClampNeg + n.toNatClampNeg ≤ q_len (q_rn M) (q_rh b)) && (cond (decide (q_cat (st.map q_rv) ≤ 8)) ok false)))))) false) false, pc + len, q_rl L, st.map q_rv, (va_up (q_rn M).1 (q_rh b) (va_cpy ((q_rn M).1 (q_rh a)) ((q_rn M).1 (q_rh b)) sp.toNatClampNeg d.toNatClampNeg n.toNatClampNeg), (q_rn M).2), ce, sl) = _
                        rw [q_rn_vaI, q_rn_kd, q_rn_kd, q_rn_len, q_rn_len, q_rn_I, q_rn_I, q_rv_mcat]
                        rfl
                      all_goals rfl
                  all_goals rfl
              all_goals rfl
          all_goals rfl
      all_goals rfl
  | _ :: 2 :: _ =>
    show q_mn R len _ = Option.map q_rx (q_mn R len _)
    cases st with
    | nil => rfl
    | cons v st =>
      cases v
      case int y =>
        cases st with
        | nil => rfl
        | cons v st =>
          cases v
          case int x =>
            refine congrArg (fun z => some (Sum.inl z)) ?_
            show (cond (decide (q_cat (st.map q_rv) ≤ 8)) _ false, _, _, _, _, _, _) = _
            rw [q_rv_mcat]
            rfl
          all_goals rfl
      all_goals rfl
  | _ :: 3 :: _ =>
    show q_mx R len _ = Option.map q_rx (q_mx R len _)
    cases st with
    | nil => rfl
    | cons v st =>
      cases v
      case int y =>
        cases st with
        | nil => rfl
        | cons v st =>
          cases v
          case int x =>
            refine congrArg (fun z => some (Sum.inl z)) ?_
            show (cond (decide (q_cat (st.map q_rv) ≤ 8)) _ false, _, _, _, _, _, _) = _
            rw [q_rv_mcat]
            rfl
          all_goals rfl
      all_goals rfl
  | [_, y + 4] => rfl
  | [_, y + 4, _] => rfl
  | [_, y + 4, _, _] => rfl
  | [_, y + 4, _, _, _] => rfl
  | _ :: (y + 4) :: n :: z :: mc :: ms :: tl => exact q_call_eq hO ok pc L st M ce sl
theorem q_ex_none {O : QO} {R : Nat × Nat} {ins : Instr} {len : Nat} {ns : List Nat} {vs : List Value} {ts : List (Int32 × Nat)} {ok : Bool} {pc : Nat} {L : List (Option Value)} {st : List Value} {M : QM} {ce sl : Nat} (h1 : q_bin ins = none) (h2 : q_binL ins = none)
    (h : ∀ L st M, q_ex O R ins len ns vs ts (ok, pc, L, st, M, ce, sl) = (match q_bin ins, q_binL ins, st with
    | some f, _, .int y :: .int x :: st => some (.inl (ok, pc + len, L, .int (f x y) :: st, M, ce, sl))
    | _, some f, .long y :: .long x :: st => some (.inl (ok, pc + len, L, .long (f x y) :: st, M, ce, sl))
    | _, _, _ => none)) : q_ex O R ins len ns vs ts (ok, pc, q_rl L, st.map q_rv, q_rn M, ce, sl) = (q_ex O R ins len ns vs ts (ok, pc, L, st, M, ce, sl)).map q_rx := by
  have e : ∀ L st M, q_ex O R ins len ns vs ts (ok, pc, L, st, M, ce, sl) = none := by
    intro L st M
    rw [h, h1, h2]
  rw [e, e]
  rfl
