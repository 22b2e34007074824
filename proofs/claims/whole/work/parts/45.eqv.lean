/-! ===== the machine doesn't mind names of places: both boards may change places (by program, over hand-written rows) ===== -/
def q_rh (p : Nat) : Nat := if 3 ≤ p ∧ p ≤ 16 then p + 14 else if 17 ≤ p ∧ p ≤ 30 then p - 14 else p
theorem q_rh_rh (p : Nat) : q_rh (q_rh p) = p := by
  unfold q_rh
  by_cases h1 : 3 ≤ p ∧ p ≤ 16
  · rw [if_pos h1, if_neg (by omega), if_pos (by omega)]; omega
  · rw [if_neg h1]
    by_cases h2 : 17 ≤ p ∧ p ≤ 30
    · rw [if_pos h2, if_pos (by omega)]; omega
    · rw [if_neg h2, if_neg h1, if_neg h2]
theorem q_rh_eq {p q : Nat} : q_rh p = q ↔ p = q_rh q := ⟨fun h => by rw [← h, q_rh_rh], fun h => by rw [h, q_rh_rh]⟩
def q_rv : Value → Value
  | .ref p => .ref (q_rh p)
  | v => v
def q_rn (M : QM) : QM := (fun p => M.1 (q_rh p), fun p => M.2.1 (q_rh p), fun p k => q_rh (M.2.2.1 (q_rh p) k), fun p => M.2.2.2.1 (q_rh p), M.2.2.2.2)
def q_rl (L : List (Option Value)) : List (Option Value) := L.map (Option.map q_rv)
def q_rc (c : QC) : QC := (c.1, c.2.1, q_rl c.2.2.1, c.2.2.2.1.map q_rv, q_rn c.2.2.2.2.1, c.2.2.2.2.2)
def q_rr (r : QR) : QR := (r.1.map q_rv, q_rn r.2)
def q_rx : QC ⊕ QR → QC ⊕ QR := Sum.map q_rc q_rr
def q_Eqv (f : List Value → QM → Option QR) : Prop := ∀ as M, f (as.map q_rv) (q_rn M) = (f as M).map q_rr
theorem q_rv_cat (v : Value) : (q_rv v).category = v.category := by cases v <;> rfl
theorem q_rv_fit (t : Nat) (v : Value) (ok : Bool) : q_fitc t (q_rv v) ok = q_fitc t v ok := by
  cases v <;> (unfold q_rv q_fitc; rfl)
theorem q_rl_len (L : List (Option Value)) : (q_rl L).length = L.length := by unfold q_rl; simp
theorem q_rl_at (L : List (Option Value)) (i : Nat) : (q_rl L)[i]? = (L[i]?).map (Option.map q_rv) := by unfold q_rl; rw [List.getElem?_map]
theorem q_rl_get (L : List (Option Value)) (i : Nat) : q_get (q_rl L) i = (q_get L i).map q_rv := by
  unfold q_get
  rw [q_rl_at]
  cases L[i]? with
  | none => rfl
  | some o => rfl
theorem q_rl_isL (o : Option (Option Value)) : q_isL (o.map (Option.map q_rv)) = q_isL o := by
  cases o with
  | none => rfl
  | some o => cases o with
    | none => rfl
    | some v => cases v <;> rfl
theorem q_rl_ls (L : List (Option Value)) (i : Nat) (o : Option Value) : (q_rl L).set i (o.map q_rv) = q_rl (L.set i o) := by unfold q_rl; rw [List.map_set]
theorem q_rl_set (L : List (Option Value)) (i : Nat) (v : Value) : q_set (q_rl L) i (q_rv v) = q_rl (q_set L i v) := by
  unfold q_set
  cases i with
  | zero => exact q_rl_ls L 0 (some v)
  | succ j =>
    show (if q_isL (q_rl L)[j]? then ((q_rl L).set j none).set (j + 1) (some (q_rv v)) else (q_rl L).set (j + 1) (some (q_rv v))) = q_rl (if q_isL L[j]? then (L.set j none).set (j + 1) (some v) else L.set (j + 1) (some v))
    rw [q_rl_at, q_rl_isL]
    split
    · rw [show ((q_rl L).set j none) = q_rl (L.set j none) from q_rl_ls L j none]
      exact q_rl_ls _ (j + 1) (some v)
    · exact q_rl_ls L (j + 1) (some v)
theorem q_rl_setL (L : List (Option Value)) (i : Nat) (v : Value) : q_setL (q_rl L) i (q_rv v) = q_rl (q_setL L i v) := by
  unfold q_setL
  rw [q_rl_set]
  exact q_rl_ls _ (i + 1) none
theorem q_rl_set_i (L : List (Option Value)) (i : Nat) (x : Int32) : q_set (q_rl L) i (.int x) = q_rl (q_set L i (.int x)) := q_rl_set L i (.int x)
theorem q_rl_set_r (L : List (Option Value)) (i : Nat) (x : Nat) : q_set (q_rl L) i (.ref (q_rh x)) = q_rl (q_set L i (.ref x)) := q_rl_set L i (.ref x)
theorem q_rl_setL_l (L : List (Option Value)) (i : Nat) (x : Int64) : q_setL (q_rl L) i (.long x) = q_rl (q_setL L i (.long x)) := q_rl_setL L i (.long x)
theorem q_rl_kl (ks : List Nat) : ∀ (L : List (Option Value)), q_kl ks (q_rl L) = q_rl (q_kl ks L) := by
  induction ks with
  | nil => intro L; rfl
  | cons k ks ih =>
    intro L
    show q_kl ks ((q_rl L).set k none) = q_rl (q_kl ks (L.set k none))
    rw [show (q_rl L).set k none = q_rl (L.set k none) from q_rl_ls L k none, ih]
/-! memory -/
theorem q_rn_kd (M : QM) (p : Nat) : q_kd (q_rn M) (q_rh p) = q_kd M p := by unfold q_kd q_rn; simp only [q_rh_rh]
theorem q_rn_len (M : QM) (p : Nat) : q_len (q_rn M) (q_rh p) = q_len M p := by unfold q_len q_rn; simp only [q_rh_rh]
theorem q_rn_I (M : QM) (p : Nat) : (q_rn M).1 (q_rh p) = M.1 p := by unfold q_rn; simp only [q_rh_rh]
theorem q_rn_J (M : QM) (p : Nat) : (q_rn M).2.1 (q_rh p) = M.2.1 p := by unfold q_rn; simp only [q_rh_rh]
theorem q_rn_R (M : QM) (p k : Nat) : (q_rn M).2.2.1 (q_rh p) k = q_rh (M.2.2.1 p k) := by unfold q_rn; simp only [q_rh_rh]
theorem q_rn_fld (M : QM) (p k t : Nat) : q_fld (q_rn M) (q_rh p) k t = q_rv (q_fld M p k t) := by
  unfold q_fld
  split
  · rw [q_rn_J]; rfl
  · rw [q_rn_R]; rfl
  · rw [q_rn_I]; rfl
theorem va_up_rh {α : Type} (f : Nat → α) (a : Nat) (v : α) : va_up (fun p => f (q_rh p)) (q_rh a) v = fun p => va_up f a v (q_rh p) := by
  funext p
  unfold va_up
  by_cases h : p = q_rh a
  · rw [if_pos h, if_pos (q_rh_eq.mpr h)]
  · rw [if_neg h, if_neg (fun g => h (q_rh_eq.mp g))]
theorem q_up_rh {α : Type} (f : Nat → Nat → α) (a k : Nat) (v : α) : q_up (fun p => f (q_rh p)) (q_rh a) k v = fun p => q_up f a k v (q_rh p) := by
  unfold q_up
  simp only [q_rh_rh]
  exact va_up_rh f a _
theorem q_rn_upI (M : QM) (a k : Nat) (x : Int32) : (q_up (q_rn M).1 (q_rh a) k x, (q_rn M).2) = q_rn (q_up M.1 a k x, M.2) := by
  unfold q_rn
  exact congrArg (fun z => (z, _)) (q_up_rh M.1 a k x)
theorem q_rn_vaI (M : QM) (a : Nat) (f : Nat → Int32) : (va_up (q_rn M).1 (q_rh a) f, (q_rn M).2) = q_rn (va_up M.1 a f, M.2) := by
  unfold q_rn
  exact congrArg (fun z => (z, _)) (va_up_rh M.1 a f)
theorem q_rn_upJ (M : QM) (a k : Nat) (x : Int64) : ((q_rn M).1, q_up (q_rn M).2.1 (q_rh a) k x, (q_rn M).2.2) = q_rn (M.1, q_up M.2.1 a k x, M.2.2) := by
  unfold q_rn
  exact congrArg (fun z => (_, z, _)) (q_up_rh M.2.1 a k x)
theorem q_rn_put (M : QM) (a k : Nat) (v : Value) : q_putM (q_rn M) (q_rh a) k (q_rv v) = q_rn (q_putM M a k v) := by
  cases v
  case int x => exact q_rn_upI M a k x
  case long x => exact q_rn_upJ M a k x
  case ref x =>
    show ((q_rn M).1, (q_rn M).2.1, q_up (q_rn M).2.2.1 (q_rh a) k (q_rh x), (q_rn M).2.2.2) = q_rn (M.1, M.2.1, q_up M.2.2.1 a k x, M.2.2.2)
    unfold q_rn
    refine congrArg (fun z => (_, _, z, _)) ?_
    funext p j
    unfold q_up va_up
    simp only [q_rh_rh]
    by_cases h : p = q_rh a
    · rw [if_pos h, if_pos (q_rh_eq.mpr h)]
      by_cases g : j = k
      · rw [if_pos g, if_pos g]
      · rw [if_neg g, if_neg g]
    · rw [if_neg h, if_neg (fun g => h (q_rh_eq.mp g))]
  all_goals rfl
def q_vf : List Value → Bool
  | .ref p :: _ => Nat.beq (q_rh p) p
  | _ => true
/-- a row that names no place but fixed ones, and makes none -/
def q_eb (ins : Instr) (ns : List Nat) (vs : List Value) : Bool := match ins with
  | .new _ => false
  | .newarray _ => false
  | .getstatic _ => Nat.beq (q_rh (ns.getD 1 0)) (ns.getD 1 0)
  | _ => q_vf vs
theorem q_vf_ok {v : Value} {vs : List Value} (h : q_vf (v :: vs) = true) : q_rv v = v := by
  cases v
  case ref p => exact congrArg Value.ref (Nat.eq_of_beq_eq_true h)
  all_goals rfl
theorem q_eb_gs {n : Nat} {ns : List Nat} {vs : List Value} (h : q_eb (.getstatic n) ns vs = true) : q_rh (ns.getD 1 0) = ns.getD 1 0 := Nat.eq_of_beq_eq_true h
theorem q_rv_mcat (st : List Value) : q_cat (st.map q_rv) = q_cat st := by
  unfold q_cat
  rw [List.map_map]
  congr 1
  apply List.map_congr_left
  intro v _
  exact q_rv_cat v
theorem q_call_eq {O : QO} {R : Nat × Nat} {y n z mc ms len : Nat} (hO : ∀ y, q_Eqv (O y)) (ok : Bool) (pc : Nat) (L : List (Option Value)) (st : List Value) (M : QM) (ce sl : Nat) :
    q_call O R y n z mc ms len (ok, pc, q_rl L, st.map q_rv, q_rn M, ce, sl) = (q_call O R y n z mc ms len (ok, pc, L, st, M, ce, sl)).map q_rx := by
  unfold q_call
  dsimp only
  rw [← List.map_take, ← List.map_reverse, ← List.map_drop, hO y]
  have hz : ∀ as : List Value, (match z, as.map q_rv with
      | 0, _ => true
      | z + 1, .ref p :: _ => Nat.beq (q_kd (q_rn M) p) (z + 1)
      | _, _ => false) = (match z, as with
      | 0, _ => true
      | z + 1, .ref p :: _ => Nat.beq (q_kd M p) (z + 1)
      | _, _ => false) := by
    intro as
    cases z with
    | zero => rfl
    | succ z =>
      cases as with
      | nil => rfl
      | cons v as =>
        cases v
        case ref p => show Nat.beq (q_kd (q_rn M) (q_rh p)) (z + 1) = _; rw [q_rn_kd]
        all_goals rfl
  rw [hz, q_rv_mcat]
  cases O y (st.take n).reverse M with
  | none => rfl
  | some r =>
    refine congrArg (fun z => some (Sum.inl z)) ?_
    have e1 : (r.1.map q_rv).toList ++ (st.drop n).map q_rv = (r.1.toList ++ st.drop n).map q_rv := by cases r.1 <;> simp
    show (_, _, _, (r.1.map q_rv).toList ++ (st.drop n).map q_rv, _, _, _) = (_, _, _, (r.1.toList ++ st.drop n).map q_rv, _, _, _)
    rw [e1]
    simp only [List.length_map]
    rfl
theorem q_inv_eq {O : QO} {R : Nat × Nat} {len : Nat} {ns : List Nat} (hO : ∀ y, q_Eqv (O y)) (ok : Bool) (pc : Nat) (L : List (Option Value)) (st : List Value) (M : QM) (ce sl : Nat) :
    q_inv O R len ns (ok, pc, q_rl L, st.map q_rv, q_rn M, ce, sl) = (q_inv O R len ns (ok, pc, L, st, M, ce, sl)).map q_rx := by
  match ns with
  | [] => rfl
  | [_] => rfl
  | _ :: 0 :: _ =>
    show q_obj len _ = Option.map q_rx (q_obj len _)
    cases st with
    | nil => rfl
    | cons v st =>
      cases v
      case ref p =>
        refine congrArg (fun z => some (Sum.inl z)) ?_
        have hp : Nat.blt 0 (q_rh p) = Nat.blt 0 p := by
          cases p with
          | zero => rfl
          | succ p =>
            have h1 : 0 < q_rh (p + 1) := by unfold q_rh; split <;> (try split) <;> omega
            rw [show Nat.blt 0 (q_rh (p + 1)) = true from Nat.ble_eq.mpr h1]; rfl
        show (cond (Nat.blt 0 (q_rh p)) (cond (decide (q_cat (st.map q_rv) ≤ 8)) ok false) false, _, _, _, _, _, _) = (cond (Nat.blt 0 p) (cond (decide (q_cat st ≤ 8)) ok false) false, _, _, _, _, _, _)
        rw [hp, q_rv_mcat]
        rfl
      all_goals rfl
  | _ :: 1 :: _ =>
    show q_cpy len _ = Option.map q_rx (q_cpy len _)
    cases st with
    | nil => rfl
    | cons v st =>
      cases v
      case int n =>
        cases st with
        | nil => rfl
        | cons v st =>
          cases v
          case int d =>
            cases st with
            | nil => rfl
            | cons v st =>
              cases v
              case ref b =>
                cases st with
                | nil => rfl
                | cons v st =>
                  cases v
                  case int sp =>
                    cases st with
                    | nil => rfl
                    | cons v st =>
                      cases v
                      case ref a =>
                        refine congrArg (fun z => some (Sum.inl z)) ?_
                        show (cond (Nat.beq (q_kd (q_rn M) (q_rh a)) 22) (cond (Nat.beq (q_kd (q_rn M) (q_rh b)) 22) (!(decide (sp < 0)) && (!(decide (d < 0)) && (!(decide (n < 0)) && (decide (sp.toNatClampNeg + n.toNatClampNeg ≤ q_len (q_rn M) (q_rh a)) && (decide (d.toNatClampNeg + n.toNatClampNeg ≤ q_len (q_rn M) (q_rh b)) && (cond (decide (q_cat (st.map q_rv) ≤ 8)) ok false)))))) false) false, pc + len, q_rl L, st.map q_rv, (va_up (q_rn M).1 (q_rh b) (va_cpy ((q_rn M).1 (q_rh a)) ((q_rn M).1 (q_rh b)) sp.toNatClampNeg d.toNatClampNeg n.toNatClampNeg), (q_rn M).2), ce, sl) = _
                        rw [q_rn_vaI, q_rn_kd, q_rn_kd, q_rn_len, q_rn_len, q_rn_I, q_rn_I, q_rv_mcat]
                        rfl
                      all_goals rfl
                  all_goals rfl
              all_goals rfl
          all_goals rfl
      all_goals rfl
  | _ :: 2 :: _ =>
    show q_mn R len _ = Option.map q_rx (q_mn R len _)
    cases st with
    | nil => rfl
    | cons v st =>
      cases v
      case int y =>
        cases st with
        | nil => rfl
        | cons v st =>
          cases v
          case int x =>
            refine congrArg (fun z => some (Sum.inl z)) ?_
            show (cond (decide (q_cat (st.map q_rv) ≤ 8)) _ false, _, _, _, _, _, _) = _
            rw [q_rv_mcat]
            rfl
          all_goals rfl
      all_goals rfl
  | _ :: 3 :: _ =>
    show q_mx R len _ = Option.map q_rx (q_mx R len _)
    cases st with
    | nil => rfl
    | cons v st =>
      cases v
      case int y =>
        cases st with
        | nil => rfl
        | cons v st =>
          cases v
          case int x =>
            refine congrArg (fun z => some (Sum.inl z)) ?_
            show (cond (decide (q_cat (st.map q_rv) ≤ 8)) _ false, _, _, _, _, _, _) = _
            rw [q_rv_mcat]
            rfl
          all_goals rfl
      all_goals rfl
  | [_, y + 4] => rfl
  | [_, y + 4, _] => rfl
  | [_, y + 4, _, _] => rfl
  | [_, y + 4, _, _, _] => rfl
  | _ :: (y + 4) :: n :: z :: mc :: ms :: tl => exact q_call_eq hO ok pc L st M ce sl
theorem q_ex_none {O : QO} {R : Nat × Nat} {ins : Instr} {len : Nat} {ns : List Nat} {vs : List Value} {ts : List (Int32 × Nat)} {ok : Bool} {pc : Nat} {L : List (Option Value)} {st : List Value} {M : QM} {ce sl : Nat} (h1 : q_bin ins = none) (h2 : q_binL ins = none)
    (h : ∀ L st M, q_ex O R ins len ns vs ts (ok, pc, L, st, M, ce, sl) = (match q_bin ins, q_binL ins, st with
    | some f, _, .int y :: .int x :: st => some (.inl (ok, pc + len, L, .int (f x y) :: st, M, ce, sl))
    | _, some f, .long y :: .long x :: st => some (.inl (ok, pc + len, L, .long (f x y) :: st, M, ce, sl))
    | _, _, _ => none)) : q_ex O R ins len ns vs ts (ok, pc, q_rl L, st.map q_rv, q_rn M, ce, sl) = (q_ex O R ins len ns vs ts (ok, pc, L, st, M, ce, sl)).map q_rx := by
  rw [h, h, h1, h2]
  rfl

set_option maxHeartbeats 4000000 in
set_option maxRecDepth 20000 in
theorem q_ex_eq {O : QO} {R : Nat × Nat} {ins : Instr} {len : Nat} {ns : List Nat} {vs : List Value} {ts : List (Int32 × Nat)} (hO : ∀ y, q_Eqv (O y)) (hb : q_eb ins ns vs = true) (ok : Bool) (pc : Nat) (L : List (Option Value)) (st : List Value) (M : QM) (ce sl : Nat) :
    q_ex O R ins len ns vs ts (ok, pc, q_rl L, st.map q_rv, q_rn M, ce, sl) = (q_ex O R ins len ns vs ts (ok, pc, L, st, M, ce, sl)).map q_rx := by
  cases ins
  case iconst n =>
    cases vs with
    | nil => rfl
    | cons v vs =>
      have hv : q_rv v = v := q_vf_ok hb
      show some (Sum.inl (ok, pc + len, q_rl L, v :: st.map q_rv, q_rn M, ce, sl)) = some (Sum.inl (ok, pc + len, q_rl L, q_rv v :: st.map q_rv, q_rn M, ce, sl))
      rw [hv]
  case bipush n =>
    cases vs with
    | nil => rfl
    | cons v vs =>
      have hv : q_rv v = v := q_vf_ok hb
      show some (Sum.inl (ok, pc + len, q_rl L, v :: st.map q_rv, q_rn M, ce, sl)) = some (Sum.inl (ok, pc + len, q_rl L, q_rv v :: st.map q_rv, q_rn M, ce, sl))
      rw [hv]
  case sipush n =>
    cases vs with
    | nil => rfl
    | cons v vs =>
      have hv : q_rv v = v := q_vf_ok hb
      show some (Sum.inl (ok, pc + len, q_rl L, v :: st.map q_rv, q_rn M, ce, sl)) = some (Sum.inl (ok, pc + len, q_rl L, q_rv v :: st.map q_rv, q_rn M, ce, sl))
      rw [hv]
  case lconst n =>
    cases vs with
    | nil => rfl
    | cons v vs =>
      have hv : q_rv v = v := q_vf_ok hb
      show some (Sum.inl (ok, pc + len, q_rl L, v :: st.map q_rv, q_rn M, ce, sl)) = some (Sum.inl (ok, pc + len, q_rl L, q_rv v :: st.map q_rv, q_rn M, ce, sl))
      rw [hv]
  case ldc n =>
    cases vs with
    | nil => rfl
    | cons v vs =>
      have hv : q_rv v = v := q_vf_ok hb
      show some (Sum.inl (ok, pc + len, q_rl L, v :: st.map q_rv, q_rn M, ce, sl)) = some (Sum.inl (ok, pc + len, q_rl L, q_rv v :: st.map q_rv, q_rn M, ce, sl))
      rw [hv]
  case ldc_w n =>
    cases vs with
    | nil => rfl
    | cons v vs =>
      have hv : q_rv v = v := q_vf_ok hb
      show some (Sum.inl (ok, pc + len, q_rl L, v :: st.map q_rv, q_rn M, ce, sl)) = some (Sum.inl (ok, pc + len, q_rl L, q_rv v :: st.map q_rv, q_rn M, ce, sl))
      rw [hv]
  case ldc2_w n =>
    cases vs with
    | nil => rfl
    | cons v vs =>
      have hv : q_rv v = v := q_vf_ok hb
      show some (Sum.inl (ok, pc + len, q_rl L, v :: st.map q_rv, q_rn M, ce, sl)) = some (Sum.inl (ok, pc + len, q_rl L, q_rv v :: st.map q_rv, q_rn M, ce, sl))
      rw [hv]
  case iload i =>
    show (match q_get (q_rl L) (i) with | some (.int x) => _ | _ => none) = Option.map q_rx (match q_get L (i) with | some (.int x) => _ | _ => none)
    rw [q_rl_get]
    cases q_get L (i) with
    | none => rfl
    | some v => cases v <;> rfl
  case lload i =>
    show (match q_get (q_rl L) (i) with | some (.long x) => _ | _ => none) = Option.map q_rx (match q_get L (i) with | some (.long x) => _ | _ => none)
    rw [q_rl_get]
    cases q_get L (i) with
    | none => rfl
    | some v => cases v <;> rfl
  case aload i =>
    show (match q_get (q_rl L) (i) with | some (.ref x) => _ | _ => none) = Option.map q_rx (match q_get L (i) with | some (.ref x) => _ | _ => none)
    rw [q_rl_get]
    cases q_get L (i) with
    | none => rfl
    | some v => cases v <;> rfl
  case iload_n i =>
    show (match q_get (q_rl L) (i.val) with | some (.int x) => _ | _ => none) = Option.map q_rx (match q_get L (i.val) with | some (.int x) => _ | _ => none)
    rw [q_rl_get]
    cases q_get L (i.val) with
    | none => rfl
    | some v => cases v <;> rfl
  case lload_n i =>
    show (match q_get (q_rl L) (i.val) with | some (.long x) => _ | _ => none) = Option.map q_rx (match q_get L (i.val) with | some (.long x) => _ | _ => none)
    rw [q_rl_get]
    cases q_get L (i.val) with
    | none => rfl
    | some v => cases v <;> rfl
  case aload_n i =>
    show (match q_get (q_rl L) (i.val) with | some (.ref x) => _ | _ => none) = Option.map q_rx (match q_get L (i.val) with | some (.ref x) => _ | _ => none)
    rw [q_rl_get]
    cases q_get L (i.val) with
    | none => rfl
    | some v => cases v <;> rfl
  case istore i =>
    cases st with
    | nil => rfl
    | cons v0 st =>
      cases v0
      case int x0 =>
        exact congrArg (fun z => some (Sum.inl z)) (by simp only [q_rc, q_rl_len, q_rl_set_i])
      all_goals rfl
  case astore i =>
    cases st with
    | nil => rfl
    | cons v0 st =>
      cases v0
      case ref x0 =>
        exact congrArg (fun z => some (Sum.inl z)) (by simp only [q_rc, q_rl_len, q_rl_set_r])
      all_goals rfl
  case lstore i =>
    cases st with
    | nil => rfl
    | cons v0 st =>
      cases v0
      case long x0 =>
        exact congrArg (fun z => some (Sum.inl z)) (by simp only [q_rc, q_rl_len, q_rl_setL_l])
      all_goals rfl
  case istore_n i =>
    cases st with
    | nil => rfl
    | cons v0 st =>
      cases v0
      case int x0 =>
        exact congrArg (fun z => some (Sum.inl z)) (by simp only [q_rc, q_rl_len, q_rl_set_i])
      all_goals rfl
  case astore_n i =>
    cases st with
    | nil => rfl
    | cons v0 st =>
      cases v0
      case ref x0 =>
        exact congrArg (fun z => some (Sum.inl z)) (by simp only [q_rc, q_rl_len, q_rl_set_r])
      all_goals rfl
  case lstore_n i =>
    cases st with
    | nil => rfl
    | cons v0 st =>
      cases v0
      case long x0 =>
        exact congrArg (fun z => some (Sum.inl z)) (by simp only [q_rc, q_rl_len, q_rl_setL_l])
      all_goals rfl
  case iinc i n =>
    show (match q_get (q_rl L) i, vs with | some (.int x), .int d :: _ => _ | _, _ => none) = Option.map q_rx (match q_get L i, vs with | some (.int x), .int d :: _ => _ | _, _ => none)
    rw [q_rl_get]
    cases q_get L i with
    | none => rfl
    | some v =>
      cases v
      case int x =>
        cases vs with
        | nil => rfl
        | cons v vs =>
          cases v
          case int d => exact congrArg (fun z => some (Sum.inl z)) (by simp only [q_rc, q_rl_len, q_rl_set_i])
          all_goals rfl
      all_goals rfl
  case idiv =>
    cases st with
    | nil => rfl
    | cons v0 st =>
      cases v0
      case int x0 =>
        cases st with
        | nil => rfl
        | cons v1 st =>
          cases v1
          case int x1 =>
            rfl
          all_goals rfl
      all_goals rfl
  case irem =>
    cases st with
    | nil => rfl
    | cons v0 st =>
      cases v0
      case int x0 =>
        cases st with
        | nil => rfl
        | cons v1 st =>
          cases v1
          case int x1 =>
            rfl
          all_goals rfl
      all_goals rfl
  case ineg =>
    cases st with
    | nil => rfl
    | cons v0 st =>
      cases v0
      case int x0 =>
        rfl
      all_goals rfl
  case i2b =>
    cases st with
    | nil => rfl
    | cons v0 st =>
      cases v0
      case int x0 =>
        rfl
      all_goals rfl
  case i2l =>
    cases st with
    | nil => rfl
    | cons v0 st =>
      cases v0
      case int x0 =>
        rfl
      all_goals rfl
  case l2i =>
    cases st with
    | nil => rfl
    | cons v0 st =>
      cases v0
      case long x0 =>
        rfl
      all_goals rfl
  case lshl =>
    cases st with
    | nil => rfl
    | cons v0 st =>
      cases v0
      case int x0 =>
        cases st with
        | nil => rfl
        | cons v1 st =>
          cases v1
          case long x1 =>
            rfl
          all_goals rfl
      all_goals rfl
  case lshr =>
    cases st with
    | nil => rfl
    | cons v0 st =>
      cases v0
      case int x0 =>
        cases st with
        | nil => rfl
        | cons v1 st =>
          cases v1
          case long x1 =>
            rfl
          all_goals rfl
      all_goals rfl
  case lushr =>
    cases st with
    | nil => rfl
    | cons v0 st =>
      cases v0
      case int x0 =>
        cases st with
        | nil => rfl
        | cons v1 st =>
          cases v1
          case long x1 =>
            rfl
          all_goals rfl
      all_goals rfl
  case lcmp =>
    cases st with
    | nil => rfl
    | cons v0 st =>
      cases v0
      case long x0 =>
        cases st with
        | nil => rfl
        | cons v1 st =>
          cases v1
          case long x1 =>
            rfl
          all_goals rfl
      all_goals rfl
  case dup =>
    cases st with
    | nil => rfl
    | cons v0 st =>
      exact congrArg (fun z => some (Sum.inl z)) (by simp only [q_rc, q_rv_cat, List.map_cons])
  case dup2 =>
    cases st with
    | nil => rfl
    | cons v0 st =>
      cases st with
      | nil => rfl
      | cons v1 st =>
        exact congrArg (fun z => some (Sum.inl z)) (by simp only [q_rc, q_rv_cat, List.map_cons])
  case pop =>
    cases st with
    | nil => rfl
    | cons v0 st =>
      exact congrArg (fun z => some (Sum.inl z)) (by simp only [q_rc, q_rv_cat])
  case goto n => rfl
  case if_icmp c n =>
    cases st with
    | nil => rfl
    | cons v0 st =>
      cases v0
      case int x0 =>
        cases st with
        | nil => rfl
        | cons v1 st =>
          cases v1
          case int x1 =>
            rfl
          all_goals rfl
      all_goals rfl
  case ifCond c n =>
    cases st with
    | nil => rfl
    | cons v0 st =>
      cases v0
      case int x0 =>
        rfl
      all_goals rfl
  case tableswitch a b c d =>
    cases st with
    | nil => rfl
    | cons v0 st =>
      cases v0
      case int x0 =>
        rfl
      all_goals rfl
  case lookupswitch a b =>
    cases st with
    | nil => rfl
    | cons v0 st =>
      cases v0
      case int x0 =>
        rfl
      all_goals rfl
  case getfield n =>
    cases st with
    | nil => rfl
    | cons v st =>
      cases v
      case ref p =>
        show (match ns.getD 3 0 with | 2 => q_nf ((q_rn M).2.2.1 (q_rh p) (ns.getD 2 0)) _ | t => _) = Option.map q_rx (match ns.getD 3 0 with | 2 => q_nf (M.2.2.1 p (ns.getD 2 0)) _ | t => _)
        split
        · rw [q_nf_eq, q_nf_eq]
          exact congrArg (fun z => some (Sum.inl z)) (by simp only [q_rc, q_rv, q_rn_kd, List.map_cons, q_rn_R])
        · exact congrArg (fun z => some (Sum.inl z)) (by simp only [q_rc, q_rv, q_rn_kd, List.map_cons, q_rn_fld])
      all_goals rfl
  case putfield n =>
    cases st with
    | nil => rfl
    | cons v0 st =>
      cases st with
      | nil => rfl
      | cons v1 st =>
        cases v1
        case ref x1 =>
          exact congrArg (fun z => some (Sum.inl z)) (by simp only [q_rc, q_rv, q_rn_kd, q_rn_put, q_rv_fit])
        all_goals rfl
  case getstatic n =>
    have hz : q_rh (ns.getD 1 0) = ns.getD 1 0 := q_eb_gs hb
    have h1 : q_kd (q_rn M) (ns.getD 1 0) = q_kd M (ns.getD 1 0) := by
      have := q_rn_kd M (ns.getD 1 0)
      rw [hz] at this; exact this
    show some (Sum.inl (cond (Nat.beq (q_kd (q_rn M) (ns.getD 1 0)) 30) ok false, pc + len, q_rl L, Value.ref (ns.getD 1 0) :: st.map q_rv, q_rn M, ce, sl)) = some (Sum.inl (cond (Nat.beq (q_kd M (ns.getD 1 0)) 30) ok false, pc + len, q_rl L, Value.ref (q_rh (ns.getD 1 0)) :: st.map q_rv, q_rn M, ce, sl))
    rw [h1, hz]
  case arraylength =>
    cases st with
    | nil => rfl
    | cons v0 st =>
      cases v0
      case ref x0 =>
        exact congrArg (fun z => some (Sum.inl z)) (by simp only [q_rc, q_rv, q_rn_kd, q_rn_len, q_rn_I, q_rn_J, List.map_cons, q_rn_upI, q_rn_upJ, q_rn_put, q_rn_fld])
      all_goals rfl
  case iaload =>
    cases st with
    | nil => rfl
    | cons v0 st =>
      cases v0
      case int x0 =>
        cases st with
        | nil => rfl
        | cons v1 st =>
          cases v1
          case ref x1 =>
            exact congrArg (fun z => some (Sum.inl z)) (by simp only [q_rc, q_rv, q_rn_kd, q_rn_len, q_rn_I, q_rn_J, List.map_cons, q_rn_upI, q_rn_upJ, q_rn_put, q_rn_fld])
          all_goals rfl
      all_goals rfl
  case baload =>
    cases st with
    | nil => rfl
    | cons v0 st =>
      cases v0
      case int x0 =>
        cases st with
        | nil => rfl
        | cons v1 st =>
          cases v1
          case ref x1 =>
            exact congrArg (fun z => some (Sum.inl z)) (by simp only [q_rc, q_rv, q_rn_kd, q_rn_len, q_rn_I, q_rn_J, List.map_cons, q_rn_upI, q_rn_upJ, q_rn_put, q_rn_fld])
          all_goals rfl
      all_goals rfl
  case laload =>
    cases st with
    | nil => rfl
    | cons v0 st =>
      cases v0
      case int x0 =>
        cases st with
        | nil => rfl
        | cons v1 st =>
          cases v1
          case ref x1 =>
            exact congrArg (fun z => some (Sum.inl z)) (by simp only [q_rc, q_rv, q_rn_kd, q_rn_len, q_rn_I, q_rn_J, List.map_cons, q_rn_upI, q_rn_upJ, q_rn_put, q_rn_fld])
          all_goals rfl
      all_goals rfl
  case iastore =>
    cases st with
    | nil => rfl
    | cons v0 st =>
      cases v0
      case int x0 =>
        cases st with
        | nil => rfl
        | cons v1 st =>
          cases v1
          case int x1 =>
            cases st with
            | nil => rfl
            | cons v2 st =>
              cases v2
              case ref x2 =>
                exact congrArg (fun z => some (Sum.inl z)) (by simp only [q_rc, q_rv, q_rn_kd, q_rn_len, q_rn_I, q_rn_J, List.map_cons, q_rn_upI, q_rn_upJ, q_rn_put, q_rn_fld])
              all_goals rfl
          all_goals rfl
      all_goals rfl
  case bastore =>
    cases st with
    | nil => rfl
    | cons v0 st =>
      cases v0
      case int x0 =>
        cases st with
        | nil => rfl
        | cons v1 st =>
          cases v1
          case int x1 =>
            cases st with
            | nil => rfl
            | cons v2 st =>
              cases v2
              case ref x2 =>
                exact congrArg (fun z => some (Sum.inl z)) (by simp only [q_rc, q_rv, q_rn_kd, q_rn_len, q_rn_I, q_rn_J, List.map_cons, q_rn_upI, q_rn_upJ, q_rn_put, q_rn_fld])
              all_goals rfl
          all_goals rfl
      all_goals rfl
  case lastore =>
    cases st with
    | nil => rfl
    | cons v0 st =>
      cases v0
      case long x0 =>
        cases st with
        | nil => rfl
        | cons v1 st =>
          cases v1
          case int x1 =>
            cases st with
            | nil => rfl
            | cons v2 st =>
              cases v2
              case ref x2 =>
                exact congrArg (fun z => some (Sum.inl z)) (by simp only [q_rc, q_rv, q_rn_kd, q_rn_len, q_rn_I, q_rn_J, List.map_cons, q_rn_upI, q_rn_upJ, q_rn_put, q_rn_fld])
              all_goals rfl
          all_goals rfl
      all_goals rfl
  case new n => cases hb
  case newarray n => cases hb
  case invokevirtual n => exact q_inv_eq hO ok pc L st M ce sl
  case invokestatic n => exact q_inv_eq hO ok pc L st M ce sl
  case invokespecial n => exact q_inv_eq hO ok pc L st M ce sl
  case ireturn =>
    cases st with
    | nil => rfl
    | cons v st =>
      cases v
      case int x =>
        cases st with
        | nil =>
          show (if _ then some (Sum.inr (some (q_rv (.int x)), q_rn M)) else none) = Option.map q_rx (if _ then some (Sum.inr (some (.int x), M)) else none)
          split
          · rfl
          · rfl
        | cons v st => rfl
      all_goals (cases st <;> rfl)
  case lreturn =>
    cases st with
    | nil => rfl
    | cons v st =>
      cases v
      case long x =>
        cases st with
        | nil =>
          show (if _ then some (Sum.inr (some (q_rv (.long x)), q_rn M)) else none) = Option.map q_rx (if _ then some (Sum.inr (some (.long x), M)) else none)
          split
          · rfl
          · rfl
        | cons v st => rfl
      all_goals (cases st <;> rfl)
  case areturn =>
    cases st with
    | nil => rfl
    | cons v st =>
      cases v
      case ref x =>
        cases st with
        | nil =>
          show (if _ then some (Sum.inr (some (q_rv (.ref x)), q_rn M)) else none) = Option.map q_rx (if _ then some (Sum.inr (some (.ref x), M)) else none)
          split
          · rfl
          · rfl
        | cons v st => rfl
      all_goals (cases st <;> rfl)
  case return_ =>
    cases st with
    | nil =>
      show (if _ then some (Sum.inr (none, q_rn M)) else none) = Option.map q_rx (if _ then some (Sum.inr (none, M)) else none)
      split
      · rfl
      · rfl
    | cons v st => rfl
  case iadd =>
    cases st with
    | nil => rfl
    | cons v0 st =>
      cases v0
      case int x0 =>
        cases st with
        | nil => rfl
        | cons v1 st =>
          cases v1
          case int x1 =>
            rfl
          all_goals rfl
      all_goals rfl
  case isub =>
    cases st with
    | nil => rfl
    | cons v0 st =>
      cases v0
      case int x0 =>
        cases st with
        | nil => rfl
        | cons v1 st =>
          cases v1
          case int x1 =>
            rfl
          all_goals rfl
      all_goals rfl
  case imul =>
    cases st with
    | nil => rfl
    | cons v0 st =>
      cases v0
      case int x0 =>
        cases st with
        | nil => rfl
        | cons v1 st =>
          cases v1
          case int x1 =>
            rfl
          all_goals rfl
      all_goals rfl
  case iand =>
    cases st with
    | nil => rfl
    | cons v0 st =>
      cases v0
      case int x0 =>
        cases st with
        | nil => rfl
        | cons v1 st =>
          cases v1
          case int x1 =>
            rfl
          all_goals rfl
      all_goals rfl
  case ior =>
    cases st with
    | nil => rfl
    | cons v0 st =>
      cases v0
      case int x0 =>
        cases st with
        | nil => rfl
        | cons v1 st =>
          cases v1
          case int x1 =>
            rfl
          all_goals rfl
      all_goals rfl
  case ixor =>
    cases st with
    | nil => rfl
    | cons v0 st =>
      cases v0
      case int x0 =>
        cases st with
        | nil => rfl
        | cons v1 st =>
          cases v1
          case int x1 =>
            rfl
          all_goals rfl
      all_goals rfl
  case ishl =>
    cases st with
    | nil => rfl
    | cons v0 st =>
      cases v0
      case int x0 =>
        cases st with
        | nil => rfl
        | cons v1 st =>
          cases v1
          case int x1 =>
            rfl
          all_goals rfl
      all_goals rfl
  case ishr =>
    cases st with
    | nil => rfl
    | cons v0 st =>
      cases v0
      case int x0 =>
        cases st with
        | nil => rfl
        | cons v1 st =>
          cases v1
          case int x1 =>
            rfl
          all_goals rfl
      all_goals rfl
  case iushr =>
    cases st with
    | nil => rfl
    | cons v0 st =>
      cases v0
      case int x0 =>
        cases st with
        | nil => rfl
        | cons v1 st =>
          cases v1
          case int x1 =>
            rfl
          all_goals rfl
      all_goals rfl
  case ladd =>
    cases st with
    | nil => rfl
    | cons v0 st =>
      cases v0
      case long x0 =>
        cases st with
        | nil => rfl
        | cons v1 st =>
          cases v1
          case long x1 =>
            rfl
          all_goals rfl
      all_goals rfl
  case lsub =>
    cases st with
    | nil => rfl
    | cons v0 st =>
      cases v0
      case long x0 =>
        cases st with
        | nil => rfl
        | cons v1 st =>
          cases v1
          case long x1 =>
            rfl
          all_goals rfl
      all_goals rfl
  case lmul =>
    cases st with
    | nil => rfl
    | cons v0 st =>
      cases v0
      case long x0 =>
        cases st with
        | nil => rfl
        | cons v1 st =>
          cases v1
          case long x1 =>
            rfl
          all_goals rfl
      all_goals rfl
  case land =>
    cases st with
    | nil => rfl
    | cons v0 st =>
      cases v0
      case long x0 =>
        cases st with
        | nil => rfl
        | cons v1 st =>
          cases v1
          case long x1 =>
            rfl
          all_goals rfl
      all_goals rfl
  case lor =>
    cases st with
    | nil => rfl
    | cons v0 st =>
      cases v0
      case long x0 =>
        cases st with
        | nil => rfl
        | cons v1 st =>
          cases v1
          case long x1 =>
            rfl
          all_goals rfl
      all_goals rfl
  all_goals (exact q_ex_none (by rfl) (by rfl) (fun _ _ _ _ => rfl))
theorem q_step_eq {cs : List (List QE)} {O : QO} {R : Nat × Nat} (hO : ∀ y, q_Eqv (O y)) (hb : (cs.all fun ch => ch.all fun e => q_eb e.2.1 e.2.2.2.1 e.2.2.2.2.1) = true) (c : QC) : q_step cs O R (q_rc c) = (q_step cs O R c).map q_rx := by
  obtain ⟨ok, pc, L, st, M, ce, sl⟩ := c
  show (match q_fd cs pc with | none => none | some e => q_ex O R e.2.1 e.2.2.1 e.2.2.2.1 e.2.2.2.2.1 e.2.2.2.2.2.1 (ok, pc, q_kl e.2.2.2.2.2.2 (q_rl L), st.map q_rv, q_rn M, ce, sl)) = Option.map q_rx (match q_fd cs pc with | none => none | some e => q_ex O R e.2.1 e.2.2.1 e.2.2.2.1 e.2.2.2.2.1 e.2.2.2.2.2.1 (ok, pc, q_kl e.2.2.2.2.2.2 L, st, M, ce, sl))
  cases he : q_fd cs pc with
  | none => rfl
  | some e =>
    obtain ⟨h1, -⟩ := q_fin_mem he
    obtain ⟨ch, h3, h4⟩ := q_nth_mem h1
    have h5 := List.all_eq_true.mp (List.all_eq_true.mp hb ch h3) e h4
    dsimp only
    rw [q_rl_kl]
    exact q_ex_eq hO h5 ok pc _ st M ce sl
theorem q_run_eq {cs : List (List QE)} {O : QO} {R : Nat × Nat} (hO : ∀ y, q_Eqv (O y)) (hb : (cs.all fun ch => ch.all fun e => q_eb e.2.1 e.2.2.2.1 e.2.2.2.2.1) = true) : ∀ (n : Nat) (c : QC), q_run cs O R n (q_rc c) = (q_run cs O R n c).map q_rr := by
  intro n
  induction n with
  | zero => intro c; rfl
  | succ n ih =>
    intro c
    unfold q_run
    rw [q_step_eq hO hb]
    cases q_step cs O R c with
    | none => rfl
    | some x =>
      cases x with
      | inl c' => exact ih c'
      | inr r => rfl
theorem q_D_eq {cs : List (List QE)} {O : QO} {R : Nat × Nat} (hO : ∀ y, q_Eqv (O y)) (hb : (cs.all fun ch => ch.all fun e => q_eb e.2.1 e.2.2.2.1 e.2.2.2.2.1) = true) (c : QC) : q_D cs O R (q_rc c) = (q_D cs O R c).map q_rr := by
  apply Option.ext
  intro r
  rw [Option.map_eq_some_iff]
  constructor
  · intro h
    obtain ⟨n, hn⟩ := q_D_iff.mp h
    rw [q_run_eq hO hb, Option.map_eq_some_iff] at hn
    obtain ⟨a, h1, h2⟩ := hn
    exact ⟨a, q_D_iff.mpr ⟨n, h1⟩, h2⟩
  · intro ⟨a, h1, h2⟩
    obtain ⟨n, hn⟩ := q_D_iff.mp h1
    exact q_D_iff.mpr ⟨n, by rw [q_run_eq hO hb, hn, ← h2]; rfl⟩
theorem q_sl_rv : ∀ (as : List Value), q_sl (as.map q_rv) = q_rl (q_sl as) := by
  intro as
  induction as with
  | nil => rfl
  | cons v r ih =>
    rw [List.map_cons, q_sl_cons, q_sl_cons, q_rv_cat, ih]
    split <;> rfl
theorem q_L0_rv (as : List Value) (n : Nat) : q_L0 (as.map q_rv) n = q_rl (q_L0 as n) := by
  unfold q_L0
  rw [q_sl_rv, q_rl_len]
  unfold q_rl
  rw [List.map_append, List.map_replicate]
  rfl
theorem q_eqv_of {cs : List (List QE)} {O : QO} {R : Nat × Nat} {n : Nat} (hb : (cs.all fun ch => ch.all fun e => q_eb e.2.1 e.2.2.2.1 e.2.2.2.2.1) = true) (hO : ∀ y, q_Eqv (O y)) : q_Eqv (fun as M => cond (Nat.ble (q_sl as).length n) (q_D cs O R (true, 0, q_L0 as n, [], M, 0, 0)) none) := by
  intro as M
  dsimp only
  rw [q_sl_rv, q_rl_len, q_L0_rv]
  cases Nat.ble (q_sl as).length n with
  | false => rfl
  | true => exact q_D_eq hO hb (true, 0, q_L0 as n, [], M, 0, 0)
theorem q_E_nil : ∀ y : Nat, q_Eqv ((fun _ => fun _ _ => none : QO) y) := fun _ _ _ => rfl
theorem q_E_cons {c : Nat} {f : List Value → QM → Option QR} {g : QO} (hf : q_Eqv f) (hg : ∀ y, q_Eqv (g y)) : ∀ y : Nat, q_Eqv ((fun y => cond (Nat.beq y c) f (g y)) y) := by
  intro y
  show q_Eqv (cond (Nat.beq y c) f (g y))
  cases Nat.beq y c with
  | true => exact hf
  | false => exact hg y
theorem q_nb2 {y c : Nat} (h : ¬ y = c) : Nat.beq y c = false := by
  cases hb : Nat.beq y c with
  | false => rfl
  | true => exact absurd (Nat.eq_of_beq_eq_true hb) h
theorem q_E_rest {f : List Value → QM → Option QR} (h : ∀ as M, f as M = none) : q_Eqv f := fun as M => by rw [h, h]; rfl

theorem rX3_init : q_Eqv mX3_init := q_eqv_of (cs := cs_X3_init) (O := oX3_init) (n := 1) (R := (0, 0)) (by decide +kernel) (q_E_nil)
theorem rX3_mendAll : q_Eqv mX3_mendAll := q_eqv_of (cs := cs_X3_mendAll) (O := oX3_mendAll) (n := 1) (R := (0, 0)) (by decide +kernel) (q_E_nil)
theorem rX4_clear : q_Eqv mX4_clear := q_eqv_of (cs := cs_X4_clear) (O := oX4_clear) (n := 1) (R := (0, 0)) (by decide +kernel) (q_E_nil)
theorem rJ7_fill_53178 : q_Eqv mJ7_fill_53178 := q_eqv_of (cs := cs_J7_fill_53178) (O := oJ7_fill_53178) (n := 4) (R := (0, 0)) (by decide +kernel) (q_E_nil)
theorem rX0_clear : q_Eqv mX0_clear := q_eqv_of (cs := cs_X0_clear) (O := oX0_clear) (n := 1) (R := (0, 0)) (by decide +kernel) (q_E_cons (c := 65) rX3_mendAll (q_E_cons (c := 77) rX4_clear (q_E_cons (c := 391) rJ7_fill_53178 (q_E_nil))))
theorem rX0_hasDevice : q_Eqv mX0_hasDevice := q_eqv_of (cs := cs_X0_hasDevice) (O := oX0_hasDevice) (n := 2) (R := (0, 0)) (by decide +kernel) (q_E_nil)
theorem rX0_hasNet : q_Eqv mX0_hasNet := q_eqv_of (cs := cs_X0_hasNet) (O := oX0_hasNet) (n := 2) (R := (0, 0)) (by decide +kernel) (q_E_nil)
theorem rX0_hasCell : q_Eqv mX0_hasCell := q_eqv_of (cs := cs_X0_hasCell) (O := oX0_hasCell) (n := 3) (R := (0, 0)) (by decide +kernel) (q_E_cons (c := 12) rX0_hasDevice (q_E_nil))
theorem rX0_isReceiver : q_Eqv mX0_isReceiver := q_eqv_of (cs := cs_X0_isReceiver) (O := oX0_isReceiver) (n := 2) (R := (0, 0)) (by decide +kernel) (q_E_nil)
theorem rX11_placeOf : q_Eqv mX11_placeOf := q_eqv_of (cs := cs_X11_placeOf) (O := oX11_placeOf) (n := 2) (R := (0, 0)) (by decide +kernel) (q_E_nil)
theorem rX0_hasReceiver : q_Eqv mX0_hasReceiver := q_eqv_of (cs := cs_X0_hasReceiver) (O := oX0_hasReceiver) (n := 3) (R := (0, 0)) (by decide +kernel) (q_E_cons (c := 14) rX0_hasCell (q_E_cons (c := 16) rX0_isReceiver (q_E_cons (c := 178) rX11_placeOf (q_E_nil))))
theorem rX0_keptSafe : q_Eqv mX0_keptSafe := q_eqv_of (cs := cs_X0_keptSafe) (O := oX0_keptSafe) (n := 4) (R := (0, 0)) (by decide +kernel) (q_E_nil)
theorem rX0_unsafeAt : q_Eqv mX0_unsafeAt := q_eqv_of (cs := cs_X0_unsafeAt) (O := oX0_unsafeAt) (n := 2) (R := (0, 0)) (by decide +kernel) (q_E_cons (c := 17) rX0_keptSafe (q_E_nil))
theorem rX0_readsAt : q_Eqv mX0_readsAt := q_eqv_of (cs := cs_X0_readsAt) (O := oX0_readsAt) (n := 6) (R := (0, 0)) (by decide +kernel) (q_E_nil)
theorem rX0_receiversAt : q_Eqv mX0_receiversAt := q_eqv_of (cs := cs_X0_receiversAt) (O := oX0_receiversAt) (n := 2) (R := (0, 0)) (by decide +kernel) (q_E_cons (c := 19) rX0_readsAt (q_E_nil))
theorem rX4_named : q_Eqv mX4_named := q_eqv_of (cs := cs_X4_named) (O := oX4_named) (n := 4) (R := (0, 0)) (by decide +kernel) (q_E_nil)
theorem rX4_joined : q_Eqv mX4_joined := q_eqv_of (cs := cs_X4_joined) (O := oX4_joined) (n := 3) (R := (0, 0)) (by decide +kernel) (q_E_nil)
theorem rX4_value : q_Eqv mX4_value := q_eqv_of (cs := cs_X4_value) (O := oX4_value) (n := 7) (R := (0, 0)) (by decide +kernel) (q_E_cons (c := 80) rX4_named (q_E_cons (c := 81) rX4_joined (q_E_nil)))
theorem rX0_floatingAt : q_Eqv mX0_floatingAt := q_eqv_of (cs := cs_X0_floatingAt) (O := oX0_floatingAt) (n := 5) (R := (0, 0)) (by decide +kernel) (q_E_cons (c := 79) rX4_value (q_E_nil))
theorem rX0_firstOpen : q_Eqv mX0_firstOpen := q_eqv_of (cs := cs_X0_firstOpen) (O := oX0_firstOpen) (n := 1) (R := (0, 0)) (by decide +kernel) (q_E_nil)
theorem rJ6_bitCount_0f7a4 : q_Eqv mJ6_bitCount_0f7a4 := q_eqv_of (cs := cs_J6_bitCount_0f7a4) (O := oJ6_bitCount_0f7a4) (n := 1) (R := (0, 0)) (by decide +kernel) (q_E_nil)
theorem rX0_firstShort : q_Eqv mX0_firstShort := q_eqv_of (cs := cs_X0_firstShort) (O := oX0_firstShort) (n := 1) (R := (0, 0)) (by decide +kernel) (q_E_cons (c := 23) rX0_firstOpen (q_E_cons (c := 389) rJ6_bitCount_0f7a4 (q_E_nil)))
theorem rX0_singleCount : q_Eqv mX0_singleCount := q_eqv_of (cs := cs_X0_singleCount) (O := oX0_singleCount) (n := 1) (R := (0, 0)) (by decide +kernel) (q_E_cons (c := 24) rX0_firstShort (q_E_nil))
theorem rX0_hasSingle : q_Eqv mX0_hasSingle := q_eqv_of (cs := cs_X0_hasSingle) (O := oX0_hasSingle) (n := 2) (R := (0, 0)) (by decide +kernel) (q_E_cons (c := 22) rX0_singleCount (q_E_nil))
theorem rX0_sortOf : q_Eqv mX0_sortOf := q_eqv_of (cs := cs_X0_sortOf) (O := oX0_sortOf) (n := 2) (R := (0, 0)) (by decide +kernel) (q_E_cons (c := 23) rX0_firstOpen (q_E_cons (c := 24) rX0_firstShort (q_E_nil)))
theorem rX0_isHigh : q_Eqv mX0_isHigh := q_eqv_of (cs := cs_X0_isHigh) (O := oX0_isHigh) (n := 3) (R := (0, 0)) (by decide +kernel) (q_E_cons (c := 24) rX0_firstShort (q_E_cons (c := 26) rX0_sortOf (q_E_nil)))
theorem rX0_placeOfOpen : q_Eqv mX0_placeOfOpen := q_eqv_of (cs := cs_X0_placeOfOpen) (O := oX0_placeOfOpen) (n := 4) (R := (0, 0)) (by decide +kernel) (q_E_cons (c := 16) rX0_isReceiver (q_E_cons (c := 23) rX0_firstOpen (q_E_nil)))
theorem rX0_pairOfShort : q_Eqv mX0_pairOfShort := q_eqv_of (cs := cs_X0_pairOfShort) (O := oX0_pairOfShort) (n := 4) (R := (0, 0)) (by decide +kernel) (q_E_cons (c := 24) rX0_firstShort (q_E_nil))
theorem rX0_targetOf : q_Eqv mX0_targetOf := q_eqv_of (cs := cs_X0_targetOf) (O := oX0_targetOf) (n := 3) (R := (0, 0)) (by decide +kernel) (q_E_cons (c := 26) rX0_sortOf (q_E_cons (c := 28) rX0_placeOfOpen (q_E_cons (c := 29) rX0_pairOfShort (q_E_nil))))
theorem rX0_firstOf : q_Eqv mX0_firstOf := q_eqv_of (cs := cs_X0_firstOf) (O := oX0_firstOf) (n := 4) (R := (0, 0)) (by decide +kernel) (q_E_cons (c := 26) rX0_sortOf (q_E_cons (c := 30) rX0_targetOf (q_E_nil)))
theorem rX0_secondOf : q_Eqv mX0_secondOf := q_eqv_of (cs := cs_X0_secondOf) (O := oX0_secondOf) (n := 4) (R := (0, 0)) (by decide +kernel) (q_E_cons (c := 26) rX0_sortOf (q_E_cons (c := 30) rX0_targetOf (q_E_nil)))
theorem rX0_isThere : q_Eqv mX0_isThere := q_eqv_of (cs := cs_X0_isThere) (O := oX0_isThere) (n := 5) (R := (0, 0)) (by decide +kernel) (q_E_cons (c := 26) rX0_sortOf (q_E_cons (c := 27) rX0_isHigh (q_E_cons (c := 30) rX0_targetOf (q_E_nil))))
theorem rX0_isBarred : q_Eqv mX0_isBarred := q_eqv_of (cs := cs_X0_isBarred) (O := oX0_isBarred) (n := 5) (R := (0, 0)) (by decide +kernel) (q_E_cons (c := 26) rX0_sortOf (q_E_cons (c := 30) rX0_targetOf (q_E_cons (c := 33) rX0_isThere (q_E_nil))))
theorem rX0_turnSingle : q_Eqv mX0_turnSingle := q_eqv_of (cs := cs_X0_turnSingle) (O := oX0_turnSingle) (n := 5) (R := (0, 0)) (by decide +kernel) (q_E_cons (c := 26) rX0_sortOf (q_E_cons (c := 27) rX0_isHigh (q_E_cons (c := 30) rX0_targetOf (q_E_nil))))
theorem rX1_restingOrder : q_Eqv mX1_restingOrder := q_eqv_of (cs := cs_X1_restingOrder) (O := oX1_restingOrder) (n := 2) (R := (0, 0)) (by decide +kernel) (q_E_nil)
theorem rX3_takeOver : q_Eqv mX3_takeOver := q_eqv_of (cs := cs_X3_takeOver) (O := oX3_takeOver) (n := 2) (R := (0, 0)) (by decide +kernel) (q_E_nil)
theorem rX1_begin : q_Eqv mX1_begin := q_eqv_of (cs := cs_X1_begin) (O := oX1_begin) (n := 3) (R := (0, 0)) (by decide +kernel) (q_E_cons (c := 38) rX1_restingOrder (q_E_cons (c := 66) rX3_takeOver (q_E_cons (c := 391) rJ7_fill_53178 (q_E_nil))))
theorem rX1_hasCellsAsData : q_Eqv mX1_hasCellsAsData := q_eqv_of (cs := cs_X1_hasCellsAsData) (O := oX1_hasCellsAsData) (n := 2) (R := (0, 0)) (by decide +kernel) (q_E_nil)
theorem rX1_tellsWho : q_Eqv mX1_tellsWho := q_eqv_of (cs := cs_X1_tellsWho) (O := oX1_tellsWho) (n := 3) (R := (0, 0)) (by decide +kernel) (q_E_nil)
theorem rX1_dataBits : q_Eqv mX1_dataBits := q_eqv_of (cs := cs_X1_dataBits) (O := oX1_dataBits) (n := 3) (R := (0, 0)) (by decide +kernel) (q_E_cons (c := 39) rX1_hasCellsAsData (q_E_cons (c := 40) rX1_tellsWho (q_E_nil)))
theorem rX1_driversUp : q_Eqv mX1_driversUp := q_eqv_of (cs := cs_X1_driversUp) (O := oX1_driversUp) (n := 5) (R := (0, 0)) (by decide +kernel) (q_E_cons (c := 178) rX11_placeOf (q_E_nil))
theorem rX1_driven : q_Eqv mX1_driven := q_eqv_of (cs := cs_X1_driven) (O := oX1_driven) (n := 5) (R := (0, 0)) (by decide +kernel) (q_E_cons (c := 42) rX1_driversUp (q_E_nil))
theorem rX1_fighting : q_Eqv mX1_fighting := q_eqv_of (cs := cs_X1_fighting) (O := oX1_fighting) (n := 5) (R := (0, 0)) (by decide +kernel) (q_E_cons (c := 42) rX1_driversUp (q_E_nil))
theorem rX1_floating : q_Eqv mX1_floating := q_eqv_of (cs := cs_X1_floating) (O := oX1_floating) (n := 2) (R := (0, 0)) (by decide +kernel) (q_E_cons (c := 21) rX0_floatingAt (q_E_nil))
theorem rX3_netsOf : q_Eqv mX3_netsOf := q_eqv_of (cs := cs_X3_netsOf) (O := oX3_netsOf) (n := 1) (R := (0, 0)) (by decide +kernel) (q_E_nil)
theorem rX3_hanging : q_Eqv mX3_hanging := q_eqv_of (cs := cs_X3_hanging) (O := oX3_hanging) (n := 7) (R := (0, 0)) (by decide +kernel) (q_E_cons (c := 69) rX3_netsOf (q_E_nil))
theorem rX3_pullsLow : q_Eqv mX3_pullsLow := q_eqv_of (cs := cs_X3_pullsLow) (O := oX3_pullsLow) (n := 3) (R := (0, 0)) (by decide +kernel) (q_E_cons (c := 69) rX3_netsOf (q_E_nil))
theorem rX3_drives : q_Eqv mX3_drives := q_eqv_of (cs := cs_X3_drives) (O := oX3_drives) (n := 2) (R := (0, 0)) (by decide +kernel) (q_E_nil)
theorem rX3_levels : q_Eqv mX3_levels := q_eqv_of (cs := cs_X3_levels) (O := oX3_levels) (n := 8) (R := (0, 0)) (by decide +kernel) (q_E_cons (c := 70) rX3_hanging (q_E_cons (c := 71) rX3_pullsLow (q_E_cons (c := 72) rX3_drives (q_E_nil))))
theorem rX1_reads : q_Eqv mX1_reads := q_eqv_of (cs := cs_X1_reads) (O := oX1_reads) (n := 2) (R := (0, 0)) (by decide +kernel) (q_E_cons (c := 19) rX0_readsAt (q_E_cons (c := 21) rX0_floatingAt (q_E_cons (c := 43) rX1_driven (q_E_cons (c := 73) rX3_levels (q_E_nil)))))
theorem rX1_setOrder : q_Eqv mX1_setOrder := q_eqv_of (cs := cs_X1_setOrder) (O := oX1_setOrder) (n := 3) (R := (0, 0)) (by decide +kernel) (q_E_nil)
theorem rX1_rest : q_Eqv mX1_rest := q_eqv_of (cs := cs_X1_rest) (O := oX1_rest) (n := 3) (R := (0, 0)) (by decide +kernel) (q_E_cons (c := 38) rX1_restingOrder (q_E_cons (c := 49) rX1_setOrder (q_E_nil)))
theorem rX1_capture : q_Eqv mX1_capture := q_eqv_of (cs := cs_X1_capture) (O := oX1_capture) (n := 4) (R := (0, 0)) (by decide +kernel) (q_E_cons (c := 39) rX1_hasCellsAsData (q_E_cons (c := 40) rX1_tellsWho (q_E_cons (c := 41) rX1_dataBits (q_E_cons (c := 46) rX1_reads (q_E_cons (c := 178) rX11_placeOf (q_E_nil))))))
theorem rX1_captureOrders : q_Eqv mX1_captureOrders := q_eqv_of (cs := cs_X1_captureOrders) (O := oX1_captureOrders) (n := 3) (R := (0, 0)) (by decide +kernel) (q_E_nil)
theorem rX1_shiftData : q_Eqv mX1_shiftData := q_eqv_of (cs := cs_X1_shiftData) (O := oX1_shiftData) (n := 7) (R := (0, 0)) (by decide +kernel) (q_E_cons (c := 41) rX1_dataBits (q_E_nil))
theorem rX1_shiftOrders : q_Eqv mX1_shiftOrders := q_eqv_of (cs := cs_X1_shiftOrders) (O := oX1_shiftOrders) (n := 6) (R := (0, 0)) (by decide +kernel) (q_E_nil)
theorem rX1_giveData : q_Eqv mX1_giveData := q_eqv_of (cs := cs_X1_giveData) (O := oX1_giveData) (n := 3) (R := (0, 0)) (by decide +kernel) (q_E_nil)
theorem rX1_giveOrders : q_Eqv mX1_giveOrders := q_eqv_of (cs := cs_X1_giveOrders) (O := oX1_giveOrders) (n := 3) (R := (0, 0)) (by decide +kernel) (q_E_cons (c := 49) rX1_setOrder (q_E_nil))
theorem rX10_next : q_Eqv mX10_next := q_eqv_of (cs := cs_X10_next) (O := oX10_next) (n := 2) (R := (0, 0)) (by decide +kernel) (q_E_nil)
theorem rX1_tick : q_Eqv mX1_tick := q_eqv_of (cs := cs_X1_tick) (O := oX1_tick) (n := 5) (R := (0, 0)) (by decide +kernel) (q_E_cons (c := 48) rX1_rest (q_E_cons (c := 50) rX1_capture (q_E_cons (c := 51) rX1_captureOrders (q_E_cons (c := 52) rX1_shiftData (q_E_cons (c := 53) rX1_shiftOrders (q_E_cons (c := 54) rX1_giveData (q_E_cons (c := 55) rX1_giveOrders (q_E_cons (c := 163) rX10_next (q_E_nil)))))))))
theorem rX10_measure : q_Eqv mX10_measure := q_eqv_of (cs := cs_X10_measure) (O := oX10_measure) (n := 8) (R := (0, 0)) (by decide +kernel) (q_E_cons (c := 391) rJ7_fill_53178 (q_E_nil))
theorem rX10_lead : q_Eqv mX10_lead := q_eqv_of (cs := cs_X10_lead) (O := oX10_lead) (n := 8) (R := (0, 0)) (by decide +kernel) (q_E_cons (c := 163) rX10_next (q_E_cons (c := 164) rX10_measure (q_E_nil)))
theorem rX1_sweep : q_Eqv mX1_sweep := q_eqv_of (cs := cs_X1_sweep) (O := oX1_sweep) (n := 10) (R := (0, 0)) (by decide +kernel) (q_E_cons (c := 47) rX1_tick (q_E_cons (c := 165) rX10_lead (q_E_nil)))
theorem rX3_save : q_Eqv mX3_save := q_eqv_of (cs := cs_X3_save) (O := oX3_save) (n := 3) (R := (0, 0)) (by decide +kernel) (q_E_nil)
theorem rX1_save : q_Eqv mX1_save := q_eqv_of (cs := cs_X1_save) (O := oX1_save) (n := 3) (R := (0, 0)) (by decide +kernel) (q_E_cons (c := 74) rX3_save (q_E_nil))
theorem rX3_load : q_Eqv mX3_load := q_eqv_of (cs := cs_X3_load) (O := oX3_load) (n := 3) (R := (0, 0)) (by decide +kernel) (q_E_nil)
theorem rX1_load : q_Eqv mX1_load := q_eqv_of (cs := cs_X1_load) (O := oX1_load) (n := 3) (R := (0, 0)) (by decide +kernel) (q_E_cons (c := 75) rX3_load (q_E_nil))
theorem rX2_countSteps : q_Eqv mX2_countSteps := q_eqv_of (cs := cs_X2_countSteps) (O := oX2_countSteps) (n := 1) (R := (0, 0)) (by decide +kernel) (q_E_nil)
theorem rX2_stepCount : q_Eqv mX2_stepCount := q_eqv_of (cs := cs_X2_stepCount) (O := oX2_stepCount) (n := 3) (R := (0, 0)) (by decide +kernel) (q_E_cons (c := 59) rX2_countSteps (q_E_nil))
theorem rX2_counted : q_Eqv mX2_counted := q_eqv_of (cs := cs_X2_counted) (O := oX2_counted) (n := 4) (R := (0, 0)) (by decide +kernel) (q_E_nil)
theorem rX2_pattern : q_Eqv mX2_pattern := q_eqv_of (cs := cs_X2_pattern) (O := oX2_pattern) (n := 5) (R := (0, 0)) (by decide +kernel) (q_E_cons (c := 17) rX0_keptSafe (q_E_cons (c := 59) rX2_countSteps (q_E_cons (c := 61) rX2_counted (q_E_nil))))
theorem rX2_stepsOf : q_Eqv mX2_stepsOf := q_eqv_of (cs := cs_X2_stepsOf) (O := oX2_stepsOf) (n := 6) (R := (0, 0)) (by decide +kernel) (q_E_cons (c := 60) rX2_stepCount (q_E_cons (c := 62) rX2_pattern (q_E_nil)))
theorem rX3_count : q_Eqv mX3_count := q_eqv_of (cs := cs_X3_count) (O := oX3_count) (n := 1) (R := (0, 0)) (by decide +kernel) (q_E_cons (c := 389) rJ6_bitCount_0f7a4 (q_E_nil))
theorem rX3_pairOf : q_Eqv mX3_pairOf := q_eqv_of (cs := cs_X3_pairOf) (O := oX3_pairOf) (n := 5) (R := (0, 0)) (by decide +kernel) (q_E_nil)
theorem rX4_put : q_Eqv mX4_put := q_eqv_of (cs := cs_X4_put) (O := oX4_put) (n := 2) (R := (0, 0)) (by decide +kernel) (q_E_nil)
theorem rX5_look : q_Eqv mX5_look := q_eqv_of (cs := cs_X5_look) (O := oX5_look) (n := 6) (R := (0, 0)) (by decide +kernel) (q_E_cons (c := 19) rX0_readsAt (q_E_cons (c := 20) rX0_receiversAt (q_E_cons (c := 60) rX2_stepCount (q_E_cons (c := 62) rX2_pattern (q_E_cons (c := 73) rX3_levels (q_E_nil))))))
theorem rX5_goodCount : q_Eqv mX5_goodCount := q_eqv_of (cs := cs_X5_goodCount) (O := oX5_goodCount) (n := 1) (R := (0, 0)) (by decide +kernel) (q_E_cons (c := 389) rJ6_bitCount_0f7a4 (q_E_nil))
theorem rX5_across : q_Eqv mX5_across := q_eqv_of (cs := cs_X5_across) (O := oX5_across) (n := 5) (R := (0, 0)) (by decide +kernel) (q_E_nil)
theorem rX5_answerAt : q_Eqv mX5_answerAt := q_eqv_of (cs := cs_X5_answerAt) (O := oX5_answerAt) (n := 2) (R := (0, 0)) (by decide +kernel) (q_E_cons (c := 86) rX5_across (q_E_nil))
theorem rX5_isToldToSome : q_Eqv mX5_isToldToSome := q_eqv_of (cs := cs_X5_isToldToSome) (O := oX5_isToldToSome) (n := 4) (R := (0, 0)) (by decide +kernel) (q_E_cons (c := 86) rX5_across (q_E_nil))
theorem rX5_aliasedNets : q_Eqv mX5_aliasedNets := q_eqv_of (cs := cs_X5_aliasedNets) (O := oX5_aliasedNets) (n := 6) (R := (0, 0)) (by decide +kernel) (q_E_cons (c := 85) rX5_answerAt (q_E_cons (c := 88) rX5_isToldToSome (q_E_nil)))
theorem rX5_isAnswerAmong : q_Eqv mX5_isAnswerAmong := q_eqv_of (cs := cs_X5_isAnswerAmong) (O := oX5_isAnswerAmong) (n := 4) (R := (0, 0)) (by decide +kernel) (q_E_cons (c := 85) rX5_answerAt (q_E_nil))
theorem rX5_shareAnswer : q_Eqv mX5_shareAnswer := q_eqv_of (cs := cs_X5_shareAnswer) (O := oX5_shareAnswer) (n := 4) (R := (0, 0)) (by decide +kernel) (q_E_cons (c := 85) rX5_answerAt (q_E_cons (c := 89) rX5_isAnswerAmong (q_E_nil)))
theorem rX5_confoundedWith : q_Eqv mX5_confoundedWith := q_eqv_of (cs := cs_X5_confoundedWith) (O := oX5_confoundedWith) (n := 8) (R := (0, 0)) (by decide +kernel) (q_E_cons (c := 70) rX3_hanging (q_E_cons (c := 91) rX5_shareAnswer (q_E_nil)))
theorem rX5_commonAnswer : q_Eqv mX5_commonAnswer := q_eqv_of (cs := cs_X5_commonAnswer) (O := oX5_commonAnswer) (n := 5) (R := (0, 0)) (by decide +kernel) (q_E_cons (c := 85) rX5_answerAt (q_E_nil))
theorem rX5_verdictOf : q_Eqv mX5_verdictOf := q_eqv_of (cs := cs_X5_verdictOf) (O := oX5_verdictOf) (n := 5) (R := (0, 0)) (by decide +kernel) (q_E_cons (c := 89) rX5_isAnswerAmong (q_E_cons (c := 93) rX5_commonAnswer (q_E_nil)))
theorem rX5_worstNet : q_Eqv mX5_worstNet := q_eqv_of (cs := cs_X5_worstNet) (O := oX5_worstNet) (n := 6) (R := (0, 0)) (by decide +kernel) (q_E_cons (c := 389) rJ6_bitCount_0f7a4 (q_E_nil))
theorem rX5_bestMended : q_Eqv mX5_bestMended := q_eqv_of (cs := cs_X5_bestMended) (O := oX5_bestMended) (n := 7) (R := (0, 0)) (by decide +kernel) (q_E_cons (c := 22) rX0_singleCount (q_E_cons (c := 33) rX0_isThere (q_E_cons (c := 35) rX0_turnSingle (q_E_cons (c := 66) rX3_takeOver (q_E_cons (c := 83) rX5_look (q_E_cons (c := 84) rX5_goodCount (q_E_nil)))))))
theorem rX5_safestPattern : q_Eqv mX5_safestPattern := q_eqv_of (cs := cs_X5_safestPattern) (O := oX5_safestPattern) (n := 9) (R := (0, 0)) (by decide +kernel) (q_E_cons (c := 18) rX0_unsafeAt (q_E_cons (c := 19) rX0_readsAt (q_E_cons (c := 20) rX0_receiversAt (q_E_cons (c := 73) rX3_levels (q_E_cons (c := 389) rJ6_bitCount_0f7a4 (q_E_nil))))))
theorem rX6_forget : q_Eqv mX6_forget := q_eqv_of (cs := cs_X6_forget) (O := oX6_forget) (n := 1) (R := (0, 0)) (by decide +kernel) (q_E_nil)
theorem rX6_tellPatterns : q_Eqv mX6_tellPatterns := q_eqv_of (cs := cs_X6_tellPatterns) (O := oX6_tellPatterns) (n := 6) (R := (0, 0)) (by decide +kernel) (q_E_cons (c := 60) rX2_stepCount (q_E_cons (c := 62) rX2_pattern (q_E_nil)))
theorem rX6_prepare : q_Eqv mX6_prepare := q_eqv_of (cs := cs_X6_prepare) (O := oX6_prepare) (n := 9) (R := (0, 0)) (by decide +kernel) (q_E_cons (c := 19) rX0_readsAt (q_E_cons (c := 21) rX0_floatingAt (q_E_cons (c := 22) rX0_singleCount (q_E_cons (c := 35) rX0_turnSingle (q_E_cons (c := 65) rX3_mendAll (q_E_cons (c := 73) rX3_levels (q_E_cons (c := 100) rX6_tellPatterns (q_E_nil))))))))
theorem rX6_columnOf : q_Eqv mX6_columnOf := q_eqv_of (cs := cs_X6_columnOf) (O := oX6_columnOf) (n := 6) (R := (0, 0)) (by decide +kernel) (q_E_cons (c := 60) rX2_stepCount (q_E_nil))
theorem rX6_readsIn : q_Eqv mX6_readsIn := q_eqv_of (cs := cs_X6_readsIn) (O := oX6_readsIn) (n := 3) (R := (0, 0)) (by decide +kernel) (q_E_nil)
theorem rX6_parts : q_Eqv mX6_parts := q_eqv_of (cs := cs_X6_parts) (O := oX6_parts) (n := 8) (R := (0, 0)) (by decide +kernel) (q_E_cons (c := 60) rX2_stepCount (q_E_cons (c := 101) rX6_columnOf (q_E_cons (c := 102) rX6_readsIn (q_E_nil))))
theorem rX6_countFromNone : q_Eqv mX6_countFromNone := q_eqv_of (cs := cs_X6_countFromNone) (O := oX6_countFromNone) (n := 6) (R := (0, 0)) (by decide +kernel) (q_E_cons (c := 22) rX0_singleCount (q_E_cons (c := 103) rX6_parts (q_E_nil)))
theorem rX6_partsFromAll : q_Eqv mX6_partsFromAll := q_eqv_of (cs := cs_X6_partsFromAll) (O := oX6_partsFromAll) (n := 6) (R := (0, 0)) (by decide +kernel) (q_E_cons (c := 103) rX6_parts (q_E_nil))
theorem rX6_countFromAll : q_Eqv mX6_countFromAll := q_eqv_of (cs := cs_X6_countFromAll) (O := oX6_countFromAll) (n := 6) (R := (0, 0)) (by decide +kernel) (q_E_cons (c := 22) rX0_singleCount (q_E_cons (c := 106) rX6_partsFromAll (q_E_nil)))
theorem rX6_leastKind : q_Eqv mX6_leastKind := q_eqv_of (cs := cs_X6_leastKind) (O := oX6_leastKind) (n := 7) (R := (0, 0)) (by decide +kernel) (q_E_cons (c := 22) rX0_singleCount (q_E_cons (c := 60) rX2_stepCount (q_E_cons (c := 104) rX6_countFromNone (q_E_nil))))
theorem rX7_forget : q_Eqv mX7_forget := q_eqv_of (cs := cs_X7_forget) (O := oX7_forget) (n := 1) (R := (0, 0)) (by decide +kernel) (q_E_nil)
theorem rX7_write : q_Eqv mX7_write := q_eqv_of (cs := cs_X7_write) (O := oX7_write) (n := 6) (R := (0, 0)) (by decide +kernel) (q_E_nil)
theorem rX7_strike : q_Eqv mX7_strike := q_eqv_of (cs := cs_X7_strike) (O := oX7_strike) (n := 3) (R := (0, 0)) (by decide +kernel) (q_E_nil)
theorem rX7_countsAt : q_Eqv mX7_countsAt := q_eqv_of (cs := cs_X7_countsAt) (O := oX7_countsAt) (n := 3) (R := (0, 0)) (by decide +kernel) (q_E_nil)
theorem rX7_fittingOne : q_Eqv mX7_fittingOne := q_eqv_of (cs := cs_X7_fittingOne) (O := oX7_fittingOne) (n := 9) (R := (0, 0)) (by decide +kernel) (q_E_cons (c := 22) rX0_singleCount (q_E_cons (c := 101) rX6_columnOf (q_E_cons (c := 102) rX6_readsIn (q_E_nil))))
theorem rX7_fitting : q_Eqv mX7_fitting := q_eqv_of (cs := cs_X7_fitting) (O := oX7_fitting) (n := 7) (R := (0, 0)) (by decide +kernel) (q_E_cons (c := 22) rX0_singleCount (q_E_cons (c := 112) rX7_countsAt (q_E_cons (c := 114) rX7_fittingOne (q_E_nil))))
theorem rX7_fittingAt : q_Eqv mX7_fittingAt := q_eqv_of (cs := cs_X7_fittingAt) (O := oX7_fittingAt) (n := 10) (R := (0, 0)) (by decide +kernel) (q_E_cons (c := 22) rX0_singleCount (q_E_cons (c := 113) rX7_fitting (q_E_nil)))
theorem rX7_mostAlike : q_Eqv mX7_mostAlike := q_eqv_of (cs := cs_X7_mostAlike) (O := oX7_mostAlike) (n := 10) (R := (0, 0)) (by decide +kernel) (q_E_cons (c := 102) rX6_readsIn (q_E_nil))
theorem rX7_bestStep : q_Eqv mX7_bestStep := q_eqv_of (cs := cs_X7_bestStep) (O := oX7_bestStep) (n := 11) (R := (0, 0)) (by decide +kernel) (q_E_cons (c := 22) rX0_singleCount (q_E_cons (c := 60) rX2_stepCount (q_E_cons (c := 101) rX6_columnOf (q_E_cons (c := 113) rX7_fitting (q_E_cons (c := 117) rX7_mostAlike (q_E_nil))))))
theorem rX8_rowAt : q_Eqv mX8_rowAt := q_eqv_of (cs := cs_X8_rowAt) (O := oX8_rowAt) (n := 2) (R := (0, 0)) (by decide +kernel) (q_E_nil)
theorem rX8_forget : q_Eqv mX8_forget := q_eqv_of (cs := cs_X8_forget) (O := oX8_forget) (n := 2) (R := (0, 0)) (by decide +kernel) (q_E_cons (c := 57) rX1_save (q_E_cons (c := 119) rX8_rowAt (q_E_nil)))
theorem rX8_keep : q_Eqv mX8_keep := q_eqv_of (cs := cs_X8_keep) (O := oX8_keep) (n := 2) (R := (0, 0)) (by decide +kernel) (q_E_cons (c := 57) rX1_save (q_E_cons (c := 119) rX8_rowAt (q_E_nil)))
theorem rX8_goBack : q_Eqv mX8_goBack := q_eqv_of (cs := cs_X8_goBack) (O := oX8_goBack) (n := 2) (R := (0, 0)) (by decide +kernel) (q_E_cons (c := 58) rX1_load (q_E_cons (c := 119) rX8_rowAt (q_E_nil)))
theorem rX8_goOn : q_Eqv mX8_goOn := q_eqv_of (cs := cs_X8_goOn) (O := oX8_goOn) (n := 2) (R := (0, 0)) (by decide +kernel) (q_E_cons (c := 58) rX1_load (q_E_cons (c := 119) rX8_rowAt (q_E_nil)))
theorem rX8_undoable : q_Eqv mX8_undoable := q_eqv_of (cs := cs_X8_undoable) (O := oX8_undoable) (n := 1) (R := (0, 0)) (by decide +kernel) (q_E_nil)
theorem rX8_redoable : q_Eqv mX8_redoable := q_eqv_of (cs := cs_X8_redoable) (O := oX8_redoable) (n := 1) (R := (0, 0)) (by decide +kernel) (q_E_nil)
theorem rX8_emptyBoxes : q_Eqv mX8_emptyBoxes := q_eqv_of (cs := cs_X8_emptyBoxes) (O := oX8_emptyBoxes) (n := 2) (R := (0, 0)) (by decide +kernel) (q_E_nil)
theorem rX8_putInBox : q_Eqv mX8_putInBox := q_eqv_of (cs := cs_X8_putInBox) (O := oX8_putInBox) (n := 3) (R := (0, 0)) (by decide +kernel) (q_E_cons (c := 57) rX1_save (q_E_nil))
theorem rX8_takeFromBox : q_Eqv mX8_takeFromBox := q_eqv_of (cs := cs_X8_takeFromBox) (O := oX8_takeFromBox) (n := 3) (R := (0, 0)) (by decide +kernel) (q_E_cons (c := 58) rX1_load (q_E_nil))
theorem rX9_isSignByte : q_Eqv mX9_isSignByte := q_eqv_of (cs := cs_X9_isSignByte) (O := oX9_isSignByte) (n := 1) (R := (0, 0)) (by decide +kernel) (q_E_nil)
theorem rX9_takeWord : q_Eqv mX9_takeWord := q_eqv_of (cs := cs_X9_takeWord) (O := oX9_takeWord) (n := 2) (R := (0, 0)) (by decide +kernel) (q_E_nil)
theorem rX9_takeNumber : q_Eqv mX9_takeNumber := q_eqv_of (cs := cs_X9_takeNumber) (O := oX9_takeNumber) (n := 3) (R := (0, 0)) (by decide +kernel) (q_E_nil)
theorem rX9_advance : q_Eqv mX9_advance := q_eqv_of (cs := cs_X9_advance) (O := oX9_advance) (n := 2) (R := (0, 0)) (by decide +kernel) (q_E_cons (c := 132) rX9_isSignByte (q_E_cons (c := 134) rX9_takeWord (q_E_cons (c := 135) rX9_takeNumber (q_E_nil))))
theorem rX9_refuse : q_Eqv mX9_refuse := q_eqv_of (cs := cs_X9_refuse) (O := oX9_refuse) (n := 2) (R := (0, 0)) (by decide +kernel) (q_E_nil)
theorem rX9_atSign : q_Eqv mX9_atSign := q_eqv_of (cs := cs_X9_atSign) (O := oX9_atSign) (n := 2) (R := (0, 0)) (by decide +kernel) (q_E_nil)
theorem rX9_takeSign : q_Eqv mX9_takeSign := q_eqv_of (cs := cs_X9_takeSign) (O := oX9_takeSign) (n := 2) (R := (0, 0)) (by decide +kernel) (q_E_cons (c := 131) rX9_refuse (q_E_cons (c := 133) rX9_advance (q_E_cons (c := 137) rX9_atSign (q_E_nil))))
theorem rX9_atKey : q_Eqv mX9_atKey := q_eqv_of (cs := cs_X9_atKey) (O := oX9_atKey) (n := 2) (R := (0, 0)) (by decide +kernel) (q_E_nil)
theorem rX9_takeKey : q_Eqv mX9_takeKey := q_eqv_of (cs := cs_X9_takeKey) (O := oX9_takeKey) (n := 2) (R := (0, 0)) (by decide +kernel) (q_E_cons (c := 131) rX9_refuse (q_E_cons (c := 133) rX9_advance (q_E_cons (c := 136) rX9_atKey (q_E_nil))))
theorem rX9_atNumber : q_Eqv mX9_atNumber := q_eqv_of (cs := cs_X9_atNumber) (O := oX9_atNumber) (n := 3) (R := (0, 0)) (by decide +kernel) (q_E_cons (c := 131) rX9_refuse (q_E_nil))
theorem rX9_indexOf : q_Eqv mX9_indexOf := q_eqv_of (cs := cs_X9_indexOf) (O := oX9_indexOf) (n := 5) (R := (0, 0)) (by decide +kernel) (q_E_nil)
theorem rX9_atNewName : q_Eqv mX9_atNewName := q_eqv_of (cs := cs_X9_atNewName) (O := oX9_atNewName) (n := 3) (R := (0, 0)) (by decide +kernel) (q_E_cons (c := 131) rX9_refuse (q_E_cons (c := 142) rX9_indexOf (q_E_nil)))
theorem rX9_deviceLine : q_Eqv mX9_deviceLine := q_eqv_of (cs := cs_X9_deviceLine) (O := oX9_deviceLine) (n := 2) (R := (0, 0)) (by decide +kernel) (q_E_cons (c := 131) rX9_refuse (q_E_cons (c := 133) rX9_advance (q_E_cons (c := 136) rX9_atKey (q_E_cons (c := 138) rX9_takeKey (q_E_cons (c := 140) rX9_atNumber (q_E_cons (c := 143) rX9_atNewName (q_E_nil)))))))
theorem rX9_atOldName : q_Eqv mX9_atOldName := q_eqv_of (cs := cs_X9_atOldName) (O := oX9_atOldName) (n := 4) (R := (0, 0)) (by decide +kernel) (q_E_cons (c := 131) rX9_refuse (q_E_cons (c := 142) rX9_indexOf (q_E_nil)))
theorem rX9_atCell : q_Eqv mX9_atCell := q_eqv_of (cs := cs_X9_atCell) (O := oX9_atCell) (n := 2) (R := (0, 0)) (by decide +kernel) (q_E_cons (c := 133) rX9_advance (q_E_cons (c := 140) rX9_atNumber (q_E_cons (c := 144) rX9_atOldName (q_E_cons (c := 178) rX11_placeOf (q_E_nil)))))
theorem rX9_cellOfNet : q_Eqv mX9_cellOfNet := q_eqv_of (cs := cs_X9_cellOfNet) (O := oX9_cellOfNet) (n := 4) (R := (0, 0)) (by decide +kernel) (q_E_cons (c := 131) rX9_refuse (q_E_cons (c := 133) rX9_advance (q_E_cons (c := 147) rX9_atCell (q_E_nil))))
theorem rX9_netLine : q_Eqv mX9_netLine := q_eqv_of (cs := cs_X9_netLine) (O := oX9_netLine) (n := 3) (R := (0, 0)) (by decide +kernel) (q_E_cons (c := 131) rX9_refuse (q_E_cons (c := 133) rX9_advance (q_E_cons (c := 136) rX9_atKey (q_E_cons (c := 138) rX9_takeKey (q_E_cons (c := 140) rX9_atNumber (q_E_cons (c := 143) rX9_atNewName (q_E_cons (c := 148) rX9_cellOfNet (q_E_nil))))))))
theorem rX9_shortLine : q_Eqv mX9_shortLine := q_eqv_of (cs := cs_X9_shortLine) (O := oX9_shortLine) (n := 4) (R := (0, 0)) (by decide +kernel) (q_E_cons (c := 68) rX3_pairOf (q_E_cons (c := 131) rX9_refuse (q_E_cons (c := 133) rX9_advance (q_E_cons (c := 136) rX9_atKey (q_E_cons (c := 144) rX9_atOldName (q_E_nil))))))
theorem rX9_openLine : q_Eqv mX9_openLine := q_eqv_of (cs := cs_X9_openLine) (O := oX9_openLine) (n := 2) (R := (0, 0)) (by decide +kernel) (q_E_cons (c := 16) rX0_isReceiver (q_E_cons (c := 131) rX9_refuse (q_E_cons (c := 133) rX9_advance (q_E_cons (c := 147) rX9_atCell (q_E_nil)))))
theorem rX9_stuckLine : q_Eqv mX9_stuckLine := q_eqv_of (cs := cs_X9_stuckLine) (O := oX9_stuckLine) (n := 2) (R := (0, 0)) (by decide +kernel) (q_E_cons (c := 131) rX9_refuse (q_E_cons (c := 133) rX9_advance (q_E_cons (c := 140) rX9_atNumber (q_E_cons (c := 144) rX9_atOldName (q_E_nil)))))
theorem rX9_noiseLine : q_Eqv mX9_noiseLine := q_eqv_of (cs := cs_X9_noiseLine) (O := oX9_noiseLine) (n := 1) (R := (0, 0)) (by decide +kernel) (q_E_cons (c := 131) rX9_refuse (q_E_cons (c := 133) rX9_advance (q_E_cons (c := 140) rX9_atNumber (q_E_nil))))
theorem rX9_drawLine : q_Eqv mX9_drawLine := q_eqv_of (cs := cs_X9_drawLine) (O := oX9_drawLine) (n := 1) (R := (0, 0)) (by decide +kernel) (q_E_cons (c := 131) rX9_refuse (q_E_cons (c := 133) rX9_advance (q_E_cons (c := 140) rX9_atNumber (q_E_nil))))
set_option maxRecDepth 20000 in
theorem r_rec : ∀ d y : Nat, q_Eqv (qP d y) := by
  intro d
  induction d with
  | zero => intro y as M; rfl
  | succ d ih =>
    intro y
    by_cases h155 : y = 155
    · subst h155; exact q_eqv_of (cs := cs_X9_either) (O := oX9_either (qP d)) (n := 3) (R := (0, 0)) (by decide +kernel) (q_E_cons (c := 78) rX4_put (q_E_cons (c := 133) rX9_advance (q_E_cons (c := 136) rX9_atKey (q_E_cons (c := 156) (ih 156) (q_E_nil)))))
    by_cases h156 : y = 156
    · subst h156; exact q_eqv_of (cs := cs_X9_both) (O := oX9_both (qP d)) (n := 3) (R := (0, 0)) (by decide +kernel) (q_E_cons (c := 78) rX4_put (q_E_cons (c := 133) rX9_advance (q_E_cons (c := 136) rX9_atKey (q_E_cons (c := 157) (ih 157) (q_E_nil)))))
    by_cases h157 : y = 157
    · subst h157; exact q_eqv_of (cs := cs_X9_one) (O := oX9_one (qP d)) (n := 2) (R := (0, 0)) (by decide +kernel) (q_E_cons (c := 78) rX4_put (q_E_cons (c := 131) rX9_refuse (q_E_cons (c := 133) rX9_advance (q_E_cons (c := 136) rX9_atKey (q_E_cons (c := 157) (ih 157) (q_E_cons (c := 158) (ih 158) (q_E_nil)))))))
    by_cases h158 : y = 158
    · subst h158; exact q_eqv_of (cs := cs_X9_relation) (O := oX9_relation (qP d)) (n := 3) (R := (0, 0)) (by decide +kernel) (q_E_cons (c := 78) rX4_put (q_E_cons (c := 133) rX9_advance (q_E_cons (c := 137) rX9_atSign (q_E_cons (c := 159) (ih 159) (q_E_nil)))))
    by_cases h159 : y = 159
    · subst h159; exact q_eqv_of (cs := cs_X9_sum) (O := oX9_sum (qP d)) (n := 4) (R := (0, 0)) (by decide +kernel) (q_E_cons (c := 78) rX4_put (q_E_cons (c := 133) rX9_advance (q_E_cons (c := 137) rX9_atSign (q_E_cons (c := 160) (ih 160) (q_E_nil)))))
    by_cases h160 : y = 160
    · subst h160; exact q_eqv_of (cs := cs_X9_term) (O := oX9_term (qP d)) (n := 4) (R := (0, 0)) (by decide +kernel) (q_E_cons (c := 78) rX4_put (q_E_cons (c := 133) rX9_advance (q_E_cons (c := 137) rX9_atSign (q_E_cons (c := 161) (ih 161) (q_E_nil)))))
    by_cases h161 : y = 161
    · subst h161; exact q_eqv_of (cs := cs_X9_unit) (O := oX9_unit (qP d)) (n := 3) (R := (0, 0)) (by decide +kernel) (q_E_cons (c := 78) rX4_put (q_E_cons (c := 131) rX9_refuse (q_E_cons (c := 133) rX9_advance (q_E_cons (c := 136) rX9_atKey (q_E_cons (c := 137) rX9_atSign (q_E_cons (c := 139) rX9_takeSign (q_E_cons (c := 155) (ih 155) (q_E_nil))))))))
    exact q_E_rest (by intro as M; unfold qP; simp only [q_nb2 h155, cond_false, q_nb2 h156, cond_false, q_nb2 h157, cond_false, q_nb2 h158, cond_false, q_nb2 h159, cond_false, q_nb2 h160, cond_false, q_nb2 h161, cond_false])
theorem rX9_either (d : Nat) : q_Eqv (mX9_either d) := r_rec (d + 1) 155
theorem rX9_both (d : Nat) : q_Eqv (mX9_both d) := r_rec (d + 1) 156
theorem rX9_one (d : Nat) : q_Eqv (mX9_one d) := r_rec (d + 1) 157
theorem rX9_relation (d : Nat) : q_Eqv (mX9_relation d) := r_rec (d + 1) 158
theorem rX9_sum (d : Nat) : q_Eqv (mX9_sum d) := r_rec (d + 1) 159
theorem rX9_term (d : Nat) : q_Eqv (mX9_term d) := r_rec (d + 1) 160
theorem rX9_unit (d : Nat) : q_Eqv (mX9_unit d) := r_rec (d + 1) 161
theorem rX9_floatsLine : q_Eqv mX9_floatsLine := q_eqv_of (cs := cs_X9_floatsLine) (O := oX9_floatsLine) (n := 1) (R := (0, 0)) (by decide +kernel) (q_E_cons (c := 131) rX9_refuse (q_E_cons (c := 133) rX9_advance (q_E_cons (c := 155) (rX9_either 80) (q_E_nil))))
theorem rX9_line : q_Eqv mX9_line := q_eqv_of (cs := cs_X9_line) (O := oX9_line) (n := 1) (R := (0, 0)) (by decide +kernel) (q_E_cons (c := 131) rX9_refuse (q_E_cons (c := 139) rX9_takeSign (q_E_cons (c := 145) rX9_deviceLine (q_E_cons (c := 146) rX9_netLine (q_E_cons (c := 149) rX9_shortLine (q_E_cons (c := 150) rX9_openLine (q_E_cons (c := 151) rX9_stuckLine (q_E_cons (c := 152) rX9_noiseLine (q_E_cons (c := 153) rX9_drawLine (q_E_cons (c := 154) rX9_floatsLine (q_E_nil)))))))))))
theorem rX9_readBoard : q_Eqv mX9_readBoard := q_eqv_of (cs := cs_X9_readBoard) (O := oX9_readBoard) (n := 6) (R := (0, 0)) (by decide +kernel) (q_E_cons (c := 11) rX0_clear (q_E_cons (c := 133) rX9_advance (q_E_cons (c := 141) rX9_line (q_E_nil))))
theorem rX10_waysThrough : q_Eqv mX10_waysThrough := q_eqv_of (cs := cs_X10_waysThrough) (O := oX10_waysThrough) (n := 3) (R := (0, 0)) (by decide +kernel) (q_E_nil)
theorem rX10_countWays : q_Eqv mX10_countWays := q_eqv_of (cs := cs_X10_countWays) (O := oX10_countWays) (n := 5) (R := (0, 0)) (by decide +kernel) (q_E_cons (c := 163) rX10_next (q_E_cons (c := 164) rX10_measure (q_E_cons (c := 167) rX10_waysThrough (q_E_cons (c := 391) rJ7_fill_53178 (q_E_nil)))))
theorem rX10_farthestFrom : q_Eqv mX10_farthestFrom := q_eqv_of (cs := cs_X10_farthestFrom) (O := oX10_farthestFrom) (n := 4) (R := (0, 0)) (by decide +kernel) (q_E_cons (c := 164) rX10_measure (q_E_nil))
theorem rX11_putFour : q_Eqv mX11_putFour := q_eqv_of (cs := cs_X11_putFour) (O := oX11_putFour) (n := 3) (R := (0, 0)) (by decide +kernel) (q_E_nil)
theorem rX11_feed : q_Eqv mX11_feed := q_eqv_of (cs := cs_X11_feed) (O := oX11_feed) (n := 6) (R := (0, 0)) (by decide +kernel) (q_E_cons (c := 171) rX11_putFour (q_E_nil))
theorem rX11_end : q_Eqv mX11_end := q_eqv_of (cs := cs_X11_end) (O := oX11_end) (n := 2) (R := (0, 0)) (by decide +kernel) (q_E_nil)
theorem rX11_board : q_Eqv mX11_board := q_eqv_of (cs := cs_X11_board) (O := oX11_board) (n := 2) (R := (0, 0)) (by decide +kernel) (q_E_cons (c := 37) rX1_begin (q_E_cons (c := 98) rX6_forget (q_E_cons (c := 109) rX7_forget (q_E_cons (c := 120) rX8_forget (q_E_cons (c := 126) rX8_emptyBoxes (q_E_cons (c := 130) rX9_readBoard (q_E_nil)))))))
theorem rX11_fault : q_Eqv mX11_fault := q_eqv_of (cs := cs_X11_fault) (O := oX11_fault) (n := 2) (R := (0, 0)) (by decide +kernel) (q_E_nil)
theorem rX11_device : q_Eqv mX11_device := q_eqv_of (cs := cs_X11_device) (O := oX11_device) (n := 3) (R := (0, 0)) (by decide +kernel) (q_E_cons (c := 12) rX0_hasDevice (q_E_cons (c := 41) rX1_dataBits (q_E_nil)))
theorem rX11_net : q_Eqv mX11_net := q_eqv_of (cs := cs_X11_net) (O := oX11_net) (n := 5) (R := (0, 0)) (by decide +kernel) (q_E_cons (c := 13) rX0_hasNet (q_E_cons (c := 43) rX1_driven (q_E_cons (c := 44) rX1_fighting (q_E_cons (c := 70) rX3_hanging (q_E_cons (c := 72) rX3_drives (q_E_cons (c := 73) rX3_levels (q_E_cons (c := 389) rJ6_bitCount_0f7a4 (q_E_nil))))))))
theorem rX11_cell : q_Eqv mX11_cell := q_eqv_of (cs := cs_X11_cell) (O := oX11_cell) (n := 5) (R := (0, 0)) (by decide +kernel) (q_E_cons (c := 14) rX0_hasCell (q_E_cons (c := 46) rX1_reads (q_E_cons (c := 178) rX11_placeOf (q_E_nil))))
theorem rX11_isBit : q_Eqv mX11_isBit := q_eqv_of (cs := cs_X11_isBit) (O := oX11_isBit) (n := 1) (R := (0, 0)) (by decide +kernel) (q_E_nil)
theorem rX11_clock : q_Eqv mX11_clock := q_eqv_of (cs := cs_X11_clock) (O := oX11_clock) (n := 4) (R := (0, 0)) (by decide +kernel) (q_E_cons (c := 47) rX1_tick (q_E_cons (c := 121) rX8_keep (q_E_cons (c := 180) rX11_isBit (q_E_nil))))
theorem rX11_scan : q_Eqv mX11_scan := q_eqv_of (cs := cs_X11_scan) (O := oX11_scan) (n := 5) (R := (0, 0)) (by decide +kernel) (q_E_cons (c := 56) rX1_sweep (q_E_cons (c := 121) rX8_keep (q_E_cons (c := 180) rX11_isBit (q_E_nil))))
theorem rX11_harm : q_Eqv mX11_harm := q_eqv_of (cs := cs_X11_harm) (O := oX11_harm) (n := 2) (R := (0, 0)) (by decide +kernel) (q_E_cons (c := 25) rX0_hasSingle (q_E_cons (c := 34) rX0_isBarred (q_E_cons (c := 35) rX0_turnSingle (q_E_cons (c := 67) rX3_count (q_E_cons (c := 121) rX8_keep (q_E_nil))))))
theorem rX11_undo : q_Eqv mX11_undo := q_eqv_of (cs := cs_X11_undo) (O := oX11_undo) (n := 1) (R := (0, 0)) (by decide +kernel) (q_E_cons (c := 122) rX8_goBack (q_E_nil))
theorem rX11_redo : q_Eqv mX11_redo := q_eqv_of (cs := cs_X11_redo) (O := oX11_redo) (n := 1) (R := (0, 0)) (by decide +kernel) (q_E_cons (c := 123) rX8_goOn (q_E_nil))
theorem rX11_goes : q_Eqv mX11_goes := q_eqv_of (cs := cs_X11_goes) (O := oX11_goes) (n := 5) (R := (0, 0)) (by decide +kernel) (q_E_cons (c := 163) rX10_next (q_E_nil))
theorem rX11_isState : q_Eqv mX11_isState := q_eqv_of (cs := cs_X11_isState) (O := oX11_isState) (n := 1) (R := (0, 0)) (by decide +kernel) (q_E_nil)
theorem rX11_walk : q_Eqv mX11_walk := q_eqv_of (cs := cs_X11_walk) (O := oX11_walk) (n := 3) (R := (0, 0)) (by decide +kernel) (q_E_cons (c := 165) rX10_lead (q_E_cons (c := 187) rX11_isState (q_E_nil)))
theorem rX11_walks : q_Eqv mX11_walks := q_eqv_of (cs := cs_X11_walks) (O := oX11_walks) (n := 3) (R := (0, 0)) (by decide +kernel) (q_E_cons (c := 166) rX10_countWays (q_E_cons (c := 187) rX11_isState (q_E_nil)))
theorem rX11_farthest : q_Eqv mX11_farthest := q_eqv_of (cs := cs_X11_farthest) (O := oX11_farthest) (n := 2) (R := (0, 0)) (by decide +kernel) (q_E_cons (c := 168) rX10_farthestFrom (q_E_cons (c := 187) rX11_isState (q_E_nil)))
theorem rX11_length : q_Eqv mX11_length := q_eqv_of (cs := cs_X11_length) (O := oX11_length) (n := 4) (R := (0, 0)) (by decide +kernel) (q_E_cons (c := 41) rX1_dataBits (q_E_cons (c := 180) rX11_isBit (q_E_nil)))
theorem rX11_found : q_Eqv mX11_found := q_eqv_of (cs := cs_X11_found) (O := oX11_found) (n := 3) (R := (0, 0)) (by decide +kernel) (q_E_nil)
theorem rX11_fights : q_Eqv mX11_fights := q_eqv_of (cs := cs_X11_fights) (O := oX11_fights) (n := 1) (R := (0, 0)) (by decide +kernel) (q_E_cons (c := 44) rX1_fighting (q_E_nil))
theorem rX11_unsafe : q_Eqv mX11_unsafe := q_eqv_of (cs := cs_X11_unsafe) (O := oX11_unsafe) (n := 1) (R := (0, 0)) (by decide +kernel) (q_E_cons (c := 18) rX0_unsafeAt (q_E_cons (c := 43) rX1_driven (q_E_cons (c := 73) rX3_levels (q_E_nil))))
theorem rX11_isKind : q_Eqv mX11_isKind := q_eqv_of (cs := cs_X11_isKind) (O := oX11_isKind) (n := 1) (R := (0, 0)) (by decide +kernel) (q_E_nil)
theorem rX11_steps : q_Eqv mX11_steps := q_eqv_of (cs := cs_X11_steps) (O := oX11_steps) (n := 2) (R := (0, 0)) (by decide +kernel) (q_E_cons (c := 60) rX2_stepCount (q_E_cons (c := 194) rX11_isKind (q_E_nil)))
theorem rX11_tells : q_Eqv mX11_tells := q_eqv_of (cs := cs_X11_tells) (O := oX11_tells) (n := 3) (R := (0, 0)) (by decide +kernel) (q_E_cons (c := 13) rX0_hasNet (q_E_cons (c := 63) rX2_stepsOf (q_E_cons (c := 194) rX11_isKind (q_E_nil))))
theorem rX11_judged : q_Eqv mX11_judged := q_eqv_of (cs := cs_X11_judged) (O := oX11_judged) (n := 2) (R := (0, 0)) (by decide +kernel) (q_E_cons (c := 45) rX1_floating (q_E_cons (c := 83) rX5_look (q_E_nil)))
theorem rX11_answer : q_Eqv mX11_answer := q_eqv_of (cs := cs_X11_answer) (O := oX11_answer) (n := 4) (R := (0, 0)) (by decide +kernel) (q_E_cons (c := 15) rX0_hasReceiver (q_E_cons (c := 85) rX5_answerAt (q_E_cons (c := 178) rX11_placeOf (q_E_cons (c := 194) rX11_isKind (q_E_cons (c := 197) rX11_judged (q_E_nil))))))
theorem rX11_good : q_Eqv mX11_good := q_eqv_of (cs := cs_X11_good) (O := oX11_good) (n := 2) (R := (0, 0)) (by decide +kernel) (q_E_cons (c := 84) rX5_goodCount (q_E_cons (c := 194) rX11_isKind (q_E_cons (c := 197) rX11_judged (q_E_nil))))
theorem rX11_aliased : q_Eqv mX11_aliased := q_eqv_of (cs := cs_X11_aliased) (O := oX11_aliased) (n := 2) (R := (0, 0)) (by decide +kernel) (q_E_cons (c := 87) rX5_aliasedNets (q_E_cons (c := 194) rX11_isKind (q_E_cons (c := 197) rX11_judged (q_E_nil))))
theorem rX11_confounded : q_Eqv mX11_confounded := q_eqv_of (cs := cs_X11_confounded) (O := oX11_confounded) (n := 3) (R := (0, 0)) (by decide +kernel) (q_E_cons (c := 13) rX0_hasNet (q_E_cons (c := 90) rX5_confoundedWith (q_E_cons (c := 194) rX11_isKind (q_E_cons (c := 197) rX11_judged (q_E_nil)))))
theorem rX11_verdict : q_Eqv mX11_verdict := q_eqv_of (cs := cs_X11_verdict) (O := oX11_verdict) (n := 3) (R := (0, 0)) (by decide +kernel) (q_E_cons (c := 13) rX0_hasNet (q_E_cons (c := 92) rX5_verdictOf (q_E_cons (c := 194) rX11_isKind (q_E_cons (c := 197) rX11_judged (q_E_nil)))))
theorem rX11_singles : q_Eqv mX11_singles := q_eqv_of (cs := cs_X11_singles) (O := oX11_singles) (n := 1) (R := (0, 0)) (by decide +kernel) (q_E_cons (c := 22) rX0_singleCount (q_E_nil))
theorem rX11_single : q_Eqv mX11_single := q_eqv_of (cs := cs_X11_single) (O := oX11_single) (n := 3) (R := (0, 0)) (by decide +kernel) (q_E_cons (c := 25) rX0_hasSingle (q_E_cons (c := 26) rX0_sortOf (q_E_cons (c := 31) rX0_firstOf (q_E_cons (c := 32) rX0_secondOf (q_E_cons (c := 33) rX0_isThere (q_E_nil))))))
theorem rX11_prepared : q_Eqv mX11_prepared := q_eqv_of (cs := cs_X11_prepared) (O := oX11_prepared) (n := 1) (R := (0, 0)) (by decide +kernel) (q_E_cons (c := 99) rX6_prepare (q_E_nil))
theorem rX11_isSingleOrNone : q_Eqv mX11_isSingleOrNone := q_eqv_of (cs := cs_X11_isSingleOrNone) (O := oX11_isSingleOrNone) (n := 2) (R := (0, 0)) (by decide +kernel) (q_E_cons (c := 25) rX0_hasSingle (q_E_nil))
theorem rX11_apart : q_Eqv mX11_apart := q_eqv_of (cs := cs_X11_apart) (O := oX11_apart) (n := 4) (R := (0, 0)) (by decide +kernel) (q_E_cons (c := 103) rX6_parts (q_E_cons (c := 194) rX11_isKind (q_E_cons (c := 206) rX11_prepared (q_E_cons (c := 207) rX11_isSingleOrNone (q_E_nil)))))
theorem rX11_told : q_Eqv mX11_told := q_eqv_of (cs := cs_X11_told) (O := oX11_told) (n := 3) (R := (0, 0)) (by decide +kernel) (q_E_cons (c := 104) rX6_countFromNone (q_E_cons (c := 105) rX6_countFromAll (q_E_cons (c := 180) rX11_isBit (q_E_cons (c := 194) rX11_isKind (q_E_cons (c := 206) rX11_prepared (q_E_nil))))))
theorem rX11_least : q_Eqv mX11_least := q_eqv_of (cs := cs_X11_least) (O := oX11_least) (n := 1) (R := (0, 0)) (by decide +kernel) (q_E_cons (c := 107) rX6_leastKind (q_E_cons (c := 206) rX11_prepared (q_E_nil)))
theorem rX11_mendFirst : q_Eqv mX11_mendFirst := q_eqv_of (cs := cs_X11_mendFirst) (O := oX11_mendFirst) (n := 3) (R := (0, 0)) (by decide +kernel) (q_E_cons (c := 45) rX1_floating (q_E_cons (c := 95) rX5_bestMended (q_E_cons (c := 180) rX11_isBit (q_E_nil))))
theorem rX11_safest : q_Eqv mX11_safest := q_eqv_of (cs := cs_X11_safest) (O := oX11_safest) (n := 3) (R := (0, 0)) (by decide +kernel) (q_E_cons (c := 45) rX1_floating (q_E_cons (c := 96) rX5_safestPattern (q_E_cons (c := 180) rX11_isBit (q_E_nil))))
theorem rX11_cost : q_Eqv mX11_cost := q_eqv_of (cs := cs_X11_cost) (O := oX11_cost) (n := 5) (R := (0, 0)) (by decide +kernel) (q_E_cons (c := 60) rX2_stepCount (q_E_cons (c := 194) rX11_isKind (q_E_nil)))
theorem rX11_worst : q_Eqv mX11_worst := q_eqv_of (cs := cs_X11_worst) (O := oX11_worst) (n := 1) (R := (0, 0)) (by decide +kernel) (q_E_cons (c := 94) rX5_worstNet (q_E_cons (c := 197) rX11_judged (q_E_nil)))
theorem rX11_law : q_Eqv mX11_law := q_eqv_of (cs := cs_X11_law) (O := oX11_law) (n := 2) (R := (0, 0)) (by decide +kernel) (q_E_cons (c := 83) rX5_look (q_E_cons (c := 84) rX5_goodCount (q_E_cons (c := 180) rX11_isBit (q_E_nil))))
theorem rX11_commonDivisor : q_Eqv mX11_commonDivisor := q_eqv_of (cs := cs_X11_commonDivisor) (O := oX11_commonDivisor) (n := 4) (R := (0, 0)) (by decide +kernel) (q_E_nil)
theorem rX11_odds : q_Eqv mX11_odds := q_eqv_of (cs := cs_X11_odds) (O := oX11_odds) (n := 6) (R := (0, 0)) (by decide +kernel) (q_E_cons (c := 180) rX11_isBit (q_E_cons (c := 216) rX11_commonDivisor (q_E_nil)))
theorem rX11_lies : q_Eqv mX11_lies := q_eqv_of (cs := cs_X11_lies) (O := oX11_lies) (n := 2) (R := (0, 0)) (by decide +kernel) (q_E_nil)
theorem rX11_seen : q_Eqv mX11_seen := q_eqv_of (cs := cs_X11_seen) (O := oX11_seen) (n := 6) (R := (0, 0)) (by decide +kernel) (q_E_cons (c := 15) rX0_hasReceiver (q_E_cons (c := 60) rX2_stepCount (q_E_cons (c := 110) rX7_write (q_E_cons (c := 178) rX11_placeOf (q_E_cons (c := 194) rX11_isKind (q_E_nil))))))
theorem rX11_untell : q_Eqv mX11_untell := q_eqv_of (cs := cs_X11_untell) (O := oX11_untell) (n := 2) (R := (0, 0)) (by decide +kernel) (q_E_cons (c := 111) rX7_strike (q_E_nil))
theorem rX11_later : q_Eqv mX11_later := q_eqv_of (cs := cs_X11_later) (O := oX11_later) (n := 2) (R := (0, 0)) (by decide +kernel) (q_E_nil)
theorem rJ13_bitCount_95d88 : q_Eqv mJ13_bitCount_95d88 := q_eqv_of (cs := cs_J13_bitCount_95d88) (O := oJ13_bitCount_95d88) (n := 2) (R := (0, 0)) (by decide +kernel) (q_E_nil)
theorem rX11_fits : q_Eqv mX11_fits := q_eqv_of (cs := cs_X11_fits) (O := oX11_fits) (n := 2) (R := (0, 0)) (by decide +kernel) (q_E_cons (c := 113) rX7_fitting (q_E_cons (c := 206) rX11_prepared (q_E_cons (c := 390) rJ13_bitCount_95d88 (q_E_nil))))
theorem rX11_culprit : q_Eqv mX11_culprit := q_eqv_of (cs := cs_X11_culprit) (O := oX11_culprit) (n := 3) (R := (0, 0)) (by decide +kernel) (q_E_cons (c := 115) rX7_fittingAt (q_E_cons (c := 206) rX11_prepared (q_E_nil)))
theorem rX11_ask : q_Eqv mX11_ask := q_eqv_of (cs := cs_X11_ask) (O := oX11_ask) (n := 5) (R := (0, 0)) (by decide +kernel) (q_E_cons (c := 116) rX7_bestStep (q_E_cons (c := 180) rX11_isBit (q_E_cons (c := 194) rX11_isKind (q_E_cons (c := 206) rX11_prepared (q_E_nil)))))
theorem rX11_image : q_Eqv mX11_image := q_eqv_of (cs := cs_X11_image) (O := oX11_image) (n := 2) (R := (0, 0)) (by decide +kernel) (q_E_cons (c := 127) rX8_putInBox (q_E_nil))
theorem rX11_back : q_Eqv mX11_back := q_eqv_of (cs := cs_X11_back) (O := oX11_back) (n := 2) (R := (0, 0)) (by decide +kernel) (q_E_cons (c := 120) rX8_forget (q_E_cons (c := 128) rX8_takeFromBox (q_E_nil)))
theorem rX11_about : q_Eqv mX11_about := q_eqv_of (cs := cs_X11_about) (O := oX11_about) (n := 2) (R := (0, 0)) (by decide +kernel) (q_E_cons (c := 67) rX3_count (q_E_cons (c := 124) rX8_undoable (q_E_cons (c := 125) rX8_redoable (q_E_nil))))
