/-! ===== a checker of code tables ===== -/
def q_lt (j : Nat) : Option (Nat × Bool × Instr × List Nat × List Value) := (q_LTs[j / 50]?).bind (fun g => g[j % 50]?)
theorem q_lt_ok {j : Nat} {x : Nat × Bool × Instr × List Nat × List Value} (h : q_lt j = some x) : q_Vx x := by
  unfold q_lt at h
  cases hg : q_LTs[j / 50]? with
  | none => rw [hg] at h; cases h
  | some g =>
    rw [hg] at h
    exact q_LTs_ok g (List.mem_of_getElem? hg) x (List.mem_of_getElem? h)
def q_vl (o : Nat) (ini : Bool) (len : Nat) (ns : List Nat) (vs : List Value) (ins : Instr) : Bool := Nat.beq len (q_ln ins) && (decide (q_lt (ns.getD 0 0) = some (o, false, ins, ns, vs)) || (ini && decide (q_lt (ns.getD 0 0) = some (o, true, ins, ns, vs))))
def q_vb (o : Nat) (ini : Bool) (pc len : Nat) (ns : List Nat) (vs : List Value) (ts : List (Int32 × Nat)) : Instr → Bool
  | .iconst n => Nat.beq len 1 && decide (vs = [.int (Int32.ofInt n)])
  | .bipush n => Nat.beq len 2 && decide (vs = [.int (Int8.ofInt n).toInt32])
  | .sipush n => Nat.beq len 3 && decide (vs = [.int (Int16.ofInt n).toInt32])
  | .lconst n => Nat.beq len 1 && decide (vs = [.long (Int64.ofNat n)])
  | .iinc _ n => Nat.beq len 3 && decide (vs = [.int (Int32.ofInt n)])
  | .goto off => Nat.beq len 3 && decide ((pc : Int) + off = (ns.getD 0 0 : Int))
  | .if_icmp _ off => Nat.beq len 3 && decide ((pc : Int) + off = (ns.getD 0 0 : Int))
  | .ifCond _ off => Nat.beq len 3 && decide ((pc : Int) + off = (ns.getD 0 0 : Int))
  | .tableswitch d lo hi offs => q_tsOk pc d lo hi offs (ns.getD 0 0) ts
  | .lookupswitch d ps => q_lkOk pc d ps (ns.getD 0 0) ts
  | .newarray t => Nat.beq len 2 && (match t with | .byte => true | .int => true | .long => true | .boolean => true | _ => false)
  | .ldc i => q_vl o ini len ns vs (.ldc i)
  | .ldc_w i => q_vl o ini len ns vs (.ldc_w i)
  | .ldc2_w i => q_vl o ini len ns vs (.ldc2_w i)
  | .getfield i => q_vl o ini len ns vs (.getfield i)
  | .putfield i => q_vl o ini len ns vs (.putfield i)
  | .getstatic i => q_vl o ini len ns vs (.getstatic i)
  | .new i => q_vl o ini len ns vs (.new i)
  | .invokevirtual i => q_vl o ini len ns vs (.invokevirtual i)
  | .invokestatic i => q_vl o ini len ns vs (.invokestatic i)
  | .invokespecial i => q_vl o ini len ns vs (.invokespecial i)
  | .iload _ => Nat.beq len 2
  | .lload _ => Nat.beq len 2
  | .aload _ => Nat.beq len 2
  | .istore _ => Nat.beq len 2
  | .lstore _ => Nat.beq len 2
  | .astore _ => Nat.beq len 2
  | _ => Nat.beq len 1
theorem q_V_mono {own : String} {P P' : Prop} {MI : Nat → Option QI} {pc len : Nat} {ns : List Nat} {vs : List Value} {ts : List (Int32 × Nat)} {ins : Instr} (hP : P → P') (h : q_V own P MI pc len ns vs ts ins) : q_V own P' MI pc len ns vs ts ins := by
  cases ins
  case putfield idx => obtain ⟨h1, q, h2, h3⟩ := h; exact ⟨h1, q, h2, h3.imp id (fun g => ⟨g.1, hP g.2.1, g.2.2⟩)⟩
  all_goals exact h
theorem q_vl_ok {o : Nat} {ini : Bool} {len : Nat} {ns : List Nat} {vs : List Value} {ins : Instr} (h : q_vl o ini len ns vs ins = true) : q_V (q_on o) (ini = true) q_MI 0 len ns vs [] ins := by
  unfold q_vl at h
  rw [Bool.and_eq_true, Bool.or_eq_true, Bool.and_eq_true] at h
  obtain ⟨h1, h2⟩ := h
  rw [q_beq h1]
  rcases h2 with h2 | ⟨h2, h3⟩
  · exact q_V_mono (P := false = true) (fun g => by cases g) (q_lt_ok (of_decide_eq_true h2))
  · exact q_V_mono (P := true = true) (fun _ => h2) (q_lt_ok (of_decide_eq_true h3))
set_option maxRecDepth 20000 in
theorem q_arr : Cond.arrayClass .byte ∈ tb ∧ Cond.arrayClass .int ∈ tb ∧ Cond.arrayClass .long ∈ tb ∧ Cond.arrayClass .boolean ∈ tb := ⟨(tb_1 75 rfl rfl), (tb_1 77 rfl rfl), (tb_1 76 rfl rfl), (tb_2 134 rfl rfl)⟩
theorem q_vb_ok {o : Nat} {ini : Bool} {pc len : Nat} {ns : List Nat} {vs : List Value} {ts : List (Int32 × Nat)} {ins : Instr} (h : q_vb o ini pc len ns vs ts ins = true) : q_V (q_on o) (ini = true) q_MI pc len ns vs ts ins := by
  cases ins
  case iconst n => unfold q_vb at h; rw [Bool.and_eq_true] at h; exact ⟨q_beq h.1, of_decide_eq_true h.2⟩
  case bipush n => unfold q_vb at h; rw [Bool.and_eq_true] at h; exact ⟨q_beq h.1, of_decide_eq_true h.2⟩
  case sipush n => unfold q_vb at h; rw [Bool.and_eq_true] at h; exact ⟨q_beq h.1, of_decide_eq_true h.2⟩
  case lconst n => unfold q_vb at h; rw [Bool.and_eq_true] at h; exact ⟨q_beq h.1, of_decide_eq_true h.2⟩
  case iinc i n => unfold q_vb at h; rw [Bool.and_eq_true] at h; exact ⟨q_beq h.1, of_decide_eq_true h.2⟩
  case goto n => unfold q_vb at h; rw [Bool.and_eq_true] at h; exact ⟨q_beq h.1, of_decide_eq_true h.2⟩
  case if_icmp c n => unfold q_vb at h; rw [Bool.and_eq_true] at h; exact ⟨q_beq h.1, of_decide_eq_true h.2⟩
  case ifCond c n => unfold q_vb at h; rw [Bool.and_eq_true] at h; exact ⟨q_beq h.1, of_decide_eq_true h.2⟩
  case tableswitch d lo hi offs => exact h
  case lookupswitch d ps => exact h
  case newarray t =>
    unfold q_vb at h; rw [Bool.and_eq_true] at h
    refine ⟨q_beq h.1, ?_⟩
    cases t <;> first | exact q_arr.1 | exact q_arr.2.1 | exact q_arr.2.2.1 | exact q_arr.2.2.2 | (cases h.2)
  case ldc i => exact q_vl_ok h
  case ldc_w i => exact q_vl_ok h
  case ldc2_w i => exact q_vl_ok h
  case getfield i => exact q_vl_ok h
  case putfield i => exact q_vl_ok h
  case getstatic i => exact q_vl_ok h
  case new i => exact q_vl_ok h
  case invokevirtual i => exact q_vl_ok h
  case invokestatic i => exact q_vl_ok h
  case invokespecial i => exact q_vl_ok h
  all_goals exact q_beq h
def q_rb (ret : Option FieldType) (ns : List Nat) : Instr → Bool
  | .ireturn => match ret with
    | some .int => true
    | some .boolean => decide (ns = [1])
    | _ => false
  | .lreturn => match ret with
    | some .long => true
    | _ => false
  | .areturn => match ret with
    | some (.object _) => true
    | _ => false
  | .return_ => ret.isNone
  | _ => true
theorem q_rb_ok {ret : Option FieldType} {ns : List Nat} {ins : Instr} (h : q_rb ret ns ins = true) : q_Vr ret ns ins := by
  cases ins
  case ireturn =>
    simp only [q_rb] at h
    split at h
    · exact Or.inl rfl
    · exact Or.inr ⟨rfl, of_decide_eq_true h⟩
    · cases h
  case lreturn =>
    simp only [q_rb] at h
    split at h
    · exact rfl
    · cases h
  case areturn =>
    simp only [q_rb] at h
    split at h
    · exact ⟨_, rfl⟩
    · cases h
  case return_ =>
    simp only [q_rb] at h
    cases ret with
    | none => exact rfl
    | some x => cases h
  all_goals exact trivial
def q_nb (ns : List Nat) : Instr → Bool
  | .invokevirtual _ => true
  | .invokestatic _ => true
  | .invokespecial _ => true
  | _ => Nat.ble ns.length 4
theorem q_nb_ok {ns : List Nat} {ins : Instr} (h : q_nb ns ins = true) : q_Vn ns ins := by
  cases ins <;> first | exact trivial | exact Nat.le_of_ble_eq_true h
def q_chk (o : Nat) (ini : Bool) (cc : ByteArray) (ret : Option FieldType) (cs : List (List QE)) : Bool := cs.all fun ch => ch.all fun e => decide (decode cc e.1 = .ok (e.2.1, e.2.2.1)) && (q_vb o ini e.1 e.2.2.1 e.2.2.2.1 e.2.2.2.2.1 e.2.2.2.2.2.1 e.2.1 && (q_rb ret e.2.2.2.1 e.2.1 && q_nb e.2.2.2.1 e.2.1))
theorem q_fin_mem {pc : Nat} : ∀ {l : List QE} {e : QE}, q_fin pc l = some e → e ∈ l ∧ e.1 = pc := by
  intro l
  induction l with
  | nil => intro e h; cases h
  | cons a r ih =>
    intro e h
    unfold q_fin at h
    cases hb : Nat.beq a.1 pc with
    | true => rw [hb] at h; cases h; exact ⟨List.mem_cons_self, q_beq hb⟩
    | false => rw [hb] at h; obtain ⟨h1, h2⟩ := ih h; exact ⟨List.mem_cons_of_mem _ h1, h2⟩
theorem q_nth_mem : ∀ {cs : List (List QE)} {n : Nat} {e : QE}, e ∈ q_nth cs n → ∃ ch ∈ cs, e ∈ ch := by
  intro cs
  induction cs with
  | nil => intro n e h; cases n <;> cases h
  | cons a r ih =>
    intro n e h
    cases n with
    | zero => exact ⟨a, List.mem_cons_self, h⟩
    | succ n => obtain ⟨ch, h1, h2⟩ := ih h; exact ⟨ch, List.mem_cons_of_mem _ h1, h2⟩
theorem q_Val_of {o : Nat} {ini : Bool} {cc : ByteArray} {ret : Option FieldType} {cs : List (List QE)} (h : q_chk o ini cc ret cs = true) : q_Val (q_on o) (ini = true) q_MI cc ret cs := by
  intro pc e he
  obtain ⟨h1, h2⟩ := q_fin_mem he
  obtain ⟨ch, h3, h4⟩ := q_nth_mem h1
  have h5 := List.all_eq_true.mp (List.all_eq_true.mp h ch h3) e h4
  rw [Bool.and_eq_true, Bool.and_eq_true, Bool.and_eq_true] at h5
  subst h2
  exact ⟨of_decide_eq_true h5.1, q_vb_ok h5.2.1, q_rb_ok h5.2.2.1, q_nb_ok h5.2.2.2⟩
/-! ===== oracles ===== -/
theorem q_O_nil {l : Launch} {rk : Nat} : ∀ (y : Nat) (i : QI), q_MI y = some i → ∃ rk', rk' < rk + 1 ∧ q_Snd l i rk' ((fun _ => fun _ _ => none : QO) y) := fun _ _ _ => ⟨0, by omega, fun _ _ _ _ _ h => by cases h⟩
theorem q_O_cons {l : Launch} {rk c rc : Nat} {f : List Value → QM → Option QR} {g : QO} {i0 : QI} (hc : q_MI c = some i0) (hr : rc < rk) (hs : q_Snd l i0 rc f) (hg : ∀ (y : Nat) (i : QI), q_MI y = some i → ∃ rk', rk' < rk ∧ q_Snd l i rk' (g y)) : ∀ (y : Nat) (i : QI), q_MI y = some i → ∃ rk', rk' < rk ∧ q_Snd l i rk' ((fun y => cond (Nat.beq y c) f (g y)) y) := by
  intro y i hi
  cases hb : Nat.beq y c with
  | true =>
    have := q_beq hb
    subst this
    rw [hc] at hi
    cases hi
    refine ⟨rc, hr, ?_⟩
    show q_Snd l i0 rc (cond (Nat.beq y y) f (g y))
    rw [hb]; exact hs
  | false =>
    obtain ⟨rk', h1, h2⟩ := hg y i hi
    refine ⟨rk', h1, ?_⟩
    show q_Snd l i rk' (cond (Nat.beq y c) f (g y))
    rw [hb]; exact h2
