set_option maxHeartbeats 4000000 in
set_option maxRecDepth 20000 in
theorem q_ex_eq {O : QO} {R : Nat × Nat} {ins : Instr} {len : Nat} {ns : List Nat} {vs : List Value} {ts : List (Int32 × Nat)} (hO : ∀ y, q_Eqv (O y)) (hb : q_eb ins ns vs = true) (ok : Bool) (pc : Nat) (L : List (Option Value)) (st : List Value) (M : QM) (ce sl : Nat) :
    q_ex O R ins len ns vs ts (ok, pc, q_rl L, st.map q_rv, q_rn M, ce, sl) = (q_ex O R ins len ns vs ts (ok, pc, L, st, M, ce, sl)).map q_rx := by
  cases ins
  case iconst n =>
    cases vs with
    | nil => rfl
    | cons v vs =>
      have hv : q_rv v = v := q_vf_ok hb
      show some (Sum.inl (ok, pc + len, q_rl L, v :: st.map q_rv, q_rn M, ce, sl)) = some (Sum.inl (ok, pc + len, q_rl L, q_rv v :: st.map q_rv, q_rn M, ce, sl))
      rw [hv]
  case bipush n =>
    cases vs with
    | nil => rfl
    | cons v vs =>
      have hv : q_rv v = v := q_vf_ok hb
      show some (Sum.inl (ok, pc + len, q_rl L, v :: st.map q_rv, q_rn M, ce, sl)) = some (Sum.inl (ok, pc + len, q_rl L, q_rv v :: st.map q_rv, q_rn M, ce, sl))
      rw [hv]
  case sipush n =>
    cases vs with
    | nil => rfl
    | cons v vs =>
      have hv : q_rv v = v := q_vf_ok hb
      show some (Sum.inl (ok, pc + len, q_rl L, v :: st.map q_rv, q_rn M, ce, sl)) = some (Sum.inl (ok, pc + len, q_rl L, q_rv v :: st.map q_rv, q_rn M, ce, sl))
      rw [hv]
  case lconst n =>
    cases vs with
    | nil => rfl
    | cons v vs =>
      have hv : q_rv v = v := q_vf_ok hb
      show some (Sum.inl (ok, pc + len, q_rl L, v :: st.map q_rv, q_rn M, ce, sl)) = some (Sum.inl (ok, pc + len, q_rl L, q_rv v :: st.map q_rv, q_rn M, ce, sl))
      rw [hv]
  case ldc n =>
    cases vs with
    | nil => rfl
    | cons v vs =>
      have hv : q_rv v = v := q_vf_ok hb
      show some (Sum.inl (ok, pc + len, q_rl L, v :: st.map q_rv, q_rn M, ce, sl)) = some (Sum.inl (ok, pc + len, q_rl L, q_rv v :: st.map q_rv, q_rn M, ce, sl))
      rw [hv]
  case ldc_w n =>
    cases vs with
    | nil => rfl
    | cons v vs =>
      have hv : q_rv v = v := q_vf_ok hb
      show some (Sum.inl (ok, pc + len, q_rl L, v :: st.map q_rv, q_rn M, ce, sl)) = some (Sum.inl (ok, pc + len, q_rl L, q_rv v :: st.map q_rv, q_rn M, ce, sl))
      rw [hv]
  case ldc2_w n =>
    cases vs with
    | nil => rfl
    | cons v vs =>
      have hv : q_rv v = v := q_vf_ok hb
      show some (Sum.inl (ok, pc + len, q_rl L, v :: st.map q_rv, q_rn M, ce, sl)) = some (Sum.inl (ok, pc + len, q_rl L, q_rv v :: st.map q_rv, q_rn M, ce, sl))
      rw [hv]
  case iload i =>
    show (match q_get (q_rl L) (i) with | some (.int x) => _ | _ => none) = Option.map q_rx (match q_get L (i) with | some (.int x) => _ | _ => none)
    rw [q_rl_get]
    cases q_get L (i) with
    | none => rfl
    | some v => cases v <;> rfl
  case lload i =>
    show (match q_get (q_rl L) (i) with | some (.long x) => _ | _ => none) = Option.map q_rx (match q_get L (i) with | some (.long x) => _ | _ => none)
    rw [q_rl_get]
    cases q_get L (i) with
    | none => rfl
    | some v => cases v <;> rfl
  case aload i =>
    show (match q_get (q_rl L) (i) with | some (.ref x) => _ | _ => none) = Option.map q_rx (match q_get L (i) with | some (.ref x) => _ | _ => none)
    rw [q_rl_get]
    cases q_get L (i) with
    | none => rfl
    | some v => cases v <;> rfl
  case iload_n i =>
    show (match q_get (q_rl L) (i.val) with | some (.int x) => _ | _ => none) = Option.map q_rx (match q_get L (i.val) with | some (.int x) => _ | _ => none)
    rw [q_rl_get]
    cases q_get L (i.val) with
    | none => rfl
    | some v => cases v <;> rfl
  case lload_n i =>
    show (match q_get (q_rl L) (i.val) with | some (.long x) => _ | _ => none) = Option.map q_rx (match q_get L (i.val) with | some (.long x) => _ | _ => none)
    rw [q_rl_get]
    cases q_get L (i.val) with
    | none => rfl
    | some v => cases v <;> rfl
  case aload_n i =>
    show (match q_get (q_rl L) (i.val) with | some (.ref x) => _ | _ => none) = Option.map q_rx (match q_get L (i.val) with | some (.ref x) => _ | _ => none)
    rw [q_rl_get]
    cases q_get L (i.val) with
    | none => rfl
    | some v => cases v <;> rfl
  case istore i =>
    cases st with
    | nil => rfl
    | cons v0 st =>
      cases v0
      case int x0 =>
        exact congrArg (fun z => some (Sum.inl z)) (by simp only [q_rc, q_rl_len, q_rl_set_i])
      all_goals rfl
  case astore i =>
    cases st with
    | nil => rfl
    | cons v0 st =>
      cases v0
      case ref x0 =>
        exact congrArg (fun z => some (Sum.inl z)) (by simp only [q_rc, q_rl_len, q_rl_set_r])
      all_goals rfl
  case lstore i =>
    cases st with
    | nil => rfl
    | cons v0 st =>
      cases v0
      case long x0 =>
        exact congrArg (fun z => some (Sum.inl z)) (by simp only [q_rc, q_rl_len, q_rl_setL_l])
      all_goals rfl
  case istore_n i =>
    cases st with
    | nil => rfl
    | cons v0 st =>
      cases v0
      case int x0 =>
        exact congrArg (fun z => some (Sum.inl z)) (by simp only [q_rc, q_rl_len, q_rl_set_i])
      all_goals rfl
  case astore_n i =>
    cases st with
    | nil => rfl
    | cons v0 st =>
      cases v0
      case ref x0 =>
        exact congrArg (fun z => some (Sum.inl z)) (by simp only [q_rc, q_rl_len, q_rl_set_r])
      all_goals rfl
  case lstore_n i =>
    cases st with
    | nil => rfl
    | cons v0 st =>
      cases v0
      case long x0 =>
        exact congrArg (fun z => some (Sum.inl z)) (by simp only [q_rc, q_rl_len, q_rl_setL_l])
      all_goals rfl
  case iinc i n =>
    clear hb
    show (match q_get (q_rl L) i, vs with | some (.int x), .int d :: _ => _ | _, _ => none) = Option.map q_rx (match q_get L i, vs with | some (.int x), .int d :: _ => _ | _, _ => none)
    rw [q_rl_get]
    cases q_get L i with
    | none => rfl
    | some v =>
      cases v
      case int x =>
        cases vs with
        | nil => rfl
        | cons v vs =>
          cases v
          case int d => exact congrArg (fun z => some (Sum.inl z)) (by simp only [q_rc, q_rl_len, q_rl_set_i])
          all_goals rfl
      all_goals rfl
  case idiv =>
    cases st with
    | nil => rfl
    | cons v0 st =>
      cases v0
      case int x0 =>
        cases st with
        | nil => rfl
        | cons v1 st =>
          cases v1
          case int x1 =>
            rfl
          all_goals rfl
      all_goals rfl
  case irem =>
    cases st with
    | nil => rfl
    | cons v0 st =>
      cases v0
      case int x0 =>
        cases st with
        | nil => rfl
        | cons v1 st =>
          cases v1
          case int x1 =>
            rfl
          all_goals rfl
      all_goals rfl
  case ineg =>
    cases st with
    | nil => rfl
    | cons v0 st =>
      cases v0
      case int x0 =>
        rfl
      all_goals rfl
  case i2b =>
    cases st with
    | nil => rfl
    | cons v0 st =>
      cases v0
      case int x0 =>
        rfl
      all_goals rfl
  case i2l =>
    cases st with
    | nil => rfl
    | cons v0 st =>
      cases v0
      case int x0 =>
        rfl
      all_goals rfl
  case l2i =>
    cases st with
    | nil => rfl
    | cons v0 st =>
      cases v0
      case long x0 =>
        rfl
      all_goals rfl
  case lshl =>
    cases st with
    | nil => rfl
    | cons v0 st =>
      cases v0
      case int x0 =>
        cases st with
        | nil => rfl
        | cons v1 st =>
          cases v1
          case long x1 =>
            rfl
          all_goals rfl
      all_goals rfl
  case lshr =>
    cases st with
    | nil => rfl
    | cons v0 st =>
      cases v0
      case int x0 =>
        cases st with
        | nil => rfl
        | cons v1 st =>
          cases v1
          case long x1 =>
            rfl
          all_goals rfl
      all_goals rfl
  case lushr =>
    cases st with
    | nil => rfl
    | cons v0 st =>
      cases v0
      case int x0 =>
        cases st with
        | nil => rfl
        | cons v1 st =>
          cases v1
          case long x1 =>
            rfl
          all_goals rfl
      all_goals rfl
  case lcmp =>
    cases st with
    | nil => rfl
    | cons v0 st =>
      cases v0
      case long x0 =>
        cases st with
        | nil => rfl
        | cons v1 st =>
          cases v1
          case long x1 =>
            rfl
          all_goals rfl
      all_goals rfl
  case dup =>
    cases st with
    | nil => rfl
    | cons v0 st =>
      exact congrArg (fun z => some (Sum.inl z)) (by simp only [q_rc, q_rv_cat, List.map_cons])
  case dup2 =>
    cases st with
    | nil => rfl
    | cons v0 st =>
      cases st with
      | nil => rfl
      | cons v1 st =>
        exact congrArg (fun z => some (Sum.inl z)) (by simp only [q_rc, q_rv_cat, List.map_cons])
  case pop =>
    cases st with
    | nil => rfl
    | cons v0 st =>
      exact congrArg (fun z => some (Sum.inl z)) (by simp only [q_rc, q_rv_cat])
  case goto n => rfl
  case if_icmp c n =>
    cases st with
    | nil => rfl
    | cons v0 st =>
      cases v0
      case int x0 =>
        cases st with
        | nil => rfl
        | cons v1 st =>
          cases v1
          case int x1 =>
            rfl
          all_goals rfl
      all_goals rfl
  case ifCond c n =>
    cases st with
    | nil => rfl
    | cons v0 st =>
      cases v0
      case int x0 =>
        rfl
      all_goals rfl
  case tableswitch a b c d =>
    cases st with
    | nil => rfl
    | cons v0 st =>
      cases v0
      case int x0 =>
        rfl
      all_goals rfl
  case lookupswitch a b =>
    cases st with
    | nil => rfl
    | cons v0 st =>
      cases v0
      case int x0 =>
        rfl
      all_goals rfl
  case getfield n =>
    cases st with
    | nil => rfl
    | cons v st =>
      cases v
      case ref p =>
        show (match ns.getD 3 0 with | 2 => q_nf ((q_rn M).2.2.1 (q_rh p) (ns.getD 2 0)) _ | t => _) = Option.map q_rx (match ns.getD 3 0 with | 2 => q_nf (M.2.2.1 p (ns.getD 2 0)) _ | t => _)
        split
        · rw [q_nf_eq, q_nf_eq]
          exact congrArg (fun z => some (Sum.inl z)) (by simp only [q_rc, q_rv, q_rn_kd, List.map_cons, q_rn_R])
        · exact congrArg (fun z => some (Sum.inl z)) (by simp only [q_rc, q_rv, q_rn_kd, List.map_cons, q_rn_fld])
      all_goals rfl
  case putfield n =>
    cases st with
    | nil => rfl
    | cons v0 st =>
      cases st with
      | nil => rfl
      | cons v1 st =>
        cases v1
        case ref x1 =>
          exact congrArg (fun z => some (Sum.inl z)) (by simp only [q_rc, q_rn_kd, q_rn_put, q_rv_fit])
        all_goals rfl
  case getstatic n =>
    have hz : q_rh (ns.getD 1 0) = ns.getD 1 0 := q_eb_gs hb
    have h1 : q_kd (q_rn M) (ns.getD 1 0) = q_kd M (ns.getD 1 0) := by
      have := q_rn_kd M (ns.getD 1 0)
      rw [hz] at this; exact this
    show some (Sum.inl (cond (Nat.beq (q_kd (q_rn M) (ns.getD 1 0)) 30) ok false, pc + len, q_rl L, Value.ref (ns.getD 1 0) :: st.map q_rv, q_rn M, ce, sl)) = some (Sum.inl (cond (Nat.beq (q_kd M (ns.getD 1 0)) 30) ok false, pc + len, q_rl L, Value.ref (q_rh (ns.getD 1 0)) :: st.map q_rv, q_rn M, ce, sl))
    rw [h1, hz]
  case arraylength =>
    cases st with
    | nil => rfl
    | cons v0 st =>
      cases v0
      case ref x0 =>
        exact congrArg (fun z => some (Sum.inl z)) (by simp only [q_rc, q_rv, q_rn_kd, q_rn_len, q_rn_I, q_rn_J, List.map_cons, q_rn_upI, q_rn_upJ, q_rn_put, q_rn_fld])
      all_goals rfl
  case iaload =>
    cases st with
    | nil => rfl
    | cons v0 st =>
      cases v0
      case int x0 =>
        cases st with
        | nil => rfl
        | cons v1 st =>
          cases v1
          case ref x1 =>
            exact congrArg (fun z => some (Sum.inl z)) (by simp only [q_rc, q_rv, q_rn_kd, q_rn_len, q_rn_I, q_rn_J, List.map_cons, q_rn_upI, q_rn_upJ, q_rn_put, q_rn_fld])
          all_goals rfl
      all_goals rfl
  case baload =>
    cases st with
    | nil => rfl
    | cons v0 st =>
      cases v0
      case int x0 =>
        cases st with
        | nil => rfl
        | cons v1 st =>
          cases v1
          case ref x1 =>
            exact congrArg (fun z => some (Sum.inl z)) (by simp only [q_rc, q_rv, q_rn_kd, q_rn_len, q_rn_I, q_rn_J, List.map_cons, q_rn_upI, q_rn_upJ, q_rn_put, q_rn_fld])
          all_goals rfl
      all_goals rfl
  case laload =>
    cases st with
    | nil => rfl
    | cons v0 st =>
      cases v0
      case int x0 =>
        cases st with
        | nil => rfl
        | cons v1 st =>
          cases v1
          case ref x1 =>
            exact congrArg (fun z => some (Sum.inl z)) (by simp only [q_rc, q_rv, q_rn_kd, q_rn_len, q_rn_I, q_rn_J, List.map_cons, q_rn_upI, q_rn_upJ, q_rn_put, q_rn_fld])
          all_goals rfl
      all_goals rfl
  case iastore =>
    cases st with
    | nil => rfl
    | cons v0 st =>
      cases v0
      case int x0 =>
        cases st with
        | nil => rfl
        | cons v1 st =>
          cases v1
          case int x1 =>
            cases st with
            | nil => rfl
            | cons v2 st =>
              cases v2
              case ref x2 =>
                exact congrArg (fun z => some (Sum.inl z)) (by simp only [q_rc, q_rv, q_rn_kd, q_rn_len, q_rn_I, q_rn_J, List.map_cons, q_rn_upI, q_rn_upJ, q_rn_put, q_rn_fld])
              all_goals rfl
          all_goals rfl
      all_goals rfl
  case bastore =>
    cases st with
    | nil => rfl
    | cons v0 st =>
      cases v0
      case int x0 =>
        cases st with
        | nil => rfl
        | cons v1 st =>
          cases v1
          case int x1 =>
            cases st with
            | nil => rfl
            | cons v2 st =>
              cases v2
              case ref x2 =>
                exact congrArg (fun z => some (Sum.inl z)) (by simp only [q_rc, q_rv, q_rn_kd, q_rn_len, q_rn_I, q_rn_J, List.map_cons, q_rn_upI, q_rn_upJ, q_rn_put, q_rn_fld])
              all_goals rfl
          all_goals rfl
      all_goals rfl
  case lastore =>
    cases st with
    | nil => rfl
    | cons v0 st =>
      cases v0
      case long x0 =>
        cases st with
        | nil => rfl
        | cons v1 st =>
          cases v1
          case int x1 =>
            cases st with
            | nil => rfl
            | cons v2 st =>
              cases v2
              case ref x2 =>
                exact congrArg (fun z => some (Sum.inl z)) (by simp only [q_rc, q_rv, q_rn_kd, q_rn_len, q_rn_I, q_rn_J, List.map_cons, q_rn_upI, q_rn_upJ, q_rn_put, q_rn_fld])
              all_goals rfl
          all_goals rfl
      all_goals rfl
  case new n => cases hb
  case newarray n => cases hb
  case invokevirtual n => exact q_inv_eq hO ok pc L st M ce sl
  case invokestatic n => exact q_inv_eq hO ok pc L st M ce sl
  case invokespecial n => exact q_inv_eq hO ok pc L st M ce sl
  case ireturn =>
    cases st with
    | nil => rfl
    | cons v st =>
      cases v
      case int x =>
        cases st with
        | nil =>
          show (if _ then some (Sum.inr (some (q_rv (.int x)), q_rn M)) else none) = Option.map q_rx (if _ then some (Sum.inr (some (.int x), M)) else none)
          split
          · rfl
          · rfl
        | cons v st => rfl
      all_goals (cases st <;> rfl)
  case lreturn =>
    cases st with
    | nil => rfl
    | cons v st =>
      cases v
      case long x =>
        cases st with
        | nil =>
          show (if _ then some (Sum.inr (some (q_rv (.long x)), q_rn M)) else none) = Option.map q_rx (if _ then some (Sum.inr (some (.long x), M)) else none)
          split
          · rfl
          · rfl
        | cons v st => rfl
      all_goals (cases st <;> rfl)
  case areturn =>
    cases st with
    | nil => rfl
    | cons v st =>
      cases v
      case ref x =>
        cases st with
        | nil =>
          show (if _ then some (Sum.inr (some (q_rv (.ref x)), q_rn M)) else none) = Option.map q_rx (if _ then some (Sum.inr (some (.ref x), M)) else none)
          split
          · rfl
          · rfl
        | cons v st => rfl
      all_goals (cases st <;> rfl)
  case return_ =>
    cases st with
    | nil =>
      show (if _ then some (Sum.inr (none, q_rn M)) else none) = Option.map q_rx (if _ then some (Sum.inr (none, M)) else none)
      split
      · rfl
      · rfl
    | cons v st => rfl
  case iadd =>
    cases st with
    | nil => rfl
    | cons v0 st =>
      cases v0
      case int x0 =>
        cases st with
        | nil => rfl
        | cons v1 st =>
          cases v1
          case int x1 =>
            rfl
          all_goals first | rfl | (cases st with | nil => rfl | cons w st => cases w <;> rfl)
      all_goals first | rfl | (cases st with | nil => rfl | cons w st => cases w <;> rfl)
  case isub =>
    cases st with
    | nil => rfl
    | cons v0 st =>
      cases v0
      case int x0 =>
        cases st with
        | nil => rfl
        | cons v1 st =>
          cases v1
          case int x1 =>
            rfl
          all_goals first | rfl | (cases st with | nil => rfl | cons w st => cases w <;> rfl)
      all_goals first | rfl | (cases st with | nil => rfl | cons w st => cases w <;> rfl)
  case imul =>
    cases st with
    | nil => rfl
    | cons v0 st =>
      cases v0
      case int x0 =>
        cases st with
        | nil => rfl
        | cons v1 st =>
          cases v1
          case int x1 =>
            rfl
          all_goals first | rfl | (cases st with | nil => rfl | cons w st => cases w <;> rfl)
      all_goals first | rfl | (cases st with | nil => rfl | cons w st => cases w <;> rfl)
  case iand =>
    cases st with
    | nil => rfl
    | cons v0 st =>
      cases v0
      case int x0 =>
        cases st with
        | nil => rfl
        | cons v1 st =>
          cases v1
          case int x1 =>
            rfl
          all_goals first | rfl | (cases st with | nil => rfl | cons w st => cases w <;> rfl)
      all_goals first | rfl | (cases st with | nil => rfl | cons w st => cases w <;> rfl)
  case ior =>
    cases st with
    | nil => rfl
    | cons v0 st =>
      cases v0
      case int x0 =>
        cases st with
        | nil => rfl
        | cons v1 st =>
          cases v1
          case int x1 =>
            rfl
          all_goals first | rfl | (cases st with | nil => rfl | cons w st => cases w <;> rfl)
      all_goals first | rfl | (cases st with | nil => rfl | cons w st => cases w <;> rfl)
  case ixor =>
    cases st with
    | nil => rfl
    | cons v0 st =>
      cases v0
      case int x0 =>
        cases st with
        | nil => rfl
        | cons v1 st =>
          cases v1
          case int x1 =>
            rfl
          all_goals first | rfl | (cases st with | nil => rfl | cons w st => cases w <;> rfl)
      all_goals first | rfl | (cases st with | nil => rfl | cons w st => cases w <;> rfl)
  case ishl =>
    cases st with
    | nil => rfl
    | cons v0 st =>
      cases v0
      case int x0 =>
        cases st with
        | nil => rfl
        | cons v1 st =>
          cases v1
          case int x1 =>
            rfl
          all_goals first | rfl | (cases st with | nil => rfl | cons w st => cases w <;> rfl)
      all_goals first | rfl | (cases st with | nil => rfl | cons w st => cases w <;> rfl)
  case ishr =>
    cases st with
    | nil => rfl
    | cons v0 st =>
      cases v0
      case int x0 =>
        cases st with
        | nil => rfl
        | cons v1 st =>
          cases v1
          case int x1 =>
            rfl
          all_goals first | rfl | (cases st with | nil => rfl | cons w st => cases w <;> rfl)
      all_goals first | rfl | (cases st with | nil => rfl | cons w st => cases w <;> rfl)
  case iushr =>
    cases st with
    | nil => rfl
    | cons v0 st =>
      cases v0
      case int x0 =>
        cases st with
        | nil => rfl
        | cons v1 st =>
          cases v1
          case int x1 =>
            rfl
          all_goals first | rfl | (cases st with | nil => rfl | cons w st => cases w <;> rfl)
      all_goals first | rfl | (cases st with | nil => rfl | cons w st => cases w <;> rfl)
  case ladd =>
    cases st with
    | nil => rfl
    | cons v0 st =>
      cases v0
      case long x0 =>
        cases st with
        | nil => rfl
        | cons v1 st =>
          cases v1
          case long x1 =>
            rfl
          all_goals first | rfl | (cases st with | nil => rfl | cons w st => cases w <;> rfl)
      all_goals first | rfl | (cases st with | nil => rfl | cons w st => cases w <;> rfl)
  case lsub =>
    cases st with
    | nil => rfl
    | cons v0 st =>
      cases v0
      case long x0 =>
        cases st with
        | nil => rfl
        | cons v1 st =>
          cases v1
          case long x1 =>
            rfl
          all_goals first | rfl | (cases st with | nil => rfl | cons w st => cases w <;> rfl)
      all_goals first | rfl | (cases st with | nil => rfl | cons w st => cases w <;> rfl)
  case lmul =>
    cases st with
    | nil => rfl
    | cons v0 st =>
      cases v0
      case long x0 =>
        cases st with
        | nil => rfl
        | cons v1 st =>
          cases v1
          case long x1 =>
            rfl
          all_goals first | rfl | (cases st with | nil => rfl | cons w st => cases w <;> rfl)
      all_goals first | rfl | (cases st with | nil => rfl | cons w st => cases w <;> rfl)
  case land =>
    cases st with
    | nil => rfl
    | cons v0 st =>
      cases v0
      case long x0 =>
        cases st with
        | nil => rfl
        | cons v1 st =>
          cases v1
          case long x1 =>
            rfl
          all_goals first | rfl | (cases st with | nil => rfl | cons w st => cases w <;> rfl)
      all_goals first | rfl | (cases st with | nil => rfl | cons w st => cases w <;> rfl)
  case lor =>
    cases st with
    | nil => rfl
    | cons v0 st =>
      cases v0
      case long x0 =>
        cases st with
        | nil => rfl
        | cons v1 st =>
          cases v1
          case long x1 =>
            rfl
          all_goals first | rfl | (cases st with | nil => rfl | cons w st => cases w <;> rfl)
      all_goals first | rfl | (cases st with | nil => rfl | cons w st => cases w <;> rfl)
  all_goals (exact q_ex_none (by rfl) (by rfl) (fun _ _ _ => rfl))
