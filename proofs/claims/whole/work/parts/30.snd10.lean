/-! ===== how many places a step makes ===== -/
set_option maxHeartbeats 4000000 in
set_option maxRecDepth 20000 in
theorem q_ex_N {O : QO} {R : Nat × Nat} {ins : Instr} {len : Nat} {ns : List Nat} {vs : List Value} {ts : List (Int32 × Nat)} {ok : Bool} {pc : Nat} {L : List (Option Value)} {st : List Value} {M : QM} {ce sl : Nat} {σ : QC}
    (hN : ∀ j y n z mc ms tl, ns = j :: (y + 4) :: n :: z :: mc :: ms :: tl → ∀ as M r M', O (y + 4) as M = some (r, M') → M'.2.2.2.2 = M.2.2.2.2 + mc)
    (h : q_ex O R ins len ns vs ts (ok, pc, L, st, M, ce, sl) = some (.inl σ)) : σ.2.2.2.2.1.2.2.2.2 + ce = M.2.2.2.2 + σ.2.2.2.2.2.1 := by
  have hinv : q_inv O R len ns (ok, pc, L, st, M, ce, sl) = some (.inl σ) → σ.2.2.2.2.1.2.2.2.2 + ce = M.2.2.2.2 + σ.2.2.2.2.2.1 := by
    clear h
    intro h
    match ns, hN, h with
    | [], _, h => cases h
    | [_], _, h => cases h
    | _ :: 0 :: _, _, h =>
      replace h : q_obj len (ok, pc, L, st, M, ce, sl) = some (.inl σ) := h
      unfold q_obj at h
      split at h
      · rename_i heq; cases heq; cases h; rfl
      · cases h
    | _ :: 1 :: _, _, h =>
      replace h : q_cpy len (ok, pc, L, st, M, ce, sl) = some (.inl σ) := h
      unfold q_cpy at h
      split at h
      · rename_i heq; cases heq; cases h; rfl
      · cases h
    | _ :: 2 :: _, _, h =>
      replace h : q_mn R len (ok, pc, L, st, M, ce, sl) = some (.inl σ) := h
      unfold q_mn at h
      split at h
      · rename_i heq; cases heq; cases h; rfl
      · cases h
    | _ :: 3 :: _, _, h =>
      replace h : q_mx R len (ok, pc, L, st, M, ce, sl) = some (.inl σ) := h
      unfold q_mx at h
      split at h
      · rename_i heq; cases heq; cases h; rfl
      · cases h
    | [_, y + 4], _, h => cases h
    | [_, y + 4, _], _, h => cases h
    | [_, y + 4, _, _], _, h => cases h
    | [_, y + 4, _, _, _], _, h => cases h
    | j :: (y + 4) :: n :: z :: mc :: ms :: tl, hN, h =>
      replace h : q_call O R (y + 4) n z mc ms len (ok, pc, L, st, M, ce, sl) = some (.inl σ) := h
      unfold q_call q_after at h
      dsimp only at h
      split at h
      · cases h
      · rename_i r hr
        cases h
        have := hN j y n z mc ms tl rfl _ _ r.1 r.2 hr
        show r.2.2.2.2.2 + ce = M.2.2.2.2 + (ce + mc)
        omega
  unfold q_ex at h
  dsimp only at h
  repeat' (split at h)
  all_goals first
    | exact hinv h
    | (cases h; done)
    | (cases h; rfl)
    | (cases h; show (q_putM _ _ _ _).2.2.2.2 + _ = _; rw [q_put_S])
    | (rw [q_nf_eq] at h; cases h; rfl)
    | (cases h; show M.2.2.2.2 + 1 + ce = M.2.2.2.2 + (ce + 1); omega)
theorem q_inv_r {O : QO} {R : Nat × Nat} {len : Nat} {ns : List Nat} {σ : QC} {r : QR} (h : q_inv O R len ns σ = some (.inr r)) : False := by
  unfold q_inv at h
  split at h
  · unfold q_obj at h; split at h <;> cases h
  · unfold q_cpy at h; split at h <;> cases h
  · unfold q_mn at h; split at h <;> cases h
  · unfold q_mx at h; split at h <;> cases h
  · obtain ⟨ok, pc, L, st, M, ce, sl⟩ := σ
    unfold q_call q_after at h
    dsimp only at h
    split at h <;> cases h
  · cases h
theorem q_cdR {a b x : Bool} (h : cond a (cond b x false) false = true) : a = true ∧ b = true ∧ x = true := by cases a <;> cases b <;> simp_all
theorem q_bck_t {ns : List Nat} {x : Int32} {ok : Bool} (h : q_bck ns x ok = true) : ok = true ∧ q_bck ns x true = true := by
  unfold q_bck at h ⊢
  split at h
  · rw [Bool.and_eq_true] at h; exact ⟨h.2, by rw [Bool.and_eq_true]; exact ⟨h.1, rfl⟩⟩
  · exact ⟨h, rfl⟩
set_option maxHeartbeats 4000000 in
set_option maxRecDepth 20000 in
theorem q_ex_ret {O : QO} {R : Nat × Nat} {ins : Instr} {len : Nat} {ns : List Nat} {vs : List Value} {ts : List (Int32 × Nat)} {ok : Bool} {pc : Nat} {L : List (Option Value)} {st : List Value} {M : QM} {ce sl : Nat} {r : QR}
    (h : q_ex O R ins len ns vs ts (ok, pc, L, st, M, ce, sl) = some (.inr r)) : ok = true ∧ ce = R.1 ∧ sl = R.2 ∧ r.2 = M ∧ ((ins = .ireturn ∧ ∃ x, st = [.int x] ∧ r.1 = some (.int x) ∧ q_bck ns x true = true) ∨ (ins = .lreturn ∧ ∃ x, st = [.long x] ∧ r.1 = some (.long x)) ∨ (ins = .areturn ∧ ∃ x, st = [.ref x] ∧ r.1 = some (.ref x)) ∨ (ins = .return_ ∧ st = [] ∧ r.1 = none)) := by
  cases ins
  case ireturn =>
    simp only [q_ex] at h
    split at h
    · split at h
      · rename_i hc; cases h; obtain ⟨h1, h2, h3⟩ := q_cdR hc; obtain ⟨h3, h4⟩ := q_bck_t h3; exact ⟨h3, q_beq h1, q_beq h2, rfl, Or.inl ⟨rfl, _, rfl, rfl, h4⟩⟩
      · cases h
    · cases h
  case lreturn =>
    simp only [q_ex] at h
    split at h
    · split at h
      · rename_i hc; cases h; obtain ⟨h1, h2, h3⟩ := q_cdR hc; exact ⟨h3, q_beq h1, q_beq h2, rfl, Or.inr (Or.inl ⟨rfl, _, rfl, rfl⟩)⟩
      · cases h
    · cases h
  case areturn =>
    simp only [q_ex] at h
    split at h
    · split at h
      · rename_i hc; cases h; obtain ⟨h1, h2, h3⟩ := q_cdR hc; exact ⟨h3, q_beq h1, q_beq h2, rfl, Or.inr (Or.inr (Or.inl ⟨rfl, _, rfl, rfl⟩))⟩
      · cases h
    · cases h
  case return_ =>
    simp only [q_ex] at h
    split at h
    · split at h
      · rename_i hc; cases h; obtain ⟨h1, h2, h3⟩ := q_cdR hc; exact ⟨h3, q_beq h1, q_beq h2, rfl, Or.inr (Or.inr (Or.inr ⟨rfl, rfl, rfl⟩))⟩
      · cases h
    · cases h
  all_goals
    exfalso
    unfold q_ex at h
    dsimp only at h
    first
      | exact q_inv_r h
      | (cases h; done)
      | (split at h <;> first | (cases h; done) | (split at h <;> first | (cases h; done) | (rw [q_nf_eq] at h; cases h)) | (rw [q_nf_eq] at h; cases h))
/-- what a return asks of the method's type -/
def q_Vr (ret : Option FieldType) (ns : List Nat) : Instr → Prop
  | .ireturn => ret = some .int ∨ (ret = some .boolean ∧ ns = [1])
  | .lreturn => ret = some .long
  | .areturn => ∃ n, ret = some (.object n)
  | .return_ => ret = none
  | _ => True
section QS
variable {p : Program} {l : Launch} {e : Env} {R : Room} {s : State} {m : MethodId} {args : Array Value} {below : List Frame} {meth : Method} {c : Code} {E : QEnv} {nL N0 : Nat} {cc : ByteArray}
variable {ok : Bool} {pc : Nat} {L : List (Option Value)} {st : List Value} {M : QM} {ce sl : Nat}
theorem q_ok_ret {i0 : QI} {rk mc0 ms0 : Nat} {own : String} {O : QO} {len : Nat} {ns : List Nat} {vs : List Value} {ts : List (Int32 × Nat)} {r : QR} {ins : Instr} {ret : Option FieldType} (hB : QB p R s m args meth c E nL cc own i0 rk mc0 ms0) (hret : meth.sig.returnType = ret) (hlocks : meth.locks = false) (hv : q_Vr ret ns ins) (hl : len = 1 ∨ ¬ (ins = .ireturn ∨ ins = .lreturn ∨ ins = .areturn ∨ ins = .return_)) (hd : decode cc pc = .ok (ins, len))
    (h : q_ex O (mc0, ms0) ins len ns vs ts (ok, pc, L, st, M, ce, sl) = some (.inr r)) : QW p l e R s m args below meth c (MQ below (q_Qc E r.1 r.2) args s mc0 ms0 (q_A E)) E nL N0 (ok, pc, L, st, M, ce, sl) := by
  obtain ⟨hx, hb, hml, hR, hts, hst, hown, hrk⟩ := id hB
  obtain ⟨h1, h2, h3, h4, h5⟩ := q_ex_ret h
  dsimp only at h2 h3
  subst h2
  subst h3
  intro _ H locs ls ha
  have hq : ∀ (t : State), t.heap = H → q_Qc E r.1 r.2 args s (.returned (r.1.map (q_v E.2.2.1))) t := fun t ht => ⟨rfl, by rw [ht, h4]; exact ha.1, ha.2.1.F ht⟩
  rcases h5 with ⟨rfl, x, rfl, h6, h7⟩ | ⟨rfl, x, rfl, h6⟩ | ⟨rfl, x, rfl, h6⟩ | ⟨rfl, rfl, h6⟩
  · have hl1 : len = 1 := hl.elim id (fun g => absurd (Or.inl rfl) g)
    subst hl1
    rw [h6] at hq ⊢
    rcases hv with hv | ⟨hv, hn⟩
    · exact W.iret hx hb (hret.trans hv) (fun t ht _ => hq t ht) ha.2.1.2.2 hd
    · have hx01 : x = 0 ∨ x = 1 := by
        rw [hn] at h7
        unfold q_bck at h7
        simpa using h7
      exact W.zret hx hb (hret.trans hv) (by rcases hx01 with rfl | rfl <;> decide) (fun t ht _ => hq t ht) ha.2.1.2.2 hd
  · have hl1 : len = 1 := hl.elim id (fun g => absurd (Or.inr (Or.inl rfl)) g)
    subst hl1
    rw [h6] at hq ⊢
    exact W.lret hx hb (hret.trans hv) (fun t ht _ => hq t ht) ha.2.1.2.2 hd
  · have hl1 : len = 1 := hl.elim id (fun g => absurd (Or.inr (Or.inr (Or.inl rfl))) g)
    subst hl1
    rw [h6] at hq ⊢
    obtain ⟨n, hv⟩ := hv
    refine W.aret hx hb (hret.trans hv) (Or.inl ⟨n, rfl⟩) ?_ (fun t ht _ => hq t ht) ha.2.1.2.2 hd
    show q_rf E.2.2.1 x = .null ∨ ∃ a, q_rf E.2.2.1 x = .ref a
    unfold q_rf
    split
    · exact Or.inl rfl
    · exact Or.inr ⟨_, rfl⟩
  · have hl1 : len = 1 := hl.elim id (fun g => absurd (Or.inr (Or.inr (Or.inr rfl))) g)
    subst hl1
    rw [h6] at hq ⊢
    exact W.vret hx hb (hret.trans hv) (fun t ht _ => hq t ht) ha.2.1.2.2 hd
/-- only calls have many numbers -/
def q_Vn (ns : List Nat) : Instr → Prop
  | .invokevirtual _ => True
  | .invokestatic _ => True
  | .invokespecial _ => True
  | _ => ns.length ≤ 4
/-- a code table is right -/
def q_Val (own : String) (ini : Prop) (MI : Nat → Option QI) (cc : ByteArray) (ret : Option FieldType) (cs : List (List QE)) : Prop := ∀ pc e, q_fd cs pc = some e → decode cc pc = .ok (e.2.1, e.2.2.1) ∧ q_V own ini MI pc e.2.2.1 e.2.2.2.1 e.2.2.2.2.1 e.2.2.2.2.2.1 e.2.1 ∧ q_Vr ret e.2.2.2.1 e.2.1 ∧ q_Vn e.2.2.2.1 e.2.1
theorem q_ok_run {i0 : QI} {rk mc0 ms0 : Nat} {own : String} {ini : Prop} {MI : Nat → Option QI} {O : QO} {cs : List (List QE)} {ret : Option FieldType} (hB : QB p R s m args meth c E nL cc own i0 rk mc0 ms0) (hini : ini → meth.name = "<init>") (hO : ∀ y i, MI y = some i → ∃ rk', rk' < rk ∧ q_Snd l i rk' (O y)) (hval : q_Val own ini MI cc ret cs) (hret : meth.sig.returnType = ret) (hlocks : meth.locks = false) :
    ∀ (n : Nat) (σ : QC) (r : QR), q_run cs O (mc0, ms0) n σ = some r → QW p l e R s m args below meth c (MQ below (q_Qc E r.1 r.2) args s mc0 ms0 (q_A E)) E nL N0 σ := by
  intro n
  induction n with
  | zero => intro σ r h; cases h
  | succ n ih =>
    intro σ r h
    obtain ⟨ok, pc, L, st, M, ce, sl⟩ := σ
    unfold q_run at h
    cases hs : q_step cs O (mc0, ms0) (ok, pc, L, st, M, ce, sl) with
    | none => rw [hs] at h; cases h
    | some x =>
      rw [hs] at h
      unfold q_step at hs
      dsimp only at hs
      cases he : q_fd cs pc with
      | none => rw [he] at hs; cases hs
      | some e =>
        rw [he] at hs
        dsimp only at hs
        obtain ⟨hd, hv, hr, -⟩ := hval pc e he
        refine QW.kl (ks := e.2.2.2.2.2.2) ?_
        cases x with
        | inl σ =>
          replace h : q_run cs O (mc0, ms0) n σ = some r := h
          have hok : σ.1 = true := by
            cases hb : σ.1 with
            | true => rfl
            | false => rw [q_run_bad n hb] at h; cases h
          exact q_ok_step hB hini hO hv hd hs hok (ih σ r h)
        | inr r' =>
          cases h
          refine q_ok_ret hB hret hlocks hr ?_ hd hs
          generalize e.2.1 = ins at hv
          cases ins
          case ireturn => exact Or.inl hv
          case lreturn => exact Or.inl hv
          case areturn => exact Or.inl hv
          case return_ => exact Or.inl hv
          all_goals exact Or.inr (by simp)
end QS
theorem q_run_N {cs : List (List QE)} {O : QO} {R : Nat × Nat}
    (hN : ∀ pc e, q_fd cs pc = some e → ∀ j y n z mc ms tl, e.2.2.2.1 = j :: (y + 4) :: n :: z :: mc :: ms :: tl → ∀ as M r M', O (y + 4) as M = some (r, M') → M'.2.2.2.2 = M.2.2.2.2 + mc) :
    ∀ (n : Nat) (ok : Bool) (pc : Nat) (L : List (Option Value)) (st : List Value) (M : QM) (ce sl : Nat) (r : QR), q_run cs O R n (ok, pc, L, st, M, ce, sl) = some r → r.2.2.2.2.2 + ce = M.2.2.2.2 + R.1 := by
  intro n
  induction n with
  | zero => intro ok pc L st M ce sl r h; cases h
  | succ n ih =>
    intro ok pc L st M ce sl r h
    unfold q_run at h
    cases hs : q_step cs O R (ok, pc, L, st, M, ce, sl) with
    | none => rw [hs] at h; cases h
    | some x =>
      rw [hs] at h
      unfold q_step at hs
      dsimp only at hs
      cases he : q_fd cs pc with
      | none => rw [he] at hs; cases hs
      | some e =>
        rw [he] at hs
        dsimp only at hs
        cases x with
        | inl σ =>
          have h1 := q_ex_N (hN pc e he) hs
          obtain ⟨ok', pc', L', st', M', ce', sl'⟩ := σ
          have h2 := ih ok' pc' L' st' M' ce' sl' r h
          dsimp only at h1
          omega
        | inr r' =>
          cases h
          obtain ⟨-, h2, -, h4, -⟩ := q_ex_ret hs
          rw [h4, h2]
