/-! ===== a row of a code table is right; a step of the abstract machine is one of the machine's ===== -/
def q_Vc (own : String) (MI : Nat → Option QI) (idx : Nat) (ins : Instr) : List Nat → Prop
  | _ :: 0 :: _ => ins = .invokespecial idx ∧ Cond.methodLink own idx objectInit ∈ tb ∧ Cond.instanceMethod objectInit ∈ tb ∧ Cond.code objectInit ⟨#[0xb1]⟩ 1 none ∈ tb
  | _ :: 1 :: _ => ins = .invokestatic idx ∧ Cond.methodLink own idx arraycopyName ∈ tb ∧ Cond.native arraycopyName ∈ tb ∧ Cond.static arraycopyName ∈ tb ∧ Cond.initialized "java/lang/System" ∈ tb
  | _ :: 2 :: _ => ins = .invokestatic idx ∧ Cond.methodLink own idx Lib.Math.min.name ∈ tb ∧ Cond.static Lib.Math.min.name ∈ tb ∧ Cond.initialized "java/lang/Math" ∈ tb ∧ Cond.code Lib.Math.min.name Lib.Math.min.code 2 (some .int) ∈ tb
  | _ :: 3 :: _ => ins = .invokestatic idx ∧ Cond.methodLink own idx Lib.Math.max.name ∈ tb ∧ Cond.static Lib.Math.max.name ∈ tb ∧ Cond.initialized "java/lang/Math" ∈ tb ∧ Cond.code Lib.Math.max.name Lib.Math.max.code 2 (some .int) ∈ tb
  | _ :: y :: n :: z :: mc :: ms :: _ => ∃ i, MI y = some i ∧ q_Mok i ∧ i.2.2.2.2.1 = mc ∧ i.2.2.2.2.2 = ms ∧ q_Lk own idx i ins n z
  | _ => True
def q_Vf (own : String) (idx : Nat) (ns : List Nat) (q : vw_C) : Prop := q_cl[ns.getD 1 0]? = some q ∧ ns.getD 2 0 < q.2.2 ∧ q_tag (ns.getD 1 0) (ns.getD 2 0) = ns.getD 3 0 ∧ (q.2.1 (ns.getD 2 0)).1 = q.1 ∧ Cond.fieldLink own idx q.1 (q.2.1 (ns.getD 2 0)).2.1 (q.2.1 (ns.getD 2 0)).2.2.1 ∈ tb
def q_V (own : String) (ini : Prop) (MI : Nat → Option QI) (pc len : Nat) (ns : List Nat) (vs : List Value) (ts : List (Int32 × Nat)) : Instr → Prop
  | .iconst n => len = 1 ∧ vs = [.int (Int32.ofInt n)]
  | .bipush n => len = 2 ∧ vs = [.int (Int8.ofInt n).toInt32]
  | .sipush n => len = 3 ∧ vs = [.int (Int16.ofInt n).toInt32]
  | .lconst n => len = 1 ∧ vs = [.long (Int64.ofNat n)]
  | .ldc i => len = 2 ∧ ((∃ v, vs = [.int v] ∧ Cond.constant own i v ∈ tb) ∨ (vs = [.ref 1010] ∧ own = "ScanBench$Reader" ∧ i = 59))
  | .ldc_w i => len = 3 ∧ ∃ v, vs = [.int v] ∧ Cond.constant own i v ∈ tb
  | .ldc2_w i => len = 3 ∧ ∃ v, vs = [.long v] ∧ Cond.constantLong own i v ∈ tb
  | .iinc _ n => len = 3 ∧ vs = [.int (Int32.ofInt n)]
  | .goto off => len = 3 ∧ (pc : Int) + off = (ns.getD 0 0 : Int)
  | .if_icmp _ off => len = 3 ∧ (pc : Int) + off = (ns.getD 0 0 : Int)
  | .ifCond _ off => len = 3 ∧ (pc : Int) + off = (ns.getD 0 0 : Int)
  | .tableswitch d lo hi offs => q_tsOk pc d lo hi offs (ns.getD 0 0) ts = true
  | .lookupswitch d ps => q_lkOk pc d ps (ns.getD 0 0) ts = true
  | .getfield idx => len = 3 ∧ ∃ q, q_Vf own idx ns q
  | .putfield idx => len = 3 ∧ ∃ q, q_Vf own idx ns q ∧ ((q.2.1 (ns.getD 2 0)).2.2.2 = false ∨ ((q.2.1 (ns.getD 2 0)).2.2.2 = true ∧ ini ∧ q.1 = own))
  | .getstatic idx => len = 3 ∧ ∃ x ∈ q_stat, x.1 = ns.getD 1 0 ∧ (Cond.fieldLink own idx x.2.1 x.2.2 "[I" ∈ tb ∨ ∃ host, Cond.fieldLinkNest own idx x.2.1 x.2.2 "[I" host ∈ q_nst)
  | .new idx => len = 3 ∧ ∃ q, q_cl[ns.getD 1 0]? = some q ∧ ns.getD 2 0 = q.2.2 ∧ Cond.classLink own idx q.1 ∈ tb ∧ Cond.instantiable q.1 q.2.2 ∈ tb ∧ Cond.initialized q.1 ∈ tb
  | .newarray t => len = 2 ∧ Cond.arrayClass (newarray.typeOf t) ∈ tb
  | .invokevirtual idx => len = 3 ∧ q_Vc own MI idx (.invokevirtual idx) ns
  | .invokestatic idx => len = 3 ∧ q_Vc own MI idx (.invokestatic idx) ns
  | .invokespecial idx => len = 3 ∧ q_Vc own MI idx (.invokespecial idx) ns
  | .iload _ => len = 2
  | .lload _ => len = 2
  | .aload _ => len = 2
  | .istore _ => len = 2
  | .lstore _ => len = 2
  | .astore _ => len = 2
  | _ => len = 1
theorem q_cd {b x : Bool} (h : cond b x false = true) : b = true ∧ x = true := by cases b <;> simp_all
section QS
variable {p : Program} {l : Launch} {e : Env} {R : Room} {s : State} {m : MethodId} {args : Array Value} {below : List Frame} {meth : Method} {c : Code} {Q : State → Prop} {E : QEnv} {nL N0 : Nat} {cc : ByteArray}
variable {ok : Bool} {pc : Nat} {L : List (Option Value)} {st : List Value} {M : QM} {ce sl : Nat}
theorem q_x_mn {rk mc0 ms0 : Nat} (hx : p.tables.exec = Jvm.exec) (hb : c.code = cc) (hml : c.maxLocals = nL) (hts : ∀ w ∈ tb, w.before args s = true) (hR : q_Rm R rk mc0 ms0) {own : String} (hown : s.vm.findClass own = some m.cls) {idx : Nat} {x y : Int32} (hl : Cond.methodLink own idx Lib.Math.min.name ∈ tb) (h2 : Cond.static Lib.Math.min.name ∈ tb) (h3 : Cond.initialized "java/lang/Math" ∈ tb) (h4 : Cond.code Lib.Math.min.name Lib.Math.min.code 2 (some .int) ∈ tb) (hd : decode cc pc = .ok (.invokestatic idx, 3)) (hcat : q_cat st ≤ 8) (hce : ce ≤ mc0) (hsl : sl ≤ ms0) (hf : 1 ≤ R.frames) (hloc : 60 ≤ R.locals)
    (kk : QW p l e R s m args below meth c Q E nL N0 (ok, pc + 3, L, .int (if y < x then y else x) :: st, M, ce, sl)) : QW p l e R s m args below meth c Q E nL N0 (ok, pc, L, .int y :: .int x :: st, M, ce, sl) := fun hok H locs ls ha => by
  have hc2 : ((st.map (q_v E.2.2.1)).map fun v => v.category).sum = q_cat st := by
    unfold q_cat; rw [List.map_map]; congr 1; apply List.map_congr_left; intro v _; exact q_v_cat _ v
  exact va_mmin hx hb (by rw [hml]; exact ha.2.2.1.1.symm) hown (hts _ hl) (hts _ h2) (hts _ h3) (hts _ h4) hf (by rw [hc2]; omega) (Nat.le_trans hce hR.2.2.1) (Nat.le_trans hsl hR.2.2.2) hd (kk hok H locs ls ha)
theorem q_x_mx {rk mc0 ms0 : Nat} (hx : p.tables.exec = Jvm.exec) (hb : c.code = cc) (hml : c.maxLocals = nL) (hts : ∀ w ∈ tb, w.before args s = true) (hR : q_Rm R rk mc0 ms0) {own : String} (hown : s.vm.findClass own = some m.cls) {idx : Nat} {x y : Int32} (hl : Cond.methodLink own idx Lib.Math.max.name ∈ tb) (h2 : Cond.static Lib.Math.max.name ∈ tb) (h3 : Cond.initialized "java/lang/Math" ∈ tb) (h4 : Cond.code Lib.Math.max.name Lib.Math.max.code 2 (some .int) ∈ tb) (hd : decode cc pc = .ok (.invokestatic idx, 3)) (hcat : q_cat st ≤ 8) (hce : ce ≤ mc0) (hsl : sl ≤ ms0) (hf : 1 ≤ R.frames) (hloc : 60 ≤ R.locals)
    (kk : QW p l e R s m args below meth c Q E nL N0 (ok, pc + 3, L, .int (if x < y then y else x) :: st, M, ce, sl)) : QW p l e R s m args below meth c Q E nL N0 (ok, pc, L, .int y :: .int x :: st, M, ce, sl) := fun hok H locs ls ha => by
  have hc2 : ((st.map (q_v E.2.2.1)).map fun v => v.category).sum = q_cat st := by
    unfold q_cat; rw [List.map_map]; congr 1; apply List.map_congr_left; intro v _; exact q_v_cat _ v
  exact va_mmax hx hb (by rw [hml]; exact ha.2.2.1.1.symm) hown (hts _ hl) (hts _ h2) (hts _ h3) (hts _ h4) hf (by rw [hc2]; omega) (Nat.le_trans hce hR.2.2.1) (Nat.le_trans hsl hR.2.2.2) hd (kk hok H locs ls ha)
/-- what a method's body stands on -/
def QB (p : Program) (R : Room) (s : State) (m : MethodId) (args : Array Value) (meth : Method) (c : Code) (E : QEnv) (nL : Nat) (cc : ByteArray) (own : String) (i0 : QI) (rk mc0 ms0 : Nat) : Prop :=
  p.tables.exec = Jvm.exec ∧ c.code = cc ∧ c.maxLocals = nL ∧ q_Rm R rk mc0 ms0 ∧ (∀ w ∈ q_w i0, w.before args s = true) ∧ q_St E s s.heap ∧ s.vm.findClass own = some m.cls ∧ 1 ≤ rk
theorem q_ok_call {i0 : QI} {rk mc0 ms0 : Nat} {own : String} {MI : Nat → Option QI} {O : QO} {len : Nat} {ns : List Nat} {σ : QC} {idx : Nat} {ins : Instr} (hB : QB p R s m args meth c E nL cc own i0 rk mc0 ms0) (hO : ∀ y i, MI y = some i → ∃ rk', rk' < rk ∧ q_Snd l i rk' (O y)) (hl : len = 3) (hd : decode cc pc = .ok (ins, 3))
    (h : q_inv O (mc0, ms0) len ns (ok, pc, L, st, M, ce, sl) = some (.inl σ)) (hv : q_Vc own MI idx ins ns) (hok : σ.1 = true) (kk : QW p l e R s m args below meth c Q E nL N0 σ) : QW p l e R s m args below meth c Q E nL N0 (ok, pc, L, st, M, ce, sl) := by
  obtain ⟨hx, hb, hml, hR, hts, hst, hown, hrk⟩ := hB
  subst hl
  have htb : ∀ w ∈ tb, w.before args s = true := fun w hw => hts w (List.mem_cons_of_mem _ hw)
  have hfr : 1 ≤ R.frames := Nat.le_trans hrk hR.1
  have hlo : 60 ≤ R.locals := by have := hR.2.1; omega
  match ns, hv, h with
  | [], _, h => cases h
  | [_], _, h => cases h
  | _ :: 0 :: _, hv, h =>
    obtain ⟨rfl, v1, v2, v3⟩ := hv
    replace h : q_obj 3 (ok, pc, L, st, M, ce, sl) = some (.inl σ) := h
    unfold q_obj at h
    split at h
    · rename_i heq
      cases heq
      cases h
      obtain ⟨h1, h2⟩ := q_cd hok
      obtain ⟨h2, -⟩ := q_cd h2
      exact q_x_obj hx hb hml htb hown v1 v2 v3 hd (Nat.ble_eq.mp h1) (of_decide_eq_true h2) hfr hlo (fun _ H locs ls ha => kk hok H locs ls ha)
    · cases h
  | _ :: 1 :: _, hv, h =>
    obtain ⟨rfl, v1, v2, v3, v4⟩ := hv
    replace h : q_cpy 3 (ok, pc, L, st, M, ce, sl) = some (.inl σ) := h
    unfold q_cpy at h
    split at h
    · rename_i heq
      cases heq
      cases h
      obtain ⟨h1, h2⟩ := q_cd hok
      obtain ⟨h2, h3⟩ := q_cd h2
      simp only [Bool.and_eq_true, Bool.not_eq_true', decide_eq_true_eq, decide_eq_false_iff_not] at h3
      obtain ⟨h4, h5, h6, h7, h8, h9⟩ := h3
      obtain ⟨h9, -⟩ := q_cd h9
      exact q_x_copy hx hb hml htb hst hown v1 v2 v3 v4 hd (q_beq h1) (q_beq h2) h4 h5 h6 h7 h8 (of_decide_eq_true h9) hfr hlo (fun _ H locs ls ha => kk hok H locs ls ha)
    · cases h
  | _ :: 2 :: _, hv, h =>
    obtain ⟨rfl, v1, v2, v3, v4⟩ := hv
    replace h : q_mn (mc0, ms0) 3 (ok, pc, L, st, M, ce, sl) = some (.inl σ) := h
    unfold q_mn at h
    split at h
    · rename_i heq
      cases heq
      cases h
      obtain ⟨h1, h2⟩ := q_cd hok
      obtain ⟨h2, h3⟩ := q_cd h2
      obtain ⟨h3, -⟩ := q_cd h3
      exact q_x_mn hx hb hml htb hR hown v1 v2 v3 v4 hd (of_decide_eq_true h1) (of_decide_eq_true h2) (of_decide_eq_true h3) hfr hlo (fun _ H locs ls ha => kk hok H locs ls ha)
    · cases h
  | _ :: 3 :: _, hv, h =>
    obtain ⟨rfl, v1, v2, v3, v4⟩ := hv
    replace h : q_mx (mc0, ms0) 3 (ok, pc, L, st, M, ce, sl) = some (.inl σ) := h
    unfold q_mx at h
    split at h
    · rename_i heq
      cases heq
      cases h
      obtain ⟨h1, h2⟩ := q_cd hok
      obtain ⟨h2, h3⟩ := q_cd h2
      obtain ⟨h3, -⟩ := q_cd h3
      exact q_x_mx hx hb hml htb hR hown v1 v2 v3 v4 hd (of_decide_eq_true h1) (of_decide_eq_true h2) (of_decide_eq_true h3) hfr hlo (fun _ H locs ls ha => kk hok H locs ls ha)
    · cases h
  | [_, y + 4], _, h => cases h
  | [_, y + 4, _], _, h => cases h
  | [_, y + 4, _, _], _, h => cases h
  | [_, y + 4, _, _, _], _, h => cases h
  | _ :: (y + 4) :: n :: z :: mc :: ms :: tl, hv, h =>
    obtain ⟨i, hi, hmo, hmc, hms, hlk⟩ := hv
    obtain ⟨rk', hrk', hsnd⟩ := hO (y + 4) i hi
    subst hmc
    subst hms
    replace h : q_call O (mc0, ms0) (y + 4) n z i.2.2.2.2.1 i.2.2.2.2.2 3 (ok, pc, L, st, M, ce, sl) = some (.inl σ) := h
    unfold q_call q_after at h
    dsimp only at h
    split at h
    · cases h
    · rename_i r hr
      cases h
      obtain ⟨h1, h2⟩ := q_cd hok
      obtain ⟨h2, h3⟩ := q_cd h2
      obtain ⟨h3, h4⟩ := q_cd h3
      obtain ⟨h4, h5⟩ := q_cd h4
      obtain ⟨h5, h6⟩ := q_cd h5
      refine q_x_call (r := r.1) (M' := r.2) hx hb hml hR hts hst hown hmo hlk hsnd hrk' hd hr (of_decide_eq_true h1) (fun ci hci => ?_) (of_decide_eq_true h3) (of_decide_eq_true h4) (of_decide_eq_true h5) (fun _ H locs ls ha => kk hok H locs ls ha)
      subst hci
      clear kk
      generalize (st.take n).reverse = as at h2
      match as, h2 with
      | .ref a :: As, h2 => exact ⟨a, As, rfl, q_beq h2⟩
end QS
