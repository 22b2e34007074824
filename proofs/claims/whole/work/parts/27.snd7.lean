/-! ===== contracts and calls ===== -/
/-- a method: name, code, locals, answer, cells and slots that it makes -/
abbrev QI : Type := MethodName × ByteArray × Nat × Option FieldType × Nat × Nat
def q_w (i : QI) : List Cond := Cond.code i.1 i.2.1 i.2.2.1 i.2.2.2.1 :: tb
def q_room (rk mc ms : Nat) : Room := { frames := rk, cells := mc, slots := ms, locals := 60 * rk }
def q_Pc (E : QEnv) (as : List Value) (M : QM) : Array Value → State → Prop := fun v U => v = (as.map (q_v E.2.2.1)).toArray ∧ q_St E U U.heap ∧ q_Dy E M U.heap ∧ U.heap.size = E.2.2.2.1 + M.2.2.2.2
def q_Qc (E : QEnv) (r : Option Value) (M' : QM) : Array Value → State → Outcome → State → Prop := fun _ st o t => o = .returned (r.map (q_v E.2.2.1)) ∧ q_Dy E M' t.heap ∧ va_F (q_A E) st t
def q_Snd (l : Launch) (i : QI) (rk : Nat) (f : List Value → QM → Option QR) : Prop := ∀ (E : QEnv) (as : List Value) (M : QM) (r : Option Value) (M' : QM), f as M = some (r, M') →
  M'.2.2.2.2 = M.2.2.2.2 + i.2.2.2.2.1 ∧ Met l i.1 (q_w i) (q_room rk i.2.2.2.2.1 i.2.2.2.2.2) (q_Pc E as M) (q_Qc E r M') i.2.2.2.2.1 i.2.2.2.2.2 (q_A E)
/-- what is known of a method by its number -/
def q_Mok (i : QI) : Prop := Cond.code i.1 i.2.1 i.2.2.1 i.2.2.2.1 ∈ tb ∧ Cond.initialized i.1.cls ∈ tb ∧ (i.1.cls ≠ "java/lang/invoke/MethodHandle" ∧ i.1.cls ≠ "java/lang/invoke/VarHandle") ∧ i.2.2.1 ≤ 41
theorem q_goodIn {i j : QI} (hj : q_Mok j) : GoodIn (q_w i) (q_w j) := by
  intro w hw
  have hm : w ∈ tb := by
    rcases List.mem_cons.mp hw with h | h
    · rw [h]; exact hj.1
    · exact h
  exact ⟨List.mem_cons_of_mem _ hm, tb_good w hm⟩
theorem q_St_moved {E : QEnv} {s U : State} {H H1 : Heap} (hvm : s.vm.Alike U.vm) (hn : ∀ w ∈ q_nst, va_Nw w U) (hr : vk_R "ScanBench$Reader" 59 q_ts (E.2.2.1 1010) U) (h : q_St E s H) (hq : ∀ a : Nat, a < H.size → ¬ q_A E a → H1[a]? = H[a]?) : q_St E U H1 :=
  ⟨va_K.moved hvm h.1, fun p hp => (h.2.1 p hp).imp id (fun g => g.imp (fun g => ⟨g.1, (g.2.moved hvm).kept hq⟩) id), fun x hx => ((h.2.2.1 x hx).moved hvm).kept hq, h.2.2.2.1, hn,
    (h.2.2.2.2.2.1.moved hvm).kept hq, (h.2.2.2.2.2.2.1.moved hvm).kept hq, h.2.2.2.2.2.2.2.1.imp (fun _ g => (g.moved hvm).kept hq), hr⟩
/-- room: what a method of a rank wants at the least -/
def q_Rm (R : Room) (rk mc0 ms0 : Nat) : Prop := rk ≤ R.frames ∧ 60 * rk ≤ R.locals ∧ mc0 ≤ R.cells ∧ ms0 ≤ R.slots
theorem q_Rm_r (rk mc0 ms0 : Nat) : q_Rm (q_room rk mc0 ms0) rk mc0 ms0 := ⟨Nat.le_refl _, Nat.le_refl _, Nat.le_refl _, Nat.le_refl _⟩
theorem q_Pc_blind {E : QEnv} {as : List Value} {M : QM} : FrameBlind (q_Pc E as M) := by
  intro a U g mk h
  exact ⟨h.1, q_St_moved (s := U) (U := U.calling g mk a) (Vm.Alike.refl U.vm) (fun w hw => va_Nw.same (q_nst_tab hw) (u := U) rfl (h.2.1.2.2.2.2.1 w hw)) (vk_R.same (u := U) rfl h.2.1.2.2.2.2.2.2.2.2) h.2.1 (fun _ _ _ => rfl), h.2.2.1, h.2.2.2⟩
section QS
variable {p : Program} {l : Launch} {e : Env} {R : Room} {s : State} {m : MethodId} {args : Array Value} {below : List Frame} {meth : Method} {c : Code} {Q : State → Prop} {E : QEnv} {nL N0 : Nat} {cc : ByteArray}
variable {ok : Bool} {pc : Nat} {L : List (Option Value)} {M : QM} {ce sl : Nat}
/-- behind a call -/
theorem q_behind {rest : List Value} {r : Option Value} {M' : QM} {mc ms : Nat} {H : Heap} {locs : List Loc} {ls : Array Slot} {st0 : List Value} {a : Array Value} (hst : q_St E s s.heap) (ha : q_at E s nL N0 ce L M H locs ls) (hN : M'.2.2.2.2 = M.2.2.2.2 + mc)
    (hr : va_Run p l e R s m args below meth c H locs ce sl mc ms (F0 m pc ls st0) (rest.map (q_v E.2.2.1)) (q_Qc E r M' a) (q_A E))
    (kk : ∀ (H1 : Heap) (locs1 : List Loc), q_at E s nL N0 (ce + mc) L M' H1 locs1 ls → W p l e R s m args below meth c H1 locs1 (ce + mc) (sl + ms) Q (F0 m (pc + 3) ls ((r.toList ++ rest).map (q_v E.2.2.1)))) : W p l e R s m args below meth c H locs ce sl Q (F0 m pc ls st0) := by
  intro T hT X
  obtain ⟨v, st₀, t, T', L', h0, X', hL, e1, e2, ⟨hv, hdy, hz, hk⟩, st⟩ := hr T hT X
  cases hv
  rw [h0] at hz hk
  have hat : q_at E s nL N0 (ce + mc) L M' t.heap (locs ++ L') ls := by
    refine ⟨hdy, ⟨Nat.le_trans ha.2.1.1 hz, fun q h1 h2 => (hk q (Nat.lt_of_lt_of_le h1 ha.2.1.1) h2).trans (ha.2.1.2.1 q h1 h2), fun q hq => ?_⟩, ha.2.2.1, ha.2.2.2.1, ?_, ha.2.2.2.2.2⟩
    · rcases List.mem_append.mp hq with h | h
      · exact ha.2.1.2.2 q h
      · exact hL q h
    · have := ha.2.2.2.2.1; omega
  have k1 := kk t.heap _ hat
  have e3 : (r.toList ++ rest).map (q_v E.2.2.1) = (r.map (q_v E.2.2.1)).toList ++ rest.map (q_v E.2.2.1) := by cases r <;> simp
  rw [e3] at k1
  obtain ⟨t2, a1, b1⟩ := k1 T' e1 X'
  exact ⟨t2, st t2 a1, b1⟩
theorem q_pre {as : List Value} {H : Heap} {locs : List Loc} {ls : Array Slot} (hst : q_St E s s.heap) (ha : q_at E s nL N0 ce L M H locs ls) (hz : H.size ≤ s.heap.size + ce) : ∀ U : State, U.heap = H → s.WarmedH U.vm → q_Pc E as M (as.map (q_v E.2.2.1)).toArray U := by
  intro U hU hW
  refine ⟨rfl, ?_, by rw [hU]; exact ha.1, by rw [hU]; exact q_at_size ha hz⟩
  rw [hU]
  exact q_St_moved hW.alike (fun w hw => q_nst_warm hW hw (hst.2.2.2.2.1 w hw)) (vk_R.warm hW hst.2.2.2.2.2.2.2.2) hst (fun a h1 h2 => ha.2.1.2.1 a h1 h2)
theorem q_split {n : Nat} {st : List Value} {ad : Nat → Nat} : st.map (q_v ad) = ((st.take n).reverse.map (q_v ad)).reverse ++ (st.drop n).map (q_v ad) := by
  rw [List.map_reverse, List.reverse_reverse, ← List.map_append, List.take_append_drop]
theorem q_recv {a ci : Nat} {q : vw_C} {H : Heap} {locs : List Loc} {ls : Array Slot} (hst : q_St E s s.heap) (ha : q_at E s nL N0 ce L M H locs ls) (hq : q_cl[ci]? = some q) (hk : q_kd M a = ci + 1) : 1 ≤ a ∧ ∃ cell : Cell, H[E.2.2.1 a]? = some cell ∧ cell.vm.isStatics = false ∧ s.vm.findClass q.1 = some cell.cls := by
  have hc := q_cl_lt hq
  obtain ⟨h1, h2, h3⟩ := q_pl ha.1.2.2.2 (q_St_s hst) hk (by omega) (by omega)
  have he := q_ws_at (E := E) h2 h3
  rw [q_cell_o hk hc] at he
  exact ⟨h2, va_recv hst.1 ha.1.1 hq he⟩
/-- a receiver's class: one of ours, or a text's -/
def q_Rc (z : Nat) (C : String) : Prop := (∃ (ci : Nat) (q : vw_C), z = ci + 1 ∧ q_cl[ci]? = some q ∧ q.1 = C) ∨ (z = 40 ∧ C = "java/lang/String")
theorem q_recvR {a z : Nat} {C : String} {H : Heap} {locs : List Loc} {ls : Array Slot} (hst : q_St E s s.heap) (ha : q_at E s nL N0 ce L M H locs ls) (hc : q_Rc z C) (hk : q_kd M a = z) : 1 ≤ a ∧ ∃ cell : Cell, H[E.2.2.1 a]? = some cell ∧ cell.vm.isStatics = false ∧ s.vm.findClass C = some cell.cls := by
  rcases hc with ⟨ci, q, rfl, hq, rfl⟩ | ⟨rfl, rfl⟩
  · exact q_recv hst ha hq hk
  · have h1 : 1000 ≤ a := by
      by_cases h : a < 1000
      · have := (ha.1.2.2.2.2.2 a h (by omega)).2.2
        omega
      · omega
    have h2 : a = 1010 := by
      have w1 := (ha.1.2.2.2.2.1 a h1).1
      have e1 : q_kd M a = (E.2.2.2.2.2 a).1 := by unfold q_kd; rw [w1]
      rcases hst.2.1 a h1 with h | ⟨h, -⟩ | ⟨-, h⟩
      · omega
      · omega
      · exact h
    subst h2
    exact ⟨by omega, vk_recv hst.2.2.2.2.2.1 (i := 0) (by omega) ha.2.1⟩
theorem q_Rc_pos {z : Nat} {C : String} (h : q_Rc z C) : ∃ y, z = y + 1 := by
  rcases h with ⟨ci, q, rfl, -⟩ | ⟨rfl, -⟩
  · exact ⟨ci, rfl⟩
  · exact ⟨39, rfl⟩
/-- the ways of a call: virtual, static, constructor; of a nest mate's -/
def q_Lk (own : String) (idx : Nat) (i : QI) (ins : Instr) (n : Nat) (z : Nat) : Prop :=
  (ins = .invokevirtual idx ∧ Cond.methodLink own idx i.1 ∈ tb ∧ Cond.instanceMethod i.1 ∈ tb ∧ Cond.selects i.1.cls i.1 i.1 ∈ tb ∧ (parseMethodDescriptor i.1.desc).map (fun d => d.parameters.length) = some (n - 1) ∧ 1 ≤ n ∧ q_Rc z i.1.cls) ∨
  (ins = .invokestatic idx ∧ (Cond.methodLink own idx i.1 ∈ tb ∨ ∃ host, Cond.methodLinkNest own idx i.1 host ∈ q_nst) ∧ Cond.static i.1 ∈ tb ∧ (parseMethodDescriptor i.1.desc).map (fun d => d.parameters.length) = some n) ∨
  (ins = .invokespecial idx ∧ (Cond.methodLink own idx i.1 ∈ tb ∨ ∃ host, Cond.methodLinkNest own idx i.1 host ∈ q_nst) ∧ Cond.instanceMethod i.1 ∈ tb ∧ i.1.name = "<init>" ∧ i.2.2.2.1 = none ∧ (parseMethodDescriptor i.1.desc).map (fun d => d.parameters.length) = some (n - 1) ∧ 1 ≤ n ∧ ∃ (ci : Nat) (q : vw_C), z = ci + 1 ∧ q_cl[ci]? = some q)
theorem q_x_call {i0 i : QI} {rk rk' mc0 ms0 : Nat} {f : List Value → QM → Option QR} {st : List Value} {n z : Nat} {own : String} {idx : Nat} {ins : Instr} {r : Option Value} {M' : QM} (hx : p.tables.exec = Jvm.exec) (hb : c.code = cc) (hml : c.maxLocals = nL) (hR : q_Rm R rk mc0 ms0) (hts : ∀ w ∈ q_w i0, w.before args s = true) (hst : q_St E s s.heap) (hown : s.vm.findClass own = some m.cls)
    (hi : q_Mok i) (hlk : q_Lk own idx i ins n z) (hsnd : q_Snd l i rk' f) (hrk : rk' < rk) (hd : decode cc pc = .ok (ins, 3)) (hf : f (st.take n).reverse M = some (r, M')) (hlen : st.length = n + (st.drop n).length)
    (hz : ∀ ci, z = ci + 1 → ∃ a As, (st.take n).reverse = .ref a :: As ∧ q_kd M a = ci + 1) (hcat : q_cat (st.drop n) ≤ 8) (hc : ce + i.2.2.2.2.1 ≤ mc0) (hs : sl + i.2.2.2.2.2 ≤ ms0)
    (kk : QW p l e R s m args below meth c Q E nL N0 (ok, pc + 3, L, r.toList ++ st.drop n, M', ce + i.2.2.2.2.1, sl + i.2.2.2.2.2)) : QW p l e R s m args below meth c Q E nL N0 (ok, pc, L, st, M, ce, sl) := fun hok H locs ls ha => q_sz fun hsz => by
  obtain ⟨hN, hM⟩ := hsnd E _ M r M' hf
  have htb : ∀ w ∈ tb, w.before args s = true := fun w h => hts w (List.mem_cons_of_mem _ h)
  have hpre := q_pre (as := (st.take n).reverse) hst ha hsz
  have hlen2 : (st.take n).length = n := by rw [List.length_take]; rw [List.length_drop] at hlen; omega
  have hW : 2 * (F0 m pc ls (st.map (q_v E.2.2.1))).monitorRoom + (((st.drop n).map (q_v E.2.2.1)).map fun v => v.category).sum ≤ 8 := by
    have hc2 : (((st.drop n).map (q_v E.2.2.1)).map fun v => v.category).sum = q_cat (st.drop n) := by
      unfold q_cat; rw [List.map_map]; congr 1; apply List.map_congr_left; intro v _; exact q_v_cat _ v
    show 2 * 0 + _ ≤ 8
    rw [hc2]; omega
  have hroom : (q_room rk' i.2.2.2.2.1 i.2.2.2.2.2).frames + 1 ≤ R.frames ∧ 8 + (i.2.2.1 + 11) + (q_room rk' i.2.2.2.2.1 i.2.2.2.2.2).locals ≤ R.locals := by
    show rk' + 1 ≤ R.frames ∧ 8 + (i.2.2.1 + 11) + 60 * rk' ≤ R.locals
    have := hi.2.2.2
    have h1 := hR.1
    have h2 := hR.2.1
    omega
  have hcs : ce + i.2.2.2.2.1 ≤ R.cells ∧ sl + i.2.2.2.2.2 ≤ R.slots := ⟨Nat.le_trans hc hR.2.2.1, Nat.le_trans hs hR.2.2.2⟩
  have hfix : CallFix p m c cc nL s args (q_w i0) own := ⟨hx, hb, hml, hown, hts⟩
  refine q_behind hst ha hN ?_ (fun H1 locs1 h1 => kk hok H1 locs1 ls h1) (a := ((st.take n).reverse.map (q_v E.2.2.1)).toArray) (rest := st.drop n)
  rcases hlk with ⟨rfl, hl, him, hse, hpd, hn1, hrc⟩ | ⟨rfl, hl, hstc, hpd⟩ | ⟨rfl, hl, him, hnm, hret, hpd, hn1, ci, q, hzc, hq⟩
  · obtain ⟨zy, hzy⟩ := q_Rc_pos hrc
    obtain ⟨a, As, has, hka⟩ := hz zy hzy
    obtain ⟨h1, cell, g1, g2, g3⟩ := q_recvR hst ha hrc (hka.trans hzy.symm)
    have hAl : As.length = n - 1 := by
      have : (st.take n).reverse.length = As.length + 1 := by rw [has]; rfl
      rw [List.length_reverse, hlen2] at this; omega
    have hmap : (st.take n).reverse.map (q_v E.2.2.1) = .ref (E.2.2.1 a) :: As.map (q_v E.2.2.1) := by
      rw [has]; show q_rf E.2.2.1 a :: _ = _; rw [q_rf_pos h1]
    rw [hmap] at hpre ⊢
    refine va_runV (C := i.1.cls) (n := n - 1) (As := As.map (q_v E.2.2.1)) hfix hM (cwV (n - 1) hts (fun w hw => ?_) rfl rfl rfl ⟨rfl, hi.2.2.1.1, hi.2.2.1.2, hpd⟩ hroom) ⟨q_Pc_blind, ⟨cell, g1, g2, g3⟩, hpre⟩ rfl (by rw [List.length_map, hAl]) ha.2.2.1.1 ?_ hW hd hcs
    · unfold wsV at hw
      rcases List.mem_append.mp hw with h | h
      · simp only [List.mem_cons, List.not_mem_nil, or_false] at h
        have hm : w ∈ tb := by rcases h with h | h | h | h <;> rw [h] <;> first | exact hl | exact him | exact hse | exact hi.2.1
        exact ⟨List.mem_cons_of_mem _ hm, tb_good w hm⟩
      · exact q_goodIn hi w h
    · show st.map (q_v E.2.2.1) = _
      rw [q_split (n := n), hmap]; simp
  · have hlenr : ((st.take n).reverse.map (q_v E.2.2.1)).length = n := by rw [List.length_map, List.length_reverse, hlen2]
    rcases hl with hl | ⟨host, hl⟩
    · refine va_runS (n := n) (As := (st.take n).reverse.map (q_v E.2.2.1)) hfix hM (va_cwS n hts (fun w hw => ?_) rfl rfl rfl ⟨hi.2.2.1.1, hi.2.2.1.2, hpd⟩ hroom) ⟨q_Pc_blind, hpre⟩ rfl hlenr ha.2.2.1.1 q_split hW hd hcs
      unfold va_wsS at hw
      rcases List.mem_append.mp hw with h | h
      · simp only [List.mem_cons, List.not_mem_nil, or_false] at h
        have hm : w ∈ tb := by rcases h with h | h | h <;> rw [h] <;> first | exact hl | exact hstc | exact hi.2.1
        exact ⟨List.mem_cons_of_mem _ hm, tb_good w hm⟩
      · exact q_goodIn hi w h
    · exact va_runSN (host := host) (n := n) (As := (st.take n).reverse.map (q_v E.2.2.1)) hfix hM ⟨va_cnB n hts (q_goodIn hi) rfl rfl rfl (hst.2.2.2.2.1 _ hl) (htb _ hi.2.1) ⟨hi.2.2.1.1, hi.2.2.1.2, hpd⟩ hroom, htb _ hstc, trivial⟩ ⟨q_Pc_blind, hpre⟩ rfl hlenr ha.2.2.1.1 q_split hW hd hcs
  · obtain ⟨a, As, has, hka⟩ := hz ci hzc
    obtain ⟨h1, cell, g1, g2, g3⟩ := q_recv hst ha hq hka
    have hAl : As.length = n - 1 := by
      have : (st.take n).reverse.length = As.length + 1 := by rw [has]; rfl
      rw [List.length_reverse, hlen2] at this; omega
    have hmap : (st.take n).reverse.map (q_v E.2.2.1) = .ref (E.2.2.1 a) :: As.map (q_v E.2.2.1) := by
      rw [has]; show q_rf E.2.2.1 a :: _ = _; rw [q_rf_pos h1]
    have hww : q_w i = Cond.code i.1 i.2.1 i.2.2.1 none :: tb := by unfold q_w; rw [hret]
    rw [hmap] at hpre ⊢
    have hstk : (F0 m pc ls (st.map (q_v E.2.2.1))).stack = (As.map (q_v E.2.2.1)).reverse ++ .ref (E.2.2.1 a) :: (st.drop n).map (q_v E.2.2.1) := by
      show st.map (q_v E.2.2.1) = _
      rw [q_split (n := n), hmap]; simp
    rcases hl with hl | ⟨host, hl⟩
    · exact va_runI (n := n - 1) (As := As.map (q_v E.2.2.1)) hfix hM (cwI (n - 1) hts (q_goodIn hi) hww rfl rfl (htb _ hi.2.1) (htb _ hl) (htb _ him) hnm ⟨hi.2.2.1.1, hi.2.2.1.2, hpd⟩ hroom) ⟨q_Pc_blind, hpre⟩ rfl (by rw [List.length_map, hAl]) ha.2.2.1.1 hstk hW hd hcs
    · exact va_runIN (host := host) (n := n - 1) (As := As.map (q_v E.2.2.1)) hfix hM ⟨va_cnB (n - 1) hts (q_goodIn hi) hww rfl rfl (hst.2.2.2.2.1 _ hl) (htb _ hi.2.1) ⟨hi.2.2.1.1, hi.2.2.1.2, hpd⟩ hroom, hnm, htb _ him⟩ ⟨q_Pc_blind, hpre⟩ rfl (by rw [List.length_map, hAl]) ha.2.2.1.1 hstk hW hd hcs
end QS
