/-! ===== the text constant: its length, its chars (by program, over hand-written rows) ===== -/
def iT0 : QI := (⟨"java/lang/String", "coder", "()B"⟩, prog_18_method_152_code, 1, some .byte, 0, 0)
set_option maxRecDepth 20000 in
theorem k_T0 : q_Mok iT0 := ⟨(tb_1 206 rfl rfl), (tb_1 6 rfl rfl), by decide, by decide⟩
def iT1 : QI := (⟨"java/lang/String", "isLatin1", "()Z"⟩, prog_18_method_154_code, 1, some .boolean, 0, 0)
set_option maxRecDepth 20000 in
theorem k_T1 : q_Mok iT1 := ⟨(tb_1 216 rfl rfl), (tb_1 6 rfl rfl), by decide, by decide⟩
def iT2 : QI := (⟨"jdk/internal/util/Preconditions", "checkIndex", "(IILjava/util/function/BiFunction;)I"⟩, prog_23_method_11_code, 3, some .int, 0, 0)
set_option maxRecDepth 20000 in
theorem k_T2 : q_Mok iT2 := ⟨(tb_1 227 rfl rfl), (tb_1 8 rfl rfl), by decide, by decide⟩
def iT3 : QI := (⟨"java/lang/String", "checkIndex", "(II)V"⟩, prog_18_method_155_code, 2, none, 0, 0)
set_option maxRecDepth 20000 in
theorem k_T3 : q_Mok iT3 := ⟨(tb_1 222 rfl rfl), (tb_1 6 rfl rfl), by decide, by decide⟩
def iT6 : QI := (⟨"java/lang/StringLatin1", "charAt", "([BI)C"⟩, prog_19_method_2_code, 2, some .char, 0, 0)
set_option maxRecDepth 20000 in
theorem k_T6 : q_Mok iT6 := ⟨(tb_1 219 rfl rfl), (tb_1 7 rfl rfl), by decide, by decide⟩
theorem dT0_0 : decode iT0.2.1 0 = .ok (.getstatic 38, 3) := by decide +kernel
theorem dT0_3 : decode iT0.2.1 3 = .ok (.ifCond .eq 10, 3) := by decide +kernel
theorem dT0_6 : decode iT0.2.1 6 = .ok (.aload_n 0, 1) := by decide +kernel
theorem dT0_7 : decode iT0.2.1 7 = .ok (.getfield 15, 3) := by decide +kernel
theorem dT0_10 : decode iT0.2.1 10 = .ok (.goto 4, 3) := by decide +kernel
theorem dT0_13 : decode iT0.2.1 13 = .ok (.iconst 1, 1) := by decide +kernel
theorem dT0_14 : decode iT0.2.1 14 = .ok (.ireturn, 1) := by decide +kernel
theorem dT1_0 : decode iT1.2.1 0 = .ok (.getstatic 38, 3) := by decide +kernel
theorem dT1_3 : decode iT1.2.1 3 = .ok (.ifCond .eq 14, 3) := by decide +kernel
theorem dT1_6 : decode iT1.2.1 6 = .ok (.aload_n 0, 1) := by decide +kernel
theorem dT1_7 : decode iT1.2.1 7 = .ok (.getfield 15, 3) := by decide +kernel
theorem dT1_10 : decode iT1.2.1 10 = .ok (.ifCond .ne 7, 3) := by decide +kernel
theorem dT1_13 : decode iT1.2.1 13 = .ok (.iconst 1, 1) := by decide +kernel
theorem dT1_14 : decode iT1.2.1 14 = .ok (.goto 4, 3) := by decide +kernel
theorem dT1_17 : decode iT1.2.1 17 = .ok (.iconst 0, 1) := by decide +kernel
theorem dT1_18 : decode iT1.2.1 18 = .ok (.ireturn, 1) := by decide +kernel
theorem dT2_0 : decode iT2.2.1 0 = .ok (.iload_n 0, 1) := by decide +kernel
theorem dT2_1 : decode iT2.2.1 1 = .ok (.ifCond .lt 8, 3) := by decide +kernel
theorem dT2_4 : decode iT2.2.1 4 = .ok (.iload_n 0, 1) := by decide +kernel
theorem dT2_5 : decode iT2.2.1 5 = .ok (.iload_n 1, 1) := by decide +kernel
theorem dT2_6 : decode iT2.2.1 6 = .ok (.if_icmp .lt 10, 3) := by decide +kernel
theorem dT2_9 : decode iT2.2.1 9 = .ok (.aload_n 2, 1) := by decide +kernel
theorem dT2_10 : decode iT2.2.1 10 = .ok (.iload_n 0, 1) := by decide +kernel
theorem dT2_11 : decode iT2.2.1 11 = .ok (.iload_n 1, 1) := by decide +kernel
theorem dT2_12 : decode iT2.2.1 12 = .ok (.invokestatic 95, 3) := by decide +kernel
theorem dT2_15 : decode iT2.2.1 15 = .ok (.athrow, 1) := by decide +kernel
theorem dT2_16 : decode iT2.2.1 16 = .ok (.iload_n 0, 1) := by decide +kernel
theorem dT2_17 : decode iT2.2.1 17 = .ok (.ireturn, 1) := by decide +kernel
theorem dT3_0 : decode iT3.2.1 0 = .ok (.iload_n 0, 1) := by decide +kernel
theorem dT3_1 : decode iT3.2.1 1 = .ok (.iload_n 1, 1) := by decide +kernel
theorem dT3_2 : decode iT3.2.1 2 = .ok (.getstatic 1053, 3) := by decide +kernel
theorem dT3_5 : decode iT3.2.1 5 = .ok (.invokestatic 1059, 3) := by decide +kernel
theorem dT3_8 : decode iT3.2.1 8 = .ok (.pop, 1) := by decide +kernel
theorem dT3_9 : decode iT3.2.1 9 = .ok (.return_, 1) := by decide +kernel
theorem dT4_0 : decode iT4.2.1 0 = .ok (.aload_n 0, 1) := by decide +kernel
theorem dT4_1 : decode iT4.2.1 1 = .ok (.getfield 9, 3) := by decide +kernel
theorem dT4_4 : decode iT4.2.1 4 = .ok (.arraylength, 1) := by decide +kernel
theorem dT4_5 : decode iT4.2.1 5 = .ok (.aload_n 0, 1) := by decide +kernel
theorem dT4_6 : decode iT4.2.1 6 = .ok (.invokevirtual 335, 3) := by decide +kernel
theorem dT4_9 : decode iT4.2.1 9 = .ok (.ishr, 1) := by decide +kernel
theorem dT4_10 : decode iT4.2.1 10 = .ok (.ireturn, 1) := by decide +kernel
theorem dT5_0 : decode iT5.2.1 0 = .ok (.aload_n 0, 1) := by decide +kernel
theorem dT5_1 : decode iT5.2.1 1 = .ok (.invokevirtual 492, 3) := by decide +kernel
theorem dT5_4 : decode iT5.2.1 4 = .ok (.ifCond .eq 12, 3) := by decide +kernel
theorem dT5_7 : decode iT5.2.1 7 = .ok (.aload_n 0, 1) := by decide +kernel
theorem dT5_8 : decode iT5.2.1 8 = .ok (.getfield 9, 3) := by decide +kernel
theorem dT5_11 : decode iT5.2.1 11 = .ok (.iload_n 1, 1) := by decide +kernel
theorem dT5_12 : decode iT5.2.1 12 = .ok (.invokestatic 495, 3) := by decide +kernel
theorem dT5_15 : decode iT5.2.1 15 = .ok (.ireturn, 1) := by decide +kernel
theorem dT5_16 : decode iT5.2.1 16 = .ok (.aload_n 0, 1) := by decide +kernel
theorem dT5_17 : decode iT5.2.1 17 = .ok (.getfield 9, 3) := by decide +kernel
theorem dT5_20 : decode iT5.2.1 20 = .ok (.iload_n 1, 1) := by decide +kernel
theorem dT5_21 : decode iT5.2.1 21 = .ok (.invokestatic 498, 3) := by decide +kernel
theorem dT5_24 : decode iT5.2.1 24 = .ok (.ireturn, 1) := by decide +kernel
theorem dT6_0 : decode iT6.2.1 0 = .ok (.iload_n 1, 1) := by decide +kernel
theorem dT6_1 : decode iT6.2.1 1 = .ok (.aload_n 0, 1) := by decide +kernel
theorem dT6_2 : decode iT6.2.1 2 = .ok (.arraylength, 1) := by decide +kernel
theorem dT6_3 : decode iT6.2.1 3 = .ok (.invokestatic 9, 3) := by decide +kernel
theorem dT6_6 : decode iT6.2.1 6 = .ok (.aload_n 0, 1) := by decide +kernel
theorem dT6_7 : decode iT6.2.1 7 = .ok (.iload_n 1, 1) := by decide +kernel
theorem dT6_8 : decode iT6.2.1 8 = .ok (.baload, 1) := by decide +kernel
theorem dT6_9 : decode iT6.2.1 9 = .ok (.sipush 255, 3) := by decide +kernel
theorem dT6_12 : decode iT6.2.1 12 = .ok (.iand, 1) := by decide +kernel
theorem dT6_13 : decode iT6.2.1 13 = .ok (.i2c, 1) := by decide +kernel
theorem dT6_14 : decode iT6.2.1 14 = .ok (.ireturn, 1) := by decide +kernel
theorem q_snd_w {l : Launch} {i : QI} {rk : Nat} {E : QEnv} {as : List Value} {M M' : QM} {r : Option Value} (hpl : plainName i.1.cls = true) (hle : (q_sl as).length ≤ i.2.2.1) (hrk : 1 ≤ rk)
    (body : ∀ (p : Program) (e : Env) (R : Room) (s : State) (m : MethodId) (args : Array Value) (below : List Frame) (meth : Method) (c : Code), QB p R s m args meth c E i.2.2.1 i.2.1 i.1.cls i rk i.2.2.2.2.1 i.2.2.2.2.2 → meth.sig.returnType = i.2.2.2.1 → meth.locks = false →
      QW p l e R s m args below meth c (MQ below (q_Qc E r M') args s i.2.2.2.2.1 i.2.2.2.2.2 (q_A E)) E i.2.2.1 M.2.2.2.2 (true, 0, q_L0 as i.2.2.1, [], M, 0, 0)) :
    Met l i.1 (q_w i) (q_room rk i.2.2.2.2.1 i.2.2.2.2.2) (q_Pc E as M) (q_Qc E r M') i.2.2.2.2.1 i.2.2.2.2.2 (q_A E) := by
  refine Met.ofW (cc := i.2.1) (maxL := i.2.2.1) (ret := i.2.2.2.1) hpl rfl ?_
  intro p e s m args below meth c s₁ B hml hv
  obtain ⟨rfl, hst, hdy, hsz⟩ := hv
  have hts := atoms_spec (ws := q_w i) B.pre
  have hB : QB p (headSpec (q_w i) (q_room rk i.2.2.2.2.1 i.2.2.2.2.2)).room s m ((as.map (q_v E.2.2.1)).toArray) meth c E i.2.2.1 i.2.1 i.1.cls i rk i.2.2.2.2.1 i.2.2.2.2.2 := ⟨B.exec, B.bytes, hml, q_Rm_r _ _ _, hts, hst, findClass_of_methodNamed B.named, hrk⟩
  have hl := lv_entry (as.map (q_v E.2.2.1)) (n := i.2.2.1) (by rw [q_sl_len]; exact hle)
  rw [lg_entry_eq]
  refine body p e _ s m _ below meth c hB B.returns B.notSynchronized rfl s.heap [] _ ⟨hdy, va_S.rf, lv_less hl (fun q hq => ?_), ?_, by simp, hsz⟩
  · exact q_sl_args as 0 0 _ (q_pr_none _ _) q hq
  · unfold q_L0; rw [List.length_append, List.length_replicate]; omega
section QS
variable {p : Program} {l : Launch} {e : Env} {R : Room} {s : State} {m : MethodId} {args : Array Value} {below : List Frame} {meth : Method} {c : Code} {Q : State → Prop} {E : QEnv} {nL N0 : Nat} {cc : ByteArray}
variable {ok : Bool} {pc : Nat} {L : List (Option Value)} {st : List Value} {M : QM} {ce sl : Nat}
theorem q_y_gs (hx : p.tables.exec = Jvm.exec) (hb : c.code = cc) (hts : ∀ w ∈ tb, w.before args s = true) {own C n d : String} {idx : Nat} {v : Value} (hown : s.vm.findClass own = some m.cls) (hZ : va_Z C n d (q_v E.2.2.1 v) (q_A E) s s.heap) (hl : Cond.fieldLink own idx C n d ∈ tb) (hd : decode cc pc = .ok (.getstatic idx, 3))
    (kk : QW p l e R s m args below meth c Q E nL N0 (ok, pc + 3, L, v :: st, M, ce, sl)) : QW p l e R s m args below meth c Q E nL N0 (ok, pc, L, st, M, ce, sl) := fun hok H locs ls ha =>
  va_gets hx hb hZ ha.2.1 hown (hts _ hl) (fun _ h => h) hd (kk hok H locs ls ha)
theorem q_y_gf (hx : p.tables.exec = Jvm.exec) (hb : c.code = cc) (hts : ∀ w ∈ tb, w.before args s = true) {own o n d : String} {idx a : Nat} {v : Value} (hown : s.vm.findClass own = some m.cls) (h1 : 1 ≤ a) (hF : va_OF o n d (q_v E.2.2.1 v) (E.2.2.1 a) (q_A E) s s.heap) (hl : Cond.fieldLink own idx o n d ∈ tb) (hd : decode cc pc = .ok (.getfield idx, 3))
    (kk : QW p l e R s m args below meth c Q E nL N0 (ok, pc + 3, L, v :: st, M, ce, sl)) : QW p l e R s m args below meth c Q E nL N0 (ok, pc, L, .ref a :: st, M, ce, sl) := fun hok H locs ls ha => by
  show W p l e R s m args below meth c H locs ce sl Q (F0 m pc ls (q_rf E.2.2.1 a :: st.map (q_v E.2.2.1)))
  rw [q_rf_pos h1]
  exact vk_getf hx hb hF ha.2.1 hown (hts _ hl) (fun _ h => h) hd (kk hok H locs ls ha)
theorem q_y_len (hx : p.tables.exec = Jvm.exec) (hb : c.code = cc) {a n : Nat} {ty : FieldType} {f : Nat → Value} (h1 : 1 ≤ a) (hT : va_T ty (E.2.2.1 a) n f (q_A E) s s.heap) (hd : decode cc pc = .ok (.arraylength, 1))
    (kk : QW p l e R s m args below meth c Q E nL N0 (ok, pc + 1, L, .int (Int32.ofNat n) :: st, M, ce, sl)) : QW p l e R s m args below meth c Q E nL N0 (ok, pc, L, .ref a :: st, M, ce, sl) := fun hok H locs ls ha => by
  show W p l e R s m args below meth c H locs ce sl Q (F0 m pc ls (q_rf E.2.2.1 a :: st.map (q_v E.2.2.1)))
  rw [q_rf_pos h1]
  exact va_tlen hx hb hT ha.2.1 rfl hd (kk hok H locs ls ha)
theorem q_y_tb (hx : p.tables.exec = Jvm.exec) (hb : c.code = cc) {a n : Nat} {f : Nat → Int32} {i : Int32} (h1 : 1 ≤ a) (hT : va_T .byte (E.2.2.1 a) n (fun j => .int (f j)) (q_A E) s s.heap) (hi : q_in i n = true) (hd : decode cc pc = .ok (.baload, 1))
    (kk : QW p l e R s m args below meth c Q E nL N0 (ok, pc + 1, L, .int (f i.toNatClampNeg) :: st, M, ce, sl)) : QW p l e R s m args below meth c Q E nL N0 (ok, pc, L, .int i :: .ref a :: st, M, ce, sl) := fun hok H locs ls ha => by
  show W p l e R s m args below meth c H locs ce sl Q (F0 m pc ls (.int i :: q_rf E.2.2.1 a :: st.map (q_v E.2.2.1)))
  rw [q_rf_pos h1]
  exact va_tb hx hb hT ha.2.1 (q_in_vp hi) rfl hd (kk hok H locs ls ha)
theorem q_y_i2c (hx : p.tables.exec = Jvm.exec) (hb : c.code = cc) {x v : Int32} (hv : (x.toUInt32 % 65536).toInt32 = v) (hd : decode cc pc = .ok (.i2c, 1))
    (kk : QW p l e R s m args below meth c Q E nL N0 (ok, pc + 1, L, .int v :: st, M, ce, sl)) : QW p l e R s m args below meth c Q E nL N0 (ok, pc, L, .int x :: st, M, ce, sl) := fun hok H locs ls ha => lv_i2c hx hb hd hv (kk hok H locs ls ha)
theorem q_y_ret (hx : p.tables.exec = Jvm.exec) (hb : c.code = cc) {x : Int32} {ty : FieldType} (hret : meth.sig.returnType = some ty) (hn : narrow ty (.int x) = .int x) (hlocks : meth.locks = false) (hd : decode cc pc = .ok (.ireturn, 1)) :
    QW p l e R s m args below meth c (MQ below (q_Qc E (some (.int x)) M) args s ce sl (q_A E)) E nL N0 (ok, pc, L, [.int x], M, ce, sl) := fun hok H locs ls ha =>
  W.zret hx hb hret hn (fun t ht _ => ⟨rfl, by rw [ht]; exact ha.1, ha.2.1.F ht⟩) ha.2.1.2.2 hd
theorem q_y_vret (hx : p.tables.exec = Jvm.exec) (hb : c.code = cc) (hret : meth.sig.returnType = none) (hlocks : meth.locks = false) (hd : decode cc pc = .ok (.return_, 1)) :
    QW p l e R s m args below meth c (MQ below (q_Qc E none M) args s ce sl (q_A E)) E nL N0 (ok, pc, L, [], M, ce, sl) := fun hok H locs ls ha =>
  W.vret hx hb hret (fun t ht _ => ⟨rfl, by rw [ht]; exact ha.1, ha.2.1.F ht⟩) ha.2.1.2.2 hd
end QS
/-! the members -/
def f_T0 (as : List Value) (M : QM) : Option QR := match as with
  | [.ref 1010] => some (some (.int 0), M)
  | _ => none
def f_T1 (as : List Value) (M : QM) : Option QR := match as with
  | [.ref 1010] => some (some (.int 1), M)
  | _ => none
def f_T2 (as : List Value) (M : QM) : Option QR := match as with
  | [.int i, .int n, .ref _] => if i < 0 then none else if i < n then some (some (.int i), M) else none
  | _ => none
def f_T3 (as : List Value) (M : QM) : Option QR := match as with
  | [.int i, .int n] => if i < 0 then none else if i < n then some (none, M) else none
  | _ => none
def f_T6 (as : List Value) (M : QM) : Option QR := match as with
  | [.ref 1011, .int i] => if q_in i 102 = true then some (some (.int (q_tx.getD i.toNatClampNeg 0)), M) else none
  | _ => none
set_option maxRecDepth 20000 in
theorem sT0 (l : Launch) : q_Snd l iT0 1 f_T0 := by
  intro E as M r M' hf
  unfold f_T0 at hf
  split at hf
  · cases hf
    refine ⟨rfl, q_snd_w (by decide) (Nat.le_of_ble_eq_true rfl) (by decide) ?_⟩
    intro p e R s m args below meth c hB hret hlk
    obtain ⟨hx, hb, hml, hR, hts, hst, hown, hrk⟩ := id hB
    have htb : ∀ w ∈ tb, w.before args s = true := fun w h => hts w (List.mem_cons_of_mem _ h)
    obtain ⟨⟨hs, -⟩, hz, -⟩ := hst.2.2.2.2.2
    obtain ⟨h1, h2, h3, h4⟩ := hs 0 (by omega)
    refine q_y_gs (v := .int 1) hx hb htb hown hz (tb_1 207 rfl rfl) dT0_0 ?_
    refine q_x_if (t := 13) hx hb dT0_3 (by decide) ?_
    show QW p l e R s m args below meth c _ E _ _ (true, 6, _, [], M, 0, 0)
    refine q_x_aload_n hx hb dT0_6 (x := 1010) rfl ?_
    refine q_y_gf (v := .int 0) hx hb htb hown (by omega) h2 (tb_10 158 rfl rfl) dT0_7 ?_
    refine q_x_goto (t := 14) hx hb dT0_10 (by decide) ?_
    exact q_y_ret hx hb hret (by decide) hlk dT0_14
  · cases hf
set_option maxRecDepth 20000 in
theorem sT1 (l : Launch) : q_Snd l iT1 1 f_T1 := by
  intro E as M r M' hf
  unfold f_T1 at hf
  split at hf
  · cases hf
    refine ⟨rfl, q_snd_w (by decide) (Nat.le_of_ble_eq_true rfl) (by decide) ?_⟩
    intro p e R s m args below meth c hB hret hlk
    obtain ⟨hx, hb, hml, hR, hts, hst, hown, hrk⟩ := id hB
    have htb : ∀ w ∈ tb, w.before args s = true := fun w h => hts w (List.mem_cons_of_mem _ h)
    obtain ⟨⟨hs, -⟩, hz, -⟩ := hst.2.2.2.2.2
    obtain ⟨h1, h2, h3, h4⟩ := hs 0 (by omega)
    refine q_y_gs (v := .int 1) hx hb htb hown hz (tb_1 207 rfl rfl) dT1_0 ?_
    refine q_x_if (t := 17) hx hb dT1_3 (by decide) ?_
    show QW p l e R s m args below meth c _ E _ _ (true, 6, _, [], M, 0, 0)
    refine q_x_aload_n hx hb dT1_6 (x := 1010) rfl ?_
    refine q_y_gf (v := .int 0) hx hb htb hown (by omega) h2 (tb_10 158 rfl rfl) dT1_7 ?_
    refine q_x_if (t := 17) hx hb dT1_10 (by decide) ?_
    show QW p l e R s m args below meth c _ E _ _ (true, 13, _, [], M, 0, 0)
    refine q_x_const (v := .int 1) hx hb 1 1 (Or.inl ⟨dT1_13, rfl, rfl⟩) ?_
    refine q_x_goto (t := 18) hx hb dT1_14 (by decide) ?_
    exact q_y_ret hx hb hret (by decide) hlk dT1_18
  · cases hf
set_option maxRecDepth 20000 in
theorem sT2 (l : Launch) : q_Snd l iT2 1 f_T2 := by
  intro E as M r M' hf
  unfold f_T2 at hf
  split at hf
  · rename_i i n q
    split at hf
    · cases hf
    · rename_i g1
      split at hf
      · rename_i g2
        cases hf
        refine ⟨rfl, q_snd_w (by decide) (Nat.le_of_ble_eq_true rfl) (by decide) ?_⟩
        intro p e R s m args below meth c hB hret hlk
        obtain ⟨hx, hb, hml, hR, hts, hst, hown, hrk⟩ := id hB
        refine q_x_iload_n hx hb dT2_0 (x := i) rfl ?_
        refine q_x_if (t := 9) hx hb dT2_1 (by decide) ?_
        rw [show q_cmp .lt i 0 9 (0 + 1 + 3) = 4 from if_neg g1]
        refine q_x_iload_n hx hb dT2_4 (x := i) rfl ?_
        refine q_x_iload_n hx hb dT2_5 (x := n) rfl ?_
        refine q_x_icmp (t := 16) hx hb dT2_6 (by decide) ?_
        rw [show q_cmp .lt i n 16 (4 + 1 + 1 + 3) = 16 from if_pos g2]
        refine q_x_iload_n hx hb dT2_16 (x := i) rfl ?_
        exact q_y_ret hx hb hret (vp_nar_int _) hlk dT2_17
      · cases hf
  · cases hf
set_option maxRecDepth 20000 in
theorem sT3 (l : Launch) : q_Snd l iT3 2 f_T3 := by
  intro E as M r M' hf
  unfold f_T3 at hf
  split at hf
  · rename_i i n
    split at hf
    · cases hf
    · rename_i g1
      split at hf
      · rename_i g2
        cases hf
        refine ⟨rfl, q_snd_w (by decide) (Nat.le_of_ble_eq_true rfl) (by decide) ?_⟩
        intro p e R s m args below meth c hB hret hlk
        obtain ⟨hx, hb, hml, hR, hts, hst, hown, hrk⟩ := id hB
        have htb : ∀ w ∈ tb, w.before args s = true := fun w h => hts w (List.mem_cons_of_mem _ h)
        obtain ⟨-, -, ⟨pl, hz⟩, -⟩ := hst.2.2.2.2.2
        refine q_x_iload_n hx hb dT3_0 (x := i) rfl ?_
        refine q_x_iload_n hx hb dT3_1 (x := n) rfl ?_
        refine q_y_gs (v := .ref pl) hx hb htb hown hz (tb_1 223 rfl rfl) dT3_2 ?_
        refine q_x_call (i := iT2) (f := f_T2) (n := 3) (z := 0) (rk := 2) (rk' := 1) (mc0 := 0) (ms0 := 0) (r := some (.int i)) (M' := M) hx hb hml hR hts hst hown k_T2 (Or.inr (Or.inl ⟨rfl, Or.inl (tb_1 225 rfl rfl), (tb_1 226 rfl rfl), by decide⟩)) (sT2 l) (by decide) dT3_5 ?_ rfl (fun ci h => by cases h) (Nat.le_of_ble_eq_true rfl) (by decide) (by decide) ?_
        · show f_T2 [.int i, .int n, .ref pl] M = _
          unfold f_T2
          simp only [if_neg g1, if_pos g2]
        refine q_x_pop hx hb dT3_8 rfl ?_
        exact q_y_vret hx hb hret hlk dT3_9
      · cases hf
  · cases hf
theorem q_tx_c : ∀ k, k < 102 → ((q_tx.getD k 0 &&& 255).toUInt32 % 65536).toInt32 = q_tx.getD k 0 ∧ narrow .char (.int (q_tx.getD k 0)) = .int (q_tx.getD k 0) := by decide +kernel
set_option maxRecDepth 20000 in
theorem sT6 (l : Launch) : q_Snd l iT6 3 f_T6 := by
  intro E as M r M' hf
  unfold f_T6 at hf
  split at hf
  · rename_i i
    split at hf
    · rename_i g
      cases hf
      refine ⟨rfl, q_snd_w (by decide) (Nat.le_of_ble_eq_true rfl) (by decide) ?_⟩
      intro p e R s m args below meth c hB hret hlk
      obtain ⟨hx, hb, hml, hR, hts, hst, hown, hrk⟩ := id hB
      have htb : ∀ w ∈ tb, w.before args s = true := fun w h => hts w (List.mem_cons_of_mem _ h)
      obtain ⟨⟨hs, -⟩, hz, -⟩ := hst.2.2.2.2.2
      obtain ⟨h1, h2, h3, h4⟩ := hs 0 (by omega)
      have g' := g
      unfold q_in at g'
      simp only [Bool.and_eq_true, Bool.not_eq_true', decide_eq_true_eq, decide_eq_false_iff_not] at g'
      obtain ⟨g1, g2⟩ := g'
      have g3 : i < Int32.ofNat 102 := by
        have g1' := Int32.not_lt.mp g1
        rw [Int32.lt_iff_toInt_lt]
        rw [Int32.le_iff_toInt_le] at g1'
        simp only [Int32.toNatClampNeg] at g2
        have e1 : (Int32.ofNat 102).toInt = 102 := by decide
        have e2 : (0 : Int32).toInt = 0 := by decide
        omega
      refine q_x_iload_n hx hb dT6_0 (x := i) rfl ?_
      refine q_x_aload_n hx hb dT6_1 (x := 1011) rfl ?_
      refine q_y_len hx hb (by omega) h4 dT6_2 ?_
      refine q_x_call (i := iT3) (f := f_T3) (n := 2) (z := 0) (rk := 3) (rk' := 2) (mc0 := 0) (ms0 := 0) (r := none) (M' := M) hx hb hml hR hts hst hown k_T3 (Or.inr (Or.inl ⟨rfl, Or.inl (tb_1 220 rfl rfl), (tb_1 221 rfl rfl), by decide⟩)) (sT3 l) (by decide) dT6_3 ?_ rfl (fun ci h => by cases h) (Nat.le_of_ble_eq_true rfl) (by decide) (by decide) ?_
      · show f_T3 [.int i, .int (Int32.ofNat 102)] M = _
        unfold f_T3
        simp only [if_neg g1, if_pos g3]
      refine q_x_aload_n hx hb dT6_6 (x := 1011) rfl ?_
      refine q_x_iload_n hx hb dT6_7 (x := i) rfl ?_
      refine q_y_tb hx hb (by omega) h4 g dT6_8 ?_
      refine q_x_const (v := .int 255) hx hb 255 3 (Or.inr (Or.inr ⟨dT6_9, rfl, by decide⟩)) ?_
      refine q_x_bin hx hb rfl dT6_12 ?_
      refine q_y_i2c hx hb (q_tx_c i.toNatClampNeg g2).1 dT6_13 ?_
      exact q_y_ret hx hb hret (q_tx_c i.toNatClampNeg g2).2 hlk dT6_14
    · cases hf
  · cases hf
theorem q_ck_s {α : Type} {b : Bool} {x : Option α} {y : α} (h : q_ck b x = some y) : b = true ∧ x = some y := by
  cases b with
  | true => exact ⟨rfl, h⟩
  | false => cases h
set_option maxRecDepth 20000 in
theorem sT4 (l : Launch) : q_Snd l iT4 5 q_text4 := by
  intro E as M r M' hf
  unfold q_text4 at hf
  split at hf
  · obtain ⟨hk, hf⟩ := q_ck_s hf
    cases hf
    refine ⟨rfl, q_snd_w (by decide) (Nat.le_of_ble_eq_true rfl) (by decide) ?_⟩
    intro p e R s m args below meth c hB hret hlk
    obtain ⟨hx, hb, hml, hR, hts, hst, hown, hrk⟩ := id hB
    have htb : ∀ w ∈ tb, w.before args s = true := fun w h => hts w (List.mem_cons_of_mem _ h)
    obtain ⟨⟨hs, -⟩, hz, -⟩ := hst.2.2.2.2.2
    obtain ⟨h1, h2, h3, h4⟩ := hs 0 (by omega)
    refine q_x_aload_n hx hb dT4_0 (x := 1010) rfl ?_
    refine q_y_gf (v := .ref 1011) hx hb htb hown (by omega) h3 (tb_10 157 rfl rfl) dT4_1 ?_
    refine q_y_len hx hb (by omega) h4 dT4_4 ?_
    refine q_x_aload_n hx hb dT4_5 (x := 1010) rfl ?_
    refine q_x_call (i := iT0) (f := f_T0) (n := 1) (z := 40) (rk := 5) (rk' := 1) (mc0 := 0) (ms0 := 0) (r := some (.int 0)) (M' := M) hx hb hml hR hts hst hown k_T0 (Or.inl ⟨rfl, (tb_1 203 rfl rfl), (tb_1 204 rfl rfl), (tb_1 205 rfl rfl), by decide, by decide, Or.inr ⟨rfl, rfl⟩⟩) (sT0 l) (by decide) dT4_6 rfl rfl (fun ci h => ⟨1010, [], rfl, (q_beq hk).trans h⟩) (Nat.le_of_ble_eq_true rfl) (by decide) (by decide) ?_
    refine q_x_bin hx hb rfl dT4_9 ?_
    exact q_y_ret (x := 102) hx hb hret (by decide) hlk dT4_10
  · cases hf
set_option maxRecDepth 20000 in
theorem sT5 (l : Launch) : q_Snd l iT5 5 q_text5 := by
  intro E as M r M' hf
  unfold q_text5 at hf
  split at hf
  · rename_i i
    obtain ⟨hk, hf⟩ := q_ck_s hf
    rw [Bool.and_eq_true] at hk
    obtain ⟨hk, hi⟩ := hk
    cases hf
    have hi' := hi
    unfold q_in at hi'
    simp only [Bool.and_eq_true, Bool.not_eq_true', decide_eq_true_eq, decide_eq_false_iff_not] at hi'
    refine ⟨rfl, q_snd_w (by decide) (Nat.le_of_ble_eq_true rfl) (by decide) ?_⟩
    intro p e R s m args below meth c hB hret hlk
    obtain ⟨hx, hb, hml, hR, hts, hst, hown, hrk⟩ := id hB
    have htb : ∀ w ∈ tb, w.before args s = true := fun w h => hts w (List.mem_cons_of_mem _ h)
    obtain ⟨⟨hs, -⟩, hz, -⟩ := hst.2.2.2.2.2
    obtain ⟨h1, h2, h3, h4⟩ := hs 0 (by omega)
    refine q_x_aload_n hx hb dT5_0 (x := 1010) rfl ?_
    refine q_x_call (i := iT1) (f := f_T1) (n := 1) (z := 40) (rk := 5) (rk' := 1) (mc0 := 0) (ms0 := 0) (r := some (.int 1)) (M' := M) hx hb hml hR hts hst hown k_T1 (Or.inl ⟨rfl, (tb_1 213 rfl rfl), (tb_1 214 rfl rfl), (tb_1 215 rfl rfl), by decide, by decide, Or.inr ⟨rfl, rfl⟩⟩) (sT1 l) (by decide) dT5_1 rfl rfl (fun ci h => ⟨1010, [], rfl, (q_beq hk).trans h⟩) (Nat.le_of_ble_eq_true rfl) (by decide) (by decide) ?_
    refine q_x_if (t := 16) hx hb dT5_4 (by decide) ?_
    show QW p l e R s m args below meth c _ E _ _ (true, 7, _, [], M, 0, 0)
    refine q_x_aload_n hx hb dT5_7 (x := 1010) rfl ?_
    refine q_y_gf (v := .ref 1011) hx hb htb hown (by omega) h3 (tb_10 157 rfl rfl) dT5_8 ?_
    refine q_x_iload_n hx hb dT5_11 (x := i) rfl ?_
    refine q_x_call (i := iT6) (f := f_T6) (n := 2) (z := 0) (rk := 5) (rk' := 3) (mc0 := 0) (ms0 := 0) (r := some (.int (q_tx.getD i.toNatClampNeg 0))) (M' := M) hx hb hml hR hts hst hown k_T6 (Or.inr (Or.inl ⟨rfl, Or.inl (tb_1 217 rfl rfl), (tb_1 218 rfl rfl), by decide⟩)) (sT6 l) (by decide) dT5_12 ?_ rfl (fun ci h => by cases h) (Nat.le_of_ble_eq_true rfl) (by decide) (by decide) ?_
    · show f_T6 [.ref 1011, .int i] M = _
      unfold f_T6
      simp only [if_pos hi]
    exact q_y_ret hx hb hret (q_tx_c i.toNatClampNeg hi'.2).2 hlk dT5_15
  · cases hf

