/-! ===== arrays ===== -/
section QS
variable {p : Program} {l : Launch} {e : Env} {R : Room} {s : State} {m : MethodId} {args : Array Value} {below : List Frame} {meth : Method} {c : Code} {Q : State → Prop} {E : QEnv} {nL N0 : Nat} {cc : ByteArray}
variable {ok : Bool} {pc : Nat} {L : List (Option Value)} {st : List Value} {M : QM} {ce sl : Nat}
theorem q_stc {H : Heap} {a : Nat} (hst : q_St E s H) (hw : q_wf E M) (hk : q_kd M a = 30) : 1000 ≤ a ∧ va_T .int (E.2.2.1 a) (q_len M a) (fun k => .int (M.1 a k)) (q_A E) s H := by
  have ha : 1000 ≤ a := by
    by_cases h : a < 1000
    · have := (hw.2.2 a h (by omega)).2.2
      omega
    · omega
  obtain ⟨w1, w2⟩ := hw.2.1 a ha
  have e1 : q_kd M a = (E.2.2.2.2.2 a).1 := by unfold q_kd; rw [w1]
  have e2 : q_len M a = (E.2.2.2.2.2 a).2 := by unfold q_len; rw [w1]
  rcases hst.2.1 a ha with h | ⟨-, h⟩ | ⟨h, -⟩
  · omega
  · rw [e2, w2]; exact ⟨ha, h⟩
  · omega
theorem q_x_iald (hx : p.tables.exec = Jvm.exec) (hb : c.code = cc) (hst : q_St E s s.heap) {i : Int32} {a : Nat} (hd : decode cc pc = .ok (.iaload, 1)) (hk : q_kd M a = 22 ∨ q_kd M a = 30) (hi : q_in i (q_len M a) = true)
    (kk : QW p l e R s m args below meth c Q E nL N0 (ok, pc + 1, L, .int (M.1 a i.toNatClampNeg) :: st, M, ce, sl)) : QW p l e R s m args below meth c Q E nL N0 (ok, pc, L, .int i :: .ref a :: st, M, ce, sl) := fun hok H locs ls ha => by
  have k1 := kk hok H locs ls ha
  show W p l e R s m args below meth c H locs ce sl Q (F0 m pc ls (.int i :: q_rf E.2.2.1 a :: st.map (q_v E.2.2.1)))
  rcases hk with hk | hk
  · obtain ⟨h1, h2, h3⟩ := q_pl ha.1.2.2.2 (q_St_s hst) hk (by omega) (by omega)
    have he := q_ws_at (E := E) h2 h3
    rw [q_cell_i hk (by omega) (by omega)] at he
    rw [q_rf_pos h2]
    exact va_iald hx hb hst.1 ha.1.1 (a - 1) 1 he rfl (q_in_vp hi) hd k1
  · obtain ⟨h1, h2⟩ := q_stc hst ha.1.2.2.2 hk
    rw [q_rf_pos (by omega)]
    exact va_ti hx hb h2 ha.2.1 (q_in_vp hi) rfl hd k1
theorem q_x_bald (hx : p.tables.exec = Jvm.exec) (hb : c.code = cc) (hst : q_St E s s.heap) {i : Int32} {a : Nat} (hd : decode cc pc = .ok (.baload, 1)) (hk : q_kd M a = 21 ∨ q_kd M a = 24) (hi : q_in i (q_len M a) = true)
    (kk : QW p l e R s m args below meth c Q E nL N0 (ok, pc + 1, L, .int (M.1 a i.toNatClampNeg) :: st, M, ce, sl)) : QW p l e R s m args below meth c Q E nL N0 (ok, pc, L, .int i :: .ref a :: st, M, ce, sl) := fun hok H locs ls ha => by
  have k1 := kk hok H locs ls ha
  show W p l e R s m args below meth c H locs ce sl Q (F0 m pc ls (.int i :: q_rf E.2.2.1 a :: st.map (q_v E.2.2.1)))
  rcases hk with hk | hk
  · obtain ⟨h1, h2, h3⟩ := q_pl ha.1.2.2.2 (q_St_s hst) hk (by omega) (by omega)
    have he := q_ws_at (E := E) h2 h3
    rw [q_cell_i hk (by omega) (by omega)] at he
    rw [q_rf_pos h2]
    exact va_bald hx hb hst.1 ha.1.1 (a - 1) 0 he rfl (q_in_vp hi) hd k1
  · obtain ⟨h1, h2, h3⟩ := q_pl ha.1.2.2.2 (q_St_s hst) hk (by omega) (by omega)
    have he := q_ws_at (E := E) h2 h3
    rw [q_cell_i hk (by omega) (by omega)] at he
    rw [q_rf_pos h2]
    exact va_zald hx hb hst.1 ha.1.1 (a - 1) 3 he rfl (q_in_vp hi) hd k1
theorem q_x_lald (hx : p.tables.exec = Jvm.exec) (hb : c.code = cc) (hst : q_St E s s.heap) {i : Int32} {a : Nat} (hd : decode cc pc = .ok (.laload, 1)) (hk : q_kd M a = 23) (hi : q_in i (q_len M a) = true)
    (kk : QW p l e R s m args below meth c Q E nL N0 (ok, pc + 1, L, .long (M.2.1 a i.toNatClampNeg) :: st, M, ce, sl)) : QW p l e R s m args below meth c Q E nL N0 (ok, pc, L, .int i :: .ref a :: st, M, ce, sl) := fun hok H locs ls ha => by
  have k1 := kk hok H locs ls ha
  show W p l e R s m args below meth c H locs ce sl Q (F0 m pc ls (.int i :: q_rf E.2.2.1 a :: st.map (q_v E.2.2.1)))
  obtain ⟨h1, h2, h3⟩ := q_pl ha.1.2.2.2 (q_St_s hst) hk (by omega) (by omega)
  have he := q_ws_at (E := E) h2 h3
  rw [q_cell_l hk] at he
  rw [q_rf_pos h2]
  exact va_lald hx hb hst.1 ha.1.1 (a - 1) 2 he rfl (q_in_vp hi) hd k1
theorem q_x_alen (hx : p.tables.exec = Jvm.exec) (hb : c.code = cc) (hst : q_St E s s.heap) {a : Nat} (hd : decode cc pc = .ok (.arraylength, 1)) (hk : 21 ≤ q_kd M a) (hk3 : q_kd M a ≤ 30)
    (kk : QW p l e R s m args below meth c Q E nL N0 (ok, pc + 1, L, .int (Int32.ofNat (q_len M a)) :: st, M, ce, sl)) : QW p l e R s m args below meth c Q E nL N0 (ok, pc, L, .ref a :: st, M, ce, sl) := fun hok H locs ls ha => by
  have k1 := kk hok H locs ls ha
  show W p l e R s m args below meth c H locs ce sl Q (F0 m pc ls (q_rf E.2.2.1 a :: st.map (q_v E.2.2.1)))
  by_cases hp : a < 1000
  · obtain ⟨h2, h3, hw⟩ := ha.1.2.2.2.2.2 a hp (by omega)
    have he := q_ws_at (E := E) h2 h3
    rw [q_rf_pos h2]
    have hcs : q_kd M a = 21 ∨ q_kd M a = 22 ∨ q_kd M a = 23 ∨ q_kd M a = 24 := by omega
    rcases hcs with hk | hk | hk | hk
    · rw [q_cell_i hk (by omega) (by omega)] at he; exact va_alen hx hb hst.1 ha.1.1 (a - 1) 0 he rfl rfl hd k1
    · rw [q_cell_i hk (by omega) (by omega)] at he; exact va_alen hx hb hst.1 ha.1.1 (a - 1) 1 he rfl rfl hd k1
    · rw [q_cell_l hk] at he; exact va_alen hx hb hst.1 ha.1.1 (a - 1) 2 he rfl rfl hd k1
    · rw [q_cell_i hk (by omega) (by omega)] at he; exact va_alen hx hb hst.1 ha.1.1 (a - 1) 3 he rfl rfl hd k1
  · have h30 : q_kd M a = 30 := by
      have h1 := (ha.1.2.2.2.2.1 a (by omega)).1
      have h2 := q_St_s hst a (by omega)
      have e1 : q_kd M a = (E.2.2.2.2.2 a).1 := by unfold q_kd; rw [h1]
      omega
    obtain ⟨h1, h2⟩ := q_stc hst ha.1.2.2.2 h30
    rw [q_rf_pos (by omega)]
    exact va_tlen hx hb h2 ha.2.1 rfl hd k1
/-- a row of ints changes -/
theorem q_rowI {a : Nat} {f : Nat → Int32} {k : Nat} {H H1 : Heap} {locs locs1 : List Loc} {ls : Array Slot} (hst : q_St E s s.heap) (ha : q_at E s nL N0 ce L M H locs ls) (hk : q_kd M a = k) (h21 : 21 ≤ k) (h24 : k ≤ 24) (h23 : k ≠ 23)
    (hP : va_P E.1 q_cl ((q_ws E M).set (a - 1) (E.2.2.1 a, .inl (E.2.1 k, q_len M a, .inl f))) H1) (hD : va_D (q_A E) ((q_ws E M).set (a - 1) (E.2.2.1 a, .inl (E.2.1 k, q_len M a, .inl f)))) (hS : va_S (q_A E) H H1 locs1) : q_at E s nL N0 ce L (va_up M.1 a f, M.2) H1 locs1 ls := by
  obtain ⟨h1, h2, h3⟩ := q_pl ha.1.2.2.2 (q_St_s hst) hk (by omega) (by omega)
  have hc : q_cell E.2.1 E.2.2.1 (va_up M.1 a f, M.2) a = .inl (E.2.1 k, q_len M a, .inl f) := by
    rw [q_cell_i (M := (va_up M.1 a f, M.2)) (show q_kd (va_up M.1 a f, M.2) a = k from hk) h21 h23]
    show Sum.inl (_, _, Sum.inl (va_up M.1 a f a)) = _
    unfold va_up; rw [if_pos rfl]; rfl
  rw [← hc] at hP hD
  obtain ⟨g1, g2⟩ := q_Dy_set (M' := (va_up M.1 a f, M.2)) h1 h2 ha.1 rfl (fun q hq => ⟨by show va_up M.1 a f q = _; unfold va_up; rw [if_neg hq], rfl, rfl⟩) ha.2.1 hP hD hS
  exact ⟨g1, g2, ha.2.2⟩
theorem q_x_iast (hx : p.tables.exec = Jvm.exec) (hb : c.code = cc) (hst : q_St E s s.heap) {i x : Int32} {a : Nat} (hd : decode cc pc = .ok (.iastore, 1)) (hk : q_kd M a = 22) (hi : q_in i (q_len M a) = true)
    (kk : QW p l e R s m args below meth c Q E nL N0 (ok, pc + 1, L, st, (q_up M.1 a i.toNatClampNeg x, M.2), ce, sl)) : QW p l e R s m args below meth c Q E nL N0 (ok, pc, L, .int x :: .int i :: .ref a :: st, M, ce, sl) := fun hok H locs ls ha => by
  show W p l e R s m args below meth c H locs ce sl Q (F0 m pc ls (.int x :: .int i :: q_rf E.2.2.1 a :: st.map (q_v E.2.2.1)))
  obtain ⟨h1, h2, h3⟩ := q_pl ha.1.2.2.2 (q_St_s hst) hk (by omega) (by omega)
  have he := q_ws_at (E := E) h2 h3
  rw [q_cell_i hk (by omega) (by omega)] at he
  rw [q_rf_pos h2]
  exact va_iast hx hb hst.1 ha.1.1 ha.1.2.1 (q_S_rf ha.2.1) (a - 1) 1 he rfl (q_in_vp hi) hd (fun H1 locs1 hP hD hS => kk hok H1 locs1 ls (q_rowI hst ha hk (by omega) (by omega) (by omega) hP hD hS))
theorem q_x_bast (hx : p.tables.exec = Jvm.exec) (hb : c.code = cc) (hst : q_St E s s.heap) {i x : Int32} {a : Nat} (hd : decode cc pc = .ok (.bastore, 1)) (hk : q_kd M a = 21 ∨ q_kd M a = 24) (hi : q_in i (q_len M a) = true)
    (kk : QW p l e R s m args below meth c Q E nL N0 (ok, pc + 1, L, st, (q_up M.1 a i.toNatClampNeg (if Nat.beq (q_kd M a) 21 then vp_nar .byte x else vp_nar .boolean x), M.2), ce, sl)) : QW p l e R s m args below meth c Q E nL N0 (ok, pc, L, .int x :: .int i :: .ref a :: st, M, ce, sl) := fun hok H locs ls ha => by
  show W p l e R s m args below meth c H locs ce sl Q (F0 m pc ls (.int x :: .int i :: q_rf E.2.2.1 a :: st.map (q_v E.2.2.1)))
  rcases hk with hk | hk
  · obtain ⟨h1, h2, h3⟩ := q_pl ha.1.2.2.2 (q_St_s hst) hk (by omega) (by omega)
    have he := q_ws_at (E := E) h2 h3
    rw [q_cell_i hk (by omega) (by omega)] at he
    rw [q_rf_pos h2]
    rw [hk] at kk
    exact va_bast hx hb hst.1 ha.1.1 ha.1.2.1 (q_S_rf ha.2.1) (a - 1) 0 he rfl (q_in_vp hi) hd (fun H1 locs1 hP hD hS => kk hok H1 locs1 ls (q_rowI hst ha hk (by omega) (by omega) (by omega) hP hD hS))
  · obtain ⟨h1, h2, h3⟩ := q_pl ha.1.2.2.2 (q_St_s hst) hk (by omega) (by omega)
    have he := q_ws_at (E := E) h2 h3
    rw [q_cell_i hk (by omega) (by omega)] at he
    rw [q_rf_pos h2]
    rw [hk] at kk
    exact va_zast hx hb hst.1 ha.1.1 ha.1.2.1 (q_S_rf ha.2.1) (a - 1) 3 he rfl (q_in_vp hi) hd (fun H1 locs1 hP hD hS => kk hok H1 locs1 ls (q_rowI hst ha hk (by omega) (by omega) (by omega) hP hD hS))
theorem q_x_last (hx : p.tables.exec = Jvm.exec) (hb : c.code = cc) (hst : q_St E s s.heap) {i : Int32} {x : Int64} {a : Nat} (hd : decode cc pc = .ok (.lastore, 1)) (hk : q_kd M a = 23) (hi : q_in i (q_len M a) = true)
    (kk : QW p l e R s m args below meth c Q E nL N0 (ok, pc + 1, L, st, (M.1, q_up M.2.1 a i.toNatClampNeg x, M.2.2), ce, sl)) : QW p l e R s m args below meth c Q E nL N0 (ok, pc, L, .long x :: .int i :: .ref a :: st, M, ce, sl) := fun hok H locs ls ha => by
  show W p l e R s m args below meth c H locs ce sl Q (F0 m pc ls (.long x :: .int i :: q_rf E.2.2.1 a :: st.map (q_v E.2.2.1)))
  obtain ⟨h1, h2, h3⟩ := q_pl ha.1.2.2.2 (q_St_s hst) hk (by omega) (by omega)
  have he := q_ws_at (E := E) h2 h3
  rw [q_cell_l hk] at he
  rw [q_rf_pos h2]
  refine va_last hx hb hst.1 ha.1.1 ha.1.2.1 (q_S_rf ha.2.1) (a - 1) 2 he rfl (q_in_vp hi) hd (fun H1 locs1 hP hD hS => kk hok H1 locs1 ls ?_)
  have hc : q_cell E.2.1 E.2.2.1 (M.1, q_up M.2.1 a i.toNatClampNeg x, M.2.2) a = .inl (E.2.1 23, q_len M a, .inr (.inl (vp_updL (M.2.1 a) i.toNatClampNeg x))) := by
    rw [q_cell_l (M := (M.1, q_up M.2.1 a i.toNatClampNeg x, M.2.2)) (show q_kd (M.1, q_up M.2.1 a i.toNatClampNeg x, M.2.2) a = 23 from hk)]
    show Sum.inl (_, _, Sum.inr (Sum.inl (q_up M.2.1 a i.toNatClampNeg x a))) = _
    unfold q_up va_up; rw [if_pos rfl]; rfl
  rw [← hc] at hP hD
  obtain ⟨g1, g2⟩ := q_Dy_set (M' := (M.1, q_up M.2.1 a i.toNatClampNeg x, M.2.2)) h1 h2 ha.1 rfl (fun q hq => ⟨rfl, by show q_up M.2.1 a _ x q = _; unfold q_up va_up; rw [if_neg hq], rfl⟩) ha.2.1 hP hD hS
  exact ⟨g1, g2, ha.2.2⟩
theorem q_x_copy (hx : p.tables.exec = Jvm.exec) (hb : c.code = cc) (hml : c.maxLocals = nL) (hts : ∀ w ∈ tb, w.before args s = true) (hst : q_St E s s.heap) {own : String} (hown : s.vm.findClass own = some m.cls) {idx a b : Nat} {n dp sp : Int32}
    (hl : Cond.methodLink own idx arraycopyName ∈ tb) (hn : Cond.native arraycopyName ∈ tb) (hs : Cond.static arraycopyName ∈ tb) (hi : Cond.initialized "java/lang/System" ∈ tb) (hd : decode cc pc = .ok (.invokestatic idx, 3))
    (hka : q_kd M a = 22) (hkb : q_kd M b = 22) (h1 : ¬ sp < 0) (h2 : ¬ dp < 0) (h3 : ¬ n < 0) (h4 : sp.toNatClampNeg + n.toNatClampNeg ≤ q_len M a) (h5 : dp.toNatClampNeg + n.toNatClampNeg ≤ q_len M b) (hcat : q_cat st ≤ 8) (hf : 1 ≤ R.frames) (hloc : 60 ≤ R.locals)
    (kk : QW p l e R s m args below meth c Q E nL N0 (ok, pc + 3, L, st, (va_up M.1 b (va_cpy (M.1 a) (M.1 b) sp.toNatClampNeg dp.toNatClampNeg n.toNatClampNeg), M.2), ce, sl)) : QW p l e R s m args below meth c Q E nL N0 (ok, pc, L, .int n :: .int dp :: .ref b :: .int sp :: .ref a :: st, M, ce, sl) := fun hok H locs ls ha => by
  show W p l e R s m args below meth c H locs ce sl Q (F0 m pc ls (.int n :: .int dp :: q_rf E.2.2.1 b :: .int sp :: q_rf E.2.2.1 a :: st.map (q_v E.2.2.1)))
  obtain ⟨a1, a2, a3⟩ := q_pl ha.1.2.2.2 (q_St_s hst) hka (by omega) (by omega)
  obtain ⟨b1, b2, b3⟩ := q_pl ha.1.2.2.2 (q_St_s hst) hkb (by omega) (by omega)
  have hea := q_ws_at (E := E) a2 a3
  rw [q_cell_i hka (by omega) (by omega)] at hea
  have heb := q_ws_at (E := E) b2 b3
  rw [q_cell_i hkb (by omega) (by omega)] at heb
  rw [q_rf_pos a2, q_rf_pos b2]
  have hc2 : ((st.map (q_v E.2.2.1)).map fun v => v.category).sum = q_cat st := by
    unfold q_cat; rw [List.map_map]; congr 1; apply List.map_congr_left; intro v _; exact q_v_cat _ v
  have hnf : nativeFrameWords "java/lang/System" "arraycopy" 5 ≤ 40 := by decide
  exact va_copyi (ty := .int) hx hb (by rw [hml]; exact ha.2.2.1.1.symm) hown (hts _ hl) (hts _ hn) (hts _ hs) (hts _ hi) hst.1 ha.1.1 ha.1.2.1 (q_S_rf ha.2.1) (a - 1) (b - 1) 1 1 hea heb rfl rfl rfl h1 h2 h3 h4 h5 (fun _ _ => rfl) hf (by rw [hc2]; omega) hd
    (fun H1 locs1 hP hD hS => kk hok H1 locs1 ls (q_rowI hst ha hkb (by omega) (by omega) (by omega) hP hD hS))
theorem q_x_obj (hx : p.tables.exec = Jvm.exec) (hb : c.code = cc) (hml : c.maxLocals = nL) (hts : ∀ w ∈ tb, w.before args s = true) {own : String} (hown : s.vm.findClass own = some m.cls) {idx a : Nat} (hl : Cond.methodLink own idx objectInit ∈ tb) (hi : Cond.instanceMethod objectInit ∈ tb) (hc : Cond.code objectInit ⟨#[0xb1]⟩ 1 none ∈ tb) (hd : decode cc pc = .ok (.invokespecial idx, 3)) (hp : 1 ≤ a) (hcat : q_cat st ≤ 8) (hf : 1 ≤ R.frames) (hloc : 60 ≤ R.locals)
    (kk : QW p l e R s m args below meth c Q E nL N0 (ok, pc + 3, L, st, M, ce, sl)) : QW p l e R s m args below meth c Q E nL N0 (ok, pc, L, .ref a :: st, M, ce, sl) := fun hok H locs ls ha => by
  show W p l e R s m args below meth c H locs ce sl Q (F0 m pc ls (q_rf E.2.2.1 a :: st.map (q_v E.2.2.1)))
  rw [q_rf_pos hp]
  have hc2 : ((st.map (q_v E.2.2.1)).map fun v => v.category).sum = q_cat st := by
    unfold q_cat; rw [List.map_map]; congr 1; apply List.map_congr_left; intro v _; exact q_v_cat _ v
  refine W.objInit hx hb hown (hts _ hl) (hts _ hi) (hts _ hc) rfl (by rw [hml]; exact ha.2.2.1.1) rfl hd hf ?_ (kk hok H locs ls ha)
  show 2 * 0 + ((st.map (q_v E.2.2.1)).map fun v => v.category).sum + 12 ≤ R.locals
  rw [hc2]; omega
end QS
