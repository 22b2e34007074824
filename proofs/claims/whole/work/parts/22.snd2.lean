/-! ===== from a stretch of the abstract machine to the machine ===== -/
def QW (p : Program) (l : Launch) (e : Env) (R : Room) (s : State) (m : MethodId) (args : Array Value) (below : List Frame) (meth : Method) (c : Code) (Q : State → Prop) (E : QEnv) (nL N0 : Nat) : QC → Prop
  | (ok, pc, L, st, M, ce, sl) => ok = true → ∀ (H : Heap) (locs : List Loc) (ls : Array Slot), q_at E s nL N0 ce L M H locs ls → W p l e R s m args below meth c H locs ce sl Q (F0 m pc ls (st.map (q_v E.2.2.1)))
section QS
variable {p : Program} {l : Launch} {e : Env} {R : Room} {s : State} {m : MethodId} {args : Array Value} {below : List Frame} {meth : Method} {c : Code} {Q : State → Prop} {E : QEnv} {nL N0 : Nat} {cc : ByteArray}
variable {ok : Bool} {pc : Nat} {L : List (Option Value)} {st : List Value} {M : QM} {ce sl : Nat}
theorem QW.kl {ks : List Nat} (k : QW p l e R s m args below meth c Q E nL N0 (ok, pc, q_kl ks L, st, M, ce, sl)) : QW p l e R s m args below meth c Q E nL N0 (ok, pc, L, st, M, ce, sl) := fun hok H locs ls ha =>
  k hok H locs ls ⟨ha.1, ha.2.1, lv_less ha.2.2.1 (q_pr_kl ks L), by rw [q_kl_len]; exact ha.2.2.2.1, ha.2.2.2.2⟩
theorem q_x_const (hx : p.tables.exec = Jvm.exec) (hb : c.code = cc) {v : Value} (n : Int) (len : Nat) (hv : (decode cc pc = .ok (.iconst n, 1) ∧ len = 1 ∧ v = .int (Int32.ofInt n)) ∨ (decode cc pc = .ok (.bipush n, 2) ∧ len = 2 ∧ v = .int (Int8.ofInt n).toInt32) ∨ (decode cc pc = .ok (.sipush n, 3) ∧ len = 3 ∧ v = .int (Int16.ofInt n).toInt32))
    (k : QW p l e R s m args below meth c Q E nL N0 (ok, pc + len, L, v :: st, M, ce, sl)) : QW p l e R s m args below meth c Q E nL N0 (ok, pc, L, st, M, ce, sl) := fun hok H locs ls ha => by
  rcases hv with ⟨hd, rfl, rfl⟩ | ⟨hd, rfl, rfl⟩ | ⟨hd, rfl, rfl⟩
  · exact lv_iconst hx hb hd rfl (k hok H locs ls ha)
  · exact lv_bipush hx hb hd rfl (k hok H locs ls ha)
  · exact lv_sipush hx hb hd rfl (k hok H locs ls ha)
theorem q_x_lconst (hx : p.tables.exec = Jvm.exec) (hb : c.code = cc) {n : Fin 2} (hd : decode cc pc = .ok (.lconst n, 1)) (k : QW p l e R s m args below meth c Q E nL N0 (ok, pc + 1, L, .long (Int64.ofNat n) :: st, M, ce, sl)) : QW p l e R s m args below meth c Q E nL N0 (ok, pc, L, st, M, ce, sl) := fun hok H locs ls ha => lv_lconst hx hb hd rfl (k hok H locs ls ha)
theorem q_x_ldc (hx : p.tables.exec = Jvm.exec) (hb : c.code = cc) {own : String} {i : Nat} {v : Int32} (hown : s.vm.findClass own = some m.cls) (hc : (Jvm.Cond.constant own i v).before args s = true) (hd : decode cc pc = .ok (.ldc i, 2)) (k : QW p l e R s m args below meth c Q E nL N0 (ok, pc + 2, L, .int v :: st, M, ce, sl)) : QW p l e R s m args below meth c Q E nL N0 (ok, pc, L, st, M, ce, sl) := fun hok H locs ls ha => lv_ldc hx hb hown hc hd (k hok H locs ls ha)
theorem q_x_ldcw (hx : p.tables.exec = Jvm.exec) (hb : c.code = cc) {own : String} {i : Nat} {v : Int32} (hown : s.vm.findClass own = some m.cls) (hc : (Jvm.Cond.constant own i v).before args s = true) (hd : decode cc pc = .ok (.ldc_w i, 3)) (k : QW p l e R s m args below meth c Q E nL N0 (ok, pc + 3, L, .int v :: st, M, ce, sl)) : QW p l e R s m args below meth c Q E nL N0 (ok, pc, L, st, M, ce, sl) := fun hok H locs ls ha => lv_ldcw hx hb hown hc hd (k hok H locs ls ha)
theorem q_x_ldc2 (hx : p.tables.exec = Jvm.exec) (hb : c.code = cc) {own : String} {i : Nat} {v : Int64} (hown : s.vm.findClass own = some m.cls) (hc : (Jvm.Cond.constantLong own i v).before args s = true) (hd : decode cc pc = .ok (.ldc2_w i, 3)) (k : QW p l e R s m args below meth c Q E nL N0 (ok, pc + 3, L, .long v :: st, M, ce, sl)) : QW p l e R s m args below meth c Q E nL N0 (ok, pc, L, st, M, ce, sl) := fun hok H locs ls ha => lv_ldc2 hx hb hown hc hd (k hok H locs ls ha)
/-! loads -/
theorem q_x_iload (hx : p.tables.exec = Jvm.exec) (hb : c.code = cc) {i : Nat} {x : Int32} (hd : decode cc pc = .ok (.iload i, 2)) (h : q_get L i = some (.int x)) (k : QW p l e R s m args below meth c Q E nL N0 (ok, pc + 2, L, .int x :: st, M, ce, sl)) : QW p l e R s m args below meth c Q E nL N0 (ok, pc, L, st, M, ce, sl) := fun hok H locs ls ha => lv_iload hx hb hd (q_ls ha.2.2.1 h) (k hok H locs ls ha)
theorem q_x_iload_n (hx : p.tables.exec = Jvm.exec) (hb : c.code = cc) {i : Fin 4} {x : Int32} (hd : decode cc pc = .ok (.iload_n i, 1)) (h : q_get L i.val = some (.int x)) (k : QW p l e R s m args below meth c Q E nL N0 (ok, pc + 1, L, .int x :: st, M, ce, sl)) : QW p l e R s m args below meth c Q E nL N0 (ok, pc, L, st, M, ce, sl) := fun hok H locs ls ha => lv_iload_n hx hb hd rfl (q_ls ha.2.2.1 h) (k hok H locs ls ha)
theorem q_x_lload (hx : p.tables.exec = Jvm.exec) (hb : c.code = cc) {i : Nat} {x : Int64} (hd : decode cc pc = .ok (.lload i, 2)) (h : q_get L i = some (.long x)) (k : QW p l e R s m args below meth c Q E nL N0 (ok, pc + 2, L, .long x :: st, M, ce, sl)) : QW p l e R s m args below meth c Q E nL N0 (ok, pc, L, st, M, ce, sl) := fun hok H locs ls ha => lv_lload hx hb hd (q_ls ha.2.2.1 h) (k hok H locs ls ha)
theorem q_x_lload_n (hx : p.tables.exec = Jvm.exec) (hb : c.code = cc) {i : Fin 4} {x : Int64} (hd : decode cc pc = .ok (.lload_n i, 1)) (h : q_get L i.val = some (.long x)) (k : QW p l e R s m args below meth c Q E nL N0 (ok, pc + 1, L, .long x :: st, M, ce, sl)) : QW p l e R s m args below meth c Q E nL N0 (ok, pc, L, st, M, ce, sl) := fun hok H locs ls ha => lv_lload_n hx hb hd rfl (q_ls ha.2.2.1 h) (k hok H locs ls ha)
theorem q_x_aload (hx : p.tables.exec = Jvm.exec) (hb : c.code = cc) {i x : Nat} (hd : decode cc pc = .ok (.aload i, 2)) (h : q_get L i = some (.ref x)) (k : QW p l e R s m args below meth c Q E nL N0 (ok, pc + 2, L, .ref x :: st, M, ce, sl)) : QW p l e R s m args below meth c Q E nL N0 (ok, pc, L, st, M, ce, sl) := fun hok H locs ls ha => by
  have h1 := q_ls ha.2.2.1 h
  have k1 := k hok H locs ls ha
  simp only [List.map_cons, q_v, q_rf] at h1 k1
  by_cases hz : x = 0
  · rw [if_pos hz] at h1 k1; exact lv_aloadN hx hb hd h1 k1
  · rw [if_neg hz] at h1 k1; exact lv_aload hx hb hd h1 k1
theorem q_x_aload_n (hx : p.tables.exec = Jvm.exec) (hb : c.code = cc) {i : Fin 4} {x : Nat} (hd : decode cc pc = .ok (.aload_n i, 1)) (h : q_get L i.val = some (.ref x)) (k : QW p l e R s m args below meth c Q E nL N0 (ok, pc + 1, L, .ref x :: st, M, ce, sl)) : QW p l e R s m args below meth c Q E nL N0 (ok, pc, L, st, M, ce, sl) := fun hok H locs ls ha => by
  have h1 := q_ls ha.2.2.1 h
  have k1 := k hok H locs ls ha
  simp only [List.map_cons, q_v, q_rf] at h1 k1
  by_cases hz : x = 0
  · rw [if_pos hz] at h1 k1; exact lv_aload_nN hx hb hd rfl h1 k1
  · rw [if_neg hz] at h1 k1; exact lv_aload_n hx hb hd rfl h1 k1
/-! stores -/
theorem q_at_set {i : Nat} {v : Value} {H : Heap} {locs : List Loc} {ls ls' : Array Slot} (ha : q_at E s nL N0 ce L M H locs ls) (hi : i < L.length) (h' : lv_has ls' nL ((i, q_v E.2.2.1 v) :: (q_pr E.2.2.1 0 L).filter (fun q => !(q.1 == i) && !(q.1 + 1 == i && q.2.category == 2)))) : q_at E s nL N0 ce (q_set L i v) M H locs ls' :=
  ⟨ha.1, ha.2.1, lv_less h' (q_pr_set hi), by rw [q_set_len]; exact ha.2.2.2.1, ha.2.2.2.2⟩
theorem q_x_istore (hx : p.tables.exec = Jvm.exec) (hb : c.code = cc) {i : Nat} {x : Int32} (hd : decode cc pc = .ok (.istore i, 2)) (hi : i < L.length) (k : QW p l e R s m args below meth c Q E nL N0 (ok, pc + 2, q_set L i (.int x), st, M, ce, sl)) : QW p l e R s m args below meth c Q E nL N0 (ok, pc, L, .int x :: st, M, ce, sl) := fun hok H locs ls ha =>
  lv_istore hx hb hd ha.2.2.1 (by rw [← ha.2.2.2.1]; exact hi) rfl (fun ls' h' => k hok H locs ls' (q_at_set (v := .int x) ha hi h'))
theorem q_x_istore_n (hx : p.tables.exec = Jvm.exec) (hb : c.code = cc) {i : Fin 4} {x : Int32} (hd : decode cc pc = .ok (.istore_n i, 1)) (hi : i.val < L.length) (k : QW p l e R s m args below meth c Q E nL N0 (ok, pc + 1, q_set L i.val (.int x), st, M, ce, sl)) : QW p l e R s m args below meth c Q E nL N0 (ok, pc, L, .int x :: st, M, ce, sl) := fun hok H locs ls ha =>
  lv_istore_n hx hb hd rfl ha.2.2.1 (by rw [← ha.2.2.2.1]; exact hi) rfl (fun ls' h' => k hok H locs ls' (q_at_set (v := .int x) ha hi h'))
theorem q_x_iinc (hx : p.tables.exec = Jvm.exec) (hb : c.code = cc) {i : Nat} {x d : Int32} {n : Int} (hd : decode cc pc = .ok (.iinc i n, 3)) (hn : Int32.ofInt n = d) (hg : q_get L i = some (.int x)) (hi : i < L.length) (k : QW p l e R s m args below meth c Q E nL N0 (ok, pc + 3, q_set L i (.int (x + d)), st, M, ce, sl)) : QW p l e R s m args below meth c Q E nL N0 (ok, pc, L, st, M, ce, sl) := fun hok H locs ls ha => by
  have hm := q_pr_mem (ad := E.2.2.1) (i := 0) (q_get_at hg)
  obtain ⟨j, hj⟩ := List.getElem?_of_mem hm
  rw [Nat.zero_add] at hj
  exact lv_iinc (k := j) hx hb hd ha.2.2.1 hj (by rw [hn]) (by rw [← ha.2.2.2.1]; exact hi) rfl (fun ls' h' => k hok H locs ls' (q_at_set (v := .int (x + d)) ha hi h'))
theorem q_x_astore (hx : p.tables.exec = Jvm.exec) (hb : c.code = cc) {i x : Nat} (hd : decode cc pc = .ok (.astore i, 2)) (hi : i < L.length) (k : QW p l e R s m args below meth c Q E nL N0 (ok, pc + 2, q_set L i (.ref x), st, M, ce, sl)) : QW p l e R s m args below meth c Q E nL N0 (ok, pc, L, .ref x :: st, M, ce, sl) := fun hok H locs ls ha => by
  have hh : ∀ ls', lv_has ls' nL ((i, q_v E.2.2.1 (.ref x)) :: (q_pr E.2.2.1 0 L).filter (fun q => !(q.1 == i) && !(q.1 + 1 == i && q.2.category == 2))) → W p l e R s m args below meth c H locs ce sl Q (F0 m (pc + 2) ls' (st.map (q_v E.2.2.1))) := fun ls' h' => k hok H locs ls' (q_at_set (v := .ref x) ha hi h')
  simp only [List.map_cons, q_v, q_rf] at hh ⊢
  by_cases hz : x = 0
  · simp only [if_pos hz] at hh ⊢; exact lv_astoreN hx hb hd ha.2.2.1 (by rw [← ha.2.2.2.1]; exact hi) rfl hh
  · simp only [if_neg hz] at hh ⊢; exact lv_astore hx hb hd ha.2.2.1 (by rw [← ha.2.2.2.1]; exact hi) rfl hh
theorem q_x_astore_n (hx : p.tables.exec = Jvm.exec) (hb : c.code = cc) {i : Fin 4} {x : Nat} (hd : decode cc pc = .ok (.astore_n i, 1)) (hi : i.val < L.length) (k : QW p l e R s m args below meth c Q E nL N0 (ok, pc + 1, q_set L i.val (.ref x), st, M, ce, sl)) : QW p l e R s m args below meth c Q E nL N0 (ok, pc, L, .ref x :: st, M, ce, sl) := fun hok H locs ls ha => by
  have hh : ∀ ls', lv_has ls' nL ((i.val, q_v E.2.2.1 (.ref x)) :: (q_pr E.2.2.1 0 L).filter (fun q => !(q.1 == i.val) && !(q.1 + 1 == i.val && q.2.category == 2))) → W p l e R s m args below meth c H locs ce sl Q (F0 m (pc + 1) ls' (st.map (q_v E.2.2.1))) := fun ls' h' => k hok H locs ls' (q_at_set (v := .ref x) ha hi h')
  simp only [List.map_cons, q_v, q_rf] at hh ⊢
  by_cases hz : x = 0
  · simp only [if_pos hz] at hh ⊢; exact lv_astore_nN hx hb hd rfl ha.2.2.1 (by rw [← ha.2.2.2.1]; exact hi) rfl hh
  · simp only [if_neg hz] at hh ⊢; exact lv_astore_n hx hb hd rfl ha.2.2.1 (by rw [← ha.2.2.2.1]; exact hi) rfl hh
theorem q_x_lstore (hx : p.tables.exec = Jvm.exec) (hb : c.code = cc) {i : Nat} {x : Int64} (hd : decode cc pc = .ok (.lstore i, 2)) (hi : i + 1 < L.length) (k : QW p l e R s m args below meth c Q E nL N0 (ok, pc + 2, q_setL L i (.long x), st, M, ce, sl)) : QW p l e R s m args below meth c Q E nL N0 (ok, pc, L, .long x :: st, M, ce, sl) := fun hok H locs ls ha =>
  lv_lstore hx hb hd ha.2.2.1 (by rw [← ha.2.2.2.1]; exact hi) rfl (fun ls' h' => k hok H locs ls' ⟨ha.1, ha.2.1, lv_less h' (q_pr_setL (v := .long x) hi), by rw [q_setL_len]; exact ha.2.2.2.1, ha.2.2.2.2⟩)
theorem q_x_lstore_n (hx : p.tables.exec = Jvm.exec) (hb : c.code = cc) {i : Fin 4} {x : Int64} (hd : decode cc pc = .ok (.lstore_n i, 1)) (hi : i.val + 1 < L.length) (k : QW p l e R s m args below meth c Q E nL N0 (ok, pc + 1, q_setL L i.val (.long x), st, M, ce, sl)) : QW p l e R s m args below meth c Q E nL N0 (ok, pc, L, .long x :: st, M, ce, sl) := fun hok H locs ls ha =>
  lv_lstore_n hx hb hd rfl ha.2.2.1 (by rw [← ha.2.2.2.1]; exact hi) rfl (fun ls' h' => k hok H locs ls' ⟨ha.1, ha.2.1, lv_less h' (q_pr_setL (v := .long x) hi), by rw [q_setL_len]; exact ha.2.2.2.1, ha.2.2.2.2⟩)
/-! branches -/
theorem q_x_goto (hx : p.tables.exec = Jvm.exec) (hb : c.code = cc) {off : Int} {t : Nat} (hd : decode cc pc = .ok (.goto off, 3)) (ht : (pc : Int) + off = (t : Int)) (k : QW p l e R s m args below meth c Q E nL N0 (ok, t, L, st, M, ce, sl)) : QW p l e R s m args below meth c Q E nL N0 (ok, pc, L, st, M, ce, sl) := fun hok H locs ls ha => lv_goto hx hb hd ht (k hok H locs ls ha)
theorem q_x_icmp (hx : p.tables.exec = Jvm.exec) (hb : c.code = cc) {cd : Jvm.ClassFile.Cond} {x y : Int32} {off : Int} {t : Nat} (hd : decode cc pc = .ok (.if_icmp cd off, 3)) (ht : (pc : Int) + off = (t : Int)) (k : QW p l e R s m args below meth c Q E nL N0 (ok, q_cmp cd x y t (pc + 3), L, st, M, ce, sl)) : QW p l e R s m args below meth c Q E nL N0 (ok, pc, L, .int y :: .int x :: st, M, ce, sl) := fun hok H locs ls ha => by
  have k1 := k hok H locs ls ha
  cases cd with
  | eq => exact lv_icmp_eq hx hb hd ht (fun h => by simpa [q_cmp, h] using k1) (fun h => by simpa [q_cmp, h] using k1)
  | ne => exact lv_icmp_ne hx hb hd ht (fun h => by simpa [q_cmp, h] using k1) (fun h => by simpa [q_cmp, h] using k1)
  | lt => exact lv_icmp_lt hx hb hd ht (fun h => by simpa [q_cmp, h] using k1) (fun h => by simpa [q_cmp, h] using k1)
  | ge => exact lv_icmp_ge hx hb hd ht (fun h => by have h := Int32.not_lt.mpr h; simpa [q_cmp, h] using k1) (fun h => by have h := Int32.not_le.mp h; simpa [q_cmp, h] using k1)
  | gt => exact lv_icmp_gt hx hb hd ht (fun h => by simpa [q_cmp, h] using k1) (fun h => by simpa [q_cmp, h] using k1)
  | le => exact lv_icmp_le hx hb hd ht (fun h => by have h := Int32.not_lt.mpr h; simpa [q_cmp, h] using k1) (fun h => by have h := Int32.not_le.mp h; simpa [q_cmp, h] using k1)
theorem q_x_if (hx : p.tables.exec = Jvm.exec) (hb : c.code = cc) {cd : Jvm.ClassFile.Cond} {x : Int32} {off : Int} {t : Nat} (hd : decode cc pc = .ok (.ifCond cd off, 3)) (ht : (pc : Int) + off = (t : Int)) (k : QW p l e R s m args below meth c Q E nL N0 (ok, q_cmp cd x 0 t (pc + 3), L, st, M, ce, sl)) : QW p l e R s m args below meth c Q E nL N0 (ok, pc, L, .int x :: st, M, ce, sl) := fun hok H locs ls ha => by
  have k1 := k hok H locs ls ha
  cases cd with
  | eq => exact lv_if_eq hx hb hd ht (fun h => by simpa [q_cmp, h] using k1) (fun h => by simpa [q_cmp, h] using k1)
  | ne => exact lv_if_ne hx hb hd ht (fun h => by simpa [q_cmp, h] using k1) (fun h => by simpa [q_cmp, h] using k1)
  | lt => exact lv_if_lt hx hb hd ht (fun h => by simpa [q_cmp, h] using k1) (fun h => by simpa [q_cmp, h] using k1)
  | ge => exact lv_if_ge hx hb hd ht (fun h => by have h := Int32.not_lt.mpr h; simpa [q_cmp, h] using k1) (fun h => by have h := Int32.not_le.mp h; simpa [q_cmp, h] using k1)
  | gt => exact lv_if_gt hx hb hd ht (fun h => by simpa [q_cmp, h] using k1) (fun h => by simpa [q_cmp, h] using k1)
  | le => exact lv_if_le hx hb hd ht (fun h => by have h := Int32.not_lt.mpr h; simpa [q_cmp, h] using k1) (fun h => by have h := Int32.not_le.mp h; simpa [q_cmp, h] using k1)
end QS
