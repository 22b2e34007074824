/-! ===== making objects and arrays, statics, calls ===== -/
theorem q_sz {p : Program} {l : Launch} {e : Env} {R : Room} {s : State} {m : MethodId} {args : Array Value} {below : List Frame} {meth : Method} {c : Code} {Q : State → Prop} {H : Heap} {locs : List Loc} {ce sl : Nat} {g : JFrame}
    (k : H.size ≤ s.heap.size + ce → W p l e R s m args below meth c H locs ce sl Q g) : W p l e R s m args below meth c H locs ce sl Q g := fun T hT X => k (by rw [← hT]; exact X.same.2.2.1) T hT X
theorem q_at_size {E : QEnv} {s : State} {nL N0 ce : Nat} {L : List (Option Value)} {M : QM} {H : Heap} {locs : List Loc} {ls : Array Slot} (ha : q_at E s nL N0 ce L M H locs ls) (h : H.size ≤ s.heap.size + ce) : H.size = E.2.2.2.1 + M.2.2.2.2 := by
  obtain ⟨⟨-, -, h1, -⟩, -, -, -, h2, h3⟩ := ha
  omega
theorem q_new_row {α : Type} {f : Nat → α} {n q : Nat} {x : α} (h : q ≤ n) : va_up f (n + 1) x q = f q := by unfold va_up; rw [if_neg (by omega)]
theorem q_new_self {α : Type} {f : Nat → α} {n : Nat} {x : α} : va_up f n x n = x := by unfold va_up; rw [if_pos rfl]
theorem q_newM_S {M : QM} {k n : Nat} : (q_newM M k n).2.2.2.1 (M.2.2.2.2 + 1) = (k, n) := q_new_self
theorem q_newM_I {M : QM} {k n : Nat} : (q_newM M k n).1 (M.2.2.2.2 + 1) = fun _ => 0 := q_new_self
theorem q_newM_J {M : QM} {k n : Nat} : (q_newM M k n).2.1 (M.2.2.2.2 + 1) = fun _ => 0 := q_new_self
theorem q_newM_R {M : QM} {k n : Nat} : (q_newM M k n).2.2.1 (M.2.2.2.2 + 1) = fun _ => 0 := q_new_self
theorem q_newM_kd {M : QM} {k n : Nat} : q_kd (q_newM M k n) (M.2.2.2.2 + 1) = k := by unfold q_kd; rw [q_newM_S]
theorem q_newM_ln {M : QM} {k n : Nat} : q_len (q_newM M k n) (M.2.2.2.2 + 1) = n := by unfold q_len; rw [q_newM_S]
theorem q_ws_new {E : QEnv} {M : QM} {k n : Nat} : q_ws E (q_newM M k n) = q_ws E M ++ [(E.2.2.1 (M.2.2.2.2 + 1), q_cell E.2.1 E.2.2.1 (q_newM M k n) (M.2.2.2.2 + 1))] := by
  show (List.range (M.2.2.2.2 + 1)).map _ = _
  rw [List.range_succ, List.map_append]
  congr 1
  unfold q_ws
  apply List.map_congr_left
  intro i hi
  have hi2 := List.mem_range.mp hi
  congr 1
  have e0 : (q_newM M k n).2.2.2.1 (i + 1) = M.2.2.2.1 (i + 1) := q_new_row (by omega)
  have e1 : (q_newM M k n).1 (i + 1) = M.1 (i + 1) := q_new_row (by omega)
  have e2 : (q_newM M k n).2.1 (i + 1) = M.2.1 (i + 1) := q_new_row (by omega)
  have e3 : (q_newM M k n).2.2.1 (i + 1) = M.2.2.1 (i + 1) := q_new_row (by omega)
  have k0 : q_kd (q_newM M k n) (i + 1) = q_kd M (i + 1) := by unfold q_kd; rw [e0]
  have l0 : q_len (q_newM M k n) (i + 1) = q_len M (i + 1) := by unfold q_len; rw [e0]
  unfold q_cell
  rw [k0, l0, e1, e2]
  have : q_fs E.2.2.1 (q_newM M k n) (i + 1) (q_kd M (i + 1) - 1) (q_len M (i + 1)) = q_fs E.2.2.1 M (i + 1) (q_kd M (i + 1) - 1) (q_len M (i + 1)) := by
    unfold q_fs
    apply List.map_congr_left
    intro j _
    unfold q_fld
    rw [e1, e2, e3]
  rw [this]
theorem q_wf_new {E : QEnv} {M : QM} {k n : Nat} (hw : q_wf E M) (hN : M.2.2.2.2 < 900) (hk : (k ≤ 12 ∧ 1 ≤ k ∧ ∃ q : vw_C, q_cl[k - 1]? = some q ∧ n = q.2.2) ∨ (21 ≤ k ∧ k ≤ 24)) : q_wf E (q_newM M k n) := by
  obtain ⟨w1, w2, w3⟩ := hw
  refine ⟨by show M.2.2.2.2 + 1 < 901; omega, fun p hp => ?_, fun p hp h0 => ?_⟩
  · have e1 : (q_newM M k n).2.2.2.1 p = M.2.2.2.1 p := by show va_up _ _ _ p = _; unfold va_up; rw [if_neg (by omega)]
    have e2 : (q_newM M k n).1 p = M.1 p := by show va_up _ _ _ p = _; unfold va_up; rw [if_neg (by omega)]
    rw [e1, e2]; exact w2 p hp
  · by_cases hpn : p = M.2.2.2.2 + 1
    · have e1 : (q_newM M k n).2.2.2.1 p = (k, n) := by show va_up _ _ _ p = _; unfold va_up; rw [if_pos hpn]
      have k1 : q_kd (q_newM M k n) p = k := by unfold q_kd; rw [e1]
      have k2 : q_len (q_newM M k n) p = n := by unfold q_len; rw [e1]
      rw [k1, k2]
      refine ⟨by omega, by show p ≤ M.2.2.2.2 + 1; omega, hk.imp (fun h => ⟨h.1, h.2.2⟩) id⟩
    · have e1 : (q_newM M k n).2.2.2.1 p = M.2.2.2.1 p := by show va_up _ _ _ p = _; unfold va_up; rw [if_neg hpn]
      have k1 : q_kd (q_newM M k n) p = q_kd M p := by unfold q_kd; rw [e1]
      have k2 : q_len (q_newM M k n) p = q_len M p := by unfold q_len; rw [e1]
      rw [k1] at h0 ⊢
      rw [k2]
      have := w3 p hp h0
      exact ⟨this.1, by show p ≤ M.2.2.2.2 + 1; omega, this.2.2⟩
section QS
variable {p : Program} {l : Launch} {e : Env} {R : Room} {s : State} {m : MethodId} {args : Array Value} {below : List Frame} {meth : Method} {c : Code} {Q : State → Prop} {E : QEnv} {nL N0 : Nat} {cc : ByteArray}
variable {ok : Bool} {pc : Nat} {L : List (Option Value)} {st : List Value} {M : QM} {ce sl : Nat}
/-- a place is new -/
theorem q_at_new {k n : Nat} {H H1 : Heap} {locs : List Loc} {ls : Array Slot} (hst : q_St E s s.heap) (ha : q_at E s nL N0 ce L M H locs ls) (hz : H.size = E.2.2.2.1 + M.2.2.2.2) (hN : M.2.2.2.2 < 900) (hk : (k ≤ 12 ∧ 1 ≤ k ∧ ∃ q : vw_C, q_cl[k - 1]? = some q ∧ n = q.2.2) ∨ (21 ≤ k ∧ k ≤ 24))
    (z1 : H1.size = H.size + 1) (o1 : ∀ q, q < H.size → H1[q]? = H[q]?) (hcell : va_at E.1 q_cl (H.size, q_cell E.2.1 E.2.2.1 (q_newM M k n) (M.2.2.2.2 + 1)) H1) : q_at E s nL N0 (ce + 1) L (q_newM M k n) H1 locs ls ∧ E.2.2.1 (M.2.2.2.2 + 1) = H.size := by
  have had : E.2.2.1 (M.2.2.2.2 + 1) = H.size := by
    have := hst.2.2.2.1 (M.2.2.2.2 + 1) (by omega) (by omega)
    omega
  have hk' : ∀ (i : Nat) (x : Nat × va_E), (q_ws E M)[i]? = some x → H1[x.1]? = H[x.1]? := fun i x hx => o1 x.1 ((ha.1.1 i x hx).lt)
  refine ⟨⟨⟨?_, ?_, ?_, q_wf_new ha.1.2.2.2 hN hk⟩, ?_, ha.2.2.1, ha.2.2.2.1, ?_, ha.2.2.2.2.2⟩, had⟩
  · rw [q_ws_new]
    refine (ha.1.1.kept hk').app (fun i x hx => ?_)
    have hi : i < 1 := (List.getElem?_eq_some_iff.mp hx).1
    rw [show i = 0 by omega] at hx
    cases hx
    rw [had]; exact hcell
  · rw [q_ws_new, had]
    exact ha.1.2.1.push ha.1.1 rfl (by show E.2.2.2.1 ≤ H.size; omega)
  · show E.2.2.2.1 + (M.2.2.2.2 + 1) ≤ H1.size; omega
  · exact ⟨Nat.le_trans ha.2.1.1 (by omega), fun x h1 h2 => (o1 x (Nat.lt_of_lt_of_le h1 ha.2.1.1)).trans (ha.2.1.2.1 x h1 h2), ha.2.1.2.2⟩
  · show M.2.2.2.2 + 1 = N0 + (ce + 1); have := ha.2.2.2.2.1; omega
theorem q_dflt {ci k p : Nat} {q : vw_C} {ad : Nat → Nat} {M : QM} (hq : q_cl[ci]? = some q) (hk : k < q.2.2) (h1 : M.1 p k = 0) (h2 : M.2.1 p k = 0) (h3 : M.2.2.1 p k = 0) : defaultValue (q_tyf ci k) = q_v ad (q_fld M p k (q_tag ci k)) := by
  have h := q_cl_tag ci q hq k hk
  show defaultValue (q_tyf ci k) = q_v ad (q_fld M p k ((q_tags.getD ci []).getD k 0))
  generalize (q_tags.getD ci []).getD k 0 = t at h
  unfold q_fld
  rw [h1, h2, h3]
  split at h
  · rw [h]; rfl
  · rw [h]; rfl
  · rw [h]; rfl
  · rcases h with ⟨n, h⟩ | ⟨n, h⟩ <;> rw [h] <;> rfl
  · exact h.elim
theorem q_x_new {Rr : Nat × Nat} (hx : p.tables.exec = Jvm.exec) (hb : c.code = cc) (hts : ∀ w ∈ tb, w.before args s = true) (hst : q_St E s s.heap) {own : String} (hown : s.vm.findClass own = some m.cls) {idx ci : Nat} {q : vw_C} (hq : q_cl[ci]? = some q) (hcl : Cond.classLink own idx q.1 ∈ tb) (hin : Cond.instantiable q.1 q.2.2 ∈ tb) (hini : Cond.initialized q.1 ∈ tb) (hd : decode cc pc = .ok (.new idx, 3))
    (hc : ce + 1 ≤ R.cells) (hs : sl + q.2.2 ≤ R.slots) (hN : M.2.2.2.2 < 900)
    (kk : QW p l e R s m args below meth c Q E nL N0 (ok, pc + 3, L, .ref (M.2.2.2.2 + 1) :: st, q_newM M (ci + 1) q.2.2, ce + 1, sl + q.2.2)) : QW p l e R s m args below meth c Q E nL N0 (ok, pc, L, st, M, ce, sl) := fun hok H locs ls ha => q_sz fun hz => by
  have hz2 := q_at_size ha hz
  have hci := q_cl_lt hq
  have hKn := hst.1.1 ci q hq
  refine W.newcK hx hb hown (hts _ hcl) (hts _ hin) (hts _ hini) rfl hd hc hs hKn.2.1 rfl fun H1 kC hkC e1 z1 o1 => ?_
  have hkd : q_kd (q_newM M (ci + 1) q.2.2) (M.2.2.2.2 + 1) = ci + 1 := q_newM_kd
  have hln : q_len (q_newM M (ci + 1) q.2.2) (M.2.2.2.2 + 1) = q.2.2 := q_newM_ln
  have hcell : va_at E.1 q_cl (H.size, q_cell E.2.1 E.2.2.1 (q_newM M (ci + 1) q.2.2) (M.2.2.2.2 + 1)) H1 := by
    rw [q_cell_o hkd hci, hln]
    refine ⟨q, hq, (u_born (q_tyf ci) hts (q_cl_in ci q hq) hKn hkC e1 (q_cl_ty ci q hq)).to (fun j hj => ?_)⟩
    show _ = (q_fs _ _ _ _ _).getD j .null
    rw [List.getD_eq_getElem?_getD, q_fs_at hj]
    exact q_dflt hq hj (by rw [q_newM_I]) (by rw [q_newM_J]) (by rw [q_newM_R])
  obtain ⟨g1, g2⟩ := q_at_new hst ha hz2 hN (Or.inl ⟨by omega, by omega, q, hq, rfl⟩) z1 o1 hcell
  have k1 := kk hok H1 locs ls g1
  have e2 : (Value.ref (M.2.2.2.2 + 1) :: st).map (q_v E.2.2.1) = .ref H.size :: st.map (q_v E.2.2.1) := by
    show q_rf E.2.2.1 (M.2.2.2.2 + 1) :: _ = _
    rw [q_rf_pos (by omega), g2]
  rw [e2] at k1
  exact k1
theorem q_ak_ty {t : ArrayType} (h : 21 ≤ q_ak t) : (t = .byte ∧ q_ak t = 21) ∨ (t = .int ∧ q_ak t = 22) ∨ (t = .long ∧ q_ak t = 23) ∨ (t = .boolean ∧ q_ak t = 24) := by
  cases t <;> simp_all [q_ak]
theorem q_x_newa (hx : p.tables.exec = Jvm.exec) (hb : c.code = cc) (hts : ∀ w ∈ tb, w.before args s = true) (hst : q_St E s s.heap) {t : ArrayType} {n : Int32} (harr : Cond.arrayClass (newarray.typeOf t) ∈ tb) (hd : decode cc pc = .ok (.newarray t, 2)) (hn : ¬ n < 0) (hn2 : n.toNatClampNeg ≤ 5000) (hak : 21 ≤ q_ak t)
    (hc : ce + 1 ≤ R.cells) (hs : sl + n.toNatClampNeg ≤ R.slots) (hN : M.2.2.2.2 < 900)
    (kk : QW p l e R s m args below meth c Q E nL N0 (ok, pc + 2, L, .ref (M.2.2.2.2 + 1) :: st, q_newM M (q_ak t) n.toNatClampNeg, ce + 1, sl + n.toNatClampNeg)) : QW p l e R s m args below meth c Q E nL N0 (ok, pc, L, .int n :: st, M, ce, sl) := fun hok H locs ls ha => q_sz fun hz => by
  have hz2 := q_at_size ha hz
  have hbytes : n.toNatClampNeg * componentBytes (newarray.typeOf t) ≤ 536870912 := by
    have : componentBytes (newarray.typeOf t) ≤ 8 := by cases t <;> decide
    calc n.toNatClampNeg * componentBytes (newarray.typeOf t) ≤ 5000 * 8 := Nat.mul_le_mul hn2 this
      _ ≤ 536870912 := by decide
  refine va_newaK hx hb (hts _ harr) rfl hd rfl hn rfl hbytes hc hs rfl fun H1 cA e1 z1 o1 hAr hNm => ?_
  have hkd : q_kd (q_newM M (q_ak t) n.toNatClampNeg) (M.2.2.2.2 + 1) = q_ak t := q_newM_kd
  have hln : q_len (q_newM M (q_ak t) n.toNatClampNeg) (M.2.2.2.2 + 1) = n.toNatClampNeg := q_newM_ln
  have hI : (q_newM M (q_ak t) n.toNatClampNeg).1 (M.2.2.2.2 + 1) = fun _ => 0 := q_new_self
  have hJ : (q_newM M (q_ak t) n.toNatClampNeg).2.1 (M.2.2.2.2 + 1) = fun _ => 0 := q_new_self
  have hcell : va_at E.1 q_cl (H.size, q_cell E.2.1 E.2.2.1 (q_newM M (q_ak t) n.toNatClampNeg) (M.2.2.2.2 + 1)) H1 := by
    rcases q_ak_ty hak with ⟨rfl, h21⟩ | ⟨rfl, h21⟩ | ⟨rfl, h21⟩ | ⟨rfl, h21⟩
    · have hcA : cA = E.2.1 21 := Option.some.inj (hNm.symm.trans ((hst.1.2 0 _ rfl).2))
      rw [q_cell_i (hkd.trans h21) (by omega) (by omega), hln, hI, ← hcA]; exact e1
    · have hcA : cA = E.2.1 22 := Option.some.inj (hNm.symm.trans ((hst.1.2 1 _ rfl).2))
      rw [q_cell_i (hkd.trans h21) (by omega) (by omega), hln, hI, ← hcA]; exact e1
    · have hcA : cA = E.2.1 23 := Option.some.inj (hNm.symm.trans ((hst.1.2 2 _ rfl).2))
      rw [q_cell_l (hkd.trans h21), hln, hJ, ← hcA]; exact e1
    · have hcA : cA = E.2.1 24 := Option.some.inj (hNm.symm.trans ((hst.1.2 3 _ rfl).2))
      rw [q_cell_i (hkd.trans h21) (by omega) (by omega), hln, hI, ← hcA]; exact e1
  obtain ⟨g1, g2⟩ := q_at_new hst ha hz2 hN (Or.inr ⟨hak, by rcases q_ak_ty hak with h | h | h | h <;> omega⟩) z1 o1 hcell
  have k1 := kk hok H1 locs ls g1
  have e2 : (Value.ref (M.2.2.2.2 + 1) :: st).map (q_v E.2.2.1) = .ref H.size :: st.map (q_v E.2.2.1) := by
    show q_rf E.2.2.1 (M.2.2.2.2 + 1) :: _ = _
    rw [q_rf_pos (by omega), g2]
  rw [e2] at k1
  exact k1
theorem q_x_gets (hx : p.tables.exec = Jvm.exec) (hb : c.code = cc) (hts : ∀ w ∈ tb, w.before args s = true) (hst : q_St E s s.heap) {own : String} (hown : s.vm.findClass own = some m.cls) {idx a : Nat} {x : Nat × String × String} (hxm : x ∈ q_stat) (ha1 : x.1 = a)
    (hl : Cond.fieldLink own idx x.2.1 x.2.2 "[I" ∈ tb ∨ ∃ host, Cond.fieldLinkNest own idx x.2.1 x.2.2 "[I" host ∈ q_nst) (hd : decode cc pc = .ok (.getstatic idx, 3))
    (kk : QW p l e R s m args below meth c Q E nL N0 (ok, pc + 3, L, .ref a :: st, M, ce, sl)) : QW p l e R s m args below meth c Q E nL N0 (ok, pc, L, st, M, ce, sl) := fun hok H locs ls ha => by
  have k1 := kk hok H locs ls ha
  have hp : 1 ≤ a := by
    rw [← ha1]
    unfold q_stat at hxm
    simp only [List.mem_cons, List.not_mem_nil, or_false] at hxm
    rcases hxm with h | h | h | h <;> rw [h] <;> decide
  have e2 : (Value.ref a :: st).map (q_v E.2.2.1) = .ref (E.2.2.1 a) :: st.map (q_v E.2.2.1) := by
    show q_rf E.2.2.1 a :: _ = _
    rw [q_rf_pos hp]
  rw [e2] at k1
  have hZ := hst.2.2.1 x hxm
  rw [ha1] at hZ
  rcases hl with hl | ⟨host, hl⟩
  · exact va_gets hx hb hZ ha.2.1 hown (hts _ hl) (fun _ h => h) hd k1
  · exact va_getsN hx hb hZ ha.2.1 hown (va_Nw.use rfl (hst.2.2.2.2.1 _ hl)) (fun _ h => h) hd k1
end QS
