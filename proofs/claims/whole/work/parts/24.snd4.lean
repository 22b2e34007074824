/-! ===== fields and arrays ===== -/
theorem q_beq {a b : Nat} (h : Nat.beq a b = true) : a = b := Nat.eq_of_beq_eq_true h
theorem q_in_vp {i : Int32} {n : Nat} (h : q_in i n = true) : vp_in i n := by
  unfold q_in at h
  rw [Bool.and_eq_true] at h
  obtain ⟨h1, h2⟩ := h
  intro hc
  rcases hc with hc | hc
  · simp [hc] at h1
  · have := of_decide_eq_true h2; omega
theorem q_cl_lt {ci : Nat} {q : vw_C} (h : q_cl[ci]? = some q) : ci < 12 := (List.getElem?_eq_some_iff.mp h).1
theorem q_pl {E : QEnv} {M : QM} (hw : q_wf E M) (hs : ∀ p, 1000 ≤ p → (E.2.2.2.2.2 p).1 = 0 ∨ (E.2.2.2.2.2 p).1 = 30 ∨ (E.2.2.2.2.2 p).1 = 40) {p k : Nat} (h : q_kd M p = k) (h0 : 0 < k) (h1 : k < 30) : p < 1000 ∧ 1 ≤ p ∧ p ≤ M.2.2.2.2 := by
  by_cases hp : p < 1000
  · have := hw.2.2 p hp (by omega)
    exact ⟨hp, this.1, this.2.1⟩
  · have hS := (hw.2.1 p (by omega)).1
    have hz := hs p (by omega)
    have e : q_kd M p = (E.2.2.2.2.2 p).1 := by unfold q_kd; rw [hS]
    omega
theorem q_cell_o {cA : Nat → ClassId} {ad : Nat → Nat} {M : QM} {p ci : Nat} (h : q_kd M p = ci + 1) (hc : ci < 12) : q_cell cA ad M p = .inr (ci, q_fs ad M p ci (q_len M p)) := by
  unfold q_cell
  rw [if_pos (by omega), h]
  rfl
theorem q_cell_i {cA : Nat → ClassId} {ad : Nat → Nat} {M : QM} {p k : Nat} (h : q_kd M p = k) (hc : 21 ≤ k) (h3 : k ≠ 23) : q_cell cA ad M p = .inl (cA k, q_len M p, .inl (M.1 p)) := by
  unfold q_cell
  rw [if_neg (by omega), if_neg (by omega), h]
theorem q_cell_l {cA : Nat → ClassId} {ad : Nat → Nat} {M : QM} {p : Nat} (h : q_kd M p = 23) : q_cell cA ad M p = .inl (cA 23, q_len M p, .inr (.inl (M.2.1 p))) := by
  unfold q_cell
  rw [if_neg (by omega), if_pos h]
theorem q_St_s {E : QEnv} {s : State} {H : Heap} (h : q_St E s H) : ∀ p, 1000 ≤ p → (E.2.2.2.2.2 p).1 = 0 ∨ (E.2.2.2.2.2 p).1 = 30 ∨ (E.2.2.2.2.2 p).1 = 40 := fun p hp => (h.2.1 p hp).imp id (fun g => g.imp (fun q => q.1) (fun q => q.1))
/-- a place whose cell alone changes -/
theorem q_Dy_set {E : QEnv} {M M' : QM} {p : Nat} {H H1 : Heap} {locs locs1 : List Loc} {H0 : Heap} (hp : p < 1000) (h1 : 1 ≤ p) (hd : q_Dy E M H) (hS : M'.2.2.2 = M.2.2.2) (hI : ∀ q, q ≠ p → M'.1 q = M.1 q ∧ M'.2.1 q = M.2.1 q ∧ M'.2.2.1 q = M.2.2.1 q) (hs0 : va_S (q_A E) H0 H locs)
    (hP : va_P E.1 q_cl ((q_ws E M).set (p - 1) (E.2.2.1 p, q_cell E.2.1 E.2.2.1 M' p)) H1) (hD : va_D (q_A E) ((q_ws E M).set (p - 1) (E.2.2.1 p, q_cell E.2.1 E.2.2.1 M' p))) (hs : va_S (q_A E) H H1 locs1) : q_Dy E M' H1 ∧ va_S (q_A E) H0 H1 locs1 := by
  have hk : ∀ q, q_kd M' q = q_kd M q := fun q => by unfold q_kd; rw [hS]
  have hl : ∀ q, q_len M' q = q_len M q := fun q => by unfold q_len; rw [hS]
  have hN : M'.2.2.2.2 = M.2.2.2.2 := by rw [hS]
  have hc : ∀ q, q ≠ p → q_cell E.2.1 E.2.2.1 M' q = q_cell E.2.1 E.2.2.1 M q := by
    intro q hq
    obtain ⟨e1, e2, e3⟩ := hI q hq
    unfold q_cell
    rw [hk, hl, e1, e2]
    have : q_fs E.2.2.1 M' q (q_kd M q - 1) (q_len M q) = q_fs E.2.2.1 M q (q_kd M q - 1) (q_len M q) := by
      unfold q_fs
      apply List.map_congr_left
      intro k _
      unfold q_fld
      rw [e1, e2, e3]
    rw [this]
  rw [q_ws_set h1 hN hc] at hP hD
  refine ⟨⟨hP, hD, by rw [hN]; exact Nat.le_trans hd.2.2.1 hs.1, ?_⟩, q_S_trans hs0 hs⟩
  obtain ⟨-, -, -, w1, w2, w3⟩ := hd
  refine ⟨by rw [hN]; exact w1, fun q hq => ⟨by rw [hS]; exact (w2 q hq).1, by rw [(hI q (by omega)).1]; exact (w2 q hq).2⟩, fun q hq => by rw [hk, hl, hN]; exact w3 q hq⟩
theorem q_fs_at {ad : Nat → Nat} {M : QM} {p c n k : Nat} (hk : k < n) : (q_fs ad M p c n)[k]? = some (q_v ad (q_fld M p k (q_tag c k))) := by
  unfold q_fs
  rw [List.getElem?_map, List.getElem?_range hk]; rfl
theorem q_fs_len {ad : Nat → Nat} {M : QM} {p c n : Nat} : (q_fs ad M p c n).length = n := by unfold q_fs; simp
theorem q_fs_set {ad : Nat → Nat} {M M' : QM} {p c n k : Nat} {v : Value} (hk : k < n) (hv : q_v ad (q_fld M' p k (q_tag c k)) = q_v ad v) (ho : ∀ j, j ≠ k → q_fld M' p j (q_tag c j) = q_fld M p j (q_tag c j)) : (q_fs ad M p c n).set k (q_v ad v) = q_fs ad M' p c n := by
  apply List.ext_getElem?
  intro i
  rw [List.getElem?_set, q_fs_len]
  by_cases hi : k = i
  · subst hi; rw [if_pos rfl, if_pos hk, q_fs_at hk, hv]
  · rw [if_neg hi]
    by_cases hl : i < n
    · rw [q_fs_at hl, q_fs_at hl, ho i (fun h => hi h.symm)]
    · rw [List.getElem?_eq_none (by rw [q_fs_len]; omega), List.getElem?_eq_none (by rw [q_fs_len]; omega)]
section QS
variable {p : Program} {l : Launch} {e : Env} {R : Room} {s : State} {m : MethodId} {args : Array Value} {below : List Frame} {meth : Method} {c : Code} {Q : State → Prop} {E : QEnv} {nL N0 : Nat} {cc : ByteArray}
variable {ok : Bool} {pc : Nat} {L : List (Option Value)} {st : List Value} {M : QM} {ce sl : Nat}
theorem q_rf_pos {ad : Nat → Nat} {p : Nat} (h : 1 ≤ p) : q_rf ad p = .ref (ad p) := by unfold q_rf; rw [if_neg (by omega)]
theorem q_x_get (hx : p.tables.exec = Jvm.exec) (hb : c.code = cc) (hts : ∀ w ∈ tb, w.before args s = true) (hst : q_St E s s.heap) {own : String} (hown : s.vm.findClass own = some m.cls) {idx ci k t a : Nat} {q : vw_C} (hq : q_cl[ci]? = some q) (hk : k < q.2.2) (ht : q_tag ci k = t) (hcls : (q.2.1 k).1 = q.1)
    (hl : (Cond.fieldLink own idx q.1 (q.2.1 k).2.1 (q.2.1 k).2.2.1).before args s = true) (hd : decode cc pc = .ok (.getfield idx, 3)) (hkd : q_kd M a = ci + 1)
    (kk : QW p l e R s m args below meth c Q E nL N0 (ok, pc + 3, L, q_fld M a k t :: st, M, ce, sl)) : QW p l e R s m args below meth c Q E nL N0 (ok, pc, L, .ref a :: st, M, ce, sl) := fun hok H locs ls ha => by
  have hc := q_cl_lt hq
  obtain ⟨h1, h2, h3⟩ := q_pl ha.1.2.2.2 (q_St_s hst) hkd (by omega) (by omega)
  obtain ⟨-, -, w3⟩ := ha.1.2.2.2
  have hlen : q_len M a = q.2.2 := by
    obtain ⟨-, -, w⟩ := w3 a h1 (by omega)
    rcases w with ⟨-, q', e1, e2⟩ | ⟨w, -⟩
    · rw [hkd] at e1
      rw [e2, Option.some.inj (e1.symm.trans hq)]
    · omega
  have he := q_ws_at (E := E) h2 h3
  rw [q_cell_o hkd hc] at he
  have k1 := kk hok H locs ls ha
  subst ht
  show W p l e R s m args below meth c H locs ce sl Q (F0 m pc ls (q_rf E.2.2.1 a :: st.map (q_v E.2.2.1)))
  rw [q_rf_pos h2]
  exact va_get hx hb hts (q_cl_in ci q hq) hown hst.1 ha.1.1 (a - 1) he hq k hk hl (fun x hx' => by rw [hcls] at hx'; exact hx') (q_fs_at (by rw [hlen]; exact hk)) hd k1
/-- what a field takes -/
theorem q_fit_ty {t ci k : Nat} {q : vw_C} {v : Value} {ad : Nat → Nat} (hq : q_cl[ci]? = some q) (hk : k < q.2.2) (ht : q_tag ci k = t) (hf : q_fitc t v true = true) : narrow (q_tyf ci k) (q_v ad v) = q_v ad v ∧ fits (q_tyf ci k) (q_v ad v) = true := by
  have h := q_cl_tag ci q hq k hk
  unfold q_tag at ht
  rw [ht] at h
  unfold q_fitc at hf
  split at hf
  · simp only at h; rw [h]; exact ⟨vp_nar_int _, rfl⟩
  · simp only at h; rw [h]; exact ⟨rfl, rfl⟩
  · simp only at h
    rename_i a
    show narrow _ (q_rf ad a) = q_rf ad a ∧ fits _ (q_rf ad a) = true
    unfold q_rf
    rcases h with ⟨n, h⟩ | ⟨t, h⟩ <;> rw [h] <;> split <;> exact ⟨rfl, rfl⟩
  · simp only at h; rw [h]
    rename_i x
    simp at hf
    rcases hf with rfl | rfl
    · exact ⟨rfl, rfl⟩
    · show narrow FieldType.boolean (Value.int 1) = Value.int 1 ∧ fits FieldType.boolean (Value.int 1) = true
      exact ⟨by decide, by decide⟩
  · cases hf
theorem q_put_fld {t k j c : Nat} {v : Value} {M : QM} {a : Nat} (hf : q_fitc t v true = true) (ht : q_tag c k = t) : (j = k → q_fld (q_putM M a k v) a j (q_tag c j) = v) ∧ (j ≠ k → q_fld (q_putM M a k v) a j (q_tag c j) = q_fld M a j (q_tag c j)) := by
  have hu : ∀ {α : Type} (f : Nat → Nat → α) (x : α), q_up f a k x a k = x := fun f x => by unfold q_up va_up; rw [if_pos rfl, if_pos rfl]
  have hn : ∀ {α : Type} (f : Nat → Nat → α) (x : α), j ≠ k → q_up f a k x a j = f a j := fun f x h => by unfold q_up va_up; rw [if_pos rfl, if_neg h]
  constructor
  · intro hj
    subst hj
    rw [ht]
    unfold q_fitc at hf
    split at hf <;> first | (cases hf; done) | (unfold q_putM q_fld; simp only [hu])
  · intro hj
    unfold q_fitc at hf
    split at hf <;> first | (cases hf; done) | (unfold q_putM q_fld; simp only [hn _ _ hj])
theorem q_put_row {a k : Nat} {v : Value} {M : QM} {b : Nat} (hb : b ≠ a) : (q_putM M a k v).1 b = M.1 b ∧ (q_putM M a k v).2.1 b = M.2.1 b ∧ (q_putM M a k v).2.2.1 b = M.2.2.1 b := by
  have hn : ∀ {α : Type} (f : Nat → Nat → α) (x : α), q_up f a k x b = f b := fun f x => by unfold q_up va_up; rw [if_neg hb]
  unfold q_putM
  split <;> simp [hn]
theorem q_put_S {a k : Nat} {v : Value} {M : QM} : (q_putM M a k v).2.2.2 = M.2.2.2 := by unfold q_putM; split <;> rfl
theorem q_x_put (hx : p.tables.exec = Jvm.exec) (hb : c.code = cc) (hts : ∀ w ∈ tb, w.before args s = true) (hst : q_St E s s.heap) {own : String} (hown : s.vm.findClass own = some m.cls) {idx ci k t a : Nat} {q : vw_C} {v : Value} (hq : q_cl[ci]? = some q) (hk : k < q.2.2) (ht : q_tag ci k = t) (hcls : (q.2.1 k).1 = q.1)
    (hfin : (q.2.1 k).2.2.2 = false ∨ ((q.2.1 k).2.2.2 = true ∧ meth.name = "<init>" ∧ q.1 = own))
    (hl : (Cond.fieldLink own idx q.1 (q.2.1 k).2.1 (q.2.1 k).2.2.1).before args s = true) (hd : decode cc pc = .ok (.putfield idx, 3)) (hkd : q_kd M a = ci + 1) (hf : q_fitc t v true = true)
    (kk : QW p l e R s m args below meth c Q E nL N0 (ok, pc + 3, L, st, q_putM M a k v, ce, sl)) : QW p l e R s m args below meth c Q E nL N0 (ok, pc, L, v :: .ref a :: st, M, ce, sl) := fun hok H locs ls ha => by
  have hc := q_cl_lt hq
  obtain ⟨h1, h2, h3⟩ := q_pl ha.1.2.2.2 (q_St_s hst) hkd (by omega) (by omega)
  have hw := ha.1.2.2.2
  obtain ⟨-, -, w3⟩ := hw
  have hlen : q_len M a = q.2.2 := by
    obtain ⟨-, -, w⟩ := w3 a h1 (by omega)
    rcases w with ⟨-, q', e1, e2⟩ | ⟨w, -⟩
    · rw [hkd] at e1
      rw [e2, Option.some.inj (e1.symm.trans hq)]
    · omega
  have he := q_ws_at (E := E) h2 h3
  rw [q_cell_o hkd hc] at he
  have hkd' : q_kd (q_putM M a k v) a = ci + 1 := by unfold q_kd; rw [q_put_S]; exact hkd
  have hlen' : q_len (q_putM M a k v) a = q_len M a := by unfold q_len; rw [q_put_S]
  have hcell : q_cell E.2.1 E.2.2.1 (q_putM M a k v) a = .inr (ci, (q_fs E.2.2.1 M a ci (q_len M a)).set k (q_v E.2.2.1 v)) := by
    rw [q_cell_o hkd' hc, hlen', q_fs_set (by rw [hlen]; exact hk) (by rw [(q_put_fld hf ht).1 rfl]) (fun j hj => (q_put_fld hf ht).2 hj)]
  obtain ⟨n1, n2⟩ := q_fit_ty (ad := E.2.2.1) hq hk ht hf
  show W p l e R s m args below meth c H locs ce sl Q (F0 m pc ls (q_v E.2.2.1 v :: q_rf E.2.2.1 a :: st.map (q_v E.2.2.1)))
  rw [q_rf_pos h2]
  have fin : ∀ (H1 : Heap) (locs1 : List Loc), va_P E.1 q_cl ((q_ws E M).set (a - 1) (E.2.2.1 a, .inr (ci, (q_fs E.2.2.1 M a ci (q_len M a)).set k (q_v E.2.2.1 v)))) H1 → va_D (q_A E) ((q_ws E M).set (a - 1) (E.2.2.1 a, .inr (ci, (q_fs E.2.2.1 M a ci (q_len M a)).set k (q_v E.2.2.1 v)))) → va_S (q_A E) H H1 locs1 → W p l e R s m args below meth c H1 locs1 ce sl Q (F0 m (pc + 3) ls (st.map (q_v E.2.2.1))) := by
    intro H1 locs1 hP hD hS
    rw [← hcell] at hP hD
    obtain ⟨g1, g2⟩ := q_Dy_set h1 h2 ha.1 q_put_S (fun q hq => q_put_row hq) ha.2.1 hP hD hS
    exact kk hok H1 locs1 ls ⟨g1, g2, ha.2.2.1, ha.2.2.2.1, by rw [q_put_S]; exact ha.2.2.2.2.1, ha.2.2.2.2.2⟩
  rcases hfin with hfin | ⟨hfin, hin2, hdecl⟩
  · exact va_put hx hb hts (q_cl_in ci q hq) (q_tyf ci) (q_cl_ty ci q hq) (q_cl_nm ci q hq) hown hst.1 ha.1.1 ha.1.2.1 (q_S_rf ha.2.1) (a - 1) he hq k hk hl (fun x hx' => by rw [hcls] at hx'; exact hx') hfin (q_cl_ty ci q hq k hk) n1 n2 (by rw [q_fs_len, hlen]; exact hk) hd fin
  · exact va_putF hx hb hts (q_cl_in ci q hq) (q_tyf ci) (q_cl_ty ci q hq) (q_cl_nm ci q hq) hown hst.1 ha.1.1 ha.1.2.1 (q_S_rf ha.2.1) (a - 1) he hq k hk hl (fun x hx' => by rw [hcls] at hx'; exact hx') hfin hin2 (by rw [hcls]; exact hdecl) (q_cl_ty ci q hq k hk) n1 n2 (by rw [q_fs_len, hlen]; exact hk) hd fin
end QS
