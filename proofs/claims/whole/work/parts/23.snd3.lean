/-! ===== switches, arithmetic, stack ===== -/
section QS
variable {p : Program} {l : Launch} {e : Env} {R : Room} {s : State} {m : MethodId} {args : Array Value} {below : List Frame} {meth : Method} {c : Code} {Q : State → Prop} {E : QEnv} {nL N0 : Nat} {cc : ByteArray}
variable {ok : Bool} {pc : Nat} {L : List (Option Value)} {st : List Value} {M : QM} {ce sl : Nat}
/-- the target of a table switch, as the abstract machine has it -/
def q_tsOk (pc : Nat) (d lo hi : Int) (offs : Array Int) (t0 : Nat) (ts : List (Int32 × Nat)) : Bool :=
  decide ((pc : Int) + d = (t0 : Int)) && (decide (-2147483648 ≤ lo) && (decide (hi < 2147483648) && (decide (hi - lo + 1 = offs.size) && ((List.range offs.size).all fun i => decide ((pc : Int) + offs.getD i 0 = (q_sw (Int32.ofInt (lo + i)) t0 ts : Int))) && ts.all fun q => decide (lo ≤ q.1.toInt) && decide (q.1.toInt ≤ hi))))
theorem q_sw_out {x : Int32} {d : Nat} : ∀ {ts : List (Int32 × Nat)}, (∀ q ∈ ts, x ≠ q.1) → q_sw x d ts = d := by
  intro ts
  induction ts with
  | nil => intro _; rfl
  | cons a r ih =>
    intro h
    obtain ⟨k, t⟩ := a
    show (if x = k then t else q_sw x d r) = d
    rw [if_neg (h (k, t) List.mem_cons_self)]
    exact ih (fun q hq => h q (List.mem_cons_of_mem _ hq))
theorem q_x_tsw (hx : p.tables.exec = Jvm.exec) (hb : c.code = cc) {d lo hi : Int} {offs : Array Int} {len : Nat} {x : Int32} {t0 : Nat} {ts : List (Int32 × Nat)} (hd : decode cc pc = .ok (.tableswitch d lo hi offs, len)) (hv : q_tsOk pc d lo hi offs t0 ts = true)
    (k : QW p l e R s m args below meth c Q E nL N0 (ok, q_sw x t0 ts, L, st, M, ce, sl)) : QW p l e R s m args below meth c Q E nL N0 (ok, pc, L, .int x :: st, M, ce, sl) := fun hok H locs ls ha => by
  have k1 := k hok H locs ls ha
  unfold q_tsOk at hv
  simp only [Bool.and_eq_true, decide_eq_true_eq, List.all_eq_true] at hv
  obtain ⟨h0, hlo, hhi, ⟨hsz, hof⟩, hts⟩ := hv
  by_cases hout : x.toInt < lo ∨ hi < x.toInt
  · refine lv_tableOut hx hb hd hout h0 ?_
    rw [q_sw_out (fun q hq he => ?_)] at k1
    · exact k1
    · have := hts q hq
      rw [he] at hout
      omega
  · have hin1 : ¬ x.toInt < lo := fun h => hout (Or.inl h)
    have hin2 : ¬ hi < x.toInt := fun h => hout (Or.inr h)
    have hi2 : (x.toInt - lo).toNat < offs.size := by omega
    refine lv_tableIn hx hb hd hin1 hin2 (off := offs.getD (x.toInt - lo).toNat 0) ?_ (tgt := q_sw x t0 ts) ?_ k1
    · rw [Array.getD_eq_getD_getElem?, Array.getElem?_eq_getElem hi2]; rfl
    · have h1 := hof (x.toInt - lo).toNat (List.mem_range.mpr hi2)
      rw [h1]
      have e1 : lo + ((x.toInt - lo).toNat : Int) = x.toInt := by omega
      rw [e1, Int32.ofInt_toInt]
def q_lkOk (pc : Nat) (d : Int) (ps : Array (Int × Int)) (t0 : Nat) (ts : List (Int32 × Nat)) : Bool :=
  decide ((pc : Int) + d = (t0 : Int)) && ((ps.toList.zip (ps.toList.drop 1)).all (fun (a, next) => a.1 < next.1) && (decide (ps.toList.length = ts.length) && ((ps.toList.zip ts).all fun q => decide (Int32.ofInt q.1.1 = q.2.1) && (decide (q.2.1.toInt = q.1.1) && decide ((pc : Int) + q.1.2 = (q.2.2 : Int))))))
theorem q_lk_off {pc : Nat} {d : Int} {t0 : Nat} {x : Int32} (h0 : (pc : Int) + d = (t0 : Int)) : ∀ (ps : List (Int × Int)) (ts : List (Int32 × Nat)), ps.length = ts.length → ((ps.zip ts).all fun q => decide (Int32.ofInt q.1.1 = q.2.1) && (decide (q.2.1.toInt = q.1.1) && decide ((pc : Int) + q.1.2 = (q.2.2 : Int)))) = true → (pc : Int) + Op.lookupswitch.offset ps d x.toInt = (q_sw x t0 ts : Int) := by
  intro ps
  induction ps with
  | nil =>
    intro ts hl _
    cases ts with
    | nil => exact h0
    | cons _ _ => cases hl
  | cons a r ih =>
    intro ts hl h
    cases ts with
    | nil => cases hl
    | cons b r2 =>
      obtain ⟨k, t⟩ := b
      simp only [List.zip_cons_cons, List.all_cons, Bool.and_eq_true, decide_eq_true_eq] at h
      obtain ⟨⟨h1, h2, h3⟩, h4⟩ := h
      have ih1 := ih r2 (by simpa using hl) h4
      show (pc : Int) + Op.lookupswitch.offset (a :: r) d x.toInt = ((if x = k then t else q_sw x t0 r2 : Nat) : Int)
      obtain ⟨a1, a2⟩ := a
      by_cases hk : x = k
      · rw [if_pos hk]
        have : x.toInt = a1 := by rw [hk]; exact h2
        unfold Op.lookupswitch.offset
        first
          | (rw [if_pos this.symm]; exact h3)
          | (simp [this]; exact h3)
      · rw [if_neg hk]
        have : ¬ a1 = x.toInt := fun he => hk (by rw [← h1, he, Int32.ofInt_toInt])
        have h5 : Op.lookupswitch.offset ((a1, a2) :: r) d x.toInt = Op.lookupswitch.offset r d x.toInt := by
          conv => lhs; unfold Op.lookupswitch.offset
          first
            | rw [if_neg this]
            | simp [this]
        rw [h5]; exact ih1
theorem q_x_lsw (hx : p.tables.exec = Jvm.exec) (hb : c.code = cc) {d : Int} {ps : Array (Int × Int)} {len : Nat} {x : Int32} {t0 : Nat} {ts : List (Int32 × Nat)} (hd : decode cc pc = .ok (.lookupswitch d ps, len)) (hv : q_lkOk pc d ps t0 ts = true)
    (k : QW p l e R s m args below meth c Q E nL N0 (ok, q_sw x t0 ts, L, st, M, ce, sl)) : QW p l e R s m args below meth c Q E nL N0 (ok, pc, L, .int x :: st, M, ce, sl) := fun hok H locs ls ha => by
  unfold q_lkOk at hv
  rw [Bool.and_eq_true, Bool.and_eq_true, Bool.and_eq_true] at hv
  obtain ⟨h0, h1, h2, h3⟩ := hv
  exact lv_lookup hx hb hd h1 rfl (q_lk_off (of_decide_eq_true h0) _ _ (of_decide_eq_true h2) h3) (k hok H locs ls ha)
theorem q_x_bin (hx : p.tables.exec = Jvm.exec) (hb : c.code = cc) {ins : Instr} {f : Int32 → Int32 → Int32} (hf : q_bin ins = some f) {x y : Int32} (hd : decode cc pc = .ok (ins, 1)) (k : QW p l e R s m args below meth c Q E nL N0 (ok, pc + 1, L, .int (f x y) :: st, M, ce, sl)) : QW p l e R s m args below meth c Q E nL N0 (ok, pc, L, .int y :: .int x :: st, M, ce, sl) := fun hok H locs ls ha => by
  have k1 := k hok H locs ls ha
  cases ins <;> simp only [q_bin, Option.some.injEq, reduceCtorEq] at hf <;> subst hf
  · exact lv_iadd hx hb hd k1
  · exact lv_iand hx hb hd k1
  · exact lv_imul hx hb hd k1
  · exact lv_ior hx hb hd k1
  · exact lv_ishl hx hb hd k1
  · exact lv_ishr hx hb hd k1
  · exact lv_isub hx hb hd k1
  · exact lv_iushr hx hb hd rfl k1
  · exact lv_ixor hx hb hd k1
theorem q_x_binL (hx : p.tables.exec = Jvm.exec) (hb : c.code = cc) {ins : Instr} {f : Int64 → Int64 → Int64} (hf : q_binL ins = some f) {x y : Int64} (hd : decode cc pc = .ok (ins, 1)) (k : QW p l e R s m args below meth c Q E nL N0 (ok, pc + 1, L, .long (f x y) :: st, M, ce, sl)) : QW p l e R s m args below meth c Q E nL N0 (ok, pc, L, .long y :: .long x :: st, M, ce, sl) := fun hok H locs ls ha => by
  have k1 := k hok H locs ls ha
  cases ins <;> simp only [q_binL, Option.some.injEq, reduceCtorEq] at hf <;> subst hf
  · exact lv_ladd hx hb hd k1
  · exact lv_land hx hb hd k1
  · exact lv_lmul hx hb hd k1
  · exact lv_lor hx hb hd k1
  · exact lv_lsub hx hb hd k1
theorem q_x_idiv (hx : p.tables.exec = Jvm.exec) (hb : c.code = cc) {x y : Int32} (hd : decode cc pc = .ok (.idiv, 1)) (hy : ¬ y = 0) (k : QW p l e R s m args below meth c Q E nL N0 (ok, pc + 1, L, .int (x / y) :: st, M, ce, sl)) : QW p l e R s m args below meth c Q E nL N0 (ok, pc, L, .int y :: .int x :: st, M, ce, sl) := fun hok H locs ls ha => lv_idiv hx hb hd hy (k hok H locs ls ha)
theorem q_x_irem (hx : p.tables.exec = Jvm.exec) (hb : c.code = cc) {x y : Int32} (hd : decode cc pc = .ok (.irem, 1)) (hy : ¬ y = 0) (k : QW p l e R s m args below meth c Q E nL N0 (ok, pc + 1, L, .int (x % y) :: st, M, ce, sl)) : QW p l e R s m args below meth c Q E nL N0 (ok, pc, L, .int y :: .int x :: st, M, ce, sl) := fun hok H locs ls ha => lv_irem hx hb hd hy (by have k1 := k hok H locs ls ha; rw [← irem_eq_mod] at k1; exact k1)
theorem q_x_ineg (hx : p.tables.exec = Jvm.exec) (hb : c.code = cc) {x : Int32} (hd : decode cc pc = .ok (.ineg, 1)) (k : QW p l e R s m args below meth c Q E nL N0 (ok, pc + 1, L, .int (-x) :: st, M, ce, sl)) : QW p l e R s m args below meth c Q E nL N0 (ok, pc, L, .int x :: st, M, ce, sl) := fun hok H locs ls ha => lv_ineg hx hb hd (k hok H locs ls ha)
theorem q_x_i2b (hx : p.tables.exec = Jvm.exec) (hb : c.code = cc) {x : Int32} (hd : decode cc pc = .ok (.i2b, 1)) (k : QW p l e R s m args below meth c Q E nL N0 (ok, pc + 1, L, .int x.toInt8.toInt32 :: st, M, ce, sl)) : QW p l e R s m args below meth c Q E nL N0 (ok, pc, L, .int x :: st, M, ce, sl) := fun hok H locs ls ha => lv_i2b hx hb hd rfl (k hok H locs ls ha)
theorem q_x_i2l (hx : p.tables.exec = Jvm.exec) (hb : c.code = cc) {x : Int32} (hd : decode cc pc = .ok (.i2l, 1)) (k : QW p l e R s m args below meth c Q E nL N0 (ok, pc + 1, L, .long x.toInt64 :: st, M, ce, sl)) : QW p l e R s m args below meth c Q E nL N0 (ok, pc, L, .int x :: st, M, ce, sl) := fun hok H locs ls ha => lv_i2l hx hb hd rfl (k hok H locs ls ha)
theorem q_x_l2i (hx : p.tables.exec = Jvm.exec) (hb : c.code = cc) {x : Int64} (hd : decode cc pc = .ok (.l2i, 1)) (k : QW p l e R s m args below meth c Q E nL N0 (ok, pc + 1, L, .int x.toInt32 :: st, M, ce, sl)) : QW p l e R s m args below meth c Q E nL N0 (ok, pc, L, .long x :: st, M, ce, sl) := fun hok H locs ls ha => lv_l2i hx hb hd rfl (k hok H locs ls ha)
theorem q_x_lshl (hx : p.tables.exec = Jvm.exec) (hb : c.code = cc) {x : Int64} {y : Int32} (hd : decode cc pc = .ok (.lshl, 1)) (k : QW p l e R s m args below meth c Q E nL N0 (ok, pc + 1, L, .long (x <<< (y.toInt64 &&& 63)) :: st, M, ce, sl)) : QW p l e R s m args below meth c Q E nL N0 (ok, pc, L, .int y :: .long x :: st, M, ce, sl) := fun hok H locs ls ha => lv_lshl hx hb hd rfl (k hok H locs ls ha)
theorem q_x_lshr (hx : p.tables.exec = Jvm.exec) (hb : c.code = cc) {x : Int64} {y : Int32} (hd : decode cc pc = .ok (.lshr, 1)) (k : QW p l e R s m args below meth c Q E nL N0 (ok, pc + 1, L, .long (x >>> (y.toInt64 &&& 63)) :: st, M, ce, sl)) : QW p l e R s m args below meth c Q E nL N0 (ok, pc, L, .int y :: .long x :: st, M, ce, sl) := fun hok H locs ls ha => lv_lshr hx hb hd rfl (k hok H locs ls ha)
theorem q_x_lushr (hx : p.tables.exec = Jvm.exec) (hb : c.code = cc) {x : Int64} {y : Int32} (hd : decode cc pc = .ok (.lushr, 1)) (k : QW p l e R s m args below meth c Q E nL N0 (ok, pc + 1, L, .long (x.toUInt64 >>> (y.toInt64.toUInt64 &&& Int64.toUInt64 63)).toInt64 :: st, M, ce, sl)) : QW p l e R s m args below meth c Q E nL N0 (ok, pc, L, .int y :: .long x :: st, M, ce, sl) := fun hok H locs ls ha => lv_lushr hx hb hd rfl (k hok H locs ls ha)
theorem q_x_lcmp (hx : p.tables.exec = Jvm.exec) (hb : c.code = cc) {x y : Int64} (hd : decode cc pc = .ok (.lcmp, 1)) (k : QW p l e R s m args below meth c Q E nL N0 (ok, pc + 1, L, .int (lg_cmp x y) :: st, M, ce, sl)) : QW p l e R s m args below meth c Q E nL N0 (ok, pc, L, .long y :: .long x :: st, M, ce, sl) := fun hok H locs ls ha => W.lcmp hx hb hd (k hok H locs ls ha)
theorem q_x_dup (hx : p.tables.exec = Jvm.exec) (hb : c.code = cc) {v : Value} (hd : decode cc pc = .ok (.dup, 1)) (hv : v.category = 1) (k : QW p l e R s m args below meth c Q E nL N0 (ok, pc + 1, L, v :: v :: st, M, ce, sl)) : QW p l e R s m args below meth c Q E nL N0 (ok, pc, L, v :: st, M, ce, sl) := fun hok H locs ls ha => lv_dup hx hb hd (by rw [q_v_cat]; exact hv) (k hok H locs ls ha)
theorem q_x_dup2 (hx : p.tables.exec = Jvm.exec) (hb : c.code = cc) {v w : Value} (hd : decode cc pc = .ok (.dup2, 1)) (hv : v.category = 1) (hw : w.category = 1) (k : QW p l e R s m args below meth c Q E nL N0 (ok, pc + 1, L, v :: w :: v :: w :: st, M, ce, sl)) : QW p l e R s m args below meth c Q E nL N0 (ok, pc, L, v :: w :: st, M, ce, sl) := fun hok H locs ls ha => lv_dup2_11 hx hb hd (by rw [q_v_cat]; exact hv) (by rw [q_v_cat]; exact hw) (k hok H locs ls ha)
theorem q_x_pop (hx : p.tables.exec = Jvm.exec) (hb : c.code = cc) {v : Value} (hd : decode cc pc = .ok (.pop, 1)) (hv : v.category = 1) (k : QW p l e R s m args below meth c Q E nL N0 (ok, pc + 1, L, st, M, ce, sl)) : QW p l e R s m args below meth c Q E nL N0 (ok, pc, L, v :: st, M, ce, sl) := fun hok H locs ls ha => lv_pop hx hb hd (by rw [q_v_cat]; exact hv) (k hok H locs ls ha)
end QS
