def R_law : String := "ScanBenchLaw"
def lw_P (b : Addr) (xs : List Int32) (args : Array Value) (s : State) : Prop := args = #[.ref b] ∧ s.IntsAt b xs ∧ xs.length ≤ 3072 ∧ (Jvm.Cond.and given_1 narrow_1).before args s = true
def lw_Q (_ : Array Value) (s : State) (o : Outcome) (t : State) : Prop := o = .returned (some (.int 1)) ∧ Framed s o t [] 600000 7302250
def lw_Z (below : List Frame) (a : Array Value) (s : State) : State → Prop := fun t => ∃ o, t.status = .running ∧ Ended t below o ∧ lw_Q a s o t
/-- the law's own end, with 1 on the stack, nothing written that was there before, its room as the claim has it -/
theorem lw_ret {p : Program} {l : Launch} {e : Env} {s : State} {m : MethodId} {below : List Frame} {meth : Method} {c : Code} {b : Nat} (hx : p.tables.exec = Jvm.exec) (hb : c.code = code) (hr : meth.sig.returnType = ret) (hlocks : meth.locks = false) {pc : Nat} {H : Heap} {ls : Array Slot} (hdg : decode code pc = .ok (.ireturn, 1)) : W p l e room_1 s m #[Value.ref b] below meth c H [] 600000 7302250 (lw_Z below #[Value.ref b] s) (F0 m pc ls [.int 1]) := by
  intro T hT X
  obtain ⟨fs, hret, hrun, hended, hW, hframe⟩ := X.leave (v := some (.int 1)) (hlocks := hlocks) (fun h => by rw [hr] at h; cases h)
  have hmeth' : T.vm.method? m = some meth := X.method'
  refine ⟨T.setFrames fs, ?_, .returned (some (.int 1)), hrun, hended, rfl, ⟨_, rfl⟩, hW, hframe⟩
  jvm_step X.here [X.here.top, hx, hb, hdg, hmeth', hr, ret, narrow_b1]
  (try refine ⟨rfl, ?_⟩); (try refine ⟨rfl, ?_⟩)
  first | (intro acts; rw [hret _ acts rfl rfl rfl]) | rw [hret _ _ rfl rfl rfl]
  exact Steps.refl _
/-- what holds at the law's entry: the machine, the code, the tables' words (any of lw_tbl by 'hts w (by decide +kernel)'), the script of L ints xs at the cell b, what the Statement gives of the start (any of its parts by flat_of_before) -/
def lw_At (p : Program) (s : State) (m : MethodId) (meth : Method) (c : Code) (b L : Nat) (xs : Nat → Int32) : Prop :=
  p.tables.exec = Jvm.exec ∧ c.code = code ∧ meth.sig.returnType = ret ∧ c.maxLocals = 4 ∧ s.vm.findClass R_law = some m.cls ∧ (∀ w ∈ lw_tbl, w.before #[Value.ref b] s = true) ∧ va_X b L xs s s.heap ∧ b < s.heap.size ∧ meth.locks = false ∧ (Jvm.Cond.and given_1 narrow_1).before #[Value.ref b] s = true
/-! ===== the law: its start (by program, over hand-written rows) ===== -/
def q_t0 : List Int32 := [1, 0, 1, 2, 3, 9, 4, 5, 4, 5, 6, 8, 6, 7, 4, 8, 1, 2, 10, 0, 11, 12, 11, 12, 13, 15, 13, 14, 11, 15, 1, 2]
def q_t1 : List Int32 := [0, 0, 0, 0, 0, 1, 1, 1, 1, 2, 2, 2, 3, 3, 4]
def q_t2 : List Int32 := [1, 2, 3, 4, 5, 2, 3, 4, 5, 3, 4, 5, 4, 5, 5]
def q_t3 : List Int32 := [0, 2, 2, 3, 3, 3, 3]
def q_I0 (xs : Nat → Int32) (p k : Nat) : Int32 := cond (Nat.beq p 1000) (q_t0.getD k 0) (cond (Nat.beq p 1001) (q_t1.getD k 0) (cond (Nat.beq p 1002) (q_t2.getD k 0) (cond (Nat.beq p 1003) (q_t3.getD k 0) (cond (Nat.beq p 1004) (xs k) 0))))
def q_S00 (L p : Nat) : Nat × Nat := cond (Nat.beq p 1000) (30, 32) (cond (Nat.beq p 1001) (30, 15) (cond (Nat.beq p 1002) (30, 15) (cond (Nat.beq p 1003) (30, 7) (cond (Nat.beq p 1004) (30, L) (cond (Nat.beq p 1010) (40, 0) (0, 0))))))
def q_M0 (L : Nat) (xs : Nat → Int32) : QM := (q_I0 xs, (fun _ _ => 0), (fun _ _ => 0), q_S00 L, 0)
set_option maxRecDepth 20000 in
theorem q_known {args : Array Value} {s : State} (htb : ∀ w ∈ tb, w.before args s = true) : ∀ c : Nat, ∃ x : ClassId × (Nat → Nat), ∀ q : vw_C, q_cl[c]? = some q → u_Kn s q.1 q.2.1 q.2.2 x.1 x.2 := by
  intro c
  match c with
  | 0 =>
    obtain ⟨cC, iS, h⟩ := u_known (ws := tb) htb (q_cl_in 0 _ rfl) (htb _ (tb_1 32 rfl rfl))
    exact ⟨(cC, iS), fun q hq => by cases hq; exact h⟩
  | 1 =>
    obtain ⟨cC, iS, h⟩ := u_known (ws := tb) htb (q_cl_in 1 _ rfl) (htb _ (tb_2 66 rfl rfl))
    exact ⟨(cC, iS), fun q hq => by cases hq; exact h⟩
  | 2 =>
    obtain ⟨cC, iS, h⟩ := u_known (ws := tb) htb (q_cl_in 2 _ rfl) (htb _ (tb_1 38 rfl rfl))
    exact ⟨(cC, iS), fun q hq => by cases hq; exact h⟩
  | 3 =>
    obtain ⟨cC, iS, h⟩ := u_known (ws := tb) htb (q_cl_in 3 _ rfl) (htb _ (tb_1 79 rfl rfl))
    exact ⟨(cC, iS), fun q hq => by cases hq; exact h⟩
  | 4 =>
    obtain ⟨cC, iS, h⟩ := u_known (ws := tb) htb (q_cl_in 4 _ rfl) (htb _ (tb_2 136 rfl rfl))
    exact ⟨(cC, iS), fun q hq => by cases hq; exact h⟩
  | 5 =>
    obtain ⟨cC, iS, h⟩ := u_known (ws := tb) htb (q_cl_in 5 _ rfl) (htb _ (tb_2 164 rfl rfl))
    exact ⟨(cC, iS), fun q hq => by cases hq; exact h⟩
  | 6 =>
    obtain ⟨cC, iS, h⟩ := u_known (ws := tb) htb (q_cl_in 6 _ rfl) (htb _ (tb_2 185 rfl rfl))
    exact ⟨(cC, iS), fun q hq => by cases hq; exact h⟩
  | 7 =>
    obtain ⟨cC, iS, h⟩ := u_known (ws := tb) htb (q_cl_in 7 _ rfl) (htb _ (tb_2 110 rfl rfl))
    exact ⟨(cC, iS), fun q hq => by cases hq; exact h⟩
  | 8 =>
    obtain ⟨cC, iS, h⟩ := u_known (ws := tb) htb (q_cl_in 8 _ rfl) (htb _ (tb_1 193 rfl rfl))
    exact ⟨(cC, iS), fun q hq => by cases hq; exact h⟩
  | 9 =>
    obtain ⟨cC, iS, h⟩ := u_known (ws := tb) htb (q_cl_in 9 _ rfl) (htb _ (tb_2 53 rfl rfl))
    exact ⟨(cC, iS), fun q hq => by cases hq; exact h⟩
  | 10 =>
    obtain ⟨cC, iS, h⟩ := u_known (ws := tb) htb (q_cl_in 10 _ rfl) (htb _ (tb_1 24 rfl rfl))
    exact ⟨(cC, iS), fun q hq => by cases hq; exact h⟩
  | 11 =>
    obtain ⟨cC, iS, h⟩ := u_known (ws := tb) htb (q_cl_in 11 _ rfl) (htb _ (tb_6 208 rfl rfl))
    exact ⟨(cC, iS), fun q hq => by cases hq; exact h⟩
  | c + 12 => exact ⟨(0, fun _ => 0), fun q hq => by simp [q_cl] at hq⟩
theorem q_arrk {args : Array Value} {s : State} {ty : FieldType} (h : (Cond.arrayClass ty).before args s = true) : ∃ cA : ClassId, ArrOfT s cA ty ∧ s.vm.findClass ("[" ++ ty.toString) = some cA := by
  obtain ⟨cA, kA, comp, h1, h2, h3⟩ := Cond.arrayClass_spec h
  exact ⟨cA, fun n z => ⟨fun k h => (by cases h), kA, h2, comp, h3⟩, h1⟩
theorem q_memr {l : List Cond} {b n : Nat} {f : Nat → Cond} (h : (l.drop b).take n = (List.range n).map f) : ∀ j : Nat, j < n → f j ∈ l := fun j hj => by
  have k : f j ∈ (l.drop b).take n := by rw [h]; exact List.mem_map.mpr ⟨j, List.mem_range.mpr hj, rfl⟩
  exact List.mem_of_mem_drop (List.mem_of_mem_take k)
set_option maxRecDepth 20000 in
theorem q_stc_0 {args : Array Value} {s : State} {A : Nat → Prop} (hts : ∀ w ∈ lw_tbl, w.before args s = true) (hs : ∀ w ∈ flatC (Jvm.Cond.and given_1 narrow_1), w.before args s = true) (hA : ∀ a : Nat, a < s.heap.size → ¬ A a) : ∃ t : Nat, va_Z "ScanBench$Ways" "NEXT" "[I" (.ref t) A s s.heap ∧ va_T .int t 32 (fun k => .int (q_t0.getD k 0)) A s s.heap := by
  have hel : ∀ j : Nat, j < 32 → (Cond.eq (.elem (Term.static "ScanBench$Ways" "NEXT" "[I") (.int (Int32.ofNat j))) (.int (q_t0.getD j 0))) ∈ flatC (Jvm.Cond.and given_1 narrow_1) := q_memr (b := 48) rfl
  obtain ⟨t, h1, h2⟩ := va_Tof (tm := (Term.static "ScanBench$Ways" "NEXT" "[I")) (ty := .int) (N := 32) (f := fun k => .int (q_t0.getD k 0)) (A := A) (by decide) (hs _ (List.mem_of_getElem? (i := 46) rfl)) (va_eqt (hs _ (List.mem_of_getElem? (i := 47) rfl))) (fun j hj => va_eqt (hs _ (hel j hj))) hA
  exact ⟨t, va_Zof (hts _ (tb_l4 (List.mem_of_getElem? (i := 166) rfl))) (hts _ (tb_l1 (List.mem_of_getElem? (i := 10) rfl))) h1 hA, h2⟩
set_option maxRecDepth 20000 in
theorem q_stc_1 {args : Array Value} {s : State} {A : Nat → Prop} (hts : ∀ w ∈ lw_tbl, w.before args s = true) (hs : ∀ w ∈ flatC (Jvm.Cond.and given_1 narrow_1), w.before args s = true) (hA : ∀ a : Nat, a < s.heap.size → ¬ A a) : ∃ t : Nat, va_Z "ScanBench$Faults" "LESSER" "[I" (.ref t) A s s.heap ∧ va_T .int t 15 (fun k => .int (q_t1.getD k 0)) A s s.heap := by
  have hel : ∀ j : Nat, j < 15 → (Cond.eq (.elem (Term.static "ScanBench$Faults" "LESSER" "[I") (.int (Int32.ofNat j))) (.int (q_t1.getD j 0))) ∈ flatC (Jvm.Cond.and given_1 narrow_1) := q_memr (b := 12) rfl
  obtain ⟨t, h1, h2⟩ := va_Tof (tm := (Term.static "ScanBench$Faults" "LESSER" "[I")) (ty := .int) (N := 15) (f := fun k => .int (q_t1.getD k 0)) (A := A) (by decide) (hs _ (List.mem_of_getElem? (i := 10) rfl)) (va_eqt (hs _ (List.mem_of_getElem? (i := 11) rfl))) (fun j hj => va_eqt (hs _ (hel j hj))) hA
  exact ⟨t, va_Zof (hts _ (tb_l3 (List.mem_of_getElem? (i := 168) rfl))) (hts _ (tb_l1 (List.mem_of_getElem? (i := 3) rfl))) h1 hA, h2⟩
set_option maxRecDepth 20000 in
theorem q_stc_2 {args : Array Value} {s : State} {A : Nat → Prop} (hts : ∀ w ∈ lw_tbl, w.before args s = true) (hs : ∀ w ∈ flatC (Jvm.Cond.and given_1 narrow_1), w.before args s = true) (hA : ∀ a : Nat, a < s.heap.size → ¬ A a) : ∃ t : Nat, va_Z "ScanBench$Faults" "OTHER" "[I" (.ref t) A s s.heap ∧ va_T .int t 15 (fun k => .int (q_t2.getD k 0)) A s s.heap := by
  have hel : ∀ j : Nat, j < 15 → (Cond.eq (.elem (Term.static "ScanBench$Faults" "OTHER" "[I") (.int (Int32.ofNat j))) (.int (q_t2.getD j 0))) ∈ flatC (Jvm.Cond.and given_1 narrow_1) := q_memr (b := 30) rfl
  obtain ⟨t, h1, h2⟩ := va_Tof (tm := (Term.static "ScanBench$Faults" "OTHER" "[I")) (ty := .int) (N := 15) (f := fun k => .int (q_t2.getD k 0)) (A := A) (by decide) (hs _ (List.mem_of_getElem? (i := 28) rfl)) (va_eqt (hs _ (List.mem_of_getElem? (i := 29) rfl))) (fun j hj => va_eqt (hs _ (hel j hj))) hA
  exact ⟨t, va_Zof (hts _ (tb_l3 (List.mem_of_getElem? (i := 170) rfl))) (hts _ (tb_l1 (List.mem_of_getElem? (i := 3) rfl))) h1 hA, h2⟩
set_option maxRecDepth 20000 in
theorem q_stc_3 {args : Array Value} {s : State} {A : Nat → Prop} (hts : ∀ w ∈ lw_tbl, w.before args s = true) (hs : ∀ w ∈ flatC (Jvm.Cond.and given_1 narrow_1), w.before args s = true) (hA : ∀ a : Nat, a < s.heap.size → ¬ A a) : ∃ t : Nat, va_Z "ScanBench$Codes" "COUNT_STEPS" "[I" (.ref t) A s s.heap ∧ va_T .int t 7 (fun k => .int (q_t3.getD k 0)) A s s.heap := by
  have hel : ∀ j : Nat, j < 7 → (Cond.eq (.elem (Term.static "ScanBench$Codes" "COUNT_STEPS" "[I") (.int (Int32.ofNat j))) (.int (q_t3.getD j 0))) ∈ flatC (Jvm.Cond.and given_1 narrow_1) := q_memr (b := 83) rfl
  obtain ⟨t, h1, h2⟩ := va_Tof (tm := (Term.static "ScanBench$Codes" "COUNT_STEPS" "[I")) (ty := .int) (N := 7) (f := fun k => .int (q_t3.getD k 0)) (A := A) (by decide) (hs _ (List.mem_of_getElem? (i := 81) rfl)) (va_eqt (hs _ (List.mem_of_getElem? (i := 82) rfl))) (fun j hj => va_eqt (hs _ (hel j hj))) hA
  exact ⟨t, va_Zof (hts _ (tb_l5 (List.mem_of_getElem? (i := 106) rfl))) (hts _ (tb_l1 (List.mem_of_getElem? (i := 21) rfl))) h1 hA, h2⟩
set_option maxRecDepth 20000 in
theorem q_stx {args : Array Value} {s : State} {A : Nat → Prop} (hts : ∀ w ∈ lw_tbl, w.before args s = true) (hs : ∀ w ∈ flatC (Jvm.Cond.and given_1 narrow_1), w.before args s = true) (hA : ∀ a : Nat, a < s.heap.size → ¬ A a) : ∃ a v : Nat, vk_S 1 [102] [q_tx] (fun _ => a) (fun _ => v) A s s.heap ∧ vk_R "ScanBench$Reader" 59 q_ts a s := by
  have hel : ∀ j : Nat, j < 102 → (Cond.eq (.elem (.field (Term.string "ScanBench$Reader" 59) "java/lang/String" "value" "[B") (.int (Int32.ofNat j))) (.int (q_tx.getD j 0))) ∈ flatC (Jvm.Cond.and given_1 narrow_1) := q_memr (b := 94) rfl
  have g1 : ∀ i : Nat, i < 1 → ([102] : List Nat).getD i 0 < 2 ^ 31 := by decide
  have g2 : ∀ i : Nat, i < 1 → (Cond.eq (.length (.field (Term.string "ScanBench$Reader" 59) "java/lang/String" "value" "[B")) (.int (Int32.ofNat (([102] : List Nat).getD i 0)))).before args s = true := fun i hi => by
    have : i = 0 := by omega
    subst this
    exact hs _ (List.mem_of_getElem? (i := 93) rfl)
  have g3 : ∀ i : Nat, i < 1 → ∀ j : Nat, j < ([102] : List Nat).getD i 0 → (Cond.eq (.elem (.field (Term.string "ScanBench$Reader" 59) "java/lang/String" "value" "[B") (.int (Int32.ofNat j))) (.int (([q_tx].getD i []).getD j 0))).before args s = true := fun i hi j hj => by
    have : i = 0 := by omega
    subst this
    exact hs _ (hel j hj)
  obtain ⟨adK, adV, h1, h2⟩ := vk_Sof (args := args) (s := s) (N := 1) (tm := fun _ => (Term.string "ScanBench$Reader" 59)) (len := [102]) (byt := [q_tx]) (A := A) g1 (fun i hi => hs _ (List.mem_of_getElem? (i := 90) rfl)) (fun i hi => hs _ (List.mem_of_getElem? (i := 91) rfl)) (fun i hi => hs _ (List.mem_of_getElem? (i := 92) rfl)) g2 g3 (fun i j hi hj hij => absurd (show i = j by omega) hij) hA
  refine ⟨adK 0, adV 0, ⟨fun i hi => ?_, fun i j hi hj _ => by omega⟩, vk_R.of (hts _ (tb_l1 (List.mem_of_getElem? (i := 198) rfl))) ?_⟩
  · have : i = 0 := by omega
    subst this
    exact h1.1 0 hi
  · have := h2 0 (by omega)
    exact this
set_option maxRecDepth 20000 in
theorem q_start {p : Program} {s : State} {m : MethodId} {meth : Method} {c : Code} {b L : Nat} {xs : Nat → Int32} (C0 : lw_At p s m meth c b L xs) : ∃ E : QEnv, q_St E s s.heap ∧ E.2.2.2.1 = s.heap.size ∧ E.2.2.1 1004 = b ∧ E.2.2.2.2.1 = q_I0 xs ∧ E.2.2.2.2.2 = q_S00 L := by
  obtain ⟨hx, hb, hret, hml, hown, hts, hX, hbl, hlocks, hgv⟩ := C0
  have htb : ∀ w ∈ tb, w.before #[Value.ref b] s = true := fun w hw => hts w (List.mem_filter.mp hw).1
  have hs := flat_of_before _ hgv
  have hA : ∀ a : Nat, a < s.heap.size → ¬ (fun q : Nat => s.heap.size ≤ q) a := fun a h => Nat.not_le.mpr h
  obtain ⟨kn, hkn⟩ := Classical.axiomOfChoice (q_known htb)
  obtain ⟨cB, b1, b2⟩ := q_arrk (htb _ q_arr.1)
  obtain ⟨cI, i1, i2⟩ := q_arrk (htb _ q_arr.2.1)
  obtain ⟨cJ, j1, j2⟩ := q_arrk (htb _ q_arr.2.2.1)
  obtain ⟨cZ, z1, z2⟩ := q_arrk (htb _ q_arr.2.2.2)
  obtain ⟨t0, t0z, t0t⟩ := q_stc_0 hts hs hA
  obtain ⟨t1, t1z, t1t⟩ := q_stc_1 hts hs hA
  obtain ⟨t2, t2z, t2t⟩ := q_stc_2 hts hs hA
  obtain ⟨t3, t3z, t3t⟩ := q_stc_3 hts hs hA
  obtain ⟨ta, tv, tS, tR⟩ := q_stx hts hs hA
  have hcs : va_Z "java/lang/String" "COMPACT_STRINGS" "Z" (.int 1) (fun q : Nat => s.heap.size ≤ q) s s.heap := va_Zof (hts _ (tb_l1 (List.mem_of_getElem? (i := 208) rfl))) (hts _ (tb_l1 (List.mem_of_getElem? (i := 6) rfl))) (va_eqt (hs _ (by decide +kernel))) hA
  have hpf : ∃ t : Nat, va_Z "jdk/internal/util/Preconditions" "SIOOBE_FORMATTER" "Ljava/util/function/BiFunction;" .null (fun q : Nat => s.heap.size ≤ q) s s.heap ∨ va_Z "jdk/internal/util/Preconditions" "SIOOBE_FORMATTER" "Ljava/util/function/BiFunction;" (.ref t) (fun q : Nat => s.heap.size ≤ q) s s.heap := by
    rcases va_Zqof (hts _ (tb_l1 (List.mem_of_getElem? (i := 224) rfl))) (hts _ (tb_l1 (List.mem_of_getElem? (i := 8) rfl))) (hs _ (by decide +kernel)) hA with h | ⟨t, h⟩
    · exact ⟨0, Or.inl h⟩
    · exact ⟨t, Or.inr h⟩
  obtain ⟨tf, hpf⟩ := hpf
  have hscr : va_T .int b L (fun k => .int (xs k)) (fun q : Nat => s.heap.size ≤ q) s s.heap := by
    obtain ⟨scr, g1, g2, g3, g4, g5⟩ := hX
    exact ⟨scr, g1, g2, g3, by omega, by rw [g4], g5, hA b hbl⟩
  refine ⟨((fun c => (kn c).1, fun c => (kn c).2), (fun k => if k = 21 then cB else if k = 22 then cI else if k = 23 then cJ else cZ), (fun p => if p = 1000 then t0 else if p = 1001 then t1 else if p = 1002 then t2 else if p = 1003 then t3 else if p = 1004 then b else if p = 1010 then ta else if p = 1011 then tv else if p = 1012 then tf else s.heap.size + p - 1), s.heap.size, q_I0 xs, q_S00 L), ⟨⟨fun c q hq => hkn c q hq, ?_⟩, ?_, ?_, ?_, ?_, ?_⟩, rfl, rfl, rfl, rfl⟩
  · intro k q hk
    match k, hk with
    | 0, hk => cases hk; exact ⟨b1, b2⟩
    | 1, hk => cases hk; exact ⟨i1, i2⟩
    | 2, hk => cases hk; exact ⟨j1, j2⟩
    | 3, hk => cases hk; exact ⟨z1, z2⟩
    | k + 4, hk => simp [q_tys] at hk
  · intro p hp
    by_cases h0 : p = 1000
    · subst h0; exact Or.inr (Or.inl ⟨rfl, t0t⟩)
    by_cases h1 : p = 1001
    · subst h1; exact Or.inr (Or.inl ⟨rfl, t1t⟩)
    by_cases h2 : p = 1002
    · subst h2; exact Or.inr (Or.inl ⟨rfl, t2t⟩)
    by_cases h3 : p = 1003
    · subst h3; exact Or.inr (Or.inl ⟨rfl, t3t⟩)
    by_cases h4 : p = 1004
    · subst h4; exact Or.inr (Or.inl ⟨rfl, hscr⟩)
    by_cases h5 : p = 1010
    · subst h5; exact Or.inr (Or.inr ⟨rfl, rfl⟩)
    · refine Or.inl ?_
      have hb : ∀ n, p ≠ n → Nat.beq p n = false := fun n h => by
        cases hbb : Nat.beq p n with
        | false => rfl
        | true => exact absurd (Nat.eq_of_beq_eq_true hbb) h
      show (q_S00 L p).1 = 0
      unfold q_S00
      rw [hb _ h0, hb _ h1, hb _ h2, hb _ h3, hb _ h4, hb _ h5]
      rfl
  · intro x hx
    unfold q_stat at hx
    simp only [List.mem_cons, List.not_mem_nil, or_false] at hx
    rcases hx with h | h | h | h <;> subst h
    · exact t0z
    · exact t1z
    · exact t2z
    · exact t3z
  · intro p h1 h2
    show (if p = 1000 then t0 else if p = 1001 then t1 else if p = 1002 then t2 else if p = 1003 then t3 else if p = 1004 then b else if p = 1010 then ta else if p = 1011 then tv else if p = 1012 then tf else s.heap.size + p - 1) + 1 = s.heap.size + p
    rw [if_neg (by omega), if_neg (by omega), if_neg (by omega), if_neg (by omega), if_neg (by omega), if_neg (by omega), if_neg (by omega), if_neg (by omega)]
    omega
  · intro w hw
    exact va_Nw.of (q_nst_tab hw) (hts w (List.mem_filter.mp hw).1)
  · refine ⟨tS, hcs, ?_, tR⟩
    rcases hpf with h | h
    · exact ⟨0, h⟩
    · exact ⟨1012, h⟩
theorem q_all_parts {α : Type} {f : α → Bool} {cs : List α} (n m : Nat) (h : ∀ k, k < m → ((cs.drop (n * k)).take n).all f = true) (hn : 0 < n) (hl : cs.length ≤ n * m) : cs.all f = true := by
  rw [List.all_eq_true]
  intro x hx
  obtain ⟨i, hi, rfl⟩ := List.getElem_of_mem hx
  have hk : i / n < m := Nat.div_lt_of_lt_mul (by omega)
  have h1 := List.all_eq_true.mp (h (i / n) hk)
  apply h1
  have h2 : n * (i / n) + i % n = i := Nat.div_add_mod i n
  have h3 : i % n < n := Nat.mod_lt i hn
  apply List.mem_of_getElem? (i := i % n)
  rw [List.getElem?_take_of_lt h3, List.getElem?_drop, h2, List.getElem?_eq_getElem hi]
def q_chf (o : Nat) (ini : Bool) (cc : ByteArray) (ret : Option FieldType) (ch : List QE) : Bool := ch.all fun e => decide (decode cc e.1 = .ok (e.2.1, e.2.2.1)) && (q_vb o ini e.1 e.2.2.1 e.2.2.2.1 e.2.2.2.2.1 e.2.2.2.2.2.1 e.2.1 && (q_rb ret e.2.2.2.1 e.2.1 && q_nb e.2.2.2.1 e.2.1))
set_option maxRecDepth 40000 in
theorem v_L_0 : ((cs_L_law.drop (6 * 0)).take 6).all (q_chf 12 false code ret) = true := by decide +kernel
set_option maxRecDepth 40000 in
theorem v_L_1 : ((cs_L_law.drop (6 * 1)).take 6).all (q_chf 12 false code ret) = true := by decide +kernel
set_option maxRecDepth 40000 in
theorem v_L_2 : ((cs_L_law.drop (6 * 2)).take 6).all (q_chf 12 false code ret) = true := by decide +kernel
set_option maxRecDepth 40000 in
theorem v_L_3 : ((cs_L_law.drop (6 * 3)).take 6).all (q_chf 12 false code ret) = true := by decide +kernel
set_option maxRecDepth 40000 in
theorem v_L_4 : ((cs_L_law.drop (6 * 4)).take 6).all (q_chf 12 false code ret) = true := by decide +kernel
set_option maxRecDepth 40000 in
theorem v_L_5 : ((cs_L_law.drop (6 * 5)).take 6).all (q_chf 12 false code ret) = true := by decide +kernel
set_option maxRecDepth 40000 in
theorem v_L_6 : ((cs_L_law.drop (6 * 6)).take 6).all (q_chf 12 false code ret) = true := by decide +kernel
set_option maxRecDepth 40000 in
theorem v_L_7 : ((cs_L_law.drop (6 * 7)).take 6).all (q_chf 12 false code ret) = true := by decide +kernel
set_option maxRecDepth 40000 in
theorem v_L_8 : ((cs_L_law.drop (6 * 8)).take 6).all (q_chf 12 false code ret) = true := by decide +kernel
set_option maxRecDepth 40000 in
theorem v_L_9 : ((cs_L_law.drop (6 * 9)).take 6).all (q_chf 12 false code ret) = true := by decide +kernel
set_option maxRecDepth 40000 in
theorem v_L_10 : ((cs_L_law.drop (6 * 10)).take 6).all (q_chf 12 false code ret) = true := by decide +kernel
set_option maxRecDepth 40000 in
theorem v_L_11 : ((cs_L_law.drop (6 * 11)).take 6).all (q_chf 12 false code ret) = true := by decide +kernel
set_option maxRecDepth 40000 in
theorem v_L_12 : ((cs_L_law.drop (6 * 12)).take 6).all (q_chf 12 false code ret) = true := by decide +kernel
set_option maxRecDepth 40000 in
theorem v_L_13 : ((cs_L_law.drop (6 * 13)).take 6).all (q_chf 12 false code ret) = true := by decide +kernel
set_option maxRecDepth 40000 in
theorem v_L_14 : ((cs_L_law.drop (6 * 14)).take 6).all (q_chf 12 false code ret) = true := by decide +kernel
set_option maxRecDepth 40000 in
theorem v_L_15 : ((cs_L_law.drop (6 * 15)).take 6).all (q_chf 12 false code ret) = true := by decide +kernel
set_option maxRecDepth 40000 in
theorem v_L_16 : ((cs_L_law.drop (6 * 16)).take 6).all (q_chf 12 false code ret) = true := by decide +kernel
theorem v_L_law : q_chk 12 false code ret cs_L_law = true := by
  refine q_all_parts (f := q_chf 12 false code ret) 6 17 (fun k hk => ?_) (by decide) (by decide)
  match k, hk with
  | 0, _ => exact v_L_0
  | 1, _ => exact v_L_1
  | 2, _ => exact v_L_2
  | 3, _ => exact v_L_3
  | 4, _ => exact v_L_4
  | 5, _ => exact v_L_5
  | 6, _ => exact v_L_6
  | 7, _ => exact v_L_7
  | 8, _ => exact v_L_8
  | 9, _ => exact v_L_9
  | 10, _ => exact v_L_10
  | 11, _ => exact v_L_11
  | 12, _ => exact v_L_12
  | 13, _ => exact v_L_13
  | 14, _ => exact v_L_14
  | 15, _ => exact v_L_15
  | 16, _ => exact v_L_16
  | k + 17, hk => exact absurd hk (by omega)
theorem o_law (l : Launch) : ∀ (y : Nat) (i : QI), q_MI y = some i → ∃ rk', rk' < 96 ∧ q_Snd l i rk' (oL_law y) := q_O_cons (rk := 96) (c := 169) (rc := 7) (i0 := iX11_init) rfl (by decide) (sX11_init l) (q_O_cons (rk := 96) (c := 170) (rc := 2) (i0 := iX11_feed) rfl (by decide) (sX11_feed l) (q_O_cons (rk := 96) (c := 172) (rc := 1) (i0 := iX11_end) rfl (by decide) (sX11_end l) (q_O_cons (rk := 96) (c := 173) (rc := 95) (i0 := iX11_board) rfl (by decide) (sX11_board l) (q_O_cons (rk := 96) (c := 174) (rc := 1) (i0 := iX11_fault) rfl (by decide) (sX11_fault l) (q_O_cons (rk := 96) (c := 175) (rc := 3) (i0 := iX11_device) rfl (by decide) (sX11_device l) (q_O_cons (rk := 96) (c := 176) (rc := 4) (i0 := iX11_net) rfl (by decide) (sX11_net l) (q_O_cons (rk := 96) (c := 177) (rc := 5) (i0 := iX11_cell) rfl (by decide) (sX11_cell l) (q_O_cons (rk := 96) (c := 179) (rc := 7) (i0 := iX11_clock) rfl (by decide) (sX11_clock l) (q_O_cons (rk := 96) (c := 181) (rc := 8) (i0 := iX11_scan) rfl (by decide) (sX11_scan l) (q_O_cons (rk := 96) (c := 182) (rc := 7) (i0 := iX11_harm) rfl (by decide) (sX11_harm l) (q_O_cons (rk := 96) (c := 183) (rc := 4) (i0 := iX11_undo) rfl (by decide) (sX11_undo l) (q_O_cons (rk := 96) (c := 184) (rc := 4) (i0 := iX11_redo) rfl (by decide) (sX11_redo l) (q_O_cons (rk := 96) (c := 185) (rc := 2) (i0 := iX11_goes) rfl (by decide) (sX11_goes l) (q_O_cons (rk := 96) (c := 186) (rc := 4) (i0 := iX11_walk) rfl (by decide) (sX11_walk l) (q_O_cons (rk := 96) (c := 188) (rc := 4) (i0 := iX11_walks) rfl (by decide) (sX11_walks l) (q_O_cons (rk := 96) (c := 189) (rc := 4) (i0 := iX11_farthest) rfl (by decide) (sX11_farthest l) (q_O_cons (rk := 96) (c := 190) (rc := 3) (i0 := iX11_length) rfl (by decide) (sX11_length l) (q_O_cons (rk := 96) (c := 191) (rc := 1) (i0 := iX11_found) rfl (by decide) (sX11_found l) (q_O_cons (rk := 96) (c := 192) (rc := 4) (i0 := iX11_fights) rfl (by decide) (sX11_fights l) (q_O_cons (rk := 96) (c := 193) (rc := 4) (i0 := iX11_unsafe) rfl (by decide) (sX11_unsafe l) (q_O_cons (rk := 96) (c := 195) (rc := 3) (i0 := iX11_steps) rfl (by decide) (sX11_steps l) (q_O_cons (rk := 96) (c := 196) (rc := 4) (i0 := iX11_tells) rfl (by decide) (sX11_tells l) (q_O_cons (rk := 96) (c := 198) (rc := 6) (i0 := iX11_answer) rfl (by decide) (sX11_answer l) (q_O_cons (rk := 96) (c := 199) (rc := 6) (i0 := iX11_good) rfl (by decide) (sX11_good l) (q_O_cons (rk := 96) (c := 200) (rc := 6) (i0 := iX11_aliased) rfl (by decide) (sX11_aliased l) (q_O_cons (rk := 96) (c := 201) (rc := 6) (i0 := iX11_confounded) rfl (by decide) (sX11_confounded l) (q_O_cons (rk := 96) (c := 202) (rc := 6) (i0 := iX11_verdict) rfl (by decide) (sX11_verdict l) (q_O_cons (rk := 96) (c := 203) (rc := 4) (i0 := iX11_singles) rfl (by decide) (sX11_singles l) (q_O_cons (rk := 96) (c := 204) (rc := 6) (i0 := iX11_single) rfl (by decide) (sX11_single l) (q_O_cons (rk := 96) (c := 205) (rc := 8) (i0 := iX11_apart) rfl (by decide) (sX11_apart l) (q_O_cons (rk := 96) (c := 208) (rc := 8) (i0 := iX11_told) rfl (by decide) (sX11_told l) (q_O_cons (rk := 96) (c := 209) (rc := 8) (i0 := iX11_least) rfl (by decide) (sX11_least l) (q_O_cons (rk := 96) (c := 210) (rc := 7) (i0 := iX11_mendFirst) rfl (by decide) (sX11_mendFirst l) (q_O_cons (rk := 96) (c := 211) (rc := 5) (i0 := iX11_safest) rfl (by decide) (sX11_safest l) (q_O_cons (rk := 96) (c := 212) (rc := 3) (i0 := iX11_cost) rfl (by decide) (sX11_cost l) (q_O_cons (rk := 96) (c := 213) (rc := 6) (i0 := iX11_worst) rfl (by decide) (sX11_worst l) (q_O_cons (rk := 96) (c := 214) (rc := 5) (i0 := iX11_law) rfl (by decide) (sX11_law l) (q_O_cons (rk := 96) (c := 215) (rc := 2) (i0 := iX11_odds) rfl (by decide) (sX11_odds l) (q_O_cons (rk := 96) (c := 217) (rc := 1) (i0 := iX11_lies) rfl (by decide) (sX11_lies l) (q_O_cons (rk := 96) (c := 218) (rc := 4) (i0 := iX11_seen) rfl (by decide) (sX11_seen l) (q_O_cons (rk := 96) (c := 219) (rc := 2) (i0 := iX11_untell) rfl (by decide) (sX11_untell l) (q_O_cons (rk := 96) (c := 220) (rc := 1) (i0 := iX11_later) rfl (by decide) (sX11_later l) (q_O_cons (rk := 96) (c := 221) (rc := 8) (i0 := iX11_fits) rfl (by decide) (sX11_fits l) (q_O_cons (rk := 96) (c := 222) (rc := 8) (i0 := iX11_culprit) rfl (by decide) (sX11_culprit l) (q_O_cons (rk := 96) (c := 223) (rc := 8) (i0 := iX11_ask) rfl (by decide) (sX11_ask l) (q_O_cons (rk := 96) (c := 224) (rc := 4) (i0 := iX11_image) rfl (by decide) (sX11_image l) (q_O_cons (rk := 96) (c := 225) (rc := 4) (i0 := iX11_back) rfl (by decide) (sX11_back l) (q_O_cons (rk := 96) (c := 226) (rc := 3) (i0 := iX11_about) rfl (by decide) (sX11_about l) (q_O_cons (rk := 96) (c := 227) (rc := 3) (i0 := iX12_init) rfl (by decide) (sX12_init l) (q_O_cons (rk := 96) (c := 228) (rc := 2) (i0 := iX12_feed) rfl (by decide) (sX12_feed l) (q_O_cons (rk := 96) (c := 230) (rc := 1) (i0 := iX12_end) rfl (by decide) (sX12_end l) (q_O_cons (rk := 96) (c := 275) (rc := 9) (i0 := iX12_board) rfl (by decide) (sX12_board l) (q_O_cons (rk := 96) (c := 276) (rc := 1) (i0 := iX12_fault) rfl (by decide) (sX12_fault l) (q_O_cons (rk := 96) (c := 290) (rc := 3) (i0 := iX12_walk) rfl (by decide) (sX12_walk l) (q_O_cons (rk := 96) (c := 291) (rc := 3) (i0 := iX12_walks) rfl (by decide) (sX12_walks l) (q_O_cons (rk := 96) (c := 292) (rc := 3) (i0 := iX12_farthest) rfl (by decide) (sX12_farthest l) (q_O_cons (rk := 96) (c := 293) (rc := 2) (i0 := iX12_goes) rfl (by decide) (sX12_goes l) (q_O_cons (rk := 96) (c := 313) (rc := 8) (i0 := iX12_clock) rfl (by decide) (sX12_clock l) (q_O_cons (rk := 96) (c := 314) (rc := 9) (i0 := iX12_scan) rfl (by decide) (sX12_scan l) (q_O_cons (rk := 96) (c := 315) (rc := 2) (i0 := iX12_undo) rfl (by decide) (sX12_undo l) (q_O_cons (rk := 96) (c := 316) (rc := 2) (i0 := iX12_redo) rfl (by decide) (sX12_redo l) (q_O_cons (rk := 96) (c := 317) (rc := 3) (i0 := iX12_device) rfl (by decide) (sX12_device l) (q_O_cons (rk := 96) (c := 319) (rc := 6) (i0 := iX12_net) rfl (by decide) (sX12_net l) (q_O_cons (rk := 96) (c := 320) (rc := 6) (i0 := iX12_cell) rfl (by decide) (sX12_cell l) (q_O_cons (rk := 96) (c := 321) (rc := 2) (i0 := iX12_length) rfl (by decide) (sX12_length l) (q_O_cons (rk := 96) (c := 322) (rc := 2) (i0 := iX12_found) rfl (by decide) (sX12_found l) (q_O_cons (rk := 96) (c := 323) (rc := 4) (i0 := iX12_fights) rfl (by decide) (sX12_fights l) (q_O_cons (rk := 96) (c := 324) (rc := 6) (i0 := iX12_unsafe) rfl (by decide) (sX12_unsafe l) (q_O_cons (rk := 96) (c := 329) (rc := 4) (i0 := iX12_steps) rfl (by decide) (sX12_steps l) (q_O_cons (rk := 96) (c := 332) (rc := 5) (i0 := iX12_tells) rfl (by decide) (sX12_tells l) (q_O_cons (rk := 96) (c := 339) (rc := 7) (i0 := iX12_answer) rfl (by decide) (sX12_answer l) (q_O_cons (rk := 96) (c := 340) (rc := 7) (i0 := iX12_good) rfl (by decide) (sX12_good l) (q_O_cons (rk := 96) (c := 341) (rc := 7) (i0 := iX12_aliased) rfl (by decide) (sX12_aliased l) (q_O_cons (rk := 96) (c := 342) (rc := 7) (i0 := iX12_confounded) rfl (by decide) (sX12_confounded l) (q_O_cons (rk := 96) (c := 343) (rc := 7) (i0 := iX12_verdict) rfl (by decide) (sX12_verdict l) (q_O_cons (rk := 96) (c := 347) (rc := 3) (i0 := iX12_singles) rfl (by decide) (sX12_singles l) (q_O_cons (rk := 96) (c := 356) (rc := 5) (i0 := iX12_harm) rfl (by decide) (sX12_harm l) (q_O_cons (rk := 96) (c := 357) (rc := 4) (i0 := iX12_single) rfl (by decide) (sX12_single l) (q_O_cons (rk := 96) (c := 361) (rc := 8) (i0 := iX12_apart) rfl (by decide) (sX12_apart l) (q_O_cons (rk := 96) (c := 362) (rc := 8) (i0 := iX12_told) rfl (by decide) (sX12_told l) (q_O_cons (rk := 96) (c := 363) (rc := 9) (i0 := iX12_least) rfl (by decide) (sX12_least l) (q_O_cons (rk := 96) (c := 364) (rc := 6) (i0 := iX12_mendFirst) rfl (by decide) (sX12_mendFirst l) (q_O_cons (rk := 96) (c := 366) (rc := 6) (i0 := iX12_safest) rfl (by decide) (sX12_safest l) (q_O_cons (rk := 96) (c := 367) (rc := 4) (i0 := iX12_cost) rfl (by decide) (sX12_cost l) (q_O_cons (rk := 96) (c := 368) (rc := 7) (i0 := iX12_worst) rfl (by decide) (sX12_worst l) (q_O_cons (rk := 96) (c := 369) (rc := 7) (i0 := iX12_law) rfl (by decide) (sX12_law l) (q_O_cons (rk := 96) (c := 372) (rc := 2) (i0 := iX12_odds) rfl (by decide) (sX12_odds l) (q_O_cons (rk := 96) (c := 373) (rc := 2) (i0 := iX12_lies) rfl (by decide) (sX12_lies l) (q_O_cons (rk := 96) (c := 374) (rc := 4) (i0 := iX12_seen) rfl (by decide) (sX12_seen l) (q_O_cons (rk := 96) (c := 375) (rc := 2) (i0 := iX12_untell) rfl (by decide) (sX12_untell l) (q_O_cons (rk := 96) (c := 376) (rc := 1) (i0 := iX12_later) rfl (by decide) (sX12_later l) (q_O_cons (rk := 96) (c := 379) (rc := 9) (i0 := iX12_fits) rfl (by decide) (sX12_fits l) (q_O_cons (rk := 96) (c := 380) (rc := 9) (i0 := iX12_culprit) rfl (by decide) (sX12_culprit l) (q_O_cons (rk := 96) (c := 383) (rc := 9) (i0 := iX12_ask) rfl (by decide) (sX12_ask l) (q_O_cons (rk := 96) (c := 385) (rc := 2) (i0 := iX12_image) rfl (by decide) (sX12_image l) (q_O_cons (rk := 96) (c := 386) (rc := 2) (i0 := iX12_back) rfl (by decide) (sX12_back l) (q_O_cons (rk := 96) (c := 388) (rc := 6) (i0 := iX12_about) rfl (by decide) (sX12_about l) (q_O_nil))))))))))))))))))))))))))))))))))))))))))))))))))))))))))))))))))))))))))))))))))))))))))))))))))
/-- what is left to show: the abstract machine answers 1 on every script -/
def q_Pure : Prop := ∀ (L : Nat) (xs : Nat → Int32), L ≤ 3072 → ∃ M' : QM, kL_law 0 (q_L0 [.ref 1004] 4) [] (q_M0 L xs) 0 0 = some (some (.int 1), M')
set_option maxRecDepth 20000 in
theorem q_whole (hP : q_Pure) {p : Program} {e : Env} {s : State} {m : MethodId} {below : List Frame} {meth : Method} {c : Code} (l : Launch) {b L : Nat} {xs : Nat → Int32} (hL : L ≤ 3072) (C0 : lw_At p s m meth c b L xs) : W p l e room_1 s m #[Value.ref b] below meth c s.heap [] 0 0 (lw_Z below #[Value.ref b] s) (entryFrame m ([Value.ref b] : List Value).toArray 4) := by
  obtain ⟨E, hst, hE1, hE2, hE3, hE4⟩ := q_start C0
  obtain ⟨hx, hb, hret, hml, hown, hts, hX, hbl, hlocks, hgv⟩ := C0
  have htb : ∀ w ∈ tb, w.before #[Value.ref b] s = true := fun w hw => hts w (List.mem_filter.mp hw).1
  obtain ⟨M', hM⟩ := hP L xs hL
  obtain ⟨n, hn⟩ := q_D_iff.mp (show q_D cs_L_law oL_law (113, 13229) (true, 0, q_L0 [.ref 1004] 4, [], q_M0 L xs, 0, 0) = some (some (.int 1), M') from hM)
  have hB : QB p room_1 s m #[Value.ref b] meth c E 4 code "ScanBenchLaw" iX11_feed 96 113 13229 := by
    refine ⟨hx, hb, hml, ⟨by decide, by decide, by decide, by decide⟩, fun w hw => ?_, hst, hown, by decide⟩
    rcases List.mem_cons.mp hw with h | h
    · rw [h]; exact htb _ k_X11_feed.1
    · exact htb _ h
  have hrun := q_ok_run (l := l) (e := e) (below := below) (N0 := 0) (ini := false = true) hB (fun h => by cases h) (o_law l) (q_Val_of (o := 12) v_L_law) hret hlocks n _ _ hn
  have hl := lv_entry ([Value.ref b]) (n := 4) (Nat.le_of_ble_eq_true rfl)
  have hdy : q_Dy E (q_M0 L xs) s.heap := by
    refine ⟨fun k q h => ?_, ⟨fun i j p q h => ?_, fun k q h => ?_⟩, ?_, ?_⟩
    · simp [q_ws, q_M0] at h
    · simp [q_ws, q_M0] at h
    · simp [q_ws, q_M0] at h
    · show E.2.2.2.1 + 0 ≤ _; rw [hE1]; exact Nat.le_refl _
    · refine ⟨by show 0 < 901; omega, fun p hp => ?_, fun p hp h0 => ?_⟩
      · rw [hE3, hE4]; exact ⟨rfl, rfl⟩
      · exfalso
        have hb : ∀ n, 1000 ≤ n → Nat.beq p n = false := fun n h => by
          cases hbb : Nat.beq p n with
          | false => rfl
          | true => exact absurd (Nat.eq_of_beq_eq_true hbb) (by omega)
        have : (q_S00 L p).1 = 0 := by
          unfold q_S00
          rw [hb _ (by omega), hb _ (by omega), hb _ (by omega), hb _ (by omega), hb _ (by omega), hb _ (by omega)]
          rfl
        exact absurd this (Nat.pos_iff_ne_zero.mp h0)
  have hfin : ∀ t, MQ below (q_Qc E (some (.int 1)) M') #[Value.ref b] s 113 13229 (q_A E) t → lw_Z below #[Value.ref b] s t := by
    intro t ht
    obtain ⟨o, h1, h2, ⟨h3, -⟩, Lo, ⟨h4, h5, h6⟩, h7⟩ := ht
    refine ⟨o, h1, h2, h3, h4, h5, h6.weaken (fun y hy hlt => ?_) (by decide) (by decide)⟩
    have := h7 y hy
    unfold q_A at this
    rw [hE1] at this
    exact absurd hlt (Nat.not_lt.mpr this)
  rw [lg_entry_eq]
  have hq : q_v E.2.2.1 (.ref 1004) = .ref b := by show q_rf E.2.2.1 1004 = _; rw [q_rf_pos (by omega), hE2]
  have hlv := lv_less hl (l' := q_pr E.2.2.1 0 (q_L0 [.ref 1004] 4)) (fun q hq2 => by
    have h3 := q_sl_args (ad := E.2.2.1) [.ref 1004] 0 0 _ (q_pr_none _ _) q hq2
    simpa [hq] using h3)
  intro T hT X
  obtain ⟨t, a1, a2⟩ := hrun rfl s.heap [] _ ⟨hdy, va_S.rf, hlv, rfl, rfl, by rw [hE1]; rfl⟩ T hT X
  exact ⟨t, a1, hfin t a2⟩
