/-! ===== an abstract machine: places for cells, total steps with a flag ===== -/
/-- memory: ints, longs, references (place 0: null) by place and slot; the shape of each place (kind, length); how many places are made -/
abbrev QM : Type := (Nat → Nat → Int32) × (Nat → Nat → Int64) × (Nat → Nat → Nat) × (Nat → Nat × Nat) × Nat
/-- a row of a method's code: pc, instruction, length, numbers, constants, switch, locals that are dead here -/
abbrev QE : Type := Nat × Instr × Nat × List Nat × List Value × List (Int32 × Nat) × List Nat
abbrev QR : Type := Option Value × QM
/-- flag, pc, locals, stack, memory, cells and slots that are made -/
abbrev QC : Type := Bool × Nat × List (Option Value) × List Value × QM × Nat × Nat
abbrev QO : Type := Nat → List Value → QM → Option QR
def q_up {α : Type} (f : Nat → Nat → α) (p k : Nat) (v : α) : Nat → Nat → α := va_up f p (va_up (f p) k v)
def q_in (i : Int32) (n : Nat) : Bool := !(decide (i < 0)) && decide (i.toNatClampNeg < n)
def q_cmp (c : Jvm.ClassFile.Cond) (x y : Int32) (a b : Nat) : Nat := match c with
  | .eq => if x = y then a else b
  | .ne => if x = y then b else a
  | .lt => if x < y then a else b
  | .ge => if x < y then b else a
  | .gt => if y < x then a else b
  | .le => if y < x then b else a
def q_sw (x : Int32) (d : Nat) : List (Int32 × Nat) → Nat
  | [] => d
  | (k, t) :: r => if x = k then t else q_sw x d r
def q_isL : Option (Option Value) → Bool
  | some (some (.long _)) => true
  | some (some (.double _)) => true
  | _ => false
/-- a local is written: one before it that is long is gone -/
def q_set (L : List (Option Value)) (i : Nat) (v : Value) : List (Option Value) :=
  match i with
  | 0 => L.set 0 (some v)
  | j + 1 => if q_isL L[j]? then (L.set j none).set (j + 1) (some v) else L.set (j + 1) (some v)
def q_setL (L : List (Option Value)) (i : Nat) (v : Value) : List (Option Value) := (q_set L i v).set (i + 1) none
def q_get (L : List (Option Value)) (i : Nat) : Option Value := (L[i]?).getD none
/-- a number, looked at first -/
def q_nf {α : Type} (n : Nat) (f : Nat → α) : α := match n with
  | 0 => f 0
  | k + 1 => f (k + 1)
theorem q_nf_eq {α : Type} (n : Nat) (f : Nat → α) : q_nf n f = f n := by cases n <;> rfl
def q_fld (M : QM) (p k t : Nat) : Value := match t with
  | 1 => .long (M.2.1 p k)
  | 2 => .ref (M.2.2.1 p k)
  | _ => .int (M.1 p k)
def q_putM (M : QM) (p k : Nat) (v : Value) : QM := match v with
  | .int x => (q_up M.1 p k x, M.2)
  | .long x => (M.1, q_up M.2.1 p k x, M.2.2)
  | .ref q => (M.1, M.2.1, q_up M.2.2.1 p k q, M.2.2.2)
  | _ => M
/-- a value fits a field of a tag: 0 int, 1 long, 2 reference, 3 boolean -/
def q_fitc (t : Nat) (v : Value) (ok : Bool) : Bool := match t, v with
  | 0, .int _ => ok
  | 1, .long _ => ok
  | 2, .ref _ => ok
  | 3, .int x => (decide (x = 0) || decide (x = 1)) && ok
  | _, _ => false
def q_newM (M : QM) (k n : Nat) : QM := (va_up M.1 (M.2.2.2.2 + 1) (fun _ => 0), va_up M.2.1 (M.2.2.2.2 + 1) (fun _ => 0), va_up M.2.2.1 (M.2.2.2.2 + 1) (fun _ => 0), va_up M.2.2.2.1 (M.2.2.2.2 + 1) (k, n), M.2.2.2.2 + 1)
def q_kd (M : QM) (p : Nat) : Nat := (M.2.2.2.1 p).1
def q_len (M : QM) (p : Nat) : Nat := (M.2.2.2.1 p).2
def q_cat (st : List Value) : Nat := (st.map fun v => v.category).sum
def q_ak : ArrayType → Nat
  | .byte => 21 | .int => 22 | .long => 23 | .boolean => 24 | _ => 0
def q_after (X : Option QR) (F : Option Value → QM → QC) : Option (QC ⊕ QR) := match X with
  | none => none
  | some r => some (.inl (F r.1 r.2))
def q_kl (ks : List Nat) (L : List (Option Value)) : List (Option Value) := ks.foldl (fun L k => L.set k none) L
def q_call (O : QO) (R : Nat × Nat) (y n : Nat) (z : Nat) (mc ms : Nat) (len : Nat) : QC → Option (QC ⊕ QR)
  | (ok, pc, L, st, M, ce, sl) =>
    let as := (st.take n).reverse
    let rest := st.drop n
    let okR := match z, as with
      | 0, _ => true
      | z + 1, .ref p :: _ => Nat.beq (q_kd M p) (z + 1)
      | _, _ => false
    q_after (O y as M) (fun v M' => (cond (decide (st.length = n + rest.length)) ((cond (okR) ((cond (decide (q_cat rest ≤ 8)) ((cond (decide (ce + mc ≤ R.1)) ((cond (decide (sl + ms ≤ R.2)) (ok) false)) false)) false)) false)) false, pc + len, L, v.toList ++ rest, M', ce + mc, sl + ms))
/-- Object's constructor -/
def q_obj (len : Nat) : QC → Option (QC ⊕ QR)
  | (ok, pc, L, .ref a :: st, M, ce, sl) => some (.inl (cond (Nat.blt 0 a) (cond (decide (q_cat st ≤ 8)) (ok) false) false, pc + len, L, st, M, ce, sl))
  | _ => none
/-- a copy between rows of ints -/
def q_cpy (len : Nat) : QC → Option (QC ⊕ QR)
  | (ok, pc, L, .int n :: .int d :: .ref b :: .int sp :: .ref a :: st, M, ce, sl) =>
    some (.inl (cond (Nat.beq (q_kd M a) (22)) ((cond (Nat.beq (q_kd M b) (22)) ((!(decide (sp < 0)) && (!(decide (d < 0)) && (!(decide (n < 0)) && (decide (sp.toNatClampNeg + n.toNatClampNeg ≤ q_len M a) && (decide (d.toNatClampNeg + n.toNatClampNeg ≤ q_len M b) && (cond (decide (q_cat st ≤ 8)) (ok) false))))))) false)) false, pc + len, L, st, (va_up M.1 b (va_cpy (M.1 a) (M.1 b) sp.toNatClampNeg d.toNatClampNeg n.toNatClampNeg), M.2), ce, sl))
  | _ => none
/-- the lesser, the greater of two -/
def q_mn (R : Nat × Nat) (len : Nat) : QC → Option (QC ⊕ QR)
  | (ok, pc, L, .int y :: .int x :: st, M, ce, sl) => some (.inl (cond (decide (q_cat st ≤ 8)) ((cond (decide (ce ≤ R.1)) ((cond (decide (sl ≤ R.2)) (ok) false)) false)) false, pc + len, L, .int (if y < x then y else x) :: st, M, ce, sl))
  | _ => none
def q_mx (R : Nat × Nat) (len : Nat) : QC → Option (QC ⊕ QR)
  | (ok, pc, L, .int y :: .int x :: st, M, ce, sl) => some (.inl (cond (decide (q_cat st ≤ 8)) ((cond (decide (ce ≤ R.1)) ((cond (decide (sl ≤ R.2)) (ok) false)) false)) false, pc + len, L, .int (if x < y then y else x) :: st, M, ce, sl))
  | _ => none
/-- a call, by its numbers -/
def q_inv (O : QO) (R : Nat × Nat) (len : Nat) (ns : List Nat) (σ : QC) : Option (QC ⊕ QR) := match ns with
  | _ :: 0 :: _ => q_obj len σ
  | _ :: 1 :: _ => q_cpy len σ
  | _ :: 2 :: _ => q_mn R len σ
  | _ :: 3 :: _ => q_mx R len σ
  | _ :: y :: n :: z :: mc :: ms :: _ => q_call O R y n z mc ms len σ
  | _ => none
/-- a boolean answer is 0 or 1 -/
def q_bck (ns : List Nat) (x : Int32) (ok : Bool) : Bool := match ns with
  | 1 :: _ => (decide (x = 0) || decide (x = 1)) && ok
  | _ => ok
def q_bin : Instr → Option (Int32 → Int32 → Int32)
  | .iadd => some (fun x y => x + y)
  | .isub => some (fun x y => x - y)
  | .imul => some (fun x y => x * y)
  | .iand => some (fun x y => x &&& y)
  | .ior => some (fun x y => x ||| y)
  | .ixor => some (fun x y => x ^^^ y)
  | .ishl => some (fun x y => x <<< (y &&& 31))
  | .ishr => some (fun x y => x >>> (y &&& 31))
  | .iushr => some (fun x y => (x.toUInt32 >>> (y.toUInt32 &&& Int32.toUInt32 31)).toInt32)
  | _ => none
def q_binL : Instr → Option (Int64 → Int64 → Int64)
  | .ladd => some (fun x y => x + y)
  | .lsub => some (fun x y => x - y)
  | .lmul => some (fun x y => x * y)
  | .land => some (fun x y => x &&& y)
  | .lor => some (fun x y => x ||| y)
  | _ => none
def q_ex (O : QO) (R : Nat × Nat) (ins : Instr) (len : Nat) (ns : List Nat) (vs : List Value) (ts : List (Int32 × Nat)) : QC → Option (QC ⊕ QR)
  | (ok, pc, L, st, M, ce, sl) =>
  match ins with
  | .iconst _ | .bipush _ | .sipush _ | .lconst _ | .ldc _ | .ldc_w _ | .ldc2_w _ =>
    match vs with
    | v :: _ => some (.inl (ok, pc + len, L, v :: st, M, ce, sl))
    | [] => none
  | .iload i =>
    match q_get L i with
    | some (.int x) => some (.inl (ok, pc + len, L, .int x :: st, M, ce, sl))
    | _ => none
  | .lload i =>
    match q_get L i with
    | some (.long x) => some (.inl (ok, pc + len, L, .long x :: st, M, ce, sl))
    | _ => none
  | .aload i =>
    match q_get L i with
    | some (.ref x) => some (.inl (ok, pc + len, L, .ref x :: st, M, ce, sl))
    | _ => none
  | .iload_n i =>
    match q_get L i.val with
    | some (.int x) => some (.inl (ok, pc + len, L, .int x :: st, M, ce, sl))
    | _ => none
  | .lload_n i =>
    match q_get L i.val with
    | some (.long x) => some (.inl (ok, pc + len, L, .long x :: st, M, ce, sl))
    | _ => none
  | .aload_n i =>
    match q_get L i.val with
    | some (.ref x) => some (.inl (ok, pc + len, L, .ref x :: st, M, ce, sl))
    | _ => none
  | .istore i =>
    match st with
    | .int x :: st => some (.inl (cond (decide (i < L.length)) (ok) false, pc + len, q_set L i (.int x), st, M, ce, sl))
    | _ => none
  | .astore i =>
    match st with
    | .ref x :: st => some (.inl (cond (decide (i < L.length)) (ok) false, pc + len, q_set L i (.ref x), st, M, ce, sl))
    | _ => none
  | .lstore i =>
    match st with
    | .long x :: st => some (.inl (cond (decide (i + 1 < L.length)) (ok) false, pc + len, q_setL L i (.long x), st, M, ce, sl))
    | _ => none
  | .istore_n i =>
    match st with
    | .int x :: st => some (.inl (cond (decide (i.val < L.length)) (ok) false, pc + len, q_set L i.val (.int x), st, M, ce, sl))
    | _ => none
  | .astore_n i =>
    match st with
    | .ref x :: st => some (.inl (cond (decide (i.val < L.length)) (ok) false, pc + len, q_set L i.val (.ref x), st, M, ce, sl))
    | _ => none
  | .lstore_n i =>
    match st with
    | .long x :: st => some (.inl (cond (decide (i.val + 1 < L.length)) (ok) false, pc + len, q_setL L i.val (.long x), st, M, ce, sl))
    | _ => none
  | .iinc i _ =>
    match q_get L i, vs with
    | some (.int x), .int d :: _ => some (.inl (cond (decide (i < L.length)) (ok) false, pc + len, q_set L i (.int (x + d)), st, M, ce, sl))
    | _, _ => none
  | .idiv =>
    match st with
    | .int y :: .int x :: st => some (.inl (!(decide (y = 0)) && ok, pc + len, L, .int (x / y) :: st, M, ce, sl))
    | _ => none
  | .irem =>
    match st with
    | .int y :: .int x :: st => some (.inl (!(decide (y = 0)) && ok, pc + len, L, .int (x % y) :: st, M, ce, sl))
    | _ => none
  | .ineg =>
    match st with
    | .int x :: st => some (.inl (ok, pc + len, L, .int (-x) :: st, M, ce, sl))
    | _ => none
  | .i2b =>
    match st with
    | .int x :: st => some (.inl (ok, pc + len, L, .int x.toInt8.toInt32 :: st, M, ce, sl))
    | _ => none
  | .i2l =>
    match st with
    | .int x :: st => some (.inl (ok, pc + len, L, .long x.toInt64 :: st, M, ce, sl))
    | _ => none
  | .l2i =>
    match st with
    | .long x :: st => some (.inl (ok, pc + len, L, .int x.toInt32 :: st, M, ce, sl))
    | _ => none
  | .lshl =>
    match st with
    | .int y :: .long x :: st => some (.inl (ok, pc + len, L, .long (x <<< (y.toInt64 &&& 63)) :: st, M, ce, sl))
    | _ => none
  | .lshr =>
    match st with
    | .int y :: .long x :: st => some (.inl (ok, pc + len, L, .long (x >>> (y.toInt64 &&& 63)) :: st, M, ce, sl))
    | _ => none
  | .lushr =>
    match st with
    | .int y :: .long x :: st => some (.inl (ok, pc + len, L, .long (x.toUInt64 >>> (y.toInt64.toUInt64 &&& Int64.toUInt64 63)).toInt64 :: st, M, ce, sl))
    | _ => none
  | .lcmp =>
    match st with
    | .long y :: .long x :: st => some (.inl (ok, pc + len, L, .int (lg_cmp x y) :: st, M, ce, sl))
    | _ => none
  | .dup =>
    match st with
    | v :: st => some (.inl (cond (decide (v.category = 1)) (ok) false, pc + len, L, v :: v :: st, M, ce, sl))
    | _ => none
  | .dup2 =>
    match st with
    | v :: w :: st => some (.inl (cond (decide (v.category = 1)) ((cond (decide (w.category = 1)) (ok) false)) false, pc + len, L, v :: w :: v :: w :: st, M, ce, sl))
    | _ => none
  | .pop =>
    match st with
    | v :: st => some (.inl (cond (decide (v.category = 1)) (ok) false, pc + len, L, st, M, ce, sl))
    | _ => none
  | .goto _ => some (.inl (ok, ns.getD 0 0, L, st, M, ce, sl))
  | .if_icmp c _ =>
    match st with
    | .int y :: .int x :: st => some (.inl (ok, q_cmp c x y (ns.getD 0 0) (pc + len), L, st, M, ce, sl))
    | _ => none
  | .ifCond c _ =>
    match st with
    | .int x :: st => some (.inl (ok, q_cmp c x 0 (ns.getD 0 0) (pc + len), L, st, M, ce, sl))
    | _ => none
  | .tableswitch _ _ _ _ | .lookupswitch _ _ =>
    match st with
    | .int x :: st => some (.inl (ok, q_sw x (ns.getD 0 0) ts, L, st, M, ce, sl))
    | _ => none
  | .getfield _ =>
    match st with
    | .ref p :: st => match ns.getD 3 0 with
      | 2 => q_nf (M.2.2.1 p (ns.getD 2 0)) (fun q => some (.inl (cond (Nat.beq (q_kd M p) (ns.getD 1 0 + 1)) (ok) false, pc + len, L, .ref q :: st, M, ce, sl)))
      | t => some (.inl (cond (Nat.beq (q_kd M p) (ns.getD 1 0 + 1)) (ok) false, pc + len, L, q_fld M p (ns.getD 2 0) t :: st, M, ce, sl))
    | _ => none
  | .putfield _ =>
    match st with
    | v :: .ref p :: st => some (.inl (cond (Nat.beq (q_kd M p) (ns.getD 1 0 + 1)) (q_fitc (ns.getD 3 0) v ok) false, pc + len, L, st, q_putM M p (ns.getD 2 0) v, ce, sl))
    | _ => none
  | .getstatic _ => some (.inl (cond (Nat.beq (q_kd M (ns.getD 1 0)) 30) (ok) false, pc + len, L, .ref (ns.getD 1 0) :: st, M, ce, sl))
  | .arraylength =>
    match st with
    | .ref p :: st => some (.inl (cond (decide (21 ≤ q_kd M p)) (cond (decide (q_kd M p ≤ 30)) (ok) false) false, pc + len, L, .int (Int32.ofNat (q_len M p)) :: st, M, ce, sl))
    | _ => none
  | .iaload =>
    match st with
    | .int i :: .ref p :: st => some (.inl (cond ((Nat.beq (q_kd M p) (22) || Nat.beq (q_kd M p) (30))) ((q_in i (q_len M p) && ok)) false, pc + len, L, .int (M.1 p i.toNatClampNeg) :: st, M, ce, sl))
    | _ => none
  | .baload =>
    match st with
    | .int i :: .ref p :: st => some (.inl (cond ((Nat.beq (q_kd M p) (21) || Nat.beq (q_kd M p) (24))) ((q_in i (q_len M p) && ok)) false, pc + len, L, .int (M.1 p i.toNatClampNeg) :: st, M, ce, sl))
    | _ => none
  | .laload =>
    match st with
    | .int i :: .ref p :: st => some (.inl (cond (Nat.beq (q_kd M p) (23)) ((q_in i (q_len M p) && ok)) false, pc + len, L, .long (M.2.1 p i.toNatClampNeg) :: st, M, ce, sl))
    | _ => none
  | .iastore =>
    match st with
    | .int x :: .int i :: .ref p :: st => some (.inl (cond (Nat.beq (q_kd M p) (22)) ((q_in i (q_len M p) && ok)) false, pc + len, L, st, (q_up M.1 p i.toNatClampNeg x, M.2), ce, sl))
    | _ => none
  | .bastore =>
    match st with
    | .int x :: .int i :: .ref p :: st => some (.inl (cond ((Nat.beq (q_kd M p) (21) || Nat.beq (q_kd M p) (24))) ((q_in i (q_len M p) && ok)) false, pc + len, L, st, (q_up M.1 p i.toNatClampNeg (if Nat.beq (q_kd M p) 21 then vp_nar .byte x else vp_nar .boolean x), M.2), ce, sl))
    | _ => none
  | .lastore =>
    match st with
    | .long x :: .int i :: .ref p :: st => some (.inl (cond (Nat.beq (q_kd M p) (23)) ((q_in i (q_len M p) && ok)) false, pc + len, L, st, (M.1, q_up M.2.1 p i.toNatClampNeg x, M.2.2), ce, sl))
    | _ => none
  | .new _ => some (.inl (cond (decide (ce + 1 ≤ R.1)) ((cond (decide (sl + ns.getD 2 0 ≤ R.2)) ((cond (decide (M.2.2.2.2 < 900)) (ok) false)) false)) false, pc + len, L, .ref (M.2.2.2.2 + 1) :: st, q_newM M (ns.getD 1 0 + 1) (ns.getD 2 0), ce + 1, sl + ns.getD 2 0))
  | .newarray t =>
    match st with
    | .int n :: st => some (.inl (cond (!(decide (n < 0))) ((cond (decide (n.toNatClampNeg ≤ 5000)) ((cond (decide (21 ≤ q_ak t)) ((cond (decide (ce + 1 ≤ R.1)) ((cond (decide (sl + n.toNatClampNeg ≤ R.2)) ((cond (decide (M.2.2.2.2 < 900)) (ok) false)) false)) false)) false)) false)) false, pc + len, L, .ref (M.2.2.2.2 + 1) :: st, q_newM M (q_ak t) n.toNatClampNeg, ce + 1, sl + n.toNatClampNeg))
    | _ => none
  | .invokevirtual _ | .invokestatic _ | .invokespecial _ => q_inv O R len ns (ok, pc, L, st, M, ce, sl)
  | .ireturn =>
    match st with
    | [.int x] => if cond (Nat.beq ce R.1) (cond (Nat.beq sl R.2) (q_bck ns x ok) false) false then some (.inr (some (.int x), M)) else none
    | _ => none
  | .lreturn =>
    match st with
    | [.long x] => if cond (Nat.beq ce R.1) (cond (Nat.beq sl R.2) ok false) false then some (.inr (some (.long x), M)) else none
    | _ => none
  | .areturn =>
    match st with
    | [.ref x] => if cond (Nat.beq ce R.1) (cond (Nat.beq sl R.2) ok false) false then some (.inr (some (.ref x), M)) else none
    | _ => none
  | .return_ =>
    match st with
    | [] => if cond (Nat.beq ce R.1) (cond (Nat.beq sl R.2) ok false) false then some (.inr (none, M)) else none
    | _ => none
  | i =>
    match q_bin i, q_binL i, st with
    | some f, _, .int y :: .int x :: st => some (.inl (ok, pc + len, L, .int (f x y) :: st, M, ce, sl))
    | _, some f, .long y :: .long x :: st => some (.inl (ok, pc + len, L, .long (f x y) :: st, M, ce, sl))
    | _, _, _ => none
def q_nth : List (List QE) → Nat → List QE
  | [], _ => []
  | a :: _, 0 => a
  | _ :: r, n + 1 => q_nth r n
def q_fin (pc : Nat) : List QE → Option QE
  | [] => none
  | e :: r => cond (Nat.beq e.1 pc) (some e) (q_fin pc r)
def q_fd (cs : List (List QE)) (pc : Nat) : Option QE := q_fin pc (q_nth cs (Nat.div pc 16))
def q_step (cs : List (List QE)) (O : QO) (R : Nat × Nat) : QC → Option (QC ⊕ QR)
  | (ok, pc, L, d) => match q_fd cs pc with
    | none => none
    | some e => q_ex O R e.2.1 e.2.2.1 e.2.2.2.1 e.2.2.2.2.1 e.2.2.2.2.2.1 (ok, pc, q_kl e.2.2.2.2.2.2 L, d)
def q_run (cs : List (List QE)) (O : QO) (R : Nat × Nat) : Nat → QC → Option QR
  | 0, _ => none
  | n + 1, c => match q_step cs O R c with
    | none => none
    | some (.inl c') => q_run cs O R n c'
    | some (.inr r) => some r
