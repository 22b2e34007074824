/-! ===== a step ===== -/
theorem q_fitc_t {t : Nat} {v : Value} {ok : Bool} (h : q_fitc t v ok = true) : q_fitc t v true = true := by
  unfold q_fitc at h ⊢
  split at h <;> simp_all
section QS
variable {p : Program} {l : Launch} {e : Env} {R : Room} {s : State} {m : MethodId} {args : Array Value} {below : List Frame} {meth : Method} {c : Code} {Q : State → Prop} {E : QEnv} {nL N0 : Nat} {cc : ByteArray}
variable {ok : Bool} {pc : Nat} {L : List (Option Value)} {st : List Value} {M : QM} {ce sl : Nat}
set_option maxHeartbeats 4000000 in
theorem q_ok_step {i0 : QI} {rk mc0 ms0 : Nat} {own : String} {ini : Prop} {MI : Nat → Option QI} {O : QO} {len : Nat} {ns : List Nat} {vs : List Value} {ts : List (Int32 × Nat)} {σ : QC} {ins : Instr} (hB : QB p R s m args meth c E nL cc own i0 rk mc0 ms0) (hini : ini → meth.name = "<init>") (hO : ∀ y i, MI y = some i → ∃ rk', rk' < rk ∧ q_Snd l i rk' (O y)) (hv : q_V own ini MI pc len ns vs ts ins) (hd : decode cc pc = .ok (ins, len))
    (h : q_ex O (mc0, ms0) ins len ns vs ts (ok, pc, L, st, M, ce, sl) = some (.inl σ)) (hok : σ.1 = true) (kk : QW p l e R s m args below meth c Q E nL N0 σ) : QW p l e R s m args below meth c Q E nL N0 (ok, pc, L, st, M, ce, sl) := by
  obtain ⟨hx, hb, hml, hR, hts, hst, hown, hrk⟩ := id hB
  have htb : ∀ w ∈ tb, w.before args s = true := fun w hw => hts w (List.mem_cons_of_mem _ hw)
  cases ins
  case iconst n =>
    obtain ⟨rfl, rfl⟩ := hv; cases h; exact q_x_const hx hb n _ (Or.inl ⟨hd, rfl, rfl⟩) (fun _ H locs ls ha => kk hok H locs ls ha)
  case bipush n =>
    obtain ⟨rfl, rfl⟩ := hv; cases h; exact q_x_const hx hb n _ (Or.inr (Or.inl ⟨hd, rfl, rfl⟩)) (fun _ H locs ls ha => kk hok H locs ls ha)
  case sipush n =>
    obtain ⟨rfl, rfl⟩ := hv; cases h; exact q_x_const hx hb n _ (Or.inr (Or.inr ⟨hd, rfl, rfl⟩)) (fun _ H locs ls ha => kk hok H locs ls ha)
  case lconst n =>
    obtain ⟨rfl, rfl⟩ := hv; cases h; exact q_x_lconst hx hb hd (fun _ H locs ls ha => kk hok H locs ls ha)
  case ldc i =>
    obtain ⟨rfl, ⟨v, rfl, hc⟩ | ⟨rfl, rfl, rfl⟩⟩ := hv
    · cases h; exact q_x_ldc hx hb hown (htb _ hc) hd (fun _ H locs ls ha => kk hok H locs ls ha)
    · cases h
      intro _ H locs ls ha
      have k1 := kk hok H locs ls ha
      exact va_ldcS hx hb hown hst.2.2.2.2.2.2.2.2 hd k1
  case ldc_w i =>
    obtain ⟨rfl, v, rfl, hc⟩ := hv; cases h; exact q_x_ldcw hx hb hown (htb _ hc) hd (fun _ H locs ls ha => kk hok H locs ls ha)
  case ldc2_w i =>
    obtain ⟨rfl, v, rfl, hc⟩ := hv; cases h; exact q_x_ldc2 hx hb hown (htb _ hc) hd (fun _ H locs ls ha => kk hok H locs ls ha)
  case iload i =>
    obtain rfl := hv; simp only [q_ex] at h; split at h
    · rename_i hg; cases h; exact q_x_iload hx hb hd hg (fun _ H locs ls ha => kk hok H locs ls ha)
    · cases h
  case iload_n i =>
    obtain rfl := hv; simp only [q_ex] at h; split at h
    · rename_i hg; cases h; exact q_x_iload_n hx hb hd hg (fun _ H locs ls ha => kk hok H locs ls ha)
    · cases h
  case lload i =>
    obtain rfl := hv; simp only [q_ex] at h; split at h
    · rename_i hg; cases h; exact q_x_lload hx hb hd hg (fun _ H locs ls ha => kk hok H locs ls ha)
    · cases h
  case lload_n i =>
    obtain rfl := hv; simp only [q_ex] at h; split at h
    · rename_i hg; cases h; exact q_x_lload_n hx hb hd hg (fun _ H locs ls ha => kk hok H locs ls ha)
    · cases h
  case aload i =>
    obtain rfl := hv; simp only [q_ex] at h; split at h
    · rename_i hg; cases h; exact q_x_aload hx hb hd hg (fun _ H locs ls ha => kk hok H locs ls ha)
    · cases h
  case aload_n i =>
    obtain rfl := hv; simp only [q_ex] at h; split at h
    · rename_i hg; cases h; exact q_x_aload_n hx hb hd hg (fun _ H locs ls ha => kk hok H locs ls ha)
    · cases h
  case istore i =>
    obtain rfl := hv; simp only [q_ex] at h; split at h
    · cases h; obtain ⟨h1, -⟩ := q_cd hok; exact q_x_istore hx hb hd (of_decide_eq_true h1) (fun _ H locs ls ha => kk hok H locs ls ha)
    · cases h
  case istore_n i =>
    obtain rfl := hv; simp only [q_ex] at h; split at h
    · cases h; obtain ⟨h1, -⟩ := q_cd hok; exact q_x_istore_n hx hb hd (of_decide_eq_true h1) (fun _ H locs ls ha => kk hok H locs ls ha)
    · cases h
  case lstore i =>
    obtain rfl := hv; simp only [q_ex] at h; split at h
    · cases h; obtain ⟨h1, -⟩ := q_cd hok; exact q_x_lstore hx hb hd (of_decide_eq_true h1) (fun _ H locs ls ha => kk hok H locs ls ha)
    · cases h
  case lstore_n i =>
    obtain rfl := hv; simp only [q_ex] at h; split at h
    · cases h; obtain ⟨h1, -⟩ := q_cd hok; exact q_x_lstore_n hx hb hd (of_decide_eq_true h1) (fun _ H locs ls ha => kk hok H locs ls ha)
    · cases h
  case astore i =>
    obtain rfl := hv; simp only [q_ex] at h; split at h
    · cases h; obtain ⟨h1, -⟩ := q_cd hok; exact q_x_astore hx hb hd (of_decide_eq_true h1) (fun _ H locs ls ha => kk hok H locs ls ha)
    · cases h
  case astore_n i =>
    obtain rfl := hv; simp only [q_ex] at h; split at h
    · cases h; obtain ⟨h1, -⟩ := q_cd hok; exact q_x_astore_n hx hb hd (of_decide_eq_true h1) (fun _ H locs ls ha => kk hok H locs ls ha)
    · cases h
  case iinc i n =>
    obtain ⟨rfl, rfl⟩ := hv; simp only [q_ex] at h; split at h
    · rename_i hg hvs; cases hvs; cases h; obtain ⟨h1, -⟩ := q_cd hok; exact q_x_iinc hx hb hd rfl hg (of_decide_eq_true h1) (fun _ H locs ls ha => kk hok H locs ls ha)
    · cases h
  case goto off =>
    obtain ⟨rfl, ht⟩ := hv; cases h; exact q_x_goto hx hb hd ht (fun _ H locs ls ha => kk hok H locs ls ha)
  case if_icmp cd off =>
    obtain ⟨rfl, ht⟩ := hv; simp only [q_ex] at h; split at h
    · cases h; exact q_x_icmp hx hb hd ht (fun _ H locs ls ha => kk hok H locs ls ha)
    · cases h
  case ifCond cd off =>
    obtain ⟨rfl, ht⟩ := hv; simp only [q_ex] at h; split at h
    · cases h; exact q_x_if hx hb hd ht (fun _ H locs ls ha => kk hok H locs ls ha)
    · cases h
  case tableswitch d lo hi offs =>
    simp only [q_ex] at h; split at h
    · cases h; exact q_x_tsw hx hb hd hv (fun _ H locs ls ha => kk hok H locs ls ha)
    · cases h
  case lookupswitch d ps =>
    simp only [q_ex] at h; split at h
    · cases h; exact q_x_lsw hx hb hd hv (fun _ H locs ls ha => kk hok H locs ls ha)
    · cases h
  case idiv =>
    obtain rfl := hv; simp only [q_ex] at h; split at h
    · cases h; rw [Bool.and_eq_true] at hok; have hk := hok; obtain ⟨h1, -⟩ := hk; exact q_x_idiv hx hb hd (by simpa using h1) (fun _ H locs ls ha => kk (by rw [Bool.and_eq_true]; exact hok) H locs ls ha)
    · cases h
  case irem =>
    obtain rfl := hv; simp only [q_ex] at h; split at h
    · cases h; rw [Bool.and_eq_true] at hok; have hk := hok; obtain ⟨h1, -⟩ := hk; exact q_x_irem hx hb hd (by simpa using h1) (fun _ H locs ls ha => kk (by rw [Bool.and_eq_true]; exact hok) H locs ls ha)
    · cases h
  case ineg =>
    obtain rfl := hv; simp only [q_ex] at h; split at h
    · cases h; exact q_x_ineg hx hb hd (fun _ H locs ls ha => kk hok H locs ls ha)
    · cases h
  case i2b =>
    obtain rfl := hv; simp only [q_ex] at h; split at h
    · cases h; exact q_x_i2b hx hb hd (fun _ H locs ls ha => kk hok H locs ls ha)
    · cases h
  case i2l =>
    obtain rfl := hv; simp only [q_ex] at h; split at h
    · cases h; exact q_x_i2l hx hb hd (fun _ H locs ls ha => kk hok H locs ls ha)
    · cases h
  case l2i =>
    obtain rfl := hv; simp only [q_ex] at h; split at h
    · cases h; exact q_x_l2i hx hb hd (fun _ H locs ls ha => kk hok H locs ls ha)
    · cases h
  case lshl =>
    obtain rfl := hv; simp only [q_ex] at h; split at h
    · cases h; exact q_x_lshl hx hb hd (fun _ H locs ls ha => kk hok H locs ls ha)
    · cases h
  case lshr =>
    obtain rfl := hv; simp only [q_ex] at h; split at h
    · cases h; exact q_x_lshr hx hb hd (fun _ H locs ls ha => kk hok H locs ls ha)
    · cases h
  case lushr =>
    obtain rfl := hv; simp only [q_ex] at h; split at h
    · cases h; exact q_x_lushr hx hb hd (fun _ H locs ls ha => kk hok H locs ls ha)
    · cases h
  case lcmp =>
    obtain rfl := hv; simp only [q_ex] at h; split at h
    · cases h; exact q_x_lcmp hx hb hd (fun _ H locs ls ha => kk hok H locs ls ha)
    · cases h
  case dup =>
    obtain rfl := hv; simp only [q_ex] at h; split at h
    · cases h; obtain ⟨h1, -⟩ := q_cd hok; exact q_x_dup hx hb hd (of_decide_eq_true h1) (fun _ H locs ls ha => kk hok H locs ls ha)
    · cases h
  case dup2 =>
    obtain rfl := hv; simp only [q_ex] at h; split at h
    · cases h; obtain ⟨h1, h2⟩ := q_cd hok; obtain ⟨h2, -⟩ := q_cd h2; exact q_x_dup2 hx hb hd (of_decide_eq_true h1) (of_decide_eq_true h2) (fun _ H locs ls ha => kk hok H locs ls ha)
    · cases h
  case pop =>
    obtain rfl := hv; simp only [q_ex] at h; split at h
    · cases h; obtain ⟨h1, -⟩ := q_cd hok; exact q_x_pop hx hb hd (of_decide_eq_true h1) (fun _ H locs ls ha => kk hok H locs ls ha)
    · cases h
  case getfield idx =>
    obtain ⟨rfl, q, v1, v2, v3, v4, v5⟩ := hv; simp only [q_ex] at h; split at h
    · split at h
      · rename_i h2; rw [q_nf_eq] at h; cases h; obtain ⟨h1, -⟩ := q_cd hok; exact q_x_get hx hb htb hst hown v1 v2 (v3.trans h2) v4 (htb _ v5) hd (q_beq h1) (fun _ H locs ls ha => kk hok H locs ls ha)
      · cases h; obtain ⟨h1, -⟩ := q_cd hok; exact q_x_get hx hb htb hst hown v1 v2 v3 v4 (htb _ v5) hd (q_beq h1) (fun _ H locs ls ha => kk hok H locs ls ha)
    · cases h
  case putfield idx =>
    obtain ⟨rfl, q, ⟨v1, v2, v3, v4, v5⟩, v6⟩ := hv; simp only [q_ex] at h; split at h
    · cases h; obtain ⟨h1, h2⟩ := q_cd hok; exact q_x_put hx hb htb hst hown v1 v2 v3 v4 (v6.imp id (fun g => ⟨g.1, hini g.2.1, g.2.2⟩)) (htb _ v5) hd (q_beq h1) (q_fitc_t h2) (fun _ H locs ls ha => kk hok H locs ls ha)
    · cases h
  case getstatic idx =>
    obtain ⟨rfl, x, v1, v2, v3⟩ := hv; simp only [q_ex] at h; cases h; exact q_x_gets hx hb htb hst hown v1 v2 v3 hd (fun _ H locs ls ha => kk hok H locs ls ha)
  case arraylength =>
    obtain rfl := hv; simp only [q_ex] at h; split at h
    · cases h; obtain ⟨h1, h2⟩ := q_cd hok; obtain ⟨h2, -⟩ := q_cd h2; exact q_x_alen hx hb hst hd (of_decide_eq_true h1) (of_decide_eq_true h2) (fun _ H locs ls ha => kk hok H locs ls ha)
    · cases h
  case iaload =>
    obtain rfl := hv; simp only [q_ex] at h; split at h
    · cases h; obtain ⟨h1, h2⟩ := q_cd hok; rw [Bool.and_eq_true] at h2; exact q_x_iald hx hb hst hd (((Bool.or_eq_true _ _).mp h1).imp q_beq q_beq) h2.1 (fun _ H locs ls ha => kk hok H locs ls ha)
    · cases h
  case baload =>
    obtain rfl := hv; simp only [q_ex] at h; split at h
    · cases h; obtain ⟨h1, h2⟩ := q_cd hok; rw [Bool.and_eq_true] at h2; exact q_x_bald hx hb hst hd (((Bool.or_eq_true _ _).mp h1).imp q_beq q_beq) h2.1 (fun _ H locs ls ha => kk hok H locs ls ha)
    · cases h
  case bastore =>
    obtain rfl := hv; simp only [q_ex] at h; split at h
    · cases h; obtain ⟨h1, h2⟩ := q_cd hok; rw [Bool.and_eq_true] at h2; exact q_x_bast hx hb hst hd (((Bool.or_eq_true _ _).mp h1).imp q_beq q_beq) h2.1 (fun _ H locs ls ha => kk hok H locs ls ha)
    · cases h
  case laload =>
    obtain rfl := hv; simp only [q_ex] at h; split at h
    · cases h; obtain ⟨h1, h2⟩ := q_cd hok; rw [Bool.and_eq_true] at h2; exact q_x_lald hx hb hst hd (q_beq h1) h2.1 (fun _ H locs ls ha => kk hok H locs ls ha)
    · cases h
  case iastore =>
    obtain rfl := hv; simp only [q_ex] at h; split at h
    · cases h; obtain ⟨h1, h2⟩ := q_cd hok; rw [Bool.and_eq_true] at h2; exact q_x_iast hx hb hst hd (q_beq h1) h2.1 (fun _ H locs ls ha => kk hok H locs ls ha)
    · cases h
  case lastore =>
    obtain rfl := hv; simp only [q_ex] at h; split at h
    · cases h; obtain ⟨h1, h2⟩ := q_cd hok; rw [Bool.and_eq_true] at h2; exact q_x_last hx hb hst hd (q_beq h1) h2.1 (fun _ H locs ls ha => kk hok H locs ls ha)
    · cases h
  case new idx =>
    obtain ⟨rfl, q, v1, v2, v3, v4, v5⟩ := hv; simp only [q_ex] at h; cases h
    rw [v2] at hok kk
    obtain ⟨h1, h2⟩ := q_cd hok; obtain ⟨h2, h3⟩ := q_cd h2; obtain ⟨h3, -⟩ := q_cd h3
    exact q_x_new (Rr := (0, 0)) hx hb htb hst hown v1 v3 v4 v5 hd (Nat.le_trans (of_decide_eq_true h1) hR.2.2.1) (Nat.le_trans (of_decide_eq_true h2) hR.2.2.2) (of_decide_eq_true h3) (fun _ H locs ls ha => kk hok H locs ls ha)
  case newarray t =>
    obtain ⟨rfl, v1⟩ := hv; simp only [q_ex] at h; split at h
    · cases h; obtain ⟨h1, h2⟩ := q_cd hok; obtain ⟨h2, h3⟩ := q_cd h2; obtain ⟨h3, h4⟩ := q_cd h3; obtain ⟨h4, h5⟩ := q_cd h4; obtain ⟨h5, h6⟩ := q_cd h5; obtain ⟨h6, -⟩ := q_cd h6
      exact q_x_newa hx hb htb hst v1 hd (by simpa using h1) (of_decide_eq_true h2) (of_decide_eq_true h3) (Nat.le_trans (of_decide_eq_true h4) hR.2.2.1) (Nat.le_trans (of_decide_eq_true h5) hR.2.2.2) (of_decide_eq_true h6) (fun _ H locs ls ha => kk hok H locs ls ha)
    · cases h
  case invokevirtual idx =>
    obtain ⟨rfl, v⟩ := hv; simp only [q_ex] at h; exact q_ok_call hB hO rfl hd h v hok kk
  case invokestatic idx =>
    obtain ⟨rfl, v⟩ := hv; simp only [q_ex] at h; exact q_ok_call hB hO rfl hd h v hok kk
  case invokespecial idx =>
    obtain ⟨rfl, v⟩ := hv; simp only [q_ex] at h; exact q_ok_call hB hO rfl hd h v hok kk
  case ireturn =>
    simp only [q_ex] at h; split at h
    · split at h <;> cases h
    · cases h
  case lreturn =>
    simp only [q_ex] at h; split at h
    · split at h <;> cases h
    · cases h
  case areturn =>
    simp only [q_ex] at h; split at h
    · split at h <;> cases h
    · cases h
  case return_ =>
    simp only [q_ex] at h; split at h
    · split at h <;> cases h
    · cases h
  case iadd =>
    obtain rfl := hv; simp only [q_ex, q_bin, q_binL] at h; split at h
    · rename_i hf; cases hf; cases h; exact q_x_bin hx hb rfl hd (fun _ H locs ls ha => kk hok H locs ls ha)
    · rename_i hf; cases hf
    · cases h
  case isub =>
    obtain rfl := hv; simp only [q_ex, q_bin, q_binL] at h; split at h
    · rename_i hf; cases hf; cases h; exact q_x_bin hx hb rfl hd (fun _ H locs ls ha => kk hok H locs ls ha)
    · rename_i hf; cases hf
    · cases h
  case imul =>
    obtain rfl := hv; simp only [q_ex, q_bin, q_binL] at h; split at h
    · rename_i hf; cases hf; cases h; exact q_x_bin hx hb rfl hd (fun _ H locs ls ha => kk hok H locs ls ha)
    · rename_i hf; cases hf
    · cases h
  case iand =>
    obtain rfl := hv; simp only [q_ex, q_bin, q_binL] at h; split at h
    · rename_i hf; cases hf; cases h; exact q_x_bin hx hb rfl hd (fun _ H locs ls ha => kk hok H locs ls ha)
    · rename_i hf; cases hf
    · cases h
  case ior =>
    obtain rfl := hv; simp only [q_ex, q_bin, q_binL] at h; split at h
    · rename_i hf; cases hf; cases h; exact q_x_bin hx hb rfl hd (fun _ H locs ls ha => kk hok H locs ls ha)
    · rename_i hf; cases hf
    · cases h
  case ixor =>
    obtain rfl := hv; simp only [q_ex, q_bin, q_binL] at h; split at h
    · rename_i hf; cases hf; cases h; exact q_x_bin hx hb rfl hd (fun _ H locs ls ha => kk hok H locs ls ha)
    · rename_i hf; cases hf
    · cases h
  case ishl =>
    obtain rfl := hv; simp only [q_ex, q_bin, q_binL] at h; split at h
    · rename_i hf; cases hf; cases h; exact q_x_bin hx hb rfl hd (fun _ H locs ls ha => kk hok H locs ls ha)
    · rename_i hf; cases hf
    · cases h
  case ishr =>
    obtain rfl := hv; simp only [q_ex, q_bin, q_binL] at h; split at h
    · rename_i hf; cases hf; cases h; exact q_x_bin hx hb rfl hd (fun _ H locs ls ha => kk hok H locs ls ha)
    · rename_i hf; cases hf
    · cases h
  case iushr =>
    obtain rfl := hv; simp only [q_ex, q_bin, q_binL] at h; split at h
    · rename_i hf; cases hf; cases h; exact q_x_bin hx hb rfl hd (fun _ H locs ls ha => kk hok H locs ls ha)
    · rename_i hf; cases hf
    · cases h
  case ladd =>
    obtain rfl := hv; simp only [q_ex, q_bin, q_binL] at h; split at h
    · rename_i hf; cases hf
    · rename_i hf; cases hf; cases h; exact q_x_binL hx hb rfl hd (fun _ H locs ls ha => kk hok H locs ls ha)
    · cases h
  case lsub =>
    obtain rfl := hv; simp only [q_ex, q_bin, q_binL] at h; split at h
    · rename_i hf; cases hf
    · rename_i hf; cases hf; cases h; exact q_x_binL hx hb rfl hd (fun _ H locs ls ha => kk hok H locs ls ha)
    · cases h
  case lmul =>
    obtain rfl := hv; simp only [q_ex, q_bin, q_binL] at h; split at h
    · rename_i hf; cases hf
    · rename_i hf; cases hf; cases h; exact q_x_binL hx hb rfl hd (fun _ H locs ls ha => kk hok H locs ls ha)
    · cases h
  case land =>
    obtain rfl := hv; simp only [q_ex, q_bin, q_binL] at h; split at h
    · rename_i hf; cases hf
    · rename_i hf; cases hf; cases h; exact q_x_binL hx hb rfl hd (fun _ H locs ls ha => kk hok H locs ls ha)
    · cases h
  case lor =>
    obtain rfl := hv; simp only [q_ex, q_bin, q_binL] at h; split at h
    · rename_i hf; cases hf
    · rename_i hf; cases hf; cases h; exact q_x_binL hx hb rfl hd (fun _ H locs ls ha => kk hok H locs ls ha)
    · cases h
  all_goals (exfalso; simp [q_ex, q_bin, q_binL] at h)
end QS
