/-! ===== a method out of its code table ===== -/
theorem q_sl_cons (v : Value) (r : List Value) : q_sl (v :: r) = if v.category = 2 then some v :: none :: q_sl r else some v :: q_sl r := rfl
theorem q_sl_len {ad : Nat → Nat} : ∀ (as : List Value), (lg_sl (as.map (q_v ad))).length = (q_sl as).length := by
  intro as
  induction as with
  | nil => rfl
  | cons v r ih =>
    unfold lg_sl at ih ⊢
    simp only [List.map_cons, List.flatMap_cons, List.length_append, ih]
    rw [q_sl_cons, q_v_cat]
    by_cases h : v.category = 2
    · rw [if_pos h, if_pos h]; simp; omega
    · rw [if_neg h, if_neg h]; simp; omega
theorem q_sl_args {ad : Nat → Nat} : ∀ (as : List Value) (i : Nat) (k : Nat) (tl : List (Option Value)), (∀ q ∈ q_pr ad (i + (q_sl as).length) tl, False) → ∀ q ∈ q_pr ad i (q_sl as ++ tl), q ∈ lv_args i (as.map (q_v ad)) := by
  intro as
  induction as with
  | nil => intro i k tl h q hq; exact (h q (by simpa [q_sl] using hq)).elim
  | cons v r ih =>
    intro i k tl h q hq
    rw [q_sl_cons] at hq h
    show q ∈ lv_args i (q_v ad v :: r.map (q_v ad))
    unfold lv_args
    rw [q_v_cat]
    by_cases hc : v.category = 2
    · rw [if_pos hc] at hq h
      rcases List.mem_cons.mp hq with hq | hq
      · rw [hq]; exact List.mem_cons_self
      · refine List.mem_cons_of_mem _ ?_
        have := ih (i + 2) k tl (fun q hq => h q (by rw [show i + (some v :: none :: q_sl r).length = i + 2 + (q_sl r).length by simp; omega]; exact hq)) q (by simpa [q_pr] using hq)
        rw [if_pos hc]; exact this
    · rw [if_neg hc] at hq h
      have h1 : v.category = 1 := by cases v <;> first | rfl | exact absurd rfl hc
      rcases List.mem_cons.mp hq with hq | hq
      · rw [hq]; exact List.mem_cons_self
      · refine List.mem_cons_of_mem _ ?_
        have := ih (i + 1) k tl (fun q hq => h q (by rw [show i + (some v :: q_sl r).length = i + 1 + (q_sl r).length by simp; omega]; exact hq)) q hq
        rw [if_neg hc]; exact this
theorem q_pr_none {ad : Nat → Nat} : ∀ (n i : Nat), ∀ q ∈ q_pr ad i (List.replicate n none), False := by
  intro n
  induction n with
  | zero => intro i q h; cases h
  | succ n ih => intro i q h; exact ih (i + 1) q h
theorem q_snd_of {l : Launch} {i : QI} {rk : Nat} {cs : List (List QE)} {O : QO} {ini : Prop} {MI : Nat → Option QI} (hpl : plainName i.1.cls = true) (hini : ini → i.1.name = "<init>") (hval : q_Val i.1.cls ini MI i.2.1 i.2.2.2.1 cs) (hO : ∀ y i, MI y = some i → ∃ rk', rk' < rk ∧ q_Snd l i rk' (O y)) (hrk : 1 ≤ rk) :
    q_Snd l i rk (fun as M => cond (Nat.ble (q_sl as).length i.2.2.1) (q_D cs O (i.2.2.2.2.1, i.2.2.2.2.2) (true, 0, q_L0 as i.2.2.1, [], M, 0, 0)) none) := by
  intro E as M r M' hf
  dsimp only at hf
  cases hlen : Nat.ble (q_sl as).length i.2.2.1 with
  | false => rw [hlen] at hf; cases hf
  | true =>
    rw [hlen] at hf
    replace hf : q_D cs O (i.2.2.2.2.1, i.2.2.2.2.2) (true, 0, q_L0 as i.2.2.1, [], M, 0, 0) = some (r, M') := hf
    obtain ⟨n, hn⟩ := q_D_iff.mp hf
    have hle : (q_sl as).length ≤ i.2.2.1 := Nat.le_of_ble_eq_true hlen
    have hNN : M'.2.2.2.2 = M.2.2.2.2 + i.2.2.2.2.1 := by
      have := q_run_N (cs := cs) (O := O) (R := (i.2.2.2.2.1, i.2.2.2.2.2)) (fun pc e he j y n z mc ms tl hns as M r M' ho => ?_) n _ _ _ _ _ _ _ _ hn
      · simpa using this
      · obtain ⟨-, hv, -, hvn⟩ := hval pc e he
        have hvc : ∃ i, MI (y + 4) = some i ∧ q_Mok i ∧ i.2.2.2.2.1 = mc ∧ i.2.2.2.2.2 = ms := by
          obtain ⟨e1, ins, e3, ns', e5⟩ := e
          dsimp only at hns hv hvn
          subst hns
          cases ins
          case invokevirtual idx => obtain ⟨-, i', h1, h2, h3, h4, -⟩ := hv; exact ⟨i', h1, h2, h3, h4⟩
          case invokestatic idx => obtain ⟨-, i', h1, h2, h3, h4, -⟩ := hv; exact ⟨i', h1, h2, h3, h4⟩
          case invokespecial idx => obtain ⟨-, i', h1, h2, h3, h4, -⟩ := hv; exact ⟨i', h1, h2, h3, h4⟩
          all_goals exact absurd hvn (by simp [q_Vn])
        obtain ⟨i', hi', -, hmc, -⟩ := hvc
        obtain ⟨rk', -, hs⟩ := hO (y + 4) i' hi'
        rw [← hmc]
        exact (hs (((fun _ => 0), fun _ _ => 0), fun _ => 0, fun _ => 0, 0, (fun _ _ => 0), fun _ => (0, 0)) as M r M' ho).1
    refine ⟨hNN, Met.ofW (cc := i.2.1) (maxL := i.2.2.1) (ret := i.2.2.2.1) hpl rfl ?_⟩
    intro p e s m args below meth c s₁ B hml hv
    obtain ⟨rfl, hst, hdy, hsz⟩ := hv
    have hts := atoms_spec (ws := q_w i) B.pre
    have hB : QB p (headSpec (q_w i) (q_room rk i.2.2.2.2.1 i.2.2.2.2.2)).room s m ((as.map (q_v E.2.2.1)).toArray) meth c E i.2.2.1 i.2.1 i.1.cls i rk i.2.2.2.2.1 i.2.2.2.2.2 := ⟨B.exec, B.bytes, hml, q_Rm_r _ _ _, hts, hst, findClass_of_methodNamed B.named, hrk⟩
    have hrun := q_ok_run (l := l) (e := e) (below := below) (N0 := M.2.2.2.2) hB (fun h => ((name_of_methodNamed B.named B.method).1).trans (hini h)) hO hval B.returns B.notSynchronized n _ _ hn
    have hl := lv_entry (as.map (q_v E.2.2.1)) (n := i.2.2.1) (by rw [q_sl_len]; exact hle)
    rw [lg_entry_eq]
    refine hrun rfl s.heap [] _ ⟨hdy, va_S.rf, lv_less hl (fun q hq => ?_), ?_, by simp, hsz⟩
    · exact q_sl_args as 0 0 _ (q_pr_none _ _) q hq
    · unfold q_L0; rw [List.length_append, List.length_replicate]; omega
