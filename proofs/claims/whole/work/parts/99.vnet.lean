/-! ===== lines: nets, the whole line, its receivers ===== -/
theorem q_netLoop {v : Nat → Nat} {n s0 L : Nat} {e : QP} {D N : Nat} {cl : Nat → Nat} (hN : N < 6) : ∀ (f a s : Nat) (C : Nat → Nat → Int32) (J : Nat → Nat → Int64) (R : Nat → Nat → Int32) (K : Nat → Nat → Int64), a + f = 3 → s0 < s → q_Pt v n C J R K s → q_O5 C R D N cl → q_Rh C R D N cl → q_Nm J K 18 0 D → q_Nm J K 22 4 (N + 1) → (∃ x, x < 24 ∧ C 26 x = nI N ∧ R 78 x = 1) → fb_ct (bt (C 24 N)) 24 ≤ a →
    q_Res v n s0 L e C J R K (kX9_netLine 141 [some (.ref 31), some (.int (nI N)), some (.int (nI a))] [] (qm C J (3, 17, 17, 2, L))) (kX12_readNet 61 [some (.ref 64), some (.int (nI a))] [] (qm R K e)) := by
  intro f
  induction f with
  | zero =>
    intro a s C J R K ha hs h hO hM n1 n2 hw hct
    have ha3 : a = 3 := by omega
    subst ha3
    have h47 : R 64 47 = nI N := hO.1.2.1.2.1
    by_cases h3 : C 31 5 = 3
    · obtain ⟨C', R', b1, b2, b3, b4, _, _⟩ := q_refw L e h 2 (by decide)
      obtain ⟨R'', d1, d2⟩ := q_nt61_f (R := R') (K := K) (e := e) (N := N) b3.2.1 (by rw [b4.2.2 47 (by decide) (by decide) (by decide) (by decide) (by decide) (by decide)]; exact h47) hN (nI 3 + 1)
      refine Or.inr (q_Bad.of (C' := C') (J' := J) (R1 := R') ?_ b4.1 b3 (R' := R'') ?_ d2)
      · rw [eX9_netLine_141, if_pos h3, eX9_netLine_149, if_neg (by decide), eX9_netLine_154, if_pos (by rfl), eX9_netLine_159, b1]
        simp only [Option.bind_some, Option.toList_some, Option.toList_none, List.nil_append, List.cons_append, q_ck_tt, Bool.and_true, Bool.true_and, if_true, if_false, reduceCtorEq]
        rw [eX9_netLine_164]
        rfl
      · rw [eX12_readNet_61, if_pos h.ok, eX12_readNet_68, fX12_isName, h.nam, decide_eq_true h3]
        simp only [Option.bind_some, Option.toList_some, Option.toList_none, List.nil_append, List.cons_append, q_ck_tt, Bool.and_true, Bool.true_and, if_true, if_false, reduceCtorEq]
        rw [eX12_readNet_72, if_neg (by decide), eX12_readNet_75, if_pos (by rfl), eX12_readNet_80, b2]
        simp only [Option.bind_some, Option.toList_some, Option.toList_none, List.nil_append, List.cons_append, q_ck_tt, Bool.and_true, Bool.true_and, if_true, if_false, reduceCtorEq]
        rw [eX12_readNet_85, fX12_readOwnCell_f b3.2.1]
        simp only [Option.bind_some, Option.toList_some, Option.toList_none, List.nil_append, List.cons_append, q_ck_tt, Bool.and_true, Bool.true_and, if_true, if_false, reduceCtorEq]
        rw [eX12_readNet_90, d1]
    · rw [eX9_netLine_141, if_neg h3, eX12_readNet_61, if_pos h.ok, eX12_readNet_68, fX12_isName, h.nam, decide_eq_false h3]
      simp only [Option.bind_some, Option.toList_some, Option.toList_none, List.nil_append, List.cons_append, q_ck_tt, Bool.and_true, Bool.true_and, if_true, if_false, reduceCtorEq]
      rw [eX12_readNet_72, if_pos (by rfl)]
      exact q_netEnd hs h hO hM hN n1 n2 hw hct
  | succ f ih =>
    intro a s C J R K ha hs h hO hM n1 n2 hw hct
    have h47 : R 64 47 = nI N := hO.1.2.1.2.1
    have h1 : nI a + 1 = nI (a + 1) := nI_add a 1
    by_cases h3 : C 31 5 = 3
    · have hne3 : ¬ nI a = (3 : Int32) := fun g => by
        have := nI_inj (b := 3) (by omega) (by omega) g
        omega
      have hc0 : kX9_netLine 141 [some (.ref 31), some (.int (nI N)), some (.int (nI a))] [] (qm C J (3, 17, 17, 2, L)) = (mX9_cellOfNet [.ref 31, .int (nI N), .ref 24] (qm C J (3, 17, 17, 2, L))).bind (fun r => kX9_netLine 177 [some (.ref 31), some (.int (nI N)), some (.int (nI a))] (r.1.toList ++ []) r.2) := by
        rw [eX9_netLine_141, if_pos h3, eX9_netLine_149, if_neg (show ¬ (3 : Int32) < nI a from nI_nlt (a := 3) (by omega) (by omega)), eX9_netLine_154, if_neg hne3, eX9_netLine_165]
      have hr0 : kX12_readNet 61 [some (.ref 64), some (.int (nI a))] [] (qm R K e) = (mX12_readOwnCell [.ref 64, .int 1] (qm R K e)).bind (fun r => kX12_readNet 90 [some (.ref 64), some (.int (nI a))] (r.1.toList ++ []) r.2) := by
        rw [eX12_readNet_61, if_pos h.ok, eX12_readNet_68, fX12_isName, h.nam, decide_eq_true h3]
        simp only [Option.bind_some, Option.toList_some, Option.toList_none, List.nil_append, List.cons_append, q_ck_tt, Bool.and_true, Bool.true_and, if_true, if_false, reduceCtorEq]
        rw [eX12_readNet_72, if_neg (by decide), eX12_readNet_75, if_neg hne3, eX12_readNet_85]
      rcases q_own1 (L := L) (e := e) h hO hM hN n1 with ⟨C', J', R', K', s', x, a1, a2, a3, a4, a5, a6, a7, ⟨a8, a9, a10⟩, a11, a12, a13, a14⟩ | ⟨C', J', R', K', a1, a2, a3, a4⟩
      · have hct2 : fb_ct (bt (C' 24 N)) 24 ≤ a + 1 := by
          rw [a14]
          have g1 := q_ct_or (C 24 N) ((1 : Int32) <<< (nI x &&& 31)) 24
          have g2 := q_ct_one (k := x) (by omega) 24
          rw [if_pos a11] at g2
          omega
        have := ih (a + 1) s' C' J' R' K' (by omega) (by omega) a5 a6 a7 (q_Nm_eq n1 (fun i _ => by rw [a8]) (fun i _ => by rw [a10])) (q_Nm_eq n2 (fun i _ => by rw [a9]) (fun i _ => by rw [a10])) ⟨x, a11, a12, a13⟩ hct2
        rw [hc0, hr0, a1, a2]
        simp only [Option.bind_some, Option.toList_some, Option.toList_none, List.nil_append, List.cons_append, q_ck_tt, Bool.and_true, Bool.true_and, if_true, if_false, reduceCtorEq]
        rw [eX9_netLine_177, if_neg (by decide), eX9_netLine_182, h1, eX12_readNet_90, h1]
        exact q_Res.mono this a3 (Nat.le_refl _)
      · obtain ⟨R'', d1, d2⟩ := q_nt61_f (R := R') (K := K') (e := e) (N := N) a3.2.1 (by rw [a4.2.2 47 (by decide) (by decide) (by decide) (by decide) (by decide) (by decide)]; exact h47) hN (nI a + 1)
        refine Or.inr (q_Bad.of (C' := C') (J' := J') (R1 := R') ?_ a4.1 a3 (R' := R'') ?_ d2)
        · rw [hc0, a1]
          simp only [Option.bind_some, Option.toList_some, Option.toList_none, List.nil_append, List.cons_append, q_ck_tt, Bool.and_true, Bool.true_and, if_true, if_false, reduceCtorEq]
          rw [eX9_netLine_177, if_pos rfl, eX9_netLine_180]
        · rw [hr0, a2]
          simp only [Option.bind_some, Option.toList_some, Option.toList_none, List.nil_append, List.cons_append, q_ck_tt, Bool.and_true, Bool.true_and, if_true, if_false, reduceCtorEq]
          rw [eX12_readNet_90, d1]
    · rw [eX9_netLine_141, if_neg h3, eX12_readNet_61, if_pos h.ok, eX12_readNet_68, fX12_isName, h.nam, decide_eq_false h3]
      simp only [Option.bind_some, Option.toList_some, Option.toList_none, List.nil_append, List.cons_append, q_ck_tt, Bool.and_true, Bool.true_and, if_true, if_false, reduceCtorEq]
      rw [eX12_readNet_72, if_pos (by rfl)]
      exact q_netEnd hs h hO hM hN n1 n2 hw (by omega)
/-- from 'to' on -/
theorem q_net113 {v : Nat → Nat} {n s L : Nat} {C : Nat → Nat → Int32} {J : Nat → Nat → Int64} {R : Nat → Nat → Int32} {K : Nat → Nat → Int64} {e : QP} {D N : Nat} {cl : Nat → Nat} (h : q_Pt v n C J R K s) (hO : q_O5 C R D N cl) (hM : q_Rh C R D N cl) (hN : N < 6) (n1 : q_Nm J K 18 0 D) (n2 : q_Nm J K 22 4 (N + 1)) (h24 : C 24 N = 0) :
    q_Res v n s L e C J R K (kX9_netLine 113 [some (.ref 31), some (.int (nI N)), none] [] (qm C J (3, 17, 17, 2, L))) (kX12_readNet 47 [some (.ref 64), none] [] (qm R K e)) := by
  have h47 : R 64 47 = nI N := hO.1.2.1.2.1
  rcases q_tkKey (L := L) (e := e) h (k := 7) (by decide) (a := 7) (w := 29807) rfl (by decide +kernel) with ⟨-, -, C1, J1, R1, K1, s1, e1, -, e3, e4, e5, e6⟩ | ⟨C', R', e1, e2, e3, e4, -⟩
  · have hO1 := q_O5_ad hO e4
    have hM1 := q_Rh_ad hM e4
    have n11 := q_Nm_ad n1 (by decide) e4
    have n21 := q_Nm_ad n2 (by decide) e4
    have h241 : C1 24 N = 0 := by rw [e4.1.1 24 (by decide)]; exact h24
    have h471 : R1 64 47 = nI N := hO1.1.2.1.2.1
    have hc0 : kX9_netLine 113 [some (.ref 31), some (.int (nI N)), none] [] (qm C J (3, 17, 17, 2, L)) = (mX9_cellOfNet [.ref 31, .int (nI N), .ref 24] (qm C1 J1 (3, 17, 17, 2, L))).bind (fun r => kX9_netLine 134 [some (.ref 31), some (.int (nI N)), none] (r.1.toList ++ []) r.2) := by
      rw [eX9_netLine_113, e1]
      simp only [Option.bind_some, Option.toList_some, Option.toList_none, List.nil_append, List.cons_append, q_ck_tt, Bool.and_true, Bool.true_and, if_true, if_false, reduceCtorEq]
      rw [eX9_netLine_119, if_neg (by decide), eX9_netLine_122]
    have hr0 : kX12_readNet 47 [some (.ref 64), none] [] (qm R K e) = (mX12_readOwnCell [.ref 64, .int 1] (qm R1 K1 e)).bind (fun r => kX12_readNet 59 [some (.ref 64), none] (r.1.toList ++ []) r.2) := by
      rw [eX12_readNet_47, e3]
      simp only [Option.bind_some, Option.toList_some, Option.toList_none, List.nil_append, List.cons_append, q_ck_tt, Bool.and_true, Bool.true_and, if_true, if_false, reduceCtorEq]
      rw [eX12_readNet_54]
    refine q_Res.mono (s1 := s1) ?_ e4.gf (Nat.le_of_lt e5)
    rcases q_own1 (L := L) (e := e) e6 hO1 hM1 hN n11 with ⟨C', J', R', K', s', x, a1, a2, a3, a4, a5, a6, a7, ⟨a8, a9, a10⟩, a11, a12, a13, a14⟩ | ⟨C', J', R', K', a1, a2, a3, a4⟩
    · have hct2 : fb_ct (bt (C' 24 N)) 24 ≤ 1 := by
        rw [a14, h241]
        have g1 := q_ct_or 0 ((1 : Int32) <<< (nI x &&& 31)) 24
        have g2 := q_ct_one (k := x) (by omega) 24
        have g3 : fb_ct (bt 0) 24 = 0 := by decide +kernel
        rw [if_pos a11] at g2
        omega
      have := q_netLoop (L := L) (e := e) (v := v) (n := n) (s0 := s1) hN 2 1 s' C' J' R' K' rfl a4 a5 a6 a7 (q_Nm_eq n11 (fun i _ => by rw [a8]) (fun i _ => by rw [a10])) (q_Nm_eq n21 (fun i _ => by rw [a9]) (fun i _ => by rw [a10])) ⟨x, a11, a12, a13⟩ hct2
      rw [hc0, hr0, a1, a2]
      simp only [Option.bind_some, Option.toList_some, Option.toList_none, List.nil_append, List.cons_append, q_ck_tt, Bool.and_true, Bool.true_and, if_true, if_false, reduceCtorEq]
      rw [eX9_netLine_134, if_neg (by decide), eX9_netLine_139, eX12_readNet_59]
      exact q_Res.mono this a3 (Nat.le_refl _)
    · obtain ⟨R'', d1, d2⟩ := q_nt61_f (R := R') (K := K') (e := e) (N := N) a3.2.1 (by rw [a4.2.2 47 (by decide) (by decide) (by decide) (by decide) (by decide) (by decide)]; exact h471) hN 1
      refine Or.inr (q_Bad.of (C' := C') (J' := J') (R1 := R') ?_ a4.1 a3 (R' := R'') ?_ d2)
      · rw [hc0, a1]
        simp only [Option.bind_some, Option.toList_some, Option.toList_none, List.nil_append, List.cons_append, q_ck_tt, Bool.and_true, Bool.true_and, if_true, if_false, reduceCtorEq]
        rw [eX9_netLine_134, if_pos rfl, eX9_netLine_137]
      · rw [hr0, a2]
        simp only [Option.bind_some, Option.toList_some, Option.toList_none, List.nil_append, List.cons_append, q_ck_tt, Bool.and_true, Bool.true_and, if_true, if_false, reduceCtorEq]
        rw [eX12_readNet_59, d1]
  · obtain ⟨R'', d1, d2⟩ := q_nt54_f (R := R') (K := K) (e := e) (N := N) e3.2.1 (by rw [e4.2.2 47 (by decide) (by decide) (by decide) (by decide) (by decide) (by decide)]; exact h47) hN
    refine Or.inr (q_Bad.of (C' := C') (J' := J) (R1 := R') ?_ e4.1 e3 (R' := R'') ?_ d2)
    · rw [eX9_netLine_113, e1]
      simp only [Option.bind_some, Option.toList_some, Option.toList_none, List.nil_append, List.cons_append, q_ck_tt, Bool.and_true, Bool.true_and, if_true, if_false, reduceCtorEq]
      rw [eX9_netLine_119, if_pos rfl, eX9_netLine_137]
    · rw [eX12_readNet_47, e2]
      simp only [Option.bind_some, Option.toList_some, Option.toList_none, List.nil_append, List.cons_append, q_ck_tt, Bool.and_true, Bool.true_and, if_true, if_false, reduceCtorEq]
      exact d1
/-- from 'from' on -/
theorem q_net58 {v : Nat → Nat} {n s L : Nat} {C : Nat → Nat → Int32} {J : Nat → Nat → Int64} {R : Nat → Nat → Int32} {K : Nat → Nat → Int64} {e : QP} {D N : Nat} {cl : Nat → Nat} (h : q_Pt v n C J R K s) (hO : q_O5 C R D N cl) (hM : q_Rh C R D N cl) (hN : N < 6) (n1 : q_Nm J K 18 0 D) (n2 : q_Nm J K 22 4 (N + 1)) (h24 : C 24 N = 0) :
    q_Res v n s L e C J R K (kX9_netLine 58 [some (.ref 31), some (.int (nI N)), none] [] (qm C J (3, 17, 17, 2, L))) (kX12_readNet 9 [some (.ref 64), none] [] (qm R K e)) := by
  have h47 : R 64 47 = nI N := hO.1.2.1.2.1
  rcases q_tkKey (L := L) (e := e) h (k := 5) (by decide) (a := 5) (w := 1718775661) rfl (by decide +kernel) with ⟨-, -, C1, J1, R1, K1, s1, e1, -, e3, e4, e5, e6⟩ | ⟨C', R', e1, e2, e3, e4, -⟩
  · have hO1 := q_O5_ad hO e4
    have hM1 := q_Rh_ad hM e4
    have n11 := q_Nm_ad n1 (by decide) e4
    have n21 := q_Nm_ad n2 (by decide) e4
    have h241 : C1 24 N = 0 := by rw [e4.1.1 24 (by decide)]; exact h24
    have h471 : R1 64 47 = nI N := hO1.1.2.1.2.1
    have hc0 : kX9_netLine 58 [some (.ref 31), some (.int (nI N)), none] [] (qm C J (3, 17, 17, 2, L)) = (mX9_cellOfNet [.ref 31, .int (nI N), .ref 23] (qm C1 J1 (3, 17, 17, 2, L))).bind (fun r => kX9_netLine 78 [some (.ref 31), some (.int (nI N)), none] (r.1.toList ++ []) r.2) := by
      rw [eX9_netLine_58, e1]
      simp only [Option.bind_some, Option.toList_some, Option.toList_none, List.nil_append, List.cons_append, q_ck_tt, Bool.and_true, Bool.true_and, if_true, if_false, reduceCtorEq]
      rw [eX9_netLine_63, if_neg (by decide), eX9_netLine_66]
    have hr0 : kX12_readNet 9 [some (.ref 64), none] [] (qm R K e) = (mX12_readOwnCell [.ref 64, .int 0] (qm R1 K1 e)).bind (fun r => kX12_readNet 21 [some (.ref 64), none] (r.1.toList ++ []) r.2) := by
      rw [eX12_readNet_9, e3]
      simp only [Option.bind_some, Option.toList_some, Option.toList_none, List.nil_append, List.cons_append, q_ck_tt, Bool.and_true, Bool.true_and, if_true, if_false, reduceCtorEq]
      rw [eX12_readNet_16]
    refine q_Res.mono (s1 := s1) ?_ e4.gf (Nat.le_of_lt e5)
    rcases q_own0 (L := L) (e := e) e6 hO1 hM1 hN n11 with ⟨C2, J2, R2, K2, s2, x, a1, a2, a3, a4, a5, a6, a7, ⟨a8, a9, a10⟩, a11, a12, a13, a14⟩ | ⟨C', J', R', K', a1, a2, a3, a4⟩
    · have n12 : q_Nm J2 K2 18 0 D := q_Nm_eq n11 (fun i _ => by rw [a8]) (fun i _ => by rw [a10])
      have n22 : q_Nm J2 K2 22 4 (N + 1) := q_Nm_eq n21 (fun i _ => by rw [a9]) (fun i _ => by rw [a10])
      have h242 : C2 24 N = 0 := by rw [a14]; exact h241
      have h472 : R2 64 47 = nI N := a6.1.2.1.2.1
      have hkey := a5.key (k := 6) (by decide)
      rw [show qKW 6 = 6385252 by decide +kernel, show nI 6 = (6 : Int32) from rfl] at hkey
      rw [hc0, hr0, a1, a2]
      simp only [Option.bind_some, Option.toList_some, Option.toList_none, List.nil_append, List.cons_append, q_ck_tt, Bool.and_true, Bool.true_and, if_true, if_false, reduceCtorEq]
      rw [eX9_netLine_78, if_neg (by decide), eX9_netLine_83, fX9_atKey, eX12_readNet_21, if_pos a5.ok, eX12_readNet_28, fX12_isWord, hkey]
      simp only [Option.bind_some, Option.toList_some, Option.toList_none, List.nil_append, List.cons_append, q_ck_tt, Bool.and_true, Bool.true_and, if_true, if_false, reduceCtorEq]
      refine q_Res.mono (s1 := s2) ?_ a3 (Nat.le_of_lt a4)
      cases hb : (decide (C2 31 5 = 2) && decide (C2 31 6 = 6)) with
      | false =>
        rw [eX9_netLine_89, if_pos (by rfl), eX12_readNet_35, if_pos (by rfl)]
        exact q_net113 a5 a6 a7 hN n12 n22 h242
      | true =>
        have hb' : C2 31 5 = 2 ∧ C2 31 6 = 6 := by simpa using hb
        rw [eX9_netLine_89, if_neg (by decide), eX12_readNet_35, if_neg (by decide)]
        obtain ⟨C3, J3, R3, K3, s3, f1, f2, f3, f4, f5⟩ := q_adv (L := L) (e := e) a5 (by rw [hb'.1]; decide) (by rw [hb'.1]; decide)
        have hO3 := q_O5_ad a6 f3
        have hM3 := q_Rh_ad a7 f3
        have n13 := q_Nm_ad n12 (by decide) f3
        have n23 := q_Nm_ad n22 (by decide) f3
        have h243 : C3 24 N = 0 := by rw [f3.1.1 24 (by decide)]; exact h242
        have h473 : R3 64 47 = nI N := hO3.1.2.1.2.1
        rw [eX9_netLine_92, f1, eX12_readNet_38, f2]
        simp only [Option.bind_some, Option.toList_some, Option.toList_none, List.nil_append, List.cons_append, q_ck_tt, Bool.and_true, Bool.true_and, if_true, if_false, reduceCtorEq]
        rw [eX9_netLine_96, eX12_readNet_42]
        refine q_Res.mono (s1 := s3) ?_ f3.gf (Nat.le_of_lt f4)
        rcases q_own0 (L := L) (e := e) f5 hO3 hM3 hN n13 with ⟨C4, J4, R4, K4, s4, y, b1, b2, b3, b4, b5, b6, b7, ⟨b8, b9, b10⟩, b11, b12, b13, b14⟩ | ⟨C', J', R', K', b1, b2, b3, b4⟩
        · rw [b1, b2]
          simp only [Option.bind_some, Option.toList_some, Option.toList_none, List.nil_append, List.cons_append, q_ck_tt, Bool.and_true, Bool.true_and, if_true, if_false, reduceCtorEq]
          rw [eX9_netLine_108, if_neg (by decide)]
          exact q_Res.mono (q_net113 b5 b6 b7 hN (q_Nm_eq n13 (fun i _ => by rw [b8]) (fun i _ => by rw [b10])) (q_Nm_eq n23 (fun i _ => by rw [b9]) (fun i _ => by rw [b10])) (by rw [b14]; exact h243)) b3 (Nat.le_of_lt b4)
        · obtain ⟨R'', d1, d2⟩ := q_nt47_f (R := R') (K := K') (e := e) (N := N) b3.2.1 (by rw [b4.2.2 47 (by decide) (by decide) (by decide) (by decide) (by decide) (by decide)]; exact h473) hN
          refine Or.inr (q_Bad.of (C' := C') (J' := J') (R1 := R') ?_ b4.1 b3 (R' := R'') ?_ d2)
          · rw [b1]
            simp only [Option.bind_some, Option.toList_some, Option.toList_none, List.nil_append, List.cons_append, q_ck_tt, Bool.and_true, Bool.true_and, if_true, if_false, reduceCtorEq]
            rw [eX9_netLine_108, if_pos rfl, eX9_netLine_111]
          · rw [b2]
            simp only [Option.bind_some, Option.toList_some, Option.toList_none, List.nil_append, List.cons_append, q_ck_tt, Bool.and_true, Bool.true_and, if_true, if_false, reduceCtorEq]
            exact d1
    · obtain ⟨R'', d1, d2⟩ := q_nt21_f (R := R') (K := K') (e := e) (N := N) a3.2.1 (by rw [a4.2.2 47 (by decide) (by decide) (by decide) (by decide) (by decide) (by decide)]; exact h471) hN
      refine Or.inr (q_Bad.of (C' := C') (J' := J') (R1 := R') ?_ a4.1 a3 (R' := R'') ?_ d2)
      · rw [hc0, a1]
        simp only [Option.bind_some, Option.toList_some, Option.toList_none, List.nil_append, List.cons_append, q_ck_tt, Bool.and_true, Bool.true_and, if_true, if_false, reduceCtorEq]
        rw [eX9_netLine_78, if_pos rfl, eX9_netLine_81]
      · rw [hr0, a2]
        simp only [Option.bind_some, Option.toList_some, Option.toList_none, List.nil_append, List.cons_append, q_ck_tt, Bool.and_true, Bool.true_and, if_true, if_false, reduceCtorEq]
        exact d1
  · obtain ⟨R'', d1, d2⟩ := q_nt16_f (R := R') (K := K) (e := e) (N := N) e3.2.1 (by rw [e4.2.2 47 (by decide) (by decide) (by decide) (by decide) (by decide) (by decide)]; exact h47) hN
    refine Or.inr (q_Bad.of (C' := C') (J' := J) (R1 := R') ?_ e4.1 e3 (R' := R'') ?_ d2)
    · rw [eX9_netLine_58, e1]
      simp only [Option.bind_some, Option.toList_some, Option.toList_none, List.nil_append, List.cons_append, q_ck_tt, Bool.and_true, Bool.true_and, if_true, if_false, reduceCtorEq]
      rw [eX9_netLine_63, if_pos rfl, eX9_netLine_81]
    · rw [eX12_readNet_9, e2]
      simp only [Option.bind_some, Option.toList_some, Option.toList_none, List.nil_append, List.cons_append, q_ck_tt, Bool.and_true, Bool.true_and, if_true, if_false, reduceCtorEq]
      exact d1
theorem q_netq {v : Nat → Nat} {n s L : Nat} {C : Nat → Nat → Int32} {J : Nat → Nat → Int64} {R : Nat → Nat → Int32} {K : Nat → Nat → Int64} {e : QP} {D N : Nat} {cl : Nat → Nat} (h : q_Pt v n C J R K s) (h2 : C 31 5 = 2) (hB : q_BR C J R K D N cl) (hN : N < 6) : q_Res v n s L e C J R K (mX9_netLine [.ref 31] (qm C J (3, 17, 17, 2, L))) (mX12_readNet [.ref 64] (qm R K e)) := by
  obtain ⟨hB6, n1, n2⟩ := hB
  have hC5 : C 17 5 = nI N := hB6.1.2.1.1
  have h47 : R 64 47 = nI N := hB6.1.2.1.2.1
  have hO : q_O5 C R D N cl := ⟨hB6.1, hB6.2.2.1, hB6.2.2.2.1, hB6.2.2.2.2.1, hB6.2.2.2.2.2⟩
  have hM : q_Rh C R D N cl := q_Rh_of hN hB6.2.1
  have h24 : C 24 N = 0 := by
    refine b_zero.mpr (fun i hi => ?_)
    obtain ⟨a, b, c, d, f, g⟩ := hB6.2.1
    rw [(c N hN i hi).2]
    by_cases hi2 : i < 24
    · have hne : ¬ C 26 i = nI N := fun he => by
        rcases (a i hi2).1 with g | ⟨k, k1, k2⟩
        · exact nI_ne_m1 (i := N) (by omega) (by rw [← he]; exact g)
        · have := nI_inj (by omega) (by omega) (k2.symm.trans he)
          omega
      rw [decide_eq_false hne, Bool.false_and, Bool.and_false]
    · rw [decide_eq_false hi2, Bool.false_and]
  have c0 : mX9_netLine [.ref 31] (qm C J (3, 17, 17, 2, L)) = kX9_netLine 20 [some (.ref 31), some (.int (nI N)), none] [] (qm C J (3, 17, 17, 2, L)) := by rw [bX9_netLine, eX9_netLine_0, hC5, if_pos (show nI N < (6 : Int32) from nI_lt (b := 6) hN (by omega))]
  have hnn := q_newName_22 (L := L) (e := e) h (by rw [h2]; decide) (by rw [h2]; decide) n2 hN
  rw [show nI 4 = (4 : Int32) from rfl] at hnn
  rcases hnn with ⟨C1, J1, R1, K1, s1, e1, e2, e3, e4, e5, e6, e7, e8⟩ | ⟨C1, J1, C', R', K', e1, e2, e3, e4, e5⟩
  · have hp1 : q_Pt v n C1 (q_up J1 22 N (J1 31 7)) R1 (q_up K1 66 (4 + N) (K1 64 9)) s1 := q_Pt_eq e6 rfl (fun _ _ _ => rfl) (q_up_at3 _ _ (by decide)) (by rw [q_up_at3 _ _ (by decide)]) rfl (fun _ _ _ _ => rfl) (by rw [q_up_at3 _ _ (by decide)])
    obtain ⟨C2, J2, R2, K2, s2, f1, f2, f3, f4, f5⟩ := q_adv (L := L) (e := e) hp1 (by rw [e7]; decide) (by rw [e7]; decide)
    have c1 : kX9_netLine 20 [some (.ref 31), some (.int (nI N)), none] [] (qm C J (3, 17, 17, 2, L)) = kX9_netLine 58 [some (.ref 31), some (.int (nI N)), none] [] (qm C2 J2 (3, 17, 17, 2, L)) := by
      rw [eX9_netLine_20, e1]
      simp only [Option.bind_some, Option.toList_some, Option.toList_none, List.nil_append, List.cons_append, q_ck_tt, Bool.and_true, Bool.true_and, if_true, if_false, reduceCtorEq]
      rw [eX9_netLine_24, e2]
      simp only [Option.bind_some, Option.toList_some, Option.toList_none, List.nil_append, List.cons_append, q_ck_tt, Bool.and_true, Bool.true_and, if_true, if_false, reduceCtorEq]
      rw [eX9_netLine_36, if_neg (by decide), eX9_netLine_41, q_in_nI (by omega) (by omega), nI_n (by omega), Bool.true_and, q_ck_tt, f1]
      simp only [Option.bind_some, Option.toList_some, Option.toList_none, List.nil_append, List.cons_append, q_ck_tt, Bool.and_true, Bool.true_and, if_true, if_false, reduceCtorEq]
    have r1 : mX12_readNet [.ref 64] (qm R K e) = kX12_readNet 9 [some (.ref 64), none] [] (qm R2 K2 e) := by
      rw [bX12_readNet, eX12_readNet_0, h47, e3 R2 K2 f2]
      simp only [Option.bind_some, Option.toList_some, Option.toList_none, List.nil_append, List.cons_append, q_ck_tt, Bool.and_true, Bool.true_and, if_true, if_false, reduceCtorEq]
    have n11 : q_Nm J2 K2 18 0 D := q_Nm_ad (q_Nm_eq (q_Nm_ad n1 (by decide) e4) (fun i _ => by rw [q_up_at3 _ _ (by decide)]) (fun i hi => by rw [q_up_at2 _ _ (by have := hB6.1.1.2.2; omega)])) (by decide) f3
    rw [c0, c1, r1]
    exact q_Res.mono (q_net58 f5 (q_O5_ad (q_O5_ad hO e4) f3) (q_Rh_ad (q_Rh_ad hM e4) f3) hN n11 (q_Nm_ad e8 (by decide) f3) (by rw [f3.1.1 24 (by decide), e4.1.1 24 (by decide)]; exact h24)) (q_Gf_trans (q_Gf_J (by omega) (q_Gf_K (Or.inr rfl) e4.gf)) f3.gf) (Nat.le_of_lt (Nat.lt_trans e5 f4))
  · obtain ⟨R'', d1, d2⟩ := q_nt9_f (R := R') (K := K') (e := e) (N := N) e4.2.1 (by rw [e5.2.2 47 (by decide) (by decide) (by decide) (by decide) (by decide) (by decide)]; exact h47) hN
    refine Or.inr (q_Bad.of (C' := C') (J' := J1) (R1 := R') ?_ e5.1 e4 (R' := R'') ?_ d2)
    · rw [c0, eX9_netLine_20, e1]
      simp only [Option.bind_some, Option.toList_some, Option.toList_none, List.nil_append, List.cons_append, q_ck_tt, Bool.and_true, Bool.true_and, if_true, if_false, reduceCtorEq]
      rw [eX9_netLine_24, e2]
      simp only [Option.bind_some, Option.toList_some, Option.toList_none, List.nil_append, List.cons_append, q_ck_tt, Bool.and_true, Bool.true_and, if_true, if_false, reduceCtorEq]
      rw [eX9_netLine_36, if_pos rfl, eX9_netLine_39]
    · rw [bX12_readNet, eX12_readNet_0, h47, e3]
      simp only [Option.bind_some, Option.toList_some, Option.toList_none, List.nil_append, List.cons_append, q_ck_tt, Bool.and_true, Bool.true_and, if_true, if_false, reduceCtorEq]
      exact d1
