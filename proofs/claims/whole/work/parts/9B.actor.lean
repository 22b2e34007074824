/-! ===== constructors (by program) ===== -/
def qX0 : Nat → Nat → Int32 := fun _ _ => 0
def qfZ : Nat → Int64 := fun _ => 0
def q_Z (B : Nat → Nat → Int32) (f : Nat → Int64) (X : Nat → Nat → Int32) (n : Nat) (I : Nat → Nat → Int32) (J : Nat → Nat → Int64) : Prop := (∀ p k, 1 ≤ p → p ≤ n → I p k = X p k) ∧ (∀ p k, 1 ≤ p → p ≤ n → J p k = if p = 32 then f k else 0) ∧ ∀ p, n < p → I p = B p
theorem q_tx4 {M : QM} (h : q_kd M 1010 = 40) : q_text4 [.ref 1010] M = some (some (.int 102), M) := by
  show q_ck (Nat.beq (q_kd M 1010) 40) (some (some (Value.int 102), M)) = _
  rw [h]
  rfl
theorem q_tx5 {M : QM} (a c : Int32) (h : q_kd M 1010 = 40) (hq : q_in a 102 = true) (hc : q_tx.getD a.toNatClampNeg 0 = c) : q_text5 [.ref 1010, .int a] M = some (some (.int c), M) := by
  show q_ck (Nat.beq (q_kd M 1010) 40 && q_in a 102) (some (some (Value.int (q_tx.getD a.toNatClampNeg 0)), M)) = _
  rw [h, hq, hc]
  rfl
section CT
variable {B : Nat → Nat → Int32} {f : Nat → Int64} {X : Nat → Nat → Int32} {n : Nat} {I : Nat → Nat → Int32} {J : Nat → Nat → Int64}
theorem q_Z_new (h : q_Z B f X n I J) {m : Nat} (hm : m = n + 1) (h32 : m ≠ 32 ∨ ∀ k, f k = 0) (hX : ∀ k, X m k = 0) : q_Z B f X m (va_up I m (fun _ => 0)) (va_up J m (fun _ => 0)) := by
  refine ⟨fun p k h1 h2 => ?_, fun p k h1 h2 => ?_, fun p hp => ?_⟩
  · by_cases g : p = m
    · subst g; rw [va_hit, hX]
    · rw [va_miss g]; exact h.1 p k h1 (by omega)
  · by_cases g : p = m
    · subst g
      rw [va_hit]
      rcases h32 with y | y
      · rw [if_neg y]
      · by_cases z : p = 32
        · rw [if_pos z, y]
        · rw [if_neg z]
    · rw [va_miss g]; exact h.2.1 p k h1 (by omega)
  · rw [va_miss (by omega)]; exact h.2.2 p (by omega)
theorem q_Z_wr (h : q_Z B f X n I J) {p k : Nat} {v : Int32} (hp : 1 ≤ p ∧ p ≤ n) (hv : v = X p k) : q_Z B f X n (q_up I p k v) J := by
  refine ⟨fun q j h1 h2 => ?_, h.2.1, fun q hq => by rw [q_up_at3 _ _ (by omega)]; exact h.2.2 q hq⟩
  by_cases g : q = p
  · subst g
    by_cases y : j = k
    · subst y; rw [q_up_at1, hv]
    · rw [q_up_at2 _ _ y]; exact h.1 q j h1 h2
  · rw [q_up_at3 _ _ g]; exact h.1 q j h1 h2
theorem q_Z_X (h : q_Z B f X n I J) {p k : Nat} {v : Int32} (hp : 1 ≤ p ∧ p ≤ n) : q_Z B f (q_up X p k v) n (q_up I p k v) J := by
  refine ⟨fun q j h1 h2 => ?_, h.2.1, fun q hq => by rw [q_up_at3 _ _ (by omega)]; exact h.2.2 q hq⟩
  by_cases g : q = p
  · subst g
    by_cases y : j = k
    · subst y; rw [q_up_at1, q_up_at1]
    · rw [q_up_at2 _ _ y, q_up_at2 _ _ y]; exact h.1 q j h1 h2
  · rw [q_up_at3 _ _ g, q_up_at3 _ _ g]; exact h.1 q j h1 h2
theorem q_Z_wJ (h : q_Z B f X n I J) {p k : Nat} (hp : p ≠ 32) (hn : 1 ≤ p ∧ p ≤ n) : q_Z B f X n I (q_up J p k 0) := by
  refine ⟨h.1, fun q j h1 h2 => ?_, h.2.2⟩
  by_cases g : q = p
  · subst g
    rw [if_neg hp]
    by_cases y : j = k
    · subst y; rw [q_up_at1]
    · rw [q_up_at2 _ _ y, h.2.1 q j h1 h2, if_neg hp]
  · rw [q_up_at3 _ _ g]; exact h.2.1 q j h1 h2
theorem q_Z_k (h : q_Z B f X n I J) {k : Nat} {v : Int64} (hn : 32 ≤ n) : q_Z B (va_up f k v) X n I (q_up J 32 k v) := by
  refine ⟨h.1, fun q j h1 h2 => ?_, h.2.2⟩
  by_cases g : q = 32
  · subst g
    rw [if_pos rfl]
    by_cases y : j = k
    · subst y; rw [q_up_at1, va_hit]
    · rw [q_up_at2 _ _ y, va_miss y, h.2.1 32 j h1 h2, if_pos rfl]
  · rw [q_up_at3 _ _ g, h.2.1 q j h1 h2, if_neg g, if_neg g]
theorem q_Z_cp (h : q_Z B f X n I J) {a b s d m : Nat} (ha : 1 ≤ a ∧ a ≤ n) (hb : 1 ≤ b ∧ b ≤ n) (hXa : ∀ k, X a k = 0) (hXb : ∀ k, X b k = 0) : q_Z B f X n (va_up I b (va_cpy (I a) (I b) s d m)) J := by
  refine ⟨fun q j h1 h2 => ?_, h.2.1, fun q hq => by rw [va_miss (by omega)]; exact h.2.2 q hq⟩
  by_cases g : q = b
  · subst g
    rw [va_hit, hXb]
    unfold va_cpy
    split
    · rw [h.1 a _ ha.1 ha.2, hXa]
    · rw [h.1 q _ h1 h2, hXb]
  · rw [va_miss g]; exact h.1 q j h1 h2
end CT
def qcS_0 (L : Nat) : Nat → Nat × Nat := q_S00 L
def qcS_1 (L : Nat) : Nat → Nat × Nat := va_up (qcS_0 L) 1 (11, 16)
def qcS_2 (L : Nat) : Nat → Nat × Nat := va_up (qcS_1 L) 2 (21, 1600)
def qcS_3 (L : Nat) : Nat → Nat × Nat := va_up (qcS_2 L) 3 (1, 16)
def qcS_4 (L : Nat) : Nat → Nat × Nat := va_up (qcS_3 L) 4 (23, 4)
def qcS_5 (L : Nat) : Nat → Nat × Nat := va_up (qcS_4 L) 5 (22, 4)
def qcS_6 (L : Nat) : Nat → Nat × Nat := va_up (qcS_5 L) 6 (22, 4)
def qcS_7 (L : Nat) : Nat → Nat × Nat := va_up (qcS_6 L) 7 (22, 4)
def qcS_8 (L : Nat) : Nat → Nat × Nat := va_up (qcS_7 L) 8 (23, 6)
def qcS_9 (L : Nat) : Nat → Nat × Nat := va_up (qcS_8 L) 9 (22, 6)
def qcS_10 (L : Nat) : Nat → Nat × Nat := va_up (qcS_9 L) 10 (22, 6)
def qcS_11 (L : Nat) : Nat → Nat × Nat := va_up (qcS_10 L) 11 (22, 6)
def qcS_12 (L : Nat) : Nat → Nat × Nat := va_up (qcS_11 L) 12 (22, 24)
def qcS_13 (L : Nat) : Nat → Nat × Nat := va_up (qcS_12 L) 13 (3, 5)
def qcS_14 (L : Nat) : Nat → Nat × Nat := va_up (qcS_13 L) 14 (4, 4)
def qcS_15 (L : Nat) : Nat → Nat × Nat := va_up (qcS_14 L) 15 (22, 300)
def qcS_16 (L : Nat) : Nat → Nat × Nat := va_up (qcS_15 L) 16 (22, 30)
def qcS_17 (L : Nat) : Nat → Nat × Nat := va_up (qcS_16 L) 17 (1, 16)
def qcS_18 (L : Nat) : Nat → Nat × Nat := va_up (qcS_17 L) 18 (23, 4)
def qcS_19 (L : Nat) : Nat → Nat × Nat := va_up (qcS_18 L) 19 (22, 4)
def qcS_20 (L : Nat) : Nat → Nat × Nat := va_up (qcS_19 L) 20 (22, 4)
def qcS_21 (L : Nat) : Nat → Nat × Nat := va_up (qcS_20 L) 21 (22, 4)
def qcS_22 (L : Nat) : Nat → Nat × Nat := va_up (qcS_21 L) 22 (23, 6)
def qcS_23 (L : Nat) : Nat → Nat × Nat := va_up (qcS_22 L) 23 (22, 6)
def qcS_24 (L : Nat) : Nat → Nat × Nat := va_up (qcS_23 L) 24 (22, 6)
def qcS_25 (L : Nat) : Nat → Nat × Nat := va_up (qcS_24 L) 25 (22, 6)
def qcS_26 (L : Nat) : Nat → Nat × Nat := va_up (qcS_25 L) 26 (22, 24)
def qcS_27 (L : Nat) : Nat → Nat × Nat := va_up (qcS_26 L) 27 (3, 5)
def qcS_28 (L : Nat) : Nat → Nat × Nat := va_up (qcS_27 L) 28 (4, 4)
def qcS_29 (L : Nat) : Nat → Nat × Nat := va_up (qcS_28 L) 29 (22, 300)
def qcS_30 (L : Nat) : Nat → Nat × Nat := va_up (qcS_29 L) 30 (22, 30)
def qcS_31 (L : Nat) : Nat → Nat × Nat := va_up (qcS_30 L) 31 (9, 14)
def qcS_32 (L : Nat) : Nat → Nat × Nat := va_up (qcS_31 L) 32 (23, 21)
def qcS_33 (L : Nat) : Nat → Nat × Nat := va_up (qcS_32 L) 33 (21, 0)
def qcS_34 (L : Nat) : Nat → Nat × Nat := va_up (qcS_33 L) 34 (10, 2)
def qcS_35 (L : Nat) : Nat → Nat × Nat := va_up (qcS_34 L) 35 (22, 16)
def qcS_36 (L : Nat) : Nat → Nat × Nat := va_up (qcS_35 L) 36 (22, 16)
def qcS_37 (L : Nat) : Nat → Nat × Nat := va_up (qcS_36 L) 37 (2, 9)
def qcS_38 (L : Nat) : Nat → Nat × Nat := va_up (qcS_37 L) 38 (22, 4)
def qcS_39 (L : Nat) : Nat → Nat × Nat := va_up (qcS_38 L) 39 (22, 4)
def qcS_40 (L : Nat) : Nat → Nat × Nat := va_up (qcS_39 L) 40 (22, 4)
def qcS_41 (L : Nat) : Nat → Nat × Nat := va_up (qcS_40 L) 41 (22, 4)
def qcS_42 (L : Nat) : Nat → Nat × Nat := va_up (qcS_41 L) 42 (3, 5)
def qcS_43 (L : Nat) : Nat → Nat × Nat := va_up (qcS_42 L) 43 (22, 16)
def qcS_44 (L : Nat) : Nat → Nat × Nat := va_up (qcS_43 L) 44 (8, 6)
def qcS_45 (L : Nat) : Nat → Nat × Nat := va_up (qcS_44 L) 45 (22, 984)
def qcS_46 (L : Nat) : Nat → Nat × Nat := va_up (qcS_45 L) 46 (22, 72)
def qcS_47 (L : Nat) : Nat → Nat × Nat := va_up (qcS_46 L) 47 (24, 3)
def qcS_48 (L : Nat) : Nat → Nat × Nat := va_up (qcS_47 L) 48 (5, 6)
def qcS_49 (L : Nat) : Nat → Nat × Nat := va_up (qcS_48 L) 49 (22, 6)
def qcS_50 (L : Nat) : Nat → Nat × Nat := va_up (qcS_49 L) 50 (22, 6)
def qcS_51 (L : Nat) : Nat → Nat × Nat := va_up (qcS_50 L) 51 (3, 5)
def qcS_52 (L : Nat) : Nat → Nat × Nat := va_up (qcS_51 L) 52 (6, 4)
def qcS_53 (L : Nat) : Nat → Nat × Nat := va_up (qcS_52 L) 53 (22, 915)
def qcS_54 (L : Nat) : Nat → Nat × Nat := va_up (qcS_53 L) 54 (22, 15)
def qcS_55 (L : Nat) : Nat → Nat × Nat := va_up (qcS_54 L) 55 (3, 5)
def qcS_56 (L : Nat) : Nat → Nat × Nat := va_up (qcS_55 L) 56 (7, 8)
def qcS_57 (L : Nat) : Nat → Nat × Nat := va_up (qcS_56 L) 57 (22, 30)
def qcS_58 (L : Nat) : Nat → Nat × Nat := va_up (qcS_57 L) 58 (22, 30)
def qcS_59 (L : Nat) : Nat → Nat × Nat := va_up (qcS_58 L) 59 (22, 30)
def qcS_60 (L : Nat) : Nat → Nat × Nat := va_up (qcS_59 L) 60 (22, 30)
def qcS_61 (L : Nat) : Nat → Nat × Nat := va_up (qcS_60 L) 61 (22, 30)
def qcS_62 (L : Nat) : Nat → Nat × Nat := va_up (qcS_61 L) 62 (22, 30)
def qcS_63 (L : Nat) : Nat → Nat × Nat := va_up (qcS_62 L) 63 (22, 16)
def qcS_64 (L : Nat) : Nat → Nat × Nat := va_up (qcS_63 L) 64 (12, 84)
def qcS_65 (L : Nat) : Nat → Nat × Nat := va_up (qcS_64 L) 65 (22, 1600)
def qcS_66 (L : Nat) : Nat → Nat × Nat := va_up (qcS_65 L) 66 (23, 10)
def qcS_67 (L : Nat) : Nat → Nat × Nat := va_up (qcS_66 L) 67 (22, 320)
def qcS_68 (L : Nat) : Nat → Nat × Nat := va_up (qcS_67 L) 68 (22, 320)
def qcS_69 (L : Nat) : Nat → Nat × Nat := va_up (qcS_68 L) 69 (22, 320)
def qcS_70 (L : Nat) : Nat → Nat × Nat := va_up (qcS_69 L) 70 (22, 320)
def qcS_71 (L : Nat) : Nat → Nat × Nat := va_up (qcS_70 L) 71 (22, 160)
def qcS_72 (L : Nat) : Nat → Nat × Nat := va_up (qcS_71 L) 72 (22, 64)
def qcS_73 (L : Nat) : Nat → Nat × Nat := va_up (qcS_72 L) 73 (22, 4)
def qcS_74 (L : Nat) : Nat → Nat × Nat := va_up (qcS_73 L) 74 (22, 4)
def qcS_75 (L : Nat) : Nat → Nat × Nat := va_up (qcS_74 L) 75 (22, 4)
def qcS_76 (L : Nat) : Nat → Nat × Nat := va_up (qcS_75 L) 76 (22, 4)
def qcS_77 (L : Nat) : Nat → Nat × Nat := va_up (qcS_76 L) 77 (22, 24)
def qcS_78 (L : Nat) : Nat → Nat × Nat := va_up (qcS_77 L) 78 (22, 24)
def qcS_79 (L : Nat) : Nat → Nat × Nat := va_up (qcS_78 L) 79 (22, 6)
def qcS_80 (L : Nat) : Nat → Nat × Nat := va_up (qcS_79 L) 80 (22, 6)
def qcS_81 (L : Nat) : Nat → Nat × Nat := va_up (qcS_80 L) 81 (22, 4)
def qcS_82 (L : Nat) : Nat → Nat × Nat := va_up (qcS_81 L) 82 (22, 36)
def qcS_83 (L : Nat) : Nat → Nat × Nat := va_up (qcS_82 L) 83 (22, 4)
def qcS_84 (L : Nat) : Nat → Nat × Nat := va_up (qcS_83 L) 84 (22, 4)
def qcS_85 (L : Nat) : Nat → Nat × Nat := va_up (qcS_84 L) 85 (22, 4)
def qcS_86 (L : Nat) : Nat → Nat × Nat := va_up (qcS_85 L) 86 (22, 24)
def qcS_87 (L : Nat) : Nat → Nat × Nat := va_up (qcS_86 L) 87 (22, 24)
def qcS_88 (L : Nat) : Nat → Nat × Nat := va_up (qcS_87 L) 88 (22, 6)
def qcS_89 (L : Nat) : Nat → Nat × Nat := va_up (qcS_88 L) 89 (22, 6)
def qcS_90 (L : Nat) : Nat → Nat × Nat := va_up (qcS_89 L) 90 (22, 4)
def qcS_91 (L : Nat) : Nat → Nat × Nat := va_up (qcS_90 L) 91 (22, 36)
def qcS_92 (L : Nat) : Nat → Nat × Nat := va_up (qcS_91 L) 92 (22, 24)
def qcS_93 (L : Nat) : Nat → Nat × Nat := va_up (qcS_92 L) 93 (22, 65)
def qcS_94 (L : Nat) : Nat → Nat × Nat := va_up (qcS_93 L) 94 (22, 65)
def qcS_95 (L : Nat) : Nat → Nat × Nat := va_up (qcS_94 L) 95 (22, 256)
def qcS_96 (L : Nat) : Nat → Nat × Nat := va_up (qcS_95 L) 96 (22, 16)
def qcS_97 (L : Nat) : Nat → Nat × Nat := va_up (qcS_96 L) 97 (22, 16)
def qcS_98 (L : Nat) : Nat → Nat × Nat := va_up (qcS_97 L) 98 (22, 16)
def qcS_99 (L : Nat) : Nat → Nat × Nat := va_up (qcS_98 L) 99 (22, 6)
def qcS_100 (L : Nat) : Nat → Nat × Nat := va_up (qcS_99 L) 100 (22, 6)
def qcS_101 (L : Nat) : Nat → Nat × Nat := va_up (qcS_100 L) 101 (22, 2600)
def qcS_102 (L : Nat) : Nat → Nat × Nat := va_up (qcS_101 L) 102 (22, 24)
def qcS_103 (L : Nat) : Nat → Nat × Nat := va_up (qcS_102 L) 103 (22, 6)
def qcS_104 (L : Nat) : Nat → Nat × Nat := va_up (qcS_103 L) 104 (22, 1464)
def qcS_105 (L : Nat) : Nat → Nat × Nat := va_up (qcS_104 L) 105 (22, 30)
def qcS_106 (L : Nat) : Nat → Nat × Nat := va_up (qcS_105 L) 106 (22, 30)
def qcS_107 (L : Nat) : Nat → Nat × Nat := va_up (qcS_106 L) 107 (22, 30)
def qcS_108 (L : Nat) : Nat → Nat × Nat := va_up (qcS_107 L) 108 (22, 30)
def qcS_109 (L : Nat) : Nat → Nat × Nat := va_up (qcS_108 L) 109 (22, 30)
def qcS_110 (L : Nat) : Nat → Nat × Nat := va_up (qcS_109 L) 110 (24, 30)
def qcS_111 (L : Nat) : Nat → Nat × Nat := va_up (qcS_110 L) 111 (24, 61)
def qcS_112 (L : Nat) : Nat → Nat × Nat := va_up (qcS_111 L) 112 (24, 3)
def qcS_113 (L : Nat) : Nat → Nat × Nat := va_up (qcS_112 L) 113 (22, 195)
def qcR_0 : Nat → Nat → Nat := fun _ _ => 0
def qcR_1 : Nat → Nat → Nat := va_up qcR_0 1 (fun _ => 0)
def qcR_2 : Nat → Nat → Nat := va_up qcR_1 2 (fun _ => 0)
def qcR_3 : Nat → Nat → Nat := q_up qcR_2 1 0 2
def qcR_4 : Nat → Nat → Nat := va_up qcR_3 3 (fun _ => 0)
def qcR_5 : Nat → Nat → Nat := va_up qcR_4 4 (fun _ => 0)
def qcR_6 : Nat → Nat → Nat := q_up qcR_5 3 1 4
def qcR_7 : Nat → Nat → Nat := va_up qcR_6 5 (fun _ => 0)
def qcR_8 : Nat → Nat → Nat := q_up qcR_7 3 2 5
def qcR_9 : Nat → Nat → Nat := va_up qcR_8 6 (fun _ => 0)
def qcR_10 : Nat → Nat → Nat := q_up qcR_9 3 3 6
def qcR_11 : Nat → Nat → Nat := va_up qcR_10 7 (fun _ => 0)
def qcR_12 : Nat → Nat → Nat := q_up qcR_11 3 4 7
def qcR_13 : Nat → Nat → Nat := va_up qcR_12 8 (fun _ => 0)
def qcR_14 : Nat → Nat → Nat := q_up qcR_13 3 6 8
def qcR_15 : Nat → Nat → Nat := va_up qcR_14 9 (fun _ => 0)
def qcR_16 : Nat → Nat → Nat := q_up qcR_15 3 7 9
def qcR_17 : Nat → Nat → Nat := va_up qcR_16 10 (fun _ => 0)
def qcR_18 : Nat → Nat → Nat := q_up qcR_17 3 8 10
def qcR_19 : Nat → Nat → Nat := va_up qcR_18 11 (fun _ => 0)
def qcR_20 : Nat → Nat → Nat := q_up qcR_19 3 9 11
def qcR_21 : Nat → Nat → Nat := va_up qcR_20 12 (fun _ => 0)
def qcR_22 : Nat → Nat → Nat := q_up qcR_21 3 10 12
def qcR_23 : Nat → Nat → Nat := va_up qcR_22 13 (fun _ => 0)
def qcR_24 : Nat → Nat → Nat := q_up qcR_23 3 12 13
def qcR_25 : Nat → Nat → Nat := va_up qcR_24 14 (fun _ => 0)
def qcR_26 : Nat → Nat → Nat := va_up qcR_25 15 (fun _ => 0)
def qcR_27 : Nat → Nat → Nat := q_up qcR_26 14 0 15
def qcR_28 : Nat → Nat → Nat := va_up qcR_27 16 (fun _ => 0)
def qcR_29 : Nat → Nat → Nat := q_up qcR_28 14 1 16
def qcR_30 : Nat → Nat → Nat := q_up qcR_29 3 13 14
def qcR_31 : Nat → Nat → Nat := q_up qcR_30 1 2 3
def qcR_32 : Nat → Nat → Nat := va_up qcR_31 17 (fun _ => 0)
def qcR_33 : Nat → Nat → Nat := va_up qcR_32 18 (fun _ => 0)
def qcR_34 : Nat → Nat → Nat := q_up qcR_33 17 1 18
def qcR_35 : Nat → Nat → Nat := va_up qcR_34 19 (fun _ => 0)
def qcR_36 : Nat → Nat → Nat := q_up qcR_35 17 2 19
def qcR_37 : Nat → Nat → Nat := va_up qcR_36 20 (fun _ => 0)
def qcR_38 : Nat → Nat → Nat := q_up qcR_37 17 3 20
def qcR_39 : Nat → Nat → Nat := va_up qcR_38 21 (fun _ => 0)
def qcR_40 : Nat → Nat → Nat := q_up qcR_39 17 4 21
def qcR_41 : Nat → Nat → Nat := va_up qcR_40 22 (fun _ => 0)
def qcR_42 : Nat → Nat → Nat := q_up qcR_41 17 6 22
def qcR_43 : Nat → Nat → Nat := va_up qcR_42 23 (fun _ => 0)
def qcR_44 : Nat → Nat → Nat := q_up qcR_43 17 7 23
def qcR_45 : Nat → Nat → Nat := va_up qcR_44 24 (fun _ => 0)
def qcR_46 : Nat → Nat → Nat := q_up qcR_45 17 8 24
def qcR_47 : Nat → Nat → Nat := va_up qcR_46 25 (fun _ => 0)
def qcR_48 : Nat → Nat → Nat := q_up qcR_47 17 9 25
def qcR_49 : Nat → Nat → Nat := va_up qcR_48 26 (fun _ => 0)
def qcR_50 : Nat → Nat → Nat := q_up qcR_49 17 10 26
def qcR_51 : Nat → Nat → Nat := va_up qcR_50 27 (fun _ => 0)
def qcR_52 : Nat → Nat → Nat := q_up qcR_51 17 12 27
def qcR_53 : Nat → Nat → Nat := va_up qcR_52 28 (fun _ => 0)
def qcR_54 : Nat → Nat → Nat := va_up qcR_53 29 (fun _ => 0)
def qcR_55 : Nat → Nat → Nat := q_up qcR_54 28 0 29
def qcR_56 : Nat → Nat → Nat := va_up qcR_55 30 (fun _ => 0)
def qcR_57 : Nat → Nat → Nat := q_up qcR_56 28 1 30
def qcR_58 : Nat → Nat → Nat := q_up qcR_57 17 13 28
def qcR_59 : Nat → Nat → Nat := q_up qcR_58 1 3 17
def qcR_60 : Nat → Nat → Nat := va_up qcR_59 31 (fun _ => 0)
def qcR_61 : Nat → Nat → Nat := va_up qcR_60 32 (fun _ => 0)
def qcR_62 : Nat → Nat → Nat := q_up qcR_61 31 0 32
def qcR_63 : Nat → Nat → Nat := va_up qcR_62 33 (fun _ => 0)
def qcR_64 : Nat → Nat → Nat := q_up qcR_63 31 1 33
def qcR_65 : Nat → Nat → Nat := q_up qcR_64 31 8 17
def qcR_66 : Nat → Nat → Nat := q_up qcR_65 1 4 31
def qcR_67 : Nat → Nat → Nat := va_up qcR_66 34 (fun _ => 0)
def qcR_68 : Nat → Nat → Nat := va_up qcR_67 35 (fun _ => 0)
def qcR_69 : Nat → Nat → Nat := q_up qcR_68 34 0 35
def qcR_70 : Nat → Nat → Nat := va_up qcR_69 36 (fun _ => 0)
def qcR_71 : Nat → Nat → Nat := q_up qcR_70 34 1 36
def qcR_72 : Nat → Nat → Nat := q_up qcR_71 1 5 34
def qcR_73 : Nat → Nat → Nat := va_up qcR_72 37 (fun _ => 0)
def qcR_74 : Nat → Nat → Nat := va_up qcR_73 38 (fun _ => 0)
def qcR_75 : Nat → Nat → Nat := q_up qcR_74 37 3 38
def qcR_76 : Nat → Nat → Nat := va_up qcR_75 39 (fun _ => 0)
def qcR_77 : Nat → Nat → Nat := q_up qcR_76 37 4 39
def qcR_78 : Nat → Nat → Nat := va_up qcR_77 40 (fun _ => 0)
def qcR_79 : Nat → Nat → Nat := q_up qcR_78 37 5 40
def qcR_80 : Nat → Nat → Nat := va_up qcR_79 41 (fun _ => 0)
def qcR_81 : Nat → Nat → Nat := q_up qcR_80 37 6 41
def qcR_82 : Nat → Nat → Nat := va_up qcR_81 42 (fun _ => 0)
def qcR_83 : Nat → Nat → Nat := q_up qcR_82 37 7 42
def qcR_84 : Nat → Nat → Nat := va_up qcR_83 43 (fun _ => 0)
def qcR_85 : Nat → Nat → Nat := q_up qcR_84 37 8 43
def qcR_86 : Nat → Nat → Nat := q_up qcR_85 1 6 37
def qcR_87 : Nat → Nat → Nat := va_up qcR_86 44 (fun _ => 0)
def qcR_88 : Nat → Nat → Nat := va_up qcR_87 45 (fun _ => 0)
def qcR_89 : Nat → Nat → Nat := q_up qcR_88 44 0 45
def qcR_90 : Nat → Nat → Nat := va_up qcR_89 46 (fun _ => 0)
def qcR_91 : Nat → Nat → Nat := q_up qcR_90 44 4 46
def qcR_92 : Nat → Nat → Nat := va_up qcR_91 47 (fun _ => 0)
def qcR_93 : Nat → Nat → Nat := q_up qcR_92 44 5 47
def qcR_94 : Nat → Nat → Nat := q_up qcR_93 1 7 44
def qcR_95 : Nat → Nat → Nat := va_up qcR_94 48 (fun _ => 0)
def qcR_96 : Nat → Nat → Nat := va_up qcR_95 49 (fun _ => 0)
def qcR_97 : Nat → Nat → Nat := q_up qcR_96 48 0 49
def qcR_98 : Nat → Nat → Nat := va_up qcR_97 50 (fun _ => 0)
def qcR_99 : Nat → Nat → Nat := q_up qcR_98 48 1 50
def qcR_100 : Nat → Nat → Nat := va_up qcR_99 51 (fun _ => 0)
def qcR_101 : Nat → Nat → Nat := q_up qcR_100 48 4 51
def qcR_102 : Nat → Nat → Nat := q_up qcR_101 1 8 48
def qcR_103 : Nat → Nat → Nat := va_up qcR_102 52 (fun _ => 0)
def qcR_104 : Nat → Nat → Nat := va_up qcR_103 53 (fun _ => 0)
def qcR_105 : Nat → Nat → Nat := q_up qcR_104 52 0 53
def qcR_106 : Nat → Nat → Nat := va_up qcR_105 54 (fun _ => 0)
def qcR_107 : Nat → Nat → Nat := q_up qcR_106 52 1 54
def qcR_108 : Nat → Nat → Nat := va_up qcR_107 55 (fun _ => 0)
def qcR_109 : Nat → Nat → Nat := q_up qcR_108 52 3 55
def qcR_110 : Nat → Nat → Nat := q_up qcR_109 1 9 52
def qcR_111 : Nat → Nat → Nat := va_up qcR_110 56 (fun _ => 0)
def qcR_112 : Nat → Nat → Nat := va_up qcR_111 57 (fun _ => 0)
def qcR_113 : Nat → Nat → Nat := q_up qcR_112 56 0 57
def qcR_114 : Nat → Nat → Nat := va_up qcR_113 58 (fun _ => 0)
def qcR_115 : Nat → Nat → Nat := q_up qcR_114 56 1 58
def qcR_116 : Nat → Nat → Nat := va_up qcR_115 59 (fun _ => 0)
def qcR_117 : Nat → Nat → Nat := q_up qcR_116 56 2 59
def qcR_118 : Nat → Nat → Nat := va_up qcR_117 60 (fun _ => 0)
def qcR_119 : Nat → Nat → Nat := q_up qcR_118 56 3 60
def qcR_120 : Nat → Nat → Nat := va_up qcR_119 61 (fun _ => 0)
def qcR_121 : Nat → Nat → Nat := q_up qcR_120 56 4 61
def qcR_122 : Nat → Nat → Nat := va_up qcR_121 62 (fun _ => 0)
def qcR_123 : Nat → Nat → Nat := q_up qcR_122 56 5 62
def qcR_124 : Nat → Nat → Nat := q_up qcR_123 1 10 56
def qcR_125 : Nat → Nat → Nat := va_up qcR_124 63 (fun _ => 0)
def qcR_126 : Nat → Nat → Nat := q_up qcR_125 1 11 63
def qcR_127 : Nat → Nat → Nat := va_up qcR_126 64 (fun _ => 0)
def qcR_128 : Nat → Nat → Nat := va_up qcR_127 65 (fun _ => 0)
def qcR_129 : Nat → Nat → Nat := q_up qcR_128 64 0 65
def qcR_130 : Nat → Nat → Nat := va_up qcR_129 66 (fun _ => 0)
def qcR_131 : Nat → Nat → Nat := q_up qcR_130 64 10 66
def qcR_132 : Nat → Nat → Nat := va_up qcR_131 67 (fun _ => 0)
def qcR_133 : Nat → Nat → Nat := q_up qcR_132 64 11 67
def qcR_134 : Nat → Nat → Nat := va_up qcR_133 68 (fun _ => 0)
def qcR_135 : Nat → Nat → Nat := q_up qcR_134 64 12 68
def qcR_136 : Nat → Nat → Nat := va_up qcR_135 69 (fun _ => 0)
def qcR_137 : Nat → Nat → Nat := q_up qcR_136 64 13 69
def qcR_138 : Nat → Nat → Nat := va_up qcR_137 70 (fun _ => 0)
def qcR_139 : Nat → Nat → Nat := q_up qcR_138 64 14 70
def qcR_140 : Nat → Nat → Nat := va_up qcR_139 71 (fun _ => 0)
def qcR_141 : Nat → Nat → Nat := q_up qcR_140 64 15 71
def qcR_142 : Nat → Nat → Nat := va_up qcR_141 72 (fun _ => 0)
def qcR_143 : Nat → Nat → Nat := q_up qcR_142 64 16 72
def qcR_144 : Nat → Nat → Nat := va_up qcR_143 73 (fun _ => 0)
def qcR_145 : Nat → Nat → Nat := q_up qcR_144 64 26 73
def qcR_146 : Nat → Nat → Nat := va_up qcR_145 74 (fun _ => 0)
def qcR_147 : Nat → Nat → Nat := q_up qcR_146 64 28 74
def qcR_148 : Nat → Nat → Nat := va_up qcR_147 75 (fun _ => 0)
def qcR_149 : Nat → Nat → Nat := q_up qcR_148 64 29 75
def qcR_150 : Nat → Nat → Nat := va_up qcR_149 76 (fun _ => 0)
def qcR_151 : Nat → Nat → Nat := q_up qcR_150 64 30 76
def qcR_152 : Nat → Nat → Nat := va_up qcR_151 77 (fun _ => 0)
def qcR_153 : Nat → Nat → Nat := q_up qcR_152 64 31 77
def qcR_154 : Nat → Nat → Nat := va_up qcR_153 78 (fun _ => 0)
def qcR_155 : Nat → Nat → Nat := q_up qcR_154 64 32 78
def qcR_156 : Nat → Nat → Nat := va_up qcR_155 79 (fun _ => 0)
def qcR_157 : Nat → Nat → Nat := q_up qcR_156 64 33 79
def qcR_158 : Nat → Nat → Nat := va_up qcR_157 80 (fun _ => 0)
def qcR_159 : Nat → Nat → Nat := q_up qcR_158 64 34 80
def qcR_160 : Nat → Nat → Nat := va_up qcR_159 81 (fun _ => 0)
def qcR_161 : Nat → Nat → Nat := q_up qcR_160 64 35 81
def qcR_162 : Nat → Nat → Nat := va_up qcR_161 82 (fun _ => 0)
def qcR_163 : Nat → Nat → Nat := q_up qcR_162 64 36 82
def qcR_164 : Nat → Nat → Nat := va_up qcR_163 83 (fun _ => 0)
def qcR_165 : Nat → Nat → Nat := q_up qcR_164 64 37 83
def qcR_166 : Nat → Nat → Nat := va_up qcR_165 84 (fun _ => 0)
def qcR_167 : Nat → Nat → Nat := q_up qcR_166 64 38 84
def qcR_168 : Nat → Nat → Nat := va_up qcR_167 85 (fun _ => 0)
def qcR_169 : Nat → Nat → Nat := q_up qcR_168 64 39 85
def qcR_170 : Nat → Nat → Nat := va_up qcR_169 86 (fun _ => 0)
def qcR_171 : Nat → Nat → Nat := q_up qcR_170 64 40 86
def qcR_172 : Nat → Nat → Nat := va_up qcR_171 87 (fun _ => 0)
def qcR_173 : Nat → Nat → Nat := q_up qcR_172 64 41 87
def qcR_174 : Nat → Nat → Nat := va_up qcR_173 88 (fun _ => 0)
def qcR_175 : Nat → Nat → Nat := q_up qcR_174 64 42 88
def qcR_176 : Nat → Nat → Nat := va_up qcR_175 89 (fun _ => 0)
def qcR_177 : Nat → Nat → Nat := q_up qcR_176 64 43 89
def qcR_178 : Nat → Nat → Nat := va_up qcR_177 90 (fun _ => 0)
def qcR_179 : Nat → Nat → Nat := q_up qcR_178 64 44 90
def qcR_180 : Nat → Nat → Nat := va_up qcR_179 91 (fun _ => 0)
def qcR_181 : Nat → Nat → Nat := q_up qcR_180 64 45 91
def qcR_182 : Nat → Nat → Nat := va_up qcR_181 92 (fun _ => 0)
def qcR_183 : Nat → Nat → Nat := q_up qcR_182 64 56 92
def qcR_184 : Nat → Nat → Nat := va_up qcR_183 93 (fun _ => 0)
def qcR_185 : Nat → Nat → Nat := q_up qcR_184 64 58 93
def qcR_186 : Nat → Nat → Nat := va_up qcR_185 94 (fun _ => 0)
def qcR_187 : Nat → Nat → Nat := q_up qcR_186 64 59 94
def qcR_188 : Nat → Nat → Nat := va_up qcR_187 95 (fun _ => 0)
def qcR_189 : Nat → Nat → Nat := q_up qcR_188 64 60 95
def qcR_190 : Nat → Nat → Nat := va_up qcR_189 96 (fun _ => 0)
def qcR_191 : Nat → Nat → Nat := q_up qcR_190 64 61 96
def qcR_192 : Nat → Nat → Nat := va_up qcR_191 97 (fun _ => 0)
def qcR_193 : Nat → Nat → Nat := q_up qcR_192 64 63 97
def qcR_194 : Nat → Nat → Nat := va_up qcR_193 98 (fun _ => 0)
def qcR_195 : Nat → Nat → Nat := q_up qcR_194 64 64 98
def qcR_196 : Nat → Nat → Nat := va_up qcR_195 99 (fun _ => 0)
def qcR_197 : Nat → Nat → Nat := q_up qcR_196 64 65 99
def qcR_198 : Nat → Nat → Nat := va_up qcR_197 100 (fun _ => 0)
def qcR_199 : Nat → Nat → Nat := q_up qcR_198 64 66 100
def qcR_200 : Nat → Nat → Nat := va_up qcR_199 101 (fun _ => 0)
def qcR_201 : Nat → Nat → Nat := q_up qcR_200 64 67 101
def qcR_202 : Nat → Nat → Nat := va_up qcR_201 102 (fun _ => 0)
def qcR_203 : Nat → Nat → Nat := q_up qcR_202 64 70 102
def qcR_204 : Nat → Nat → Nat := va_up qcR_203 103 (fun _ => 0)
def qcR_205 : Nat → Nat → Nat := q_up qcR_204 64 71 103
def qcR_206 : Nat → Nat → Nat := va_up qcR_205 104 (fun _ => 0)
def qcR_207 : Nat → Nat → Nat := q_up qcR_206 64 72 104
def qcR_208 : Nat → Nat → Nat := va_up qcR_207 105 (fun _ => 0)
def qcR_209 : Nat → Nat → Nat := q_up qcR_208 64 73 105
def qcR_210 : Nat → Nat → Nat := va_up qcR_209 106 (fun _ => 0)
def qcR_211 : Nat → Nat → Nat := q_up qcR_210 64 74 106
def qcR_212 : Nat → Nat → Nat := va_up qcR_211 107 (fun _ => 0)
def qcR_213 : Nat → Nat → Nat := q_up qcR_212 64 75 107
def qcR_214 : Nat → Nat → Nat := va_up qcR_213 108 (fun _ => 0)
def qcR_215 : Nat → Nat → Nat := q_up qcR_214 64 76 108
def qcR_216 : Nat → Nat → Nat := va_up qcR_215 109 (fun _ => 0)
def qcR_217 : Nat → Nat → Nat := q_up qcR_216 64 77 109
def qcR_218 : Nat → Nat → Nat := va_up qcR_217 110 (fun _ => 0)
def qcR_219 : Nat → Nat → Nat := q_up qcR_218 64 78 110
def qcR_220 : Nat → Nat → Nat := va_up qcR_219 111 (fun _ => 0)
def qcR_221 : Nat → Nat → Nat := q_up qcR_220 64 81 111
def qcR_222 : Nat → Nat → Nat := va_up qcR_221 112 (fun _ => 0)
def qcR_223 : Nat → Nat → Nat := q_up qcR_222 64 82 112
def qcR_224 : Nat → Nat → Nat := va_up qcR_223 113 (fun _ => 0)
def qcR_225 : Nat → Nat → Nat := q_up qcR_224 64 83 113
theorem n_X3_init_13 {B : Nat → Nat → Int32} {f : Nat → Int64} (L : Nat) (I : Nat → Nat → Int32) (J : Nat → Nat → Int64) (hZ : q_Z B f qX0 13 I J) : ∃ I' J', mX3_init [.ref 13] (I, J, qcR_23, qcS_13 L, 13) = some (none, (I', J', qcR_23, qcS_13 L, 13)) ∧ q_Z B f qX0 13 I' J' := by
  refine ⟨(q_up (q_up (q_up (q_up (q_up I 13 0 0) 13 1 0) 13 2 0) 13 3 0) 13 4 0), J, ?_, (q_Z_wr (q_Z_wr (q_Z_wr (q_Z_wr (q_Z_wr hZ (by decide) rfl) (by decide) rfl) (by decide) rfl) (by decide) rfl) (by decide) rfl)⟩
  show q_D cs_X3_init oX3_init (0, 0) (true, 0, [some (.ref 13)], [], (I, J, qcR_23, qcS_13 L, 13), 0, 0) = _
  refine (q_D_by (c' := (true, 16, [some (.ref 13)], [.int 0, .ref 13], ((q_up (q_up I 13 0 0) 13 1 0), J, qcR_23, qcS_13 L, 13), 0, 0)) 10 rfl).trans ?_
  refine (q_D_by (c' := (true, 29, [some (.ref 13)], [], ((q_up (q_up (q_up (q_up (q_up I 13 0 0) 13 1 0) 13 2 0) 13 3 0) 13 4 0), J, qcR_23, qcS_13 L, 13), 0, 0)) 7 rfl).trans ?_
  exact q_D_end 1 rfl
theorem n_X4_init_14 {B : Nat → Nat → Int32} {f : Nat → Int64} (L : Nat) (I : Nat → Nat → Int32) (J : Nat → Nat → Int64) (hZ : q_Z B f qX0 14 I J) : ∃ I' J', mX4_init [.ref 14] (I, J, qcR_25, qcS_14 L, 14) = some (none, (I', J', qcR_29, qcS_16 L, 16)) ∧ q_Z B f qX0 16 I' J' := by
  refine ⟨(q_up (q_up (va_up (va_up I 15 (fun _ => 0)) 16 (fun _ => 0)) 14 2 0) 14 3 0), (va_up (va_up J 15 (fun _ => 0)) 16 (fun _ => 0)), ?_, (q_Z_wr (q_Z_wr (q_Z_new (q_Z_new hZ (by decide) (Or.inl (by decide)) (fun _ => rfl)) (by decide) (Or.inl (by decide)) (fun _ => rfl)) (by decide) rfl) (by decide) rfl)⟩
  show q_D cs_X4_init oX4_init (2, 330) (true, 0, [some (.ref 14)], [], (I, J, qcR_25, qcS_14 L, 14), 0, 0) = _
  refine (q_D_by (c' := (true, 21, [some (.ref 14)], [], ((va_up (va_up I 15 (fun _ => 0)) 16 (fun _ => 0)), (va_up (va_up J 15 (fun _ => 0)) 16 (fun _ => 0)), qcR_29, qcS_16 L, 16), 2, 330)) 10 rfl).trans ?_
  refine (q_D_by (c' := (true, 31, [some (.ref 14)], [], ((q_up (q_up (va_up (va_up I 15 (fun _ => 0)) 16 (fun _ => 0)) 14 2 0) 14 3 0), (va_up (va_up J 15 (fun _ => 0)) 16 (fun _ => 0)), qcR_29, qcS_16 L, 16), 2, 330)) 6 rfl).trans ?_
  exact q_D_end 1 rfl
theorem n_X0_init_3 {B : Nat → Nat → Int32} {f : Nat → Int64} (L : Nat) (I : Nat → Nat → Int32) (J : Nat → Nat → Int64) (hZ : q_Z B f qX0 3 I J) : ∃ I' J', mX0_init [.ref 3] (I, J, qcR_4, qcS_3 L, 3) = some (none, (I', J', qcR_30, qcS_16 L, 16)) ∧ q_Z B f qX0 16 I' J' := by
  obtain ⟨Ia0, Ja0, ea0, ja0, za0⟩ : ∃ Ia Ja, Ia = (va_up (q_up (va_up (va_up (va_up (va_up (q_up I 3 0 0) 4 (fun _ => 0)) 5 (fun _ => 0)) 6 (fun _ => 0)) 7 (fun _ => 0)) 3 5 0) 8 (fun _ => 0)) ∧ Ja = (va_up (va_up (va_up (va_up (va_up J 4 (fun _ => 0)) 5 (fun _ => 0)) 6 (fun _ => 0)) 7 (fun _ => 0)) 8 (fun _ => 0)) ∧ q_Z B f qX0 8 Ia Ja := ⟨_, _, rfl, rfl, (q_Z_new (q_Z_wr (q_Z_new (q_Z_new (q_Z_new (q_Z_new (q_Z_wr hZ (by decide) rfl) (by decide) (Or.inl (by decide)) (fun _ => rfl)) (by decide) (Or.inl (by decide)) (fun _ => rfl)) (by decide) (Or.inl (by decide)) (fun _ => rfl)) (by decide) (Or.inl (by decide)) (fun _ => rfl)) (by decide) rfl) (by decide) (Or.inl (by decide)) (fun _ => rfl))⟩
  obtain ⟨Ia1, Ja1, ea1, ja1, za1⟩ : ∃ Ia Ja, Ia = (va_up (q_up (va_up (va_up (va_up (va_up Ia0 9 (fun _ => 0)) 10 (fun _ => 0)) 11 (fun _ => 0)) 12 (fun _ => 0)) 3 11 0) 13 (fun _ => 0)) ∧ Ja = (va_up (va_up (va_up (va_up (va_up Ja0 9 (fun _ => 0)) 10 (fun _ => 0)) 11 (fun _ => 0)) 12 (fun _ => 0)) 13 (fun _ => 0)) ∧ q_Z B f qX0 13 Ia Ja := ⟨_, _, rfl, rfl, (q_Z_new (q_Z_wr (q_Z_new (q_Z_new (q_Z_new (q_Z_new za0 (by decide) (Or.inl (by decide)) (fun _ => rfl)) (by decide) (Or.inl (by decide)) (fun _ => rfl)) (by decide) (Or.inl (by decide)) (fun _ => rfl)) (by decide) (Or.inl (by decide)) (fun _ => rfl)) (by decide) rfl) (by decide) (Or.inl (by decide)) (fun _ => rfl))⟩
  obtain ⟨I1, J1, h1, z1⟩ := n_X3_init_13 L Ia1 Ja1 za1
  obtain ⟨I2, J2, h2, z2⟩ := n_X4_init_14 L (va_up I1 14 (fun _ => 0)) (va_up J1 14 (fun _ => 0)) (q_Z_new z1 (by decide) (Or.inl (by decide)) (fun _ => rfl))
  refine ⟨(q_up (q_up I2 3 14 0) 3 15 0), J2, ?_, (q_Z_wr (q_Z_wr z2 (by decide) rfl) (by decide) rfl)⟩
  show q_D cs_X0_init oX0_init (13, 403) (true, 0, [some (.ref 3)], [], (I, J, qcR_4, qcS_3 L, 3), 0, 0) = _
  refine (q_D_by (c' := (true, 17, [some (.ref 3)], [.ref 3], ((va_up (q_up I 3 0 0) 4 (fun _ => 0)), (va_up J 4 (fun _ => 0)), qcR_6, qcS_4 L, 4), 1, 4)) 10 rfl).trans ?_
  refine (q_D_by (c' := (true, 34, [some (.ref 3)], [.ref 7, .ref 3], ((va_up (va_up (va_up (va_up (q_up I 3 0 0) 4 (fun _ => 0)) 5 (fun _ => 0)) 6 (fun _ => 0)) 7 (fun _ => 0)), (va_up (va_up (va_up (va_up J 4 (fun _ => 0)) 5 (fun _ => 0)) 6 (fun _ => 0)) 7 (fun _ => 0)), qcR_11, qcS_7 L, 7), 4, 16)) 10 rfl).trans ?_
  refine (q_D_by (c' := (true, 53, [some (.ref 3)], [.int 6, .ref 3], ((va_up (q_up (va_up (va_up (va_up (va_up (q_up I 3 0 0) 4 (fun _ => 0)) 5 (fun _ => 0)) 6 (fun _ => 0)) 7 (fun _ => 0)) 3 5 0) 8 (fun _ => 0)), (va_up (va_up (va_up (va_up (va_up J 4 (fun _ => 0)) 5 (fun _ => 0)) 6 (fun _ => 0)) 7 (fun _ => 0)) 8 (fun _ => 0)), qcR_14, qcS_8 L, 8), 5, 22)) 10 rfl).trans ?_
  rw [← ea0, ← ja0]
  refine (q_D_by (c' := (true, 74, [some (.ref 3)], [], ((va_up (va_up (va_up Ia0 9 (fun _ => 0)) 10 (fun _ => 0)) 11 (fun _ => 0)), (va_up (va_up (va_up Ja0 9 (fun _ => 0)) 10 (fun _ => 0)) 11 (fun _ => 0)), qcR_20, qcS_11 L, 11), 8, 40)) 10 rfl).trans ?_
  refine (q_D_by (c' := (true, 92, [some (.ref 3)], [.ref 13, .ref 13, .ref 3], ((va_up (q_up (va_up (va_up (va_up (va_up Ia0 9 (fun _ => 0)) 10 (fun _ => 0)) 11 (fun _ => 0)) 12 (fun _ => 0)) 3 11 0) 13 (fun _ => 0)), (va_up (va_up (va_up (va_up (va_up Ja0 9 (fun _ => 0)) 10 (fun _ => 0)) 11 (fun _ => 0)) 12 (fun _ => 0)) 13 (fun _ => 0)), qcR_23, qcS_13 L, 13), 10, 69)) 10 rfl).trans ?_
  rw [← ea1, ← ja1]
  refine (q_D_call (X := mX3_init [.ref 13] (Ia1, Ja1, qcR_23, qcS_13 L, 13)) (b := true) (pc := 95) (L := [some (.ref 3)]) (st := [.ref 13, .ref 3]) (ce := 10) (sl := 69) 0 (true, 92, [some (.ref 3)], [.ref 13, .ref 13, .ref 3], (Ia1, Ja1, qcR_23, qcS_13 L, 13), 10, 69) rfl rfl).trans ?_
  rw [q_ck_tt, h1]
  show q_D _ _ _ (true, 95, [some (.ref 3)], [.ref 13, .ref 3], (I1, J1, qcR_23, qcS_13 L, 13), 10, 69) = _
  refine (q_D_by (c' := (true, 103, [some (.ref 3)], [.ref 14, .ref 14, .ref 3], ((va_up I1 14 (fun _ => 0)), (va_up J1 14 (fun _ => 0)), qcR_25, qcS_14 L, 14), 11, 73)) 4 rfl).trans ?_
  refine (q_D_call (X := mX4_init [.ref 14] ((va_up I1 14 (fun _ => 0)), (va_up J1 14 (fun _ => 0)), qcR_25, qcS_14 L, 14)) (b := true) (pc := 106) (L := [some (.ref 3)]) (st := [.ref 14, .ref 3]) (ce := 13) (sl := 403) 0 (true, 103, [some (.ref 3)], [.ref 14, .ref 14, .ref 3], ((va_up I1 14 (fun _ => 0)), (va_up J1 14 (fun _ => 0)), qcR_25, qcS_14 L, 14), 11, 73) rfl rfl).trans ?_
  rw [q_ck_tt, h2]
  show q_D _ _ _ (true, 106, [some (.ref 3)], [.ref 14, .ref 3], (I2, J2, qcR_29, qcS_16 L, 16), 13, 403) = _
  refine (q_D_by (c' := (true, 119, [some (.ref 3)], [], ((q_up (q_up I2 3 14 0) 3 15 0), J2, qcR_30, qcS_16 L, 16), 13, 403)) 7 rfl).trans ?_
  exact q_D_end 1 rfl
theorem n_X3_init_27 {B : Nat → Nat → Int32} {f : Nat → Int64} (L : Nat) (I : Nat → Nat → Int32) (J : Nat → Nat → Int64) (hZ : q_Z B f qX0 27 I J) : ∃ I' J', mX3_init [.ref 27] (I, J, qcR_51, qcS_27 L, 27) = some (none, (I', J', qcR_51, qcS_27 L, 27)) ∧ q_Z B f qX0 27 I' J' := by
  refine ⟨(q_up (q_up (q_up (q_up (q_up I 27 0 0) 27 1 0) 27 2 0) 27 3 0) 27 4 0), J, ?_, (q_Z_wr (q_Z_wr (q_Z_wr (q_Z_wr (q_Z_wr hZ (by decide) rfl) (by decide) rfl) (by decide) rfl) (by decide) rfl) (by decide) rfl)⟩
  show q_D cs_X3_init oX3_init (0, 0) (true, 0, [some (.ref 27)], [], (I, J, qcR_51, qcS_27 L, 27), 0, 0) = _
  refine (q_D_by (c' := (true, 16, [some (.ref 27)], [.int 0, .ref 27], ((q_up (q_up I 27 0 0) 27 1 0), J, qcR_51, qcS_27 L, 27), 0, 0)) 10 rfl).trans ?_
  refine (q_D_by (c' := (true, 29, [some (.ref 27)], [], ((q_up (q_up (q_up (q_up (q_up I 27 0 0) 27 1 0) 27 2 0) 27 3 0) 27 4 0), J, qcR_51, qcS_27 L, 27), 0, 0)) 7 rfl).trans ?_
  exact q_D_end 1 rfl
theorem n_X4_init_28 {B : Nat → Nat → Int32} {f : Nat → Int64} (L : Nat) (I : Nat → Nat → Int32) (J : Nat → Nat → Int64) (hZ : q_Z B f qX0 28 I J) : ∃ I' J', mX4_init [.ref 28] (I, J, qcR_53, qcS_28 L, 28) = some (none, (I', J', qcR_57, qcS_30 L, 30)) ∧ q_Z B f qX0 30 I' J' := by
  refine ⟨(q_up (q_up (va_up (va_up I 29 (fun _ => 0)) 30 (fun _ => 0)) 28 2 0) 28 3 0), (va_up (va_up J 29 (fun _ => 0)) 30 (fun _ => 0)), ?_, (q_Z_wr (q_Z_wr (q_Z_new (q_Z_new hZ (by decide) (Or.inl (by decide)) (fun _ => rfl)) (by decide) (Or.inl (by decide)) (fun _ => rfl)) (by decide) rfl) (by decide) rfl)⟩
  show q_D cs_X4_init oX4_init (2, 330) (true, 0, [some (.ref 28)], [], (I, J, qcR_53, qcS_28 L, 28), 0, 0) = _
  refine (q_D_by (c' := (true, 21, [some (.ref 28)], [], ((va_up (va_up I 29 (fun _ => 0)) 30 (fun _ => 0)), (va_up (va_up J 29 (fun _ => 0)) 30 (fun _ => 0)), qcR_57, qcS_30 L, 30), 2, 330)) 10 rfl).trans ?_
  refine (q_D_by (c' := (true, 31, [some (.ref 28)], [], ((q_up (q_up (va_up (va_up I 29 (fun _ => 0)) 30 (fun _ => 0)) 28 2 0) 28 3 0), (va_up (va_up J 29 (fun _ => 0)) 30 (fun _ => 0)), qcR_57, qcS_30 L, 30), 2, 330)) 6 rfl).trans ?_
  exact q_D_end 1 rfl
theorem n_X0_init_17 {B : Nat → Nat → Int32} {f : Nat → Int64} (L : Nat) (I : Nat → Nat → Int32) (J : Nat → Nat → Int64) (hZ : q_Z B f qX0 17 I J) : ∃ I' J', mX0_init [.ref 17] (I, J, qcR_32, qcS_17 L, 17) = some (none, (I', J', qcR_58, qcS_30 L, 30)) ∧ q_Z B f qX0 30 I' J' := by
  obtain ⟨Ia0, Ja0, ea0, ja0, za0⟩ : ∃ Ia Ja, Ia = (va_up (q_up (va_up (va_up (va_up (va_up (q_up I 17 0 0) 18 (fun _ => 0)) 19 (fun _ => 0)) 20 (fun _ => 0)) 21 (fun _ => 0)) 17 5 0) 22 (fun _ => 0)) ∧ Ja = (va_up (va_up (va_up (va_up (va_up J 18 (fun _ => 0)) 19 (fun _ => 0)) 20 (fun _ => 0)) 21 (fun _ => 0)) 22 (fun _ => 0)) ∧ q_Z B f qX0 22 Ia Ja := ⟨_, _, rfl, rfl, (q_Z_new (q_Z_wr (q_Z_new (q_Z_new (q_Z_new (q_Z_new (q_Z_wr hZ (by decide) rfl) (by decide) (Or.inl (by decide)) (fun _ => rfl)) (by decide) (Or.inl (by decide)) (fun _ => rfl)) (by decide) (Or.inl (by decide)) (fun _ => rfl)) (by decide) (Or.inl (by decide)) (fun _ => rfl)) (by decide) rfl) (by decide) (Or.inl (by decide)) (fun _ => rfl))⟩
  obtain ⟨Ia1, Ja1, ea1, ja1, za1⟩ : ∃ Ia Ja, Ia = (va_up (q_up (va_up (va_up (va_up (va_up Ia0 23 (fun _ => 0)) 24 (fun _ => 0)) 25 (fun _ => 0)) 26 (fun _ => 0)) 17 11 0) 27 (fun _ => 0)) ∧ Ja = (va_up (va_up (va_up (va_up (va_up Ja0 23 (fun _ => 0)) 24 (fun _ => 0)) 25 (fun _ => 0)) 26 (fun _ => 0)) 27 (fun _ => 0)) ∧ q_Z B f qX0 27 Ia Ja := ⟨_, _, rfl, rfl, (q_Z_new (q_Z_wr (q_Z_new (q_Z_new (q_Z_new (q_Z_new za0 (by decide) (Or.inl (by decide)) (fun _ => rfl)) (by decide) (Or.inl (by decide)) (fun _ => rfl)) (by decide) (Or.inl (by decide)) (fun _ => rfl)) (by decide) (Or.inl (by decide)) (fun _ => rfl)) (by decide) rfl) (by decide) (Or.inl (by decide)) (fun _ => rfl))⟩
  obtain ⟨I1, J1, h1, z1⟩ := n_X3_init_27 L Ia1 Ja1 za1
  obtain ⟨I2, J2, h2, z2⟩ := n_X4_init_28 L (va_up I1 28 (fun _ => 0)) (va_up J1 28 (fun _ => 0)) (q_Z_new z1 (by decide) (Or.inl (by decide)) (fun _ => rfl))
  refine ⟨(q_up (q_up I2 17 14 0) 17 15 0), J2, ?_, (q_Z_wr (q_Z_wr z2 (by decide) rfl) (by decide) rfl)⟩
  show q_D cs_X0_init oX0_init (13, 403) (true, 0, [some (.ref 17)], [], (I, J, qcR_32, qcS_17 L, 17), 0, 0) = _
  refine (q_D_by (c' := (true, 17, [some (.ref 17)], [.ref 17], ((va_up (q_up I 17 0 0) 18 (fun _ => 0)), (va_up J 18 (fun _ => 0)), qcR_34, qcS_18 L, 18), 1, 4)) 10 rfl).trans ?_
  refine (q_D_by (c' := (true, 34, [some (.ref 17)], [.ref 21, .ref 17], ((va_up (va_up (va_up (va_up (q_up I 17 0 0) 18 (fun _ => 0)) 19 (fun _ => 0)) 20 (fun _ => 0)) 21 (fun _ => 0)), (va_up (va_up (va_up (va_up J 18 (fun _ => 0)) 19 (fun _ => 0)) 20 (fun _ => 0)) 21 (fun _ => 0)), qcR_39, qcS_21 L, 21), 4, 16)) 10 rfl).trans ?_
  refine (q_D_by (c' := (true, 53, [some (.ref 17)], [.int 6, .ref 17], ((va_up (q_up (va_up (va_up (va_up (va_up (q_up I 17 0 0) 18 (fun _ => 0)) 19 (fun _ => 0)) 20 (fun _ => 0)) 21 (fun _ => 0)) 17 5 0) 22 (fun _ => 0)), (va_up (va_up (va_up (va_up (va_up J 18 (fun _ => 0)) 19 (fun _ => 0)) 20 (fun _ => 0)) 21 (fun _ => 0)) 22 (fun _ => 0)), qcR_42, qcS_22 L, 22), 5, 22)) 10 rfl).trans ?_
  rw [← ea0, ← ja0]
  refine (q_D_by (c' := (true, 74, [some (.ref 17)], [], ((va_up (va_up (va_up Ia0 23 (fun _ => 0)) 24 (fun _ => 0)) 25 (fun _ => 0)), (va_up (va_up (va_up Ja0 23 (fun _ => 0)) 24 (fun _ => 0)) 25 (fun _ => 0)), qcR_48, qcS_25 L, 25), 8, 40)) 10 rfl).trans ?_
  refine (q_D_by (c' := (true, 92, [some (.ref 17)], [.ref 27, .ref 27, .ref 17], ((va_up (q_up (va_up (va_up (va_up (va_up Ia0 23 (fun _ => 0)) 24 (fun _ => 0)) 25 (fun _ => 0)) 26 (fun _ => 0)) 17 11 0) 27 (fun _ => 0)), (va_up (va_up (va_up (va_up (va_up Ja0 23 (fun _ => 0)) 24 (fun _ => 0)) 25 (fun _ => 0)) 26 (fun _ => 0)) 27 (fun _ => 0)), qcR_51, qcS_27 L, 27), 10, 69)) 10 rfl).trans ?_
  rw [← ea1, ← ja1]
  refine (q_D_call (X := mX3_init [.ref 27] (Ia1, Ja1, qcR_51, qcS_27 L, 27)) (b := true) (pc := 95) (L := [some (.ref 17)]) (st := [.ref 27, .ref 17]) (ce := 10) (sl := 69) 0 (true, 92, [some (.ref 17)], [.ref 27, .ref 27, .ref 17], (Ia1, Ja1, qcR_51, qcS_27 L, 27), 10, 69) rfl rfl).trans ?_
  rw [q_ck_tt, h1]
  show q_D _ _ _ (true, 95, [some (.ref 17)], [.ref 27, .ref 17], (I1, J1, qcR_51, qcS_27 L, 27), 10, 69) = _
  refine (q_D_by (c' := (true, 103, [some (.ref 17)], [.ref 28, .ref 28, .ref 17], ((va_up I1 28 (fun _ => 0)), (va_up J1 28 (fun _ => 0)), qcR_53, qcS_28 L, 28), 11, 73)) 4 rfl).trans ?_
  refine (q_D_call (X := mX4_init [.ref 28] ((va_up I1 28 (fun _ => 0)), (va_up J1 28 (fun _ => 0)), qcR_53, qcS_28 L, 28)) (b := true) (pc := 106) (L := [some (.ref 17)]) (st := [.ref 28, .ref 17]) (ce := 13) (sl := 403) 0 (true, 103, [some (.ref 17)], [.ref 28, .ref 28, .ref 17], ((va_up I1 28 (fun _ => 0)), (va_up J1 28 (fun _ => 0)), qcR_53, qcS_28 L, 28), 11, 73) rfl rfl).trans ?_
  rw [q_ck_tt, h2]
  show q_D _ _ _ (true, 106, [some (.ref 17)], [.ref 28, .ref 17], (I2, J2, qcR_57, qcS_30 L, 30), 13, 403) = _
  refine (q_D_by (c' := (true, 119, [some (.ref 17)], [], ((q_up (q_up I2 17 14 0) 17 15 0), J2, qcR_58, qcS_30 L, 30), 13, 403)) 7 rfl).trans ?_
  exact q_D_end 1 rfl
def qfK : Nat → Int64 := (va_up (va_up (va_up (va_up (va_up (va_up (va_up (va_up (va_up (va_up (va_up (va_up (va_up (va_up (va_up (va_up (va_up (va_up (va_up (va_up (va_up qfZ 0 140190821) 1 306) 2 292) 3 3322259) 4 14516) 5 215533) 6 1476) 7 655) 8 623813) 9 20201044) 10 12791) 11 271592) 12 508078) 13 20599915) 14 214402707) 15 15181413) 16 149559) 17 498) 18 14836) 19 103820) 20 3554411)
theorem n_X9_init_31 {B : Nat → Nat → Int32} (L : Nat) (I : Nat → Nat → Int32) (J : Nat → Nat → Int64) (hZ : q_Z B qfZ qX0 31 I J) : ∃ I' J', mX9_init [.ref 31, .ref 17] (I, J, qcR_60, qcS_31 L, 31) = some (none, (I', J', qcR_65, qcS_33 L, 33)) ∧ q_Z B qfK qX0 33 I' J' := by
  obtain ⟨Ia0, Ja0, ea0, ja0, za0⟩ : ∃ Ia Ja, Ia = (q_up (q_up (q_up (q_up (q_up (q_up (q_up (q_up (q_up (va_up (va_up I 32 (fun _ => 0)) 33 (fun _ => 0)) 31 2 0) 31 3 0) 31 4 0) 31 5 0) 31 6 0) 31 9 0) 31 10 0) 31 11 0) 31 12 0) ∧ Ja = (q_up (va_up (va_up J 32 (fun _ => 0)) 33 (fun _ => 0)) 31 7 0) ∧ q_Z B qfZ qX0 33 Ia Ja := ⟨_, _, rfl, rfl, (q_Z_wr (q_Z_wr (q_Z_wr (q_Z_wr (q_Z_wJ (q_Z_wr (q_Z_wr (q_Z_wr (q_Z_wr (q_Z_wr (q_Z_new (q_Z_new hZ (by decide) (Or.inr (fun _ => rfl)) (fun _ => rfl)) (by decide) (Or.inl (by decide)) (fun _ => rfl)) (by decide) rfl) (by decide) rfl) (by decide) rfl) (by decide) rfl) (by decide) rfl) (by decide) (by decide)) (by decide) rfl) (by decide) rfl) (by decide) rfl) (by decide) rfl)⟩
  obtain ⟨Ia1, Ja1, ea1, ja1, za1⟩ : ∃ Ia Ja, Ia = (q_up Ia0 31 13 0) ∧ Ja = (q_up Ja0 32 0 140190821) ∧ q_Z B (va_up qfZ 0 140190821) qX0 33 Ia Ja := ⟨_, _, rfl, rfl, (q_Z_k (q_Z_wr za0 (by decide) rfl) (by decide))⟩
  obtain ⟨Ia2, Ja2, ea2, ja2, za2⟩ : ∃ Ia Ja, Ia = Ia1 ∧ Ja = (q_up Ja1 32 1 306) ∧ q_Z B (va_up (va_up qfZ 0 140190821) 1 306) qX0 33 Ia Ja := ⟨_, _, rfl, rfl, (q_Z_k za1 (by decide))⟩
  obtain ⟨Ia3, Ja3, ea3, ja3, za3⟩ : ∃ Ia Ja, Ia = Ia2 ∧ Ja = (q_up Ja2 32 2 292) ∧ q_Z B (va_up (va_up (va_up qfZ 0 140190821) 1 306) 2 292) qX0 33 Ia Ja := ⟨_, _, rfl, rfl, (q_Z_k za2 (by decide))⟩
  obtain ⟨Ia4, Ja4, ea4, ja4, za4⟩ : ∃ Ia Ja, Ia = Ia3 ∧ Ja = (q_up Ja3 32 3 3322259) ∧ q_Z B (va_up (va_up (va_up (va_up qfZ 0 140190821) 1 306) 2 292) 3 3322259) qX0 33 Ia Ja := ⟨_, _, rfl, rfl, (q_Z_k za3 (by decide))⟩
  obtain ⟨Ia5, Ja5, ea5, ja5, za5⟩ : ∃ Ia Ja, Ia = Ia4 ∧ Ja = (q_up Ja4 32 4 14516) ∧ q_Z B (va_up (va_up (va_up (va_up (va_up qfZ 0 140190821) 1 306) 2 292) 3 3322259) 4 14516) qX0 33 Ia Ja := ⟨_, _, rfl, rfl, (q_Z_k za4 (by decide))⟩
  obtain ⟨Ia6, Ja6, ea6, ja6, za6⟩ : ∃ Ia Ja, Ia = Ia5 ∧ Ja = (q_up Ja5 32 5 215533) ∧ q_Z B (va_up (va_up (va_up (va_up (va_up (va_up qfZ 0 140190821) 1 306) 2 292) 3 3322259) 4 14516) 5 215533) qX0 33 Ia Ja := ⟨_, _, rfl, rfl, (q_Z_k za5 (by decide))⟩
  obtain ⟨Ia7, Ja7, ea7, ja7, za7⟩ : ∃ Ia Ja, Ia = Ia6 ∧ Ja = (q_up Ja6 32 6 1476) ∧ q_Z B (va_up (va_up (va_up (va_up (va_up (va_up (va_up qfZ 0 140190821) 1 306) 2 292) 3 3322259) 4 14516) 5 215533) 6 1476) qX0 33 Ia Ja := ⟨_, _, rfl, rfl, (q_Z_k za6 (by decide))⟩
  obtain ⟨Ia8, Ja8, ea8, ja8, za8⟩ : ∃ Ia Ja, Ia = Ia7 ∧ Ja = (q_up Ja7 32 7 655) ∧ q_Z B (va_up (va_up (va_up (va_up (va_up (va_up (va_up (va_up qfZ 0 140190821) 1 306) 2 292) 3 3322259) 4 14516) 5 215533) 6 1476) 7 655) qX0 33 Ia Ja := ⟨_, _, rfl, rfl, (q_Z_k za7 (by decide))⟩
  obtain ⟨Ia9, Ja9, ea9, ja9, za9⟩ : ∃ Ia Ja, Ia = Ia8 ∧ Ja = (q_up Ja8 32 8 623813) ∧ q_Z B (va_up (va_up (va_up (va_up (va_up (va_up (va_up (va_up (va_up qfZ 0 140190821) 1 306) 2 292) 3 3322259) 4 14516) 5 215533) 6 1476) 7 655) 8 623813) qX0 33 Ia Ja := ⟨_, _, rfl, rfl, (q_Z_k za8 (by decide))⟩
  obtain ⟨Ia10, Ja10, ea10, ja10, za10⟩ : ∃ Ia Ja, Ia = Ia9 ∧ Ja = (q_up Ja9 32 9 20201044) ∧ q_Z B (va_up (va_up (va_up (va_up (va_up (va_up (va_up (va_up (va_up (va_up qfZ 0 140190821) 1 306) 2 292) 3 3322259) 4 14516) 5 215533) 6 1476) 7 655) 8 623813) 9 20201044) qX0 33 Ia Ja := ⟨_, _, rfl, rfl, (q_Z_k za9 (by decide))⟩
  obtain ⟨Ia11, Ja11, ea11, ja11, za11⟩ : ∃ Ia Ja, Ia = Ia10 ∧ Ja = (q_up Ja10 32 10 12791) ∧ q_Z B (va_up (va_up (va_up (va_up (va_up (va_up (va_up (va_up (va_up (va_up (va_up qfZ 0 140190821) 1 306) 2 292) 3 3322259) 4 14516) 5 215533) 6 1476) 7 655) 8 623813) 9 20201044) 10 12791) qX0 33 Ia Ja := ⟨_, _, rfl, rfl, (q_Z_k za10 (by decide))⟩
  obtain ⟨Ia12, Ja12, ea12, ja12, za12⟩ : ∃ Ia Ja, Ia = Ia11 ∧ Ja = (q_up Ja11 32 11 271592) ∧ q_Z B (va_up (va_up (va_up (va_up (va_up (va_up (va_up (va_up (va_up (va_up (va_up (va_up qfZ 0 140190821) 1 306) 2 292) 3 3322259) 4 14516) 5 215533) 6 1476) 7 655) 8 623813) 9 20201044) 10 12791) 11 271592) qX0 33 Ia Ja := ⟨_, _, rfl, rfl, (q_Z_k za11 (by decide))⟩
  obtain ⟨Ia13, Ja13, ea13, ja13, za13⟩ : ∃ Ia Ja, Ia = Ia12 ∧ Ja = (q_up Ja12 32 12 508078) ∧ q_Z B (va_up (va_up (va_up (va_up (va_up (va_up (va_up (va_up (va_up (va_up (va_up (va_up (va_up qfZ 0 140190821) 1 306) 2 292) 3 3322259) 4 14516) 5 215533) 6 1476) 7 655) 8 623813) 9 20201044) 10 12791) 11 271592) 12 508078) qX0 33 Ia Ja := ⟨_, _, rfl, rfl, (q_Z_k za12 (by decide))⟩
  obtain ⟨Ia14, Ja14, ea14, ja14, za14⟩ : ∃ Ia Ja, Ia = Ia13 ∧ Ja = (q_up Ja13 32 13 20599915) ∧ q_Z B (va_up (va_up (va_up (va_up (va_up (va_up (va_up (va_up (va_up (va_up (va_up (va_up (va_up (va_up qfZ 0 140190821) 1 306) 2 292) 3 3322259) 4 14516) 5 215533) 6 1476) 7 655) 8 623813) 9 20201044) 10 12791) 11 271592) 12 508078) 13 20599915) qX0 33 Ia Ja := ⟨_, _, rfl, rfl, (q_Z_k za13 (by decide))⟩
  obtain ⟨Ia15, Ja15, ea15, ja15, za15⟩ : ∃ Ia Ja, Ia = Ia14 ∧ Ja = (q_up Ja14 32 14 214402707) ∧ q_Z B (va_up (va_up (va_up (va_up (va_up (va_up (va_up (va_up (va_up (va_up (va_up (va_up (va_up (va_up (va_up qfZ 0 140190821) 1 306) 2 292) 3 3322259) 4 14516) 5 215533) 6 1476) 7 655) 8 623813) 9 20201044) 10 12791) 11 271592) 12 508078) 13 20599915) 14 214402707) qX0 33 Ia Ja := ⟨_, _, rfl, rfl, (q_Z_k za14 (by decide))⟩
  obtain ⟨Ia16, Ja16, ea16, ja16, za16⟩ : ∃ Ia Ja, Ia = Ia15 ∧ Ja = (q_up Ja15 32 15 15181413) ∧ q_Z B (va_up (va_up (va_up (va_up (va_up (va_up (va_up (va_up (va_up (va_up (va_up (va_up (va_up (va_up (va_up (va_up qfZ 0 140190821) 1 306) 2 292) 3 3322259) 4 14516) 5 215533) 6 1476) 7 655) 8 623813) 9 20201044) 10 12791) 11 271592) 12 508078) 13 20599915) 14 214402707) 15 15181413) qX0 33 Ia Ja := ⟨_, _, rfl, rfl, (q_Z_k za15 (by decide))⟩
  obtain ⟨Ia17, Ja17, ea17, ja17, za17⟩ : ∃ Ia Ja, Ia = Ia16 ∧ Ja = (q_up Ja16 32 16 149559) ∧ q_Z B (va_up (va_up (va_up (va_up (va_up (va_up (va_up (va_up (va_up (va_up (va_up (va_up (va_up (va_up (va_up (va_up (va_up qfZ 0 140190821) 1 306) 2 292) 3 3322259) 4 14516) 5 215533) 6 1476) 7 655) 8 623813) 9 20201044) 10 12791) 11 271592) 12 508078) 13 20599915) 14 214402707) 15 15181413) 16 149559) qX0 33 Ia Ja := ⟨_, _, rfl, rfl, (q_Z_k za16 (by decide))⟩
  obtain ⟨Ia18, Ja18, ea18, ja18, za18⟩ : ∃ Ia Ja, Ia = Ia17 ∧ Ja = (q_up Ja17 32 17 498) ∧ q_Z B (va_up (va_up (va_up (va_up (va_up (va_up (va_up (va_up (va_up (va_up (va_up (va_up (va_up (va_up (va_up (va_up (va_up (va_up qfZ 0 140190821) 1 306) 2 292) 3 3322259) 4 14516) 5 215533) 6 1476) 7 655) 8 623813) 9 20201044) 10 12791) 11 271592) 12 508078) 13 20599915) 14 214402707) 15 15181413) 16 149559) 17 498) qX0 33 Ia Ja := ⟨_, _, rfl, rfl, (q_Z_k za17 (by decide))⟩
  obtain ⟨Ia19, Ja19, ea19, ja19, za19⟩ : ∃ Ia Ja, Ia = Ia18 ∧ Ja = (q_up Ja18 32 18 14836) ∧ q_Z B (va_up (va_up (va_up (va_up (va_up (va_up (va_up (va_up (va_up (va_up (va_up (va_up (va_up (va_up (va_up (va_up (va_up (va_up (va_up qfZ 0 140190821) 1 306) 2 292) 3 3322259) 4 14516) 5 215533) 6 1476) 7 655) 8 623813) 9 20201044) 10 12791) 11 271592) 12 508078) 13 20599915) 14 214402707) 15 15181413) 16 149559) 17 498) 18 14836) qX0 33 Ia Ja := ⟨_, _, rfl, rfl, (q_Z_k za18 (by decide))⟩
  obtain ⟨Ia20, Ja20, ea20, ja20, za20⟩ : ∃ Ia Ja, Ia = Ia19 ∧ Ja = (q_up Ja19 32 19 103820) ∧ q_Z B (va_up (va_up (va_up (va_up (va_up (va_up (va_up (va_up (va_up (va_up (va_up (va_up (va_up (va_up (va_up (va_up (va_up (va_up (va_up (va_up qfZ 0 140190821) 1 306) 2 292) 3 3322259) 4 14516) 5 215533) 6 1476) 7 655) 8 623813) 9 20201044) 10 12791) 11 271592) 12 508078) 13 20599915) 14 214402707) 15 15181413) 16 149559) 17 498) 18 14836) 19 103820) qX0 33 Ia Ja := ⟨_, _, rfl, rfl, (q_Z_k za19 (by decide))⟩
  obtain ⟨Ia21, Ja21, ea21, ja21, za21⟩ : ∃ Ia Ja, Ia = Ia20 ∧ Ja = (q_up Ja20 32 20 3554411) ∧ q_Z B (va_up (va_up (va_up (va_up (va_up (va_up (va_up (va_up (va_up (va_up (va_up (va_up (va_up (va_up (va_up (va_up (va_up (va_up (va_up (va_up (va_up qfZ 0 140190821) 1 306) 2 292) 3 3322259) 4 14516) 5 215533) 6 1476) 7 655) 8 623813) 9 20201044) 10 12791) 11 271592) 12 508078) 13 20599915) 14 214402707) 15 15181413) 16 149559) 17 498) 18 14836) 19 103820) 20 3554411) qX0 33 Ia Ja := ⟨_, _, rfl, rfl, (q_Z_k za20 (by decide))⟩
  refine ⟨Ia21, Ja21, ?_, za21⟩
  show q_D cs_X9_init oX9_init (2, 21) (true, 0, [some (.ref 31), some (.ref 17), none, none, none, none, none], [], (I, J, qcR_60, qcS_31 L, 31), 0, 0) = _
  refine (q_D_by (c' := (true, 19, [some (.ref 31), some (.ref 17), none, none, none, none, none], [], ((va_up (va_up I 32 (fun _ => 0)) 33 (fun _ => 0)), (va_up (va_up J 32 (fun _ => 0)) 33 (fun _ => 0)), qcR_64, qcS_33 L, 33), 2, 21)) 10 rfl).trans ?_
  refine (q_D_by (c' := (true, 35, [some (.ref 31), some (.ref 17), none, none, none, none, none], [.ref 31], ((q_up (q_up (q_up (va_up (va_up I 32 (fun _ => 0)) 33 (fun _ => 0)) 31 2 0) 31 3 0) 31 4 0), (va_up (va_up J 32 (fun _ => 0)) 33 (fun _ => 0)), qcR_64, qcS_33 L, 33), 2, 21)) 10 rfl).trans ?_
  refine (q_D_by (c' := (true, 51, [some (.ref 31), some (.ref 17), none, none, none, none, none], [.int 0, .ref 31], ((q_up (q_up (q_up (q_up (q_up (va_up (va_up I 32 (fun _ => 0)) 33 (fun _ => 0)) 31 2 0) 31 3 0) 31 4 0) 31 5 0) 31 6 0), (q_up (va_up (va_up J 32 (fun _ => 0)) 33 (fun _ => 0)) 31 7 0), qcR_64, qcS_33 L, 33), 2, 21)) 10 rfl).trans ?_
  refine (q_D_by (c' := (true, 69, [some (.ref 31), some (.ref 17), none, none, none, none, none], [], ((q_up (q_up (q_up (q_up (q_up (q_up (q_up (q_up (q_up (va_up (va_up I 32 (fun _ => 0)) 33 (fun _ => 0)) 31 2 0) 31 3 0) 31 4 0) 31 5 0) 31 6 0) 31 9 0) 31 10 0) 31 11 0) 31 12 0), (q_up (va_up (va_up J 32 (fun _ => 0)) 33 (fun _ => 0)) 31 7 0), qcR_64, qcS_33 L, 33), 2, 21)) 10 rfl).trans ?_
  rw [← ea0, ← ja0]
  refine (q_D_by (c' := (true, 83, [some (.ref 31), some (.ref 17), some (.int 0), some (.long 0), none, none, none], [], ((q_up Ia0 31 13 0), Ja0, qcR_65, qcS_33 L, 33), 2, 21)) 10 rfl).trans ?_
  refine (q_D_by (c' := (true, 90, [some (.ref 31), none, some (.int 0), some (.long 0), none, some (.int 0), none], [.ref 1010, .int 0], ((q_up Ia0 31 13 0), Ja0, qcR_65, qcS_33 L, 33), 2, 21)) 4 rfl).trans ?_
  refine (q_D_call (X := q_text4 [.ref 1010] ((q_up Ia0 31 13 0), Ja0, qcR_65, qcS_33 L, 33)) (b := true) (pc := 93) (L := [some (.ref 31), none, some (.int 0), some (.long 0), none, some (.int 0), none]) (st := [.int 0]) (ce := 2) (sl := 21) 0 (true, 90, [some (.ref 31), none, some (.int 0), some (.long 0), none, some (.int 0), none], [.ref 1010, .int 0], ((q_up Ia0 31 13 0), Ja0, qcR_65, qcS_33 L, 33), 2, 21) rfl rfl).trans ?_
  rw [q_ck_tt, q_tx4 rfl]
  show q_D _ _ _ (true, 93, [some (.ref 31), none, some (.int 0), some (.long 0), none, some (.int 0), none], [.int 102, .int 0], ((q_up Ia0 31 13 0), Ja0, qcR_65, qcS_33 L, 33), 2, 21) = _
  refine (q_D_br (b := true) (p := (0 : Int32) < 102) (pa := 96) (pb := 154) (L := [some (.ref 31), none, some (.int 0), some (.long 0), none, some (.int 0), none]) (d := ([], ((q_up Ia0 31 13 0), Ja0, qcR_65, qcS_33 L, 33), 2, 21)) (La := [some (.ref 31), none, some (.int 0), some (.long 0), none, some (.int 0), none]) (Lb := [none, none, none, none, none, none, none]) 1 rfl rfl rfl).trans ?_
  rw [q_ck_tt, if_pos (by decide)]
  refine (q_D_br (b := true) (p := (0 : Int32) < 21) (pa := 102) (pb := 154) (L := [some (.ref 31), none, some (.int 0), some (.long 0), none, some (.int 0), none]) (d := ([], ((q_up Ia0 31 13 0), Ja0, qcR_65, qcS_33 L, 33), 2, 21)) (La := [some (.ref 31), none, some (.int 0), some (.long 0), none, some (.int 0), none]) (Lb := [none, none, none, none, none, none, none]) 3 rfl rfl rfl).trans ?_
  rw [q_ck_tt, if_pos (by decide)]
  refine (q_D_by (c' := (true, 106, [some (.ref 31), none, some (.int 0), some (.long 0), none, some (.int 0), none], [.int 0, .ref 1010], ((q_up Ia0 31 13 0), Ja0, qcR_65, qcS_33 L, 33), 2, 21)) 2 rfl).trans ?_
  refine (q_D_call (X := q_text5 [.ref 1010, .int 0] ((q_up Ia0 31 13 0), Ja0, qcR_65, qcS_33 L, 33)) (b := true) (pc := 109) (L := [some (.ref 31), none, some (.int 0), some (.long 0), none, some (.int 0), none]) (st := []) (ce := 2) (sl := 21) 0 (true, 106, [some (.ref 31), none, some (.int 0), some (.long 0), none, some (.int 0), none], [.int 0, .ref 1010], ((q_up Ia0 31 13 0), Ja0, qcR_65, qcS_33 L, 33), 2, 21) rfl rfl).trans ?_
  rw [q_ck_tt, q_tx5 0 100 rfl (by decide) (by decide)]
  show q_D _ _ _ (true, 109, [some (.ref 31), none, some (.int 0), some (.long 0), none, some (.int 0), none], [.int 100], ((q_up Ia0 31 13 0), Ja0, qcR_65, qcS_33 L, 33), 2, 21) = _
  refine (q_D_br (b := true) (p := (100 : Int32) = 32) (pa := 118) (pb := 133) (L := [some (.ref 31), none, some (.int 0), some (.long 0), none, some (.int 0), some (.int 100)]) (d := ([], ((q_up Ia0 31 13 0), Ja0, qcR_65, qcS_33 L, 33), 2, 21)) (La := [some (.ref 31), none, some (.int 0), some (.long 0), none, some (.int 0), none]) (Lb := [some (.ref 31), none, some (.int 0), some (.long 0), none, some (.int 0), some (.int 100)]) 4 rfl rfl rfl).trans ?_
  rw [q_ck_tt, if_neg (by decide)]
  refine (q_D_by (c' := (true, 147, [some (.ref 31), none, some (.int 0), some (.long 0), none, some (.int 0), some (.int 100)], [.long 4], ((q_up Ia0 31 13 0), Ja0, qcR_65, qcS_33 L, 33), 2, 21)) 10 rfl).trans ?_
  refine (q_D_by (c' := (true, 90, [some (.ref 31), none, some (.int 0), some (.long 4), none, some (.int 1), none], [.ref 1010, .int 1], ((q_up Ia0 31 13 0), Ja0, qcR_65, qcS_33 L, 33), 2, 21)) 5 rfl).trans ?_
  refine (q_D_call (X := q_text4 [.ref 1010] ((q_up Ia0 31 13 0), Ja0, qcR_65, qcS_33 L, 33)) (b := true) (pc := 93) (L := [some (.ref 31), none, some (.int 0), some (.long 4), none, some (.int 1), none]) (st := [.int 1]) (ce := 2) (sl := 21) 0 (true, 90, [some (.ref 31), none, some (.int 0), some (.long 4), none, some (.int 1), none], [.ref 1010, .int 1], ((q_up Ia0 31 13 0), Ja0, qcR_65, qcS_33 L, 33), 2, 21) rfl rfl).trans ?_
  rw [q_ck_tt, q_tx4 rfl]
  show q_D _ _ _ (true, 93, [some (.ref 31), none, some (.int 0), some (.long 4), none, some (.int 1), none], [.int 102, .int 1], ((q_up Ia0 31 13 0), Ja0, qcR_65, qcS_33 L, 33), 2, 21) = _
  refine (q_D_br (b := true) (p := (1 : Int32) < 102) (pa := 96) (pb := 154) (L := [some (.ref 31), none, some (.int 0), some (.long 4), none, some (.int 1), none]) (d := ([], ((q_up Ia0 31 13 0), Ja0, qcR_65, qcS_33 L, 33), 2, 21)) (La := [some (.ref 31), none, some (.int 0), some (.long 4), none, some (.int 1), none]) (Lb := [none, none, none, none, none, none, none]) 1 rfl rfl rfl).trans ?_
  rw [q_ck_tt, if_pos (by decide)]
  refine (q_D_br (b := true) (p := (0 : Int32) < 21) (pa := 102) (pb := 154) (L := [some (.ref 31), none, some (.int 0), some (.long 4), none, some (.int 1), none]) (d := ([], ((q_up Ia0 31 13 0), Ja0, qcR_65, qcS_33 L, 33), 2, 21)) (La := [some (.ref 31), none, some (.int 0), some (.long 4), none, some (.int 1), none]) (Lb := [none, none, none, none, none, none, none]) 3 rfl rfl rfl).trans ?_
  rw [q_ck_tt, if_pos (by decide)]
  refine (q_D_by (c' := (true, 106, [some (.ref 31), none, some (.int 0), some (.long 4), none, some (.int 1), none], [.int 1, .ref 1010], ((q_up Ia0 31 13 0), Ja0, qcR_65, qcS_33 L, 33), 2, 21)) 2 rfl).trans ?_
  refine (q_D_call (X := q_text5 [.ref 1010, .int 1] ((q_up Ia0 31 13 0), Ja0, qcR_65, qcS_33 L, 33)) (b := true) (pc := 109) (L := [some (.ref 31), none, some (.int 0), some (.long 4), none, some (.int 1), none]) (st := []) (ce := 2) (sl := 21) 0 (true, 106, [some (.ref 31), none, some (.int 0), some (.long 4), none, some (.int 1), none], [.int 1, .ref 1010], ((q_up Ia0 31 13 0), Ja0, qcR_65, qcS_33 L, 33), 2, 21) rfl rfl).trans ?_
  rw [q_ck_tt, q_tx5 1 101 rfl (by decide) (by decide)]
  show q_D _ _ _ (true, 109, [some (.ref 31), none, some (.int 0), some (.long 4), none, some (.int 1), none], [.int 101], ((q_up Ia0 31 13 0), Ja0, qcR_65, qcS_33 L, 33), 2, 21) = _
  refine (q_D_br (b := true) (p := (101 : Int32) = 32) (pa := 118) (pb := 133) (L := [some (.ref 31), none, some (.int 0), some (.long 4), none, some (.int 1), some (.int 101)]) (d := ([], ((q_up Ia0 31 13 0), Ja0, qcR_65, qcS_33 L, 33), 2, 21)) (La := [some (.ref 31), none, some (.int 0), some (.long 4), none, some (.int 1), none]) (Lb := [some (.ref 31), none, some (.int 0), some (.long 4), none, some (.int 1), some (.int 101)]) 4 rfl rfl rfl).trans ?_
  rw [q_ck_tt, if_neg (by decide)]
  refine (q_D_by (c' := (true, 147, [some (.ref 31), none, some (.int 0), some (.long 4), none, some (.int 1), some (.int 101)], [.long 133], ((q_up Ia0 31 13 0), Ja0, qcR_65, qcS_33 L, 33), 2, 21)) 10 rfl).trans ?_
  refine (q_D_by (c' := (true, 90, [some (.ref 31), none, some (.int 0), some (.long 133), none, some (.int 2), none], [.ref 1010, .int 2], ((q_up Ia0 31 13 0), Ja0, qcR_65, qcS_33 L, 33), 2, 21)) 5 rfl).trans ?_
  refine (q_D_call (X := q_text4 [.ref 1010] ((q_up Ia0 31 13 0), Ja0, qcR_65, qcS_33 L, 33)) (b := true) (pc := 93) (L := [some (.ref 31), none, some (.int 0), some (.long 133), none, some (.int 2), none]) (st := [.int 2]) (ce := 2) (sl := 21) 0 (true, 90, [some (.ref 31), none, some (.int 0), some (.long 133), none, some (.int 2), none], [.ref 1010, .int 2], ((q_up Ia0 31 13 0), Ja0, qcR_65, qcS_33 L, 33), 2, 21) rfl rfl).trans ?_
  rw [q_ck_tt, q_tx4 rfl]
  show q_D _ _ _ (true, 93, [some (.ref 31), none, some (.int 0), some (.long 133), none, some (.int 2), none], [.int 102, .int 2], ((q_up Ia0 31 13 0), Ja0, qcR_65, qcS_33 L, 33), 2, 21) = _
  refine (q_D_br (b := true) (p := (2 : Int32) < 102) (pa := 96) (pb := 154) (L := [some (.ref 31), none, some (.int 0), some (.long 133), none, some (.int 2), none]) (d := ([], ((q_up Ia0 31 13 0), Ja0, qcR_65, qcS_33 L, 33), 2, 21)) (La := [some (.ref 31), none, some (.int 0), some (.long 133), none, some (.int 2), none]) (Lb := [none, none, none, none, none, none, none]) 1 rfl rfl rfl).trans ?_
  rw [q_ck_tt, if_pos (by decide)]
  refine (q_D_br (b := true) (p := (0 : Int32) < 21) (pa := 102) (pb := 154) (L := [some (.ref 31), none, some (.int 0), some (.long 133), none, some (.int 2), none]) (d := ([], ((q_up Ia0 31 13 0), Ja0, qcR_65, qcS_33 L, 33), 2, 21)) (La := [some (.ref 31), none, some (.int 0), some (.long 133), none, some (.int 2), none]) (Lb := [none, none, none, none, none, none, none]) 3 rfl rfl rfl).trans ?_
  rw [q_ck_tt, if_pos (by decide)]
  refine (q_D_by (c' := (true, 106, [some (.ref 31), none, some (.int 0), some (.long 133), none, some (.int 2), none], [.int 2, .ref 1010], ((q_up Ia0 31 13 0), Ja0, qcR_65, qcS_33 L, 33), 2, 21)) 2 rfl).trans ?_
  refine (q_D_call (X := q_text5 [.ref 1010, .int 2] ((q_up Ia0 31 13 0), Ja0, qcR_65, qcS_33 L, 33)) (b := true) (pc := 109) (L := [some (.ref 31), none, some (.int 0), some (.long 133), none, some (.int 2), none]) (st := []) (ce := 2) (sl := 21) 0 (true, 106, [some (.ref 31), none, some (.int 0), some (.long 133), none, some (.int 2), none], [.int 2, .ref 1010], ((q_up Ia0 31 13 0), Ja0, qcR_65, qcS_33 L, 33), 2, 21) rfl rfl).trans ?_
  rw [q_ck_tt, q_tx5 2 118 rfl (by decide) (by decide)]
  show q_D _ _ _ (true, 109, [some (.ref 31), none, some (.int 0), some (.long 133), none, some (.int 2), none], [.int 118], ((q_up Ia0 31 13 0), Ja0, qcR_65, qcS_33 L, 33), 2, 21) = _
  refine (q_D_br (b := true) (p := (118 : Int32) = 32) (pa := 118) (pb := 133) (L := [some (.ref 31), none, some (.int 0), some (.long 133), none, some (.int 2), some (.int 118)]) (d := ([], ((q_up Ia0 31 13 0), Ja0, qcR_65, qcS_33 L, 33), 2, 21)) (La := [some (.ref 31), none, some (.int 0), some (.long 133), none, some (.int 2), none]) (Lb := [some (.ref 31), none, some (.int 0), some (.long 133), none, some (.int 2), some (.int 118)]) 4 rfl rfl rfl).trans ?_
  rw [q_ck_tt, if_neg (by decide)]
  refine (q_D_by (c' := (true, 147, [some (.ref 31), none, some (.int 0), some (.long 133), none, some (.int 2), some (.int 118)], [.long 4278], ((q_up Ia0 31 13 0), Ja0, qcR_65, qcS_33 L, 33), 2, 21)) 10 rfl).trans ?_
  refine (q_D_by (c' := (true, 90, [some (.ref 31), none, some (.int 0), some (.long 4278), none, some (.int 3), none], [.ref 1010, .int 3], ((q_up Ia0 31 13 0), Ja0, qcR_65, qcS_33 L, 33), 2, 21)) 5 rfl).trans ?_
  refine (q_D_call (X := q_text4 [.ref 1010] ((q_up Ia0 31 13 0), Ja0, qcR_65, qcS_33 L, 33)) (b := true) (pc := 93) (L := [some (.ref 31), none, some (.int 0), some (.long 4278), none, some (.int 3), none]) (st := [.int 3]) (ce := 2) (sl := 21) 0 (true, 90, [some (.ref 31), none, some (.int 0), some (.long 4278), none, some (.int 3), none], [.ref 1010, .int 3], ((q_up Ia0 31 13 0), Ja0, qcR_65, qcS_33 L, 33), 2, 21) rfl rfl).trans ?_
  rw [q_ck_tt, q_tx4 rfl]
  show q_D _ _ _ (true, 93, [some (.ref 31), none, some (.int 0), some (.long 4278), none, some (.int 3), none], [.int 102, .int 3], ((q_up Ia0 31 13 0), Ja0, qcR_65, qcS_33 L, 33), 2, 21) = _
  refine (q_D_br (b := true) (p := (3 : Int32) < 102) (pa := 96) (pb := 154) (L := [some (.ref 31), none, some (.int 0), some (.long 4278), none, some (.int 3), none]) (d := ([], ((q_up Ia0 31 13 0), Ja0, qcR_65, qcS_33 L, 33), 2, 21)) (La := [some (.ref 31), none, some (.int 0), some (.long 4278), none, some (.int 3), none]) (Lb := [none, none, none, none, none, none, none]) 1 rfl rfl rfl).trans ?_
  rw [q_ck_tt, if_pos (by decide)]
  refine (q_D_br (b := true) (p := (0 : Int32) < 21) (pa := 102) (pb := 154) (L := [some (.ref 31), none, some (.int 0), some (.long 4278), none, some (.int 3), none]) (d := ([], ((q_up Ia0 31 13 0), Ja0, qcR_65, qcS_33 L, 33), 2, 21)) (La := [some (.ref 31), none, some (.int 0), some (.long 4278), none, some (.int 3), none]) (Lb := [none, none, none, none, none, none, none]) 3 rfl rfl rfl).trans ?_
  rw [q_ck_tt, if_pos (by decide)]
  refine (q_D_by (c' := (true, 106, [some (.ref 31), none, some (.int 0), some (.long 4278), none, some (.int 3), none], [.int 3, .ref 1010], ((q_up Ia0 31 13 0), Ja0, qcR_65, qcS_33 L, 33), 2, 21)) 2 rfl).trans ?_
  refine (q_D_call (X := q_text5 [.ref 1010, .int 3] ((q_up Ia0 31 13 0), Ja0, qcR_65, qcS_33 L, 33)) (b := true) (pc := 109) (L := [some (.ref 31), none, some (.int 0), some (.long 4278), none, some (.int 3), none]) (st := []) (ce := 2) (sl := 21) 0 (true, 106, [some (.ref 31), none, some (.int 0), some (.long 4278), none, some (.int 3), none], [.int 3, .ref 1010], ((q_up Ia0 31 13 0), Ja0, qcR_65, qcS_33 L, 33), 2, 21) rfl rfl).trans ?_
  rw [q_ck_tt, q_tx5 3 105 rfl (by decide) (by decide)]
  show q_D _ _ _ (true, 109, [some (.ref 31), none, some (.int 0), some (.long 4278), none, some (.int 3), none], [.int 105], ((q_up Ia0 31 13 0), Ja0, qcR_65, qcS_33 L, 33), 2, 21) = _
  refine (q_D_br (b := true) (p := (105 : Int32) = 32) (pa := 118) (pb := 133) (L := [some (.ref 31), none, some (.int 0), some (.long 4278), none, some (.int 3), some (.int 105)]) (d := ([], ((q_up Ia0 31 13 0), Ja0, qcR_65, qcS_33 L, 33), 2, 21)) (La := [some (.ref 31), none, some (.int 0), some (.long 4278), none, some (.int 3), none]) (Lb := [some (.ref 31), none, some (.int 0), some (.long 4278), none, some (.int 3), some (.int 105)]) 4 rfl rfl rfl).trans ?_
  rw [q_ck_tt, if_neg (by decide)]
  refine (q_D_by (c' := (true, 147, [some (.ref 31), none, some (.int 0), some (.long 4278), none, some (.int 3), some (.int 105)], [.long 136905], ((q_up Ia0 31 13 0), Ja0, qcR_65, qcS_33 L, 33), 2, 21)) 10 rfl).trans ?_
  refine (q_D_by (c' := (true, 90, [some (.ref 31), none, some (.int 0), some (.long 136905), none, some (.int 4), none], [.ref 1010, .int 4], ((q_up Ia0 31 13 0), Ja0, qcR_65, qcS_33 L, 33), 2, 21)) 5 rfl).trans ?_
  refine (q_D_call (X := q_text4 [.ref 1010] ((q_up Ia0 31 13 0), Ja0, qcR_65, qcS_33 L, 33)) (b := true) (pc := 93) (L := [some (.ref 31), none, some (.int 0), some (.long 136905), none, some (.int 4), none]) (st := [.int 4]) (ce := 2) (sl := 21) 0 (true, 90, [some (.ref 31), none, some (.int 0), some (.long 136905), none, some (.int 4), none], [.ref 1010, .int 4], ((q_up Ia0 31 13 0), Ja0, qcR_65, qcS_33 L, 33), 2, 21) rfl rfl).trans ?_
  rw [q_ck_tt, q_tx4 rfl]
  show q_D _ _ _ (true, 93, [some (.ref 31), none, some (.int 0), some (.long 136905), none, some (.int 4), none], [.int 102, .int 4], ((q_up Ia0 31 13 0), Ja0, qcR_65, qcS_33 L, 33), 2, 21) = _
  refine (q_D_br (b := true) (p := (4 : Int32) < 102) (pa := 96) (pb := 154) (L := [some (.ref 31), none, some (.int 0), some (.long 136905), none, some (.int 4), none]) (d := ([], ((q_up Ia0 31 13 0), Ja0, qcR_65, qcS_33 L, 33), 2, 21)) (La := [some (.ref 31), none, some (.int 0), some (.long 136905), none, some (.int 4), none]) (Lb := [none, none, none, none, none, none, none]) 1 rfl rfl rfl).trans ?_
  rw [q_ck_tt, if_pos (by decide)]
  refine (q_D_br (b := true) (p := (0 : Int32) < 21) (pa := 102) (pb := 154) (L := [some (.ref 31), none, some (.int 0), some (.long 136905), none, some (.int 4), none]) (d := ([], ((q_up Ia0 31 13 0), Ja0, qcR_65, qcS_33 L, 33), 2, 21)) (La := [some (.ref 31), none, some (.int 0), some (.long 136905), none, some (.int 4), none]) (Lb := [none, none, none, none, none, none, none]) 3 rfl rfl rfl).trans ?_
  rw [q_ck_tt, if_pos (by decide)]
  refine (q_D_by (c' := (true, 106, [some (.ref 31), none, some (.int 0), some (.long 136905), none, some (.int 4), none], [.int 4, .ref 1010], ((q_up Ia0 31 13 0), Ja0, qcR_65, qcS_33 L, 33), 2, 21)) 2 rfl).trans ?_
  refine (q_D_call (X := q_text5 [.ref 1010, .int 4] ((q_up Ia0 31 13 0), Ja0, qcR_65, qcS_33 L, 33)) (b := true) (pc := 109) (L := [some (.ref 31), none, some (.int 0), some (.long 136905), none, some (.int 4), none]) (st := []) (ce := 2) (sl := 21) 0 (true, 106, [some (.ref 31), none, some (.int 0), some (.long 136905), none, some (.int 4), none], [.int 4, .ref 1010], ((q_up Ia0 31 13 0), Ja0, qcR_65, qcS_33 L, 33), 2, 21) rfl rfl).trans ?_
  rw [q_ck_tt, q_tx5 4 99 rfl (by decide) (by decide)]
  show q_D _ _ _ (true, 109, [some (.ref 31), none, some (.int 0), some (.long 136905), none, some (.int 4), none], [.int 99], ((q_up Ia0 31 13 0), Ja0, qcR_65, qcS_33 L, 33), 2, 21) = _
  refine (q_D_br (b := true) (p := (99 : Int32) = 32) (pa := 118) (pb := 133) (L := [some (.ref 31), none, some (.int 0), some (.long 136905), none, some (.int 4), some (.int 99)]) (d := ([], ((q_up Ia0 31 13 0), Ja0, qcR_65, qcS_33 L, 33), 2, 21)) (La := [some (.ref 31), none, some (.int 0), some (.long 136905), none, some (.int 4), none]) (Lb := [some (.ref 31), none, some (.int 0), some (.long 136905), none, some (.int 4), some (.int 99)]) 4 rfl rfl rfl).trans ?_
  rw [q_ck_tt, if_neg (by decide)]
  refine (q_D_by (c' := (true, 147, [some (.ref 31), none, some (.int 0), some (.long 136905), none, some (.int 4), some (.int 99)], [.long 4380963], ((q_up Ia0 31 13 0), Ja0, qcR_65, qcS_33 L, 33), 2, 21)) 10 rfl).trans ?_
  refine (q_D_by (c' := (true, 90, [some (.ref 31), none, some (.int 0), some (.long 4380963), none, some (.int 5), none], [.ref 1010, .int 5], ((q_up Ia0 31 13 0), Ja0, qcR_65, qcS_33 L, 33), 2, 21)) 5 rfl).trans ?_
  refine (q_D_call (X := q_text4 [.ref 1010] ((q_up Ia0 31 13 0), Ja0, qcR_65, qcS_33 L, 33)) (b := true) (pc := 93) (L := [some (.ref 31), none, some (.int 0), some (.long 4380963), none, some (.int 5), none]) (st := [.int 5]) (ce := 2) (sl := 21) 0 (true, 90, [some (.ref 31), none, some (.int 0), some (.long 4380963), none, some (.int 5), none], [.ref 1010, .int 5], ((q_up Ia0 31 13 0), Ja0, qcR_65, qcS_33 L, 33), 2, 21) rfl rfl).trans ?_
  rw [q_ck_tt, q_tx4 rfl]
  show q_D _ _ _ (true, 93, [some (.ref 31), none, some (.int 0), some (.long 4380963), none, some (.int 5), none], [.int 102, .int 5], ((q_up Ia0 31 13 0), Ja0, qcR_65, qcS_33 L, 33), 2, 21) = _
  refine (q_D_br (b := true) (p := (5 : Int32) < 102) (pa := 96) (pb := 154) (L := [some (.ref 31), none, some (.int 0), some (.long 4380963), none, some (.int 5), none]) (d := ([], ((q_up Ia0 31 13 0), Ja0, qcR_65, qcS_33 L, 33), 2, 21)) (La := [some (.ref 31), none, some (.int 0), some (.long 4380963), none, some (.int 5), none]) (Lb := [none, none, none, none, none, none, none]) 1 rfl rfl rfl).trans ?_
  rw [q_ck_tt, if_pos (by decide)]
  refine (q_D_br (b := true) (p := (0 : Int32) < 21) (pa := 102) (pb := 154) (L := [some (.ref 31), none, some (.int 0), some (.long 4380963), none, some (.int 5), none]) (d := ([], ((q_up Ia0 31 13 0), Ja0, qcR_65, qcS_33 L, 33), 2, 21)) (La := [some (.ref 31), none, some (.int 0), some (.long 4380963), none, some (.int 5), none]) (Lb := [none, none, none, none, none, none, none]) 3 rfl rfl rfl).trans ?_
  rw [q_ck_tt, if_pos (by decide)]
  refine (q_D_by (c' := (true, 106, [some (.ref 31), none, some (.int 0), some (.long 4380963), none, some (.int 5), none], [.int 5, .ref 1010], ((q_up Ia0 31 13 0), Ja0, qcR_65, qcS_33 L, 33), 2, 21)) 2 rfl).trans ?_
  refine (q_D_call (X := q_text5 [.ref 1010, .int 5] ((q_up Ia0 31 13 0), Ja0, qcR_65, qcS_33 L, 33)) (b := true) (pc := 109) (L := [some (.ref 31), none, some (.int 0), some (.long 4380963), none, some (.int 5), none]) (st := []) (ce := 2) (sl := 21) 0 (true, 106, [some (.ref 31), none, some (.int 0), some (.long 4380963), none, some (.int 5), none], [.int 5, .ref 1010], ((q_up Ia0 31 13 0), Ja0, qcR_65, qcS_33 L, 33), 2, 21) rfl rfl).trans ?_
  rw [q_ck_tt, q_tx5 5 101 rfl (by decide) (by decide)]
  show q_D _ _ _ (true, 109, [some (.ref 31), none, some (.int 0), some (.long 4380963), none, some (.int 5), none], [.int 101], ((q_up Ia0 31 13 0), Ja0, qcR_65, qcS_33 L, 33), 2, 21) = _
  refine (q_D_br (b := true) (p := (101 : Int32) = 32) (pa := 118) (pb := 133) (L := [some (.ref 31), none, some (.int 0), some (.long 4380963), none, some (.int 5), some (.int 101)]) (d := ([], ((q_up Ia0 31 13 0), Ja0, qcR_65, qcS_33 L, 33), 2, 21)) (La := [some (.ref 31), none, some (.int 0), some (.long 4380963), none, some (.int 5), none]) (Lb := [some (.ref 31), none, some (.int 0), some (.long 4380963), none, some (.int 5), some (.int 101)]) 4 rfl rfl rfl).trans ?_
  rw [q_ck_tt, if_neg (by decide)]
  refine (q_D_by (c' := (true, 147, [some (.ref 31), none, some (.int 0), some (.long 4380963), none, some (.int 5), some (.int 101)], [.long 140190821], ((q_up Ia0 31 13 0), Ja0, qcR_65, qcS_33 L, 33), 2, 21)) 10 rfl).trans ?_
  refine (q_D_by (c' := (true, 90, [some (.ref 31), none, some (.int 0), some (.long 140190821), none, some (.int 6), none], [.ref 1010, .int 6], ((q_up Ia0 31 13 0), Ja0, qcR_65, qcS_33 L, 33), 2, 21)) 5 rfl).trans ?_
  refine (q_D_call (X := q_text4 [.ref 1010] ((q_up Ia0 31 13 0), Ja0, qcR_65, qcS_33 L, 33)) (b := true) (pc := 93) (L := [some (.ref 31), none, some (.int 0), some (.long 140190821), none, some (.int 6), none]) (st := [.int 6]) (ce := 2) (sl := 21) 0 (true, 90, [some (.ref 31), none, some (.int 0), some (.long 140190821), none, some (.int 6), none], [.ref 1010, .int 6], ((q_up Ia0 31 13 0), Ja0, qcR_65, qcS_33 L, 33), 2, 21) rfl rfl).trans ?_
  rw [q_ck_tt, q_tx4 rfl]
  show q_D _ _ _ (true, 93, [some (.ref 31), none, some (.int 0), some (.long 140190821), none, some (.int 6), none], [.int 102, .int 6], ((q_up Ia0 31 13 0), Ja0, qcR_65, qcS_33 L, 33), 2, 21) = _
  refine (q_D_br (b := true) (p := (6 : Int32) < 102) (pa := 96) (pb := 154) (L := [some (.ref 31), none, some (.int 0), some (.long 140190821), none, some (.int 6), none]) (d := ([], ((q_up Ia0 31 13 0), Ja0, qcR_65, qcS_33 L, 33), 2, 21)) (La := [some (.ref 31), none, some (.int 0), some (.long 140190821), none, some (.int 6), none]) (Lb := [none, none, none, none, none, none, none]) 1 rfl rfl rfl).trans ?_
  rw [q_ck_tt, if_pos (by decide)]
  refine (q_D_br (b := true) (p := (0 : Int32) < 21) (pa := 102) (pb := 154) (L := [some (.ref 31), none, some (.int 0), some (.long 140190821), none, some (.int 6), none]) (d := ([], ((q_up Ia0 31 13 0), Ja0, qcR_65, qcS_33 L, 33), 2, 21)) (La := [some (.ref 31), none, some (.int 0), some (.long 140190821), none, some (.int 6), none]) (Lb := [none, none, none, none, none, none, none]) 3 rfl rfl rfl).trans ?_
  rw [q_ck_tt, if_pos (by decide)]
  refine (q_D_by (c' := (true, 106, [some (.ref 31), none, some (.int 0), some (.long 140190821), none, some (.int 6), none], [.int 6, .ref 1010], ((q_up Ia0 31 13 0), Ja0, qcR_65, qcS_33 L, 33), 2, 21)) 2 rfl).trans ?_
  refine (q_D_call (X := q_text5 [.ref 1010, .int 6] ((q_up Ia0 31 13 0), Ja0, qcR_65, qcS_33 L, 33)) (b := true) (pc := 109) (L := [some (.ref 31), none, some (.int 0), some (.long 140190821), none, some (.int 6), none]) (st := []) (ce := 2) (sl := 21) 0 (true, 106, [some (.ref 31), none, some (.int 0), some (.long 140190821), none, some (.int 6), none], [.int 6, .ref 1010], ((q_up Ia0 31 13 0), Ja0, qcR_65, qcS_33 L, 33), 2, 21) rfl rfl).trans ?_
  rw [q_ck_tt, q_tx5 6 32 rfl (by decide) (by decide)]
  show q_D _ _ _ (true, 109, [some (.ref 31), none, some (.int 0), some (.long 140190821), none, some (.int 6), none], [.int 32], ((q_up Ia0 31 13 0), Ja0, qcR_65, qcS_33 L, 33), 2, 21) = _
  refine (q_D_br (b := true) (p := (32 : Int32) = 32) (pa := 118) (pb := 133) (L := [some (.ref 31), none, some (.int 0), some (.long 140190821), none, some (.int 6), some (.int 32)]) (d := ([], ((q_up Ia0 31 13 0), Ja0, qcR_65, qcS_33 L, 33), 2, 21)) (La := [some (.ref 31), none, some (.int 0), some (.long 140190821), none, some (.int 6), none]) (Lb := [some (.ref 31), none, some (.int 0), some (.long 140190821), none, some (.int 6), some (.int 32)]) 4 rfl rfl rfl).trans ?_
  rw [q_ck_tt, if_pos (by decide)]
  refine (q_D_by (c' := (true, 125, [some (.ref 31), none, some (.int 0), some (.long 140190821), none, some (.int 6), none], [], ((q_up Ia0 31 13 0), (q_up Ja0 32 0 140190821), qcR_65, qcS_33 L, 33), 2, 21)) 5 rfl).trans ?_
  rw [← ea1, ← ja1]
  refine (q_D_by (c' := (true, 90, [some (.ref 31), none, some (.int 1), some (.long 0), none, some (.int 7), none], [.ref 1010, .int 7], (Ia1, Ja1, qcR_65, qcS_33 L, 33), 2, 21)) 8 rfl).trans ?_
  refine (q_D_call (X := q_text4 [.ref 1010] (Ia1, Ja1, qcR_65, qcS_33 L, 33)) (b := true) (pc := 93) (L := [some (.ref 31), none, some (.int 1), some (.long 0), none, some (.int 7), none]) (st := [.int 7]) (ce := 2) (sl := 21) 0 (true, 90, [some (.ref 31), none, some (.int 1), some (.long 0), none, some (.int 7), none], [.ref 1010, .int 7], (Ia1, Ja1, qcR_65, qcS_33 L, 33), 2, 21) rfl rfl).trans ?_
  rw [q_ck_tt, q_tx4 rfl]
  show q_D _ _ _ (true, 93, [some (.ref 31), none, some (.int 1), some (.long 0), none, some (.int 7), none], [.int 102, .int 7], (Ia1, Ja1, qcR_65, qcS_33 L, 33), 2, 21) = _
  refine (q_D_br (b := true) (p := (7 : Int32) < 102) (pa := 96) (pb := 154) (L := [some (.ref 31), none, some (.int 1), some (.long 0), none, some (.int 7), none]) (d := ([], (Ia1, Ja1, qcR_65, qcS_33 L, 33), 2, 21)) (La := [some (.ref 31), none, some (.int 1), some (.long 0), none, some (.int 7), none]) (Lb := [none, none, none, none, none, none, none]) 1 rfl rfl rfl).trans ?_
  rw [q_ck_tt, if_pos (by decide)]
  refine (q_D_br (b := true) (p := (1 : Int32) < 21) (pa := 102) (pb := 154) (L := [some (.ref 31), none, some (.int 1), some (.long 0), none, some (.int 7), none]) (d := ([], (Ia1, Ja1, qcR_65, qcS_33 L, 33), 2, 21)) (La := [some (.ref 31), none, some (.int 1), some (.long 0), none, some (.int 7), none]) (Lb := [none, none, none, none, none, none, none]) 3 rfl rfl rfl).trans ?_
  rw [q_ck_tt, if_pos (by decide)]
  refine (q_D_by (c' := (true, 106, [some (.ref 31), none, some (.int 1), some (.long 0), none, some (.int 7), none], [.int 7, .ref 1010], (Ia1, Ja1, qcR_65, qcS_33 L, 33), 2, 21)) 2 rfl).trans ?_
  refine (q_D_call (X := q_text5 [.ref 1010, .int 7] (Ia1, Ja1, qcR_65, qcS_33 L, 33)) (b := true) (pc := 109) (L := [some (.ref 31), none, some (.int 1), some (.long 0), none, some (.int 7), none]) (st := []) (ce := 2) (sl := 21) 0 (true, 106, [some (.ref 31), none, some (.int 1), some (.long 0), none, some (.int 7), none], [.int 7, .ref 1010], (Ia1, Ja1, qcR_65, qcS_33 L, 33), 2, 21) rfl rfl).trans ?_
  rw [q_ck_tt, q_tx5 7 105 rfl (by decide) (by decide)]
  show q_D _ _ _ (true, 109, [some (.ref 31), none, some (.int 1), some (.long 0), none, some (.int 7), none], [.int 105], (Ia1, Ja1, qcR_65, qcS_33 L, 33), 2, 21) = _
  refine (q_D_br (b := true) (p := (105 : Int32) = 32) (pa := 118) (pb := 133) (L := [some (.ref 31), none, some (.int 1), some (.long 0), none, some (.int 7), some (.int 105)]) (d := ([], (Ia1, Ja1, qcR_65, qcS_33 L, 33), 2, 21)) (La := [some (.ref 31), none, some (.int 1), some (.long 0), none, some (.int 7), none]) (Lb := [some (.ref 31), none, some (.int 1), some (.long 0), none, some (.int 7), some (.int 105)]) 4 rfl rfl rfl).trans ?_
  rw [q_ck_tt, if_neg (by decide)]
  refine (q_D_by (c' := (true, 147, [some (.ref 31), none, some (.int 1), some (.long 0), none, some (.int 7), some (.int 105)], [.long 9], (Ia1, Ja1, qcR_65, qcS_33 L, 33), 2, 21)) 10 rfl).trans ?_
  refine (q_D_by (c' := (true, 90, [some (.ref 31), none, some (.int 1), some (.long 9), none, some (.int 8), none], [.ref 1010, .int 8], (Ia1, Ja1, qcR_65, qcS_33 L, 33), 2, 21)) 5 rfl).trans ?_
  refine (q_D_call (X := q_text4 [.ref 1010] (Ia1, Ja1, qcR_65, qcS_33 L, 33)) (b := true) (pc := 93) (L := [some (.ref 31), none, some (.int 1), some (.long 9), none, some (.int 8), none]) (st := [.int 8]) (ce := 2) (sl := 21) 0 (true, 90, [some (.ref 31), none, some (.int 1), some (.long 9), none, some (.int 8), none], [.ref 1010, .int 8], (Ia1, Ja1, qcR_65, qcS_33 L, 33), 2, 21) rfl rfl).trans ?_
  rw [q_ck_tt, q_tx4 rfl]
  show q_D _ _ _ (true, 93, [some (.ref 31), none, some (.int 1), some (.long 9), none, some (.int 8), none], [.int 102, .int 8], (Ia1, Ja1, qcR_65, qcS_33 L, 33), 2, 21) = _
  refine (q_D_br (b := true) (p := (8 : Int32) < 102) (pa := 96) (pb := 154) (L := [some (.ref 31), none, some (.int 1), some (.long 9), none, some (.int 8), none]) (d := ([], (Ia1, Ja1, qcR_65, qcS_33 L, 33), 2, 21)) (La := [some (.ref 31), none, some (.int 1), some (.long 9), none, some (.int 8), none]) (Lb := [none, none, none, none, none, none, none]) 1 rfl rfl rfl).trans ?_
  rw [q_ck_tt, if_pos (by decide)]
  refine (q_D_br (b := true) (p := (1 : Int32) < 21) (pa := 102) (pb := 154) (L := [some (.ref 31), none, some (.int 1), some (.long 9), none, some (.int 8), none]) (d := ([], (Ia1, Ja1, qcR_65, qcS_33 L, 33), 2, 21)) (La := [some (.ref 31), none, some (.int 1), some (.long 9), none, some (.int 8), none]) (Lb := [none, none, none, none, none, none, none]) 3 rfl rfl rfl).trans ?_
  rw [q_ck_tt, if_pos (by decide)]
  refine (q_D_by (c' := (true, 106, [some (.ref 31), none, some (.int 1), some (.long 9), none, some (.int 8), none], [.int 8, .ref 1010], (Ia1, Ja1, qcR_65, qcS_33 L, 33), 2, 21)) 2 rfl).trans ?_
  refine (q_D_call (X := q_text5 [.ref 1010, .int 8] (Ia1, Ja1, qcR_65, qcS_33 L, 33)) (b := true) (pc := 109) (L := [some (.ref 31), none, some (.int 1), some (.long 9), none, some (.int 8), none]) (st := []) (ce := 2) (sl := 21) 0 (true, 106, [some (.ref 31), none, some (.int 1), some (.long 9), none, some (.int 8), none], [.int 8, .ref 1010], (Ia1, Ja1, qcR_65, qcS_33 L, 33), 2, 21) rfl rfl).trans ?_
  rw [q_ck_tt, q_tx5 8 114 rfl (by decide) (by decide)]
  show q_D _ _ _ (true, 109, [some (.ref 31), none, some (.int 1), some (.long 9), none, some (.int 8), none], [.int 114], (Ia1, Ja1, qcR_65, qcS_33 L, 33), 2, 21) = _
  refine (q_D_br (b := true) (p := (114 : Int32) = 32) (pa := 118) (pb := 133) (L := [some (.ref 31), none, some (.int 1), some (.long 9), none, some (.int 8), some (.int 114)]) (d := ([], (Ia1, Ja1, qcR_65, qcS_33 L, 33), 2, 21)) (La := [some (.ref 31), none, some (.int 1), some (.long 9), none, some (.int 8), none]) (Lb := [some (.ref 31), none, some (.int 1), some (.long 9), none, some (.int 8), some (.int 114)]) 4 rfl rfl rfl).trans ?_
  rw [q_ck_tt, if_neg (by decide)]
  refine (q_D_by (c' := (true, 147, [some (.ref 31), none, some (.int 1), some (.long 9), none, some (.int 8), some (.int 114)], [.long 306], (Ia1, Ja1, qcR_65, qcS_33 L, 33), 2, 21)) 10 rfl).trans ?_
  refine (q_D_by (c' := (true, 90, [some (.ref 31), none, some (.int 1), some (.long 306), none, some (.int 9), none], [.ref 1010, .int 9], (Ia1, Ja1, qcR_65, qcS_33 L, 33), 2, 21)) 5 rfl).trans ?_
  refine (q_D_call (X := q_text4 [.ref 1010] (Ia1, Ja1, qcR_65, qcS_33 L, 33)) (b := true) (pc := 93) (L := [some (.ref 31), none, some (.int 1), some (.long 306), none, some (.int 9), none]) (st := [.int 9]) (ce := 2) (sl := 21) 0 (true, 90, [some (.ref 31), none, some (.int 1), some (.long 306), none, some (.int 9), none], [.ref 1010, .int 9], (Ia1, Ja1, qcR_65, qcS_33 L, 33), 2, 21) rfl rfl).trans ?_
  rw [q_ck_tt, q_tx4 rfl]
  show q_D _ _ _ (true, 93, [some (.ref 31), none, some (.int 1), some (.long 306), none, some (.int 9), none], [.int 102, .int 9], (Ia1, Ja1, qcR_65, qcS_33 L, 33), 2, 21) = _
  refine (q_D_br (b := true) (p := (9 : Int32) < 102) (pa := 96) (pb := 154) (L := [some (.ref 31), none, some (.int 1), some (.long 306), none, some (.int 9), none]) (d := ([], (Ia1, Ja1, qcR_65, qcS_33 L, 33), 2, 21)) (La := [some (.ref 31), none, some (.int 1), some (.long 306), none, some (.int 9), none]) (Lb := [none, none, none, none, none, none, none]) 1 rfl rfl rfl).trans ?_
  rw [q_ck_tt, if_pos (by decide)]
  refine (q_D_br (b := true) (p := (1 : Int32) < 21) (pa := 102) (pb := 154) (L := [some (.ref 31), none, some (.int 1), some (.long 306), none, some (.int 9), none]) (d := ([], (Ia1, Ja1, qcR_65, qcS_33 L, 33), 2, 21)) (La := [some (.ref 31), none, some (.int 1), some (.long 306), none, some (.int 9), none]) (Lb := [none, none, none, none, none, none, none]) 3 rfl rfl rfl).trans ?_
  rw [q_ck_tt, if_pos (by decide)]
  refine (q_D_by (c' := (true, 106, [some (.ref 31), none, some (.int 1), some (.long 306), none, some (.int 9), none], [.int 9, .ref 1010], (Ia1, Ja1, qcR_65, qcS_33 L, 33), 2, 21)) 2 rfl).trans ?_
  refine (q_D_call (X := q_text5 [.ref 1010, .int 9] (Ia1, Ja1, qcR_65, qcS_33 L, 33)) (b := true) (pc := 109) (L := [some (.ref 31), none, some (.int 1), some (.long 306), none, some (.int 9), none]) (st := []) (ce := 2) (sl := 21) 0 (true, 106, [some (.ref 31), none, some (.int 1), some (.long 306), none, some (.int 9), none], [.int 9, .ref 1010], (Ia1, Ja1, qcR_65, qcS_33 L, 33), 2, 21) rfl rfl).trans ?_
  rw [q_ck_tt, q_tx5 9 32 rfl (by decide) (by decide)]
  show q_D _ _ _ (true, 109, [some (.ref 31), none, some (.int 1), some (.long 306), none, some (.int 9), none], [.int 32], (Ia1, Ja1, qcR_65, qcS_33 L, 33), 2, 21) = _
  refine (q_D_br (b := true) (p := (32 : Int32) = 32) (pa := 118) (pb := 133) (L := [some (.ref 31), none, some (.int 1), some (.long 306), none, some (.int 9), some (.int 32)]) (d := ([], (Ia1, Ja1, qcR_65, qcS_33 L, 33), 2, 21)) (La := [some (.ref 31), none, some (.int 1), some (.long 306), none, some (.int 9), none]) (Lb := [some (.ref 31), none, some (.int 1), some (.long 306), none, some (.int 9), some (.int 32)]) 4 rfl rfl rfl).trans ?_
  rw [q_ck_tt, if_pos (by decide)]
  refine (q_D_by (c' := (true, 125, [some (.ref 31), none, some (.int 1), some (.long 306), none, some (.int 9), none], [], (Ia1, (q_up Ja1 32 1 306), qcR_65, qcS_33 L, 33), 2, 21)) 5 rfl).trans ?_
  rw [← ea2, ← ja2]
  refine (q_D_by (c' := (true, 90, [some (.ref 31), none, some (.int 2), some (.long 0), none, some (.int 10), none], [.ref 1010, .int 10], (Ia2, Ja2, qcR_65, qcS_33 L, 33), 2, 21)) 8 rfl).trans ?_
  refine (q_D_call (X := q_text4 [.ref 1010] (Ia2, Ja2, qcR_65, qcS_33 L, 33)) (b := true) (pc := 93) (L := [some (.ref 31), none, some (.int 2), some (.long 0), none, some (.int 10), none]) (st := [.int 10]) (ce := 2) (sl := 21) 0 (true, 90, [some (.ref 31), none, some (.int 2), some (.long 0), none, some (.int 10), none], [.ref 1010, .int 10], (Ia2, Ja2, qcR_65, qcS_33 L, 33), 2, 21) rfl rfl).trans ?_
  rw [q_ck_tt, q_tx4 rfl]
  show q_D _ _ _ (true, 93, [some (.ref 31), none, some (.int 2), some (.long 0), none, some (.int 10), none], [.int 102, .int 10], (Ia2, Ja2, qcR_65, qcS_33 L, 33), 2, 21) = _
  refine (q_D_br (b := true) (p := (10 : Int32) < 102) (pa := 96) (pb := 154) (L := [some (.ref 31), none, some (.int 2), some (.long 0), none, some (.int 10), none]) (d := ([], (Ia2, Ja2, qcR_65, qcS_33 L, 33), 2, 21)) (La := [some (.ref 31), none, some (.int 2), some (.long 0), none, some (.int 10), none]) (Lb := [none, none, none, none, none, none, none]) 1 rfl rfl rfl).trans ?_
  rw [q_ck_tt, if_pos (by decide)]
  refine (q_D_br (b := true) (p := (2 : Int32) < 21) (pa := 102) (pb := 154) (L := [some (.ref 31), none, some (.int 2), some (.long 0), none, some (.int 10), none]) (d := ([], (Ia2, Ja2, qcR_65, qcS_33 L, 33), 2, 21)) (La := [some (.ref 31), none, some (.int 2), some (.long 0), none, some (.int 10), none]) (Lb := [none, none, none, none, none, none, none]) 3 rfl rfl rfl).trans ?_
  rw [q_ck_tt, if_pos (by decide)]
  refine (q_D_by (c' := (true, 106, [some (.ref 31), none, some (.int 2), some (.long 0), none, some (.int 10), none], [.int 10, .ref 1010], (Ia2, Ja2, qcR_65, qcS_33 L, 33), 2, 21)) 2 rfl).trans ?_
  refine (q_D_call (X := q_text5 [.ref 1010, .int 10] (Ia2, Ja2, qcR_65, qcS_33 L, 33)) (b := true) (pc := 109) (L := [some (.ref 31), none, some (.int 2), some (.long 0), none, some (.int 10), none]) (st := []) (ce := 2) (sl := 21) 0 (true, 106, [some (.ref 31), none, some (.int 2), some (.long 0), none, some (.int 10), none], [.int 10, .ref 1010], (Ia2, Ja2, qcR_65, qcS_33 L, 33), 2, 21) rfl rfl).trans ?_
  rw [q_ck_tt, q_tx5 10 105 rfl (by decide) (by decide)]
  show q_D _ _ _ (true, 109, [some (.ref 31), none, some (.int 2), some (.long 0), none, some (.int 10), none], [.int 105], (Ia2, Ja2, qcR_65, qcS_33 L, 33), 2, 21) = _
  refine (q_D_br (b := true) (p := (105 : Int32) = 32) (pa := 118) (pb := 133) (L := [some (.ref 31), none, some (.int 2), some (.long 0), none, some (.int 10), some (.int 105)]) (d := ([], (Ia2, Ja2, qcR_65, qcS_33 L, 33), 2, 21)) (La := [some (.ref 31), none, some (.int 2), some (.long 0), none, some (.int 10), none]) (Lb := [some (.ref 31), none, some (.int 2), some (.long 0), none, some (.int 10), some (.int 105)]) 4 rfl rfl rfl).trans ?_
  rw [q_ck_tt, if_neg (by decide)]
  refine (q_D_by (c' := (true, 147, [some (.ref 31), none, some (.int 2), some (.long 0), none, some (.int 10), some (.int 105)], [.long 9], (Ia2, Ja2, qcR_65, qcS_33 L, 33), 2, 21)) 10 rfl).trans ?_
  refine (q_D_by (c' := (true, 90, [some (.ref 31), none, some (.int 2), some (.long 9), none, some (.int 11), none], [.ref 1010, .int 11], (Ia2, Ja2, qcR_65, qcS_33 L, 33), 2, 21)) 5 rfl).trans ?_
  refine (q_D_call (X := q_text4 [.ref 1010] (Ia2, Ja2, qcR_65, qcS_33 L, 33)) (b := true) (pc := 93) (L := [some (.ref 31), none, some (.int 2), some (.long 9), none, some (.int 11), none]) (st := [.int 11]) (ce := 2) (sl := 21) 0 (true, 90, [some (.ref 31), none, some (.int 2), some (.long 9), none, some (.int 11), none], [.ref 1010, .int 11], (Ia2, Ja2, qcR_65, qcS_33 L, 33), 2, 21) rfl rfl).trans ?_
  rw [q_ck_tt, q_tx4 rfl]
  show q_D _ _ _ (true, 93, [some (.ref 31), none, some (.int 2), some (.long 9), none, some (.int 11), none], [.int 102, .int 11], (Ia2, Ja2, qcR_65, qcS_33 L, 33), 2, 21) = _
  refine (q_D_br (b := true) (p := (11 : Int32) < 102) (pa := 96) (pb := 154) (L := [some (.ref 31), none, some (.int 2), some (.long 9), none, some (.int 11), none]) (d := ([], (Ia2, Ja2, qcR_65, qcS_33 L, 33), 2, 21)) (La := [some (.ref 31), none, some (.int 2), some (.long 9), none, some (.int 11), none]) (Lb := [none, none, none, none, none, none, none]) 1 rfl rfl rfl).trans ?_
  rw [q_ck_tt, if_pos (by decide)]
  refine (q_D_br (b := true) (p := (2 : Int32) < 21) (pa := 102) (pb := 154) (L := [some (.ref 31), none, some (.int 2), some (.long 9), none, some (.int 11), none]) (d := ([], (Ia2, Ja2, qcR_65, qcS_33 L, 33), 2, 21)) (La := [some (.ref 31), none, some (.int 2), some (.long 9), none, some (.int 11), none]) (Lb := [none, none, none, none, none, none, none]) 3 rfl rfl rfl).trans ?_
  rw [q_ck_tt, if_pos (by decide)]
  refine (q_D_by (c' := (true, 106, [some (.ref 31), none, some (.int 2), some (.long 9), none, some (.int 11), none], [.int 11, .ref 1010], (Ia2, Ja2, qcR_65, qcS_33 L, 33), 2, 21)) 2 rfl).trans ?_
  refine (q_D_call (X := q_text5 [.ref 1010, .int 11] (Ia2, Ja2, qcR_65, qcS_33 L, 33)) (b := true) (pc := 109) (L := [some (.ref 31), none, some (.int 2), some (.long 9), none, some (.int 11), none]) (st := []) (ce := 2) (sl := 21) 0 (true, 106, [some (.ref 31), none, some (.int 2), some (.long 9), none, some (.int 11), none], [.int 11, .ref 1010], (Ia2, Ja2, qcR_65, qcS_33 L, 33), 2, 21) rfl rfl).trans ?_
  rw [q_ck_tt, q_tx5 11 100 rfl (by decide) (by decide)]
  show q_D _ _ _ (true, 109, [some (.ref 31), none, some (.int 2), some (.long 9), none, some (.int 11), none], [.int 100], (Ia2, Ja2, qcR_65, qcS_33 L, 33), 2, 21) = _
  refine (q_D_br (b := true) (p := (100 : Int32) = 32) (pa := 118) (pb := 133) (L := [some (.ref 31), none, some (.int 2), some (.long 9), none, some (.int 11), some (.int 100)]) (d := ([], (Ia2, Ja2, qcR_65, qcS_33 L, 33), 2, 21)) (La := [some (.ref 31), none, some (.int 2), some (.long 9), none, some (.int 11), none]) (Lb := [some (.ref 31), none, some (.int 2), some (.long 9), none, some (.int 11), some (.int 100)]) 4 rfl rfl rfl).trans ?_
  rw [q_ck_tt, if_neg (by decide)]
  refine (q_D_by (c' := (true, 147, [some (.ref 31), none, some (.int 2), some (.long 9), none, some (.int 11), some (.int 100)], [.long 292], (Ia2, Ja2, qcR_65, qcS_33 L, 33), 2, 21)) 10 rfl).trans ?_
  refine (q_D_by (c' := (true, 90, [some (.ref 31), none, some (.int 2), some (.long 292), none, some (.int 12), none], [.ref 1010, .int 12], (Ia2, Ja2, qcR_65, qcS_33 L, 33), 2, 21)) 5 rfl).trans ?_
  refine (q_D_call (X := q_text4 [.ref 1010] (Ia2, Ja2, qcR_65, qcS_33 L, 33)) (b := true) (pc := 93) (L := [some (.ref 31), none, some (.int 2), some (.long 292), none, some (.int 12), none]) (st := [.int 12]) (ce := 2) (sl := 21) 0 (true, 90, [some (.ref 31), none, some (.int 2), some (.long 292), none, some (.int 12), none], [.ref 1010, .int 12], (Ia2, Ja2, qcR_65, qcS_33 L, 33), 2, 21) rfl rfl).trans ?_
  rw [q_ck_tt, q_tx4 rfl]
  show q_D _ _ _ (true, 93, [some (.ref 31), none, some (.int 2), some (.long 292), none, some (.int 12), none], [.int 102, .int 12], (Ia2, Ja2, qcR_65, qcS_33 L, 33), 2, 21) = _
  refine (q_D_br (b := true) (p := (12 : Int32) < 102) (pa := 96) (pb := 154) (L := [some (.ref 31), none, some (.int 2), some (.long 292), none, some (.int 12), none]) (d := ([], (Ia2, Ja2, qcR_65, qcS_33 L, 33), 2, 21)) (La := [some (.ref 31), none, some (.int 2), some (.long 292), none, some (.int 12), none]) (Lb := [none, none, none, none, none, none, none]) 1 rfl rfl rfl).trans ?_
  rw [q_ck_tt, if_pos (by decide)]
  refine (q_D_br (b := true) (p := (2 : Int32) < 21) (pa := 102) (pb := 154) (L := [some (.ref 31), none, some (.int 2), some (.long 292), none, some (.int 12), none]) (d := ([], (Ia2, Ja2, qcR_65, qcS_33 L, 33), 2, 21)) (La := [some (.ref 31), none, some (.int 2), some (.long 292), none, some (.int 12), none]) (Lb := [none, none, none, none, none, none, none]) 3 rfl rfl rfl).trans ?_
  rw [q_ck_tt, if_pos (by decide)]
  refine (q_D_by (c' := (true, 106, [some (.ref 31), none, some (.int 2), some (.long 292), none, some (.int 12), none], [.int 12, .ref 1010], (Ia2, Ja2, qcR_65, qcS_33 L, 33), 2, 21)) 2 rfl).trans ?_
  refine (q_D_call (X := q_text5 [.ref 1010, .int 12] (Ia2, Ja2, qcR_65, qcS_33 L, 33)) (b := true) (pc := 109) (L := [some (.ref 31), none, some (.int 2), some (.long 292), none, some (.int 12), none]) (st := []) (ce := 2) (sl := 21) 0 (true, 106, [some (.ref 31), none, some (.int 2), some (.long 292), none, some (.int 12), none], [.int 12, .ref 1010], (Ia2, Ja2, qcR_65, qcS_33 L, 33), 2, 21) rfl rfl).trans ?_
  rw [q_ck_tt, q_tx5 12 32 rfl (by decide) (by decide)]
  show q_D _ _ _ (true, 109, [some (.ref 31), none, some (.int 2), some (.long 292), none, some (.int 12), none], [.int 32], (Ia2, Ja2, qcR_65, qcS_33 L, 33), 2, 21) = _
  refine (q_D_br (b := true) (p := (32 : Int32) = 32) (pa := 118) (pb := 133) (L := [some (.ref 31), none, some (.int 2), some (.long 292), none, some (.int 12), some (.int 32)]) (d := ([], (Ia2, Ja2, qcR_65, qcS_33 L, 33), 2, 21)) (La := [some (.ref 31), none, some (.int 2), some (.long 292), none, some (.int 12), none]) (Lb := [some (.ref 31), none, some (.int 2), some (.long 292), none, some (.int 12), some (.int 32)]) 4 rfl rfl rfl).trans ?_
  rw [q_ck_tt, if_pos (by decide)]
  refine (q_D_by (c' := (true, 125, [some (.ref 31), none, some (.int 2), some (.long 292), none, some (.int 12), none], [], (Ia2, (q_up Ja2 32 2 292), qcR_65, qcS_33 L, 33), 2, 21)) 5 rfl).trans ?_
  rw [← ea3, ← ja3]
  refine (q_D_by (c' := (true, 90, [some (.ref 31), none, some (.int 3), some (.long 0), none, some (.int 13), none], [.ref 1010, .int 13], (Ia3, Ja3, qcR_65, qcS_33 L, 33), 2, 21)) 8 rfl).trans ?_
  refine (q_D_call (X := q_text4 [.ref 1010] (Ia3, Ja3, qcR_65, qcS_33 L, 33)) (b := true) (pc := 93) (L := [some (.ref 31), none, some (.int 3), some (.long 0), none, some (.int 13), none]) (st := [.int 13]) (ce := 2) (sl := 21) 0 (true, 90, [some (.ref 31), none, some (.int 3), some (.long 0), none, some (.int 13), none], [.ref 1010, .int 13], (Ia3, Ja3, qcR_65, qcS_33 L, 33), 2, 21) rfl rfl).trans ?_
  rw [q_ck_tt, q_tx4 rfl]
  show q_D _ _ _ (true, 93, [some (.ref 31), none, some (.int 3), some (.long 0), none, some (.int 13), none], [.int 102, .int 13], (Ia3, Ja3, qcR_65, qcS_33 L, 33), 2, 21) = _
  refine (q_D_br (b := true) (p := (13 : Int32) < 102) (pa := 96) (pb := 154) (L := [some (.ref 31), none, some (.int 3), some (.long 0), none, some (.int 13), none]) (d := ([], (Ia3, Ja3, qcR_65, qcS_33 L, 33), 2, 21)) (La := [some (.ref 31), none, some (.int 3), some (.long 0), none, some (.int 13), none]) (Lb := [none, none, none, none, none, none, none]) 1 rfl rfl rfl).trans ?_
  rw [q_ck_tt, if_pos (by decide)]
  refine (q_D_br (b := true) (p := (3 : Int32) < 21) (pa := 102) (pb := 154) (L := [some (.ref 31), none, some (.int 3), some (.long 0), none, some (.int 13), none]) (d := ([], (Ia3, Ja3, qcR_65, qcS_33 L, 33), 2, 21)) (La := [some (.ref 31), none, some (.int 3), some (.long 0), none, some (.int 13), none]) (Lb := [none, none, none, none, none, none, none]) 3 rfl rfl rfl).trans ?_
  rw [q_ck_tt, if_pos (by decide)]
  refine (q_D_by (c' := (true, 106, [some (.ref 31), none, some (.int 3), some (.long 0), none, some (.int 13), none], [.int 13, .ref 1010], (Ia3, Ja3, qcR_65, qcS_33 L, 33), 2, 21)) 2 rfl).trans ?_
  refine (q_D_call (X := q_text5 [.ref 1010, .int 13] (Ia3, Ja3, qcR_65, qcS_33 L, 33)) (b := true) (pc := 109) (L := [some (.ref 31), none, some (.int 3), some (.long 0), none, some (.int 13), none]) (st := []) (ce := 2) (sl := 21) 0 (true, 106, [some (.ref 31), none, some (.int 3), some (.long 0), none, some (.int 13), none], [.int 13, .ref 1010], (Ia3, Ja3, qcR_65, qcS_33 L, 33), 2, 21) rfl rfl).trans ?_
  rw [q_ck_tt, q_tx5 13 99 rfl (by decide) (by decide)]
  show q_D _ _ _ (true, 109, [some (.ref 31), none, some (.int 3), some (.long 0), none, some (.int 13), none], [.int 99], (Ia3, Ja3, qcR_65, qcS_33 L, 33), 2, 21) = _
  refine (q_D_br (b := true) (p := (99 : Int32) = 32) (pa := 118) (pb := 133) (L := [some (.ref 31), none, some (.int 3), some (.long 0), none, some (.int 13), some (.int 99)]) (d := ([], (Ia3, Ja3, qcR_65, qcS_33 L, 33), 2, 21)) (La := [some (.ref 31), none, some (.int 3), some (.long 0), none, some (.int 13), none]) (Lb := [some (.ref 31), none, some (.int 3), some (.long 0), none, some (.int 13), some (.int 99)]) 4 rfl rfl rfl).trans ?_
  rw [q_ck_tt, if_neg (by decide)]
  refine (q_D_by (c' := (true, 147, [some (.ref 31), none, some (.int 3), some (.long 0), none, some (.int 13), some (.int 99)], [.long 3], (Ia3, Ja3, qcR_65, qcS_33 L, 33), 2, 21)) 10 rfl).trans ?_
  refine (q_D_by (c' := (true, 90, [some (.ref 31), none, some (.int 3), some (.long 3), none, some (.int 14), none], [.ref 1010, .int 14], (Ia3, Ja3, qcR_65, qcS_33 L, 33), 2, 21)) 5 rfl).trans ?_
  refine (q_D_call (X := q_text4 [.ref 1010] (Ia3, Ja3, qcR_65, qcS_33 L, 33)) (b := true) (pc := 93) (L := [some (.ref 31), none, some (.int 3), some (.long 3), none, some (.int 14), none]) (st := [.int 14]) (ce := 2) (sl := 21) 0 (true, 90, [some (.ref 31), none, some (.int 3), some (.long 3), none, some (.int 14), none], [.ref 1010, .int 14], (Ia3, Ja3, qcR_65, qcS_33 L, 33), 2, 21) rfl rfl).trans ?_
  rw [q_ck_tt, q_tx4 rfl]
  show q_D _ _ _ (true, 93, [some (.ref 31), none, some (.int 3), some (.long 3), none, some (.int 14), none], [.int 102, .int 14], (Ia3, Ja3, qcR_65, qcS_33 L, 33), 2, 21) = _
  refine (q_D_br (b := true) (p := (14 : Int32) < 102) (pa := 96) (pb := 154) (L := [some (.ref 31), none, some (.int 3), some (.long 3), none, some (.int 14), none]) (d := ([], (Ia3, Ja3, qcR_65, qcS_33 L, 33), 2, 21)) (La := [some (.ref 31), none, some (.int 3), some (.long 3), none, some (.int 14), none]) (Lb := [none, none, none, none, none, none, none]) 1 rfl rfl rfl).trans ?_
  rw [q_ck_tt, if_pos (by decide)]
  refine (q_D_br (b := true) (p := (3 : Int32) < 21) (pa := 102) (pb := 154) (L := [some (.ref 31), none, some (.int 3), some (.long 3), none, some (.int 14), none]) (d := ([], (Ia3, Ja3, qcR_65, qcS_33 L, 33), 2, 21)) (La := [some (.ref 31), none, some (.int 3), some (.long 3), none, some (.int 14), none]) (Lb := [none, none, none, none, none, none, none]) 3 rfl rfl rfl).trans ?_
  rw [q_ck_tt, if_pos (by decide)]
  refine (q_D_by (c' := (true, 106, [some (.ref 31), none, some (.int 3), some (.long 3), none, some (.int 14), none], [.int 14, .ref 1010], (Ia3, Ja3, qcR_65, qcS_33 L, 33), 2, 21)) 2 rfl).trans ?_
  refine (q_D_call (X := q_text5 [.ref 1010, .int 14] (Ia3, Ja3, qcR_65, qcS_33 L, 33)) (b := true) (pc := 109) (L := [some (.ref 31), none, some (.int 3), some (.long 3), none, some (.int 14), none]) (st := []) (ce := 2) (sl := 21) 0 (true, 106, [some (.ref 31), none, some (.int 3), some (.long 3), none, some (.int 14), none], [.int 14, .ref 1010], (Ia3, Ja3, qcR_65, qcS_33 L, 33), 2, 21) rfl rfl).trans ?_
  rw [q_ck_tt, q_tx5 14 101 rfl (by decide) (by decide)]
  show q_D _ _ _ (true, 109, [some (.ref 31), none, some (.int 3), some (.long 3), none, some (.int 14), none], [.int 101], (Ia3, Ja3, qcR_65, qcS_33 L, 33), 2, 21) = _
  refine (q_D_br (b := true) (p := (101 : Int32) = 32) (pa := 118) (pb := 133) (L := [some (.ref 31), none, some (.int 3), some (.long 3), none, some (.int 14), some (.int 101)]) (d := ([], (Ia3, Ja3, qcR_65, qcS_33 L, 33), 2, 21)) (La := [some (.ref 31), none, some (.int 3), some (.long 3), none, some (.int 14), none]) (Lb := [some (.ref 31), none, some (.int 3), some (.long 3), none, some (.int 14), some (.int 101)]) 4 rfl rfl rfl).trans ?_
  rw [q_ck_tt, if_neg (by decide)]
  refine (q_D_by (c' := (true, 147, [some (.ref 31), none, some (.int 3), some (.long 3), none, some (.int 14), some (.int 101)], [.long 101], (Ia3, Ja3, qcR_65, qcS_33 L, 33), 2, 21)) 10 rfl).trans ?_
  refine (q_D_by (c' := (true, 90, [some (.ref 31), none, some (.int 3), some (.long 101), none, some (.int 15), none], [.ref 1010, .int 15], (Ia3, Ja3, qcR_65, qcS_33 L, 33), 2, 21)) 5 rfl).trans ?_
  refine (q_D_call (X := q_text4 [.ref 1010] (Ia3, Ja3, qcR_65, qcS_33 L, 33)) (b := true) (pc := 93) (L := [some (.ref 31), none, some (.int 3), some (.long 101), none, some (.int 15), none]) (st := [.int 15]) (ce := 2) (sl := 21) 0 (true, 90, [some (.ref 31), none, some (.int 3), some (.long 101), none, some (.int 15), none], [.ref 1010, .int 15], (Ia3, Ja3, qcR_65, qcS_33 L, 33), 2, 21) rfl rfl).trans ?_
  rw [q_ck_tt, q_tx4 rfl]
  show q_D _ _ _ (true, 93, [some (.ref 31), none, some (.int 3), some (.long 101), none, some (.int 15), none], [.int 102, .int 15], (Ia3, Ja3, qcR_65, qcS_33 L, 33), 2, 21) = _
  refine (q_D_br (b := true) (p := (15 : Int32) < 102) (pa := 96) (pb := 154) (L := [some (.ref 31), none, some (.int 3), some (.long 101), none, some (.int 15), none]) (d := ([], (Ia3, Ja3, qcR_65, qcS_33 L, 33), 2, 21)) (La := [some (.ref 31), none, some (.int 3), some (.long 101), none, some (.int 15), none]) (Lb := [none, none, none, none, none, none, none]) 1 rfl rfl rfl).trans ?_
  rw [q_ck_tt, if_pos (by decide)]
  refine (q_D_br (b := true) (p := (3 : Int32) < 21) (pa := 102) (pb := 154) (L := [some (.ref 31), none, some (.int 3), some (.long 101), none, some (.int 15), none]) (d := ([], (Ia3, Ja3, qcR_65, qcS_33 L, 33), 2, 21)) (La := [some (.ref 31), none, some (.int 3), some (.long 101), none, some (.int 15), none]) (Lb := [none, none, none, none, none, none, none]) 3 rfl rfl rfl).trans ?_
  rw [q_ck_tt, if_pos (by decide)]
  refine (q_D_by (c' := (true, 106, [some (.ref 31), none, some (.int 3), some (.long 101), none, some (.int 15), none], [.int 15, .ref 1010], (Ia3, Ja3, qcR_65, qcS_33 L, 33), 2, 21)) 2 rfl).trans ?_
  refine (q_D_call (X := q_text5 [.ref 1010, .int 15] (Ia3, Ja3, qcR_65, qcS_33 L, 33)) (b := true) (pc := 109) (L := [some (.ref 31), none, some (.int 3), some (.long 101), none, some (.int 15), none]) (st := []) (ce := 2) (sl := 21) 0 (true, 106, [some (.ref 31), none, some (.int 3), some (.long 101), none, some (.int 15), none], [.int 15, .ref 1010], (Ia3, Ja3, qcR_65, qcS_33 L, 33), 2, 21) rfl rfl).trans ?_
  rw [q_ck_tt, q_tx5 15 108 rfl (by decide) (by decide)]
  show q_D _ _ _ (true, 109, [some (.ref 31), none, some (.int 3), some (.long 101), none, some (.int 15), none], [.int 108], (Ia3, Ja3, qcR_65, qcS_33 L, 33), 2, 21) = _
  refine (q_D_br (b := true) (p := (108 : Int32) = 32) (pa := 118) (pb := 133) (L := [some (.ref 31), none, some (.int 3), some (.long 101), none, some (.int 15), some (.int 108)]) (d := ([], (Ia3, Ja3, qcR_65, qcS_33 L, 33), 2, 21)) (La := [some (.ref 31), none, some (.int 3), some (.long 101), none, some (.int 15), none]) (Lb := [some (.ref 31), none, some (.int 3), some (.long 101), none, some (.int 15), some (.int 108)]) 4 rfl rfl rfl).trans ?_
  rw [q_ck_tt, if_neg (by decide)]
  refine (q_D_by (c' := (true, 147, [some (.ref 31), none, some (.int 3), some (.long 101), none, some (.int 15), some (.int 108)], [.long 3244], (Ia3, Ja3, qcR_65, qcS_33 L, 33), 2, 21)) 10 rfl).trans ?_
  refine (q_D_by (c' := (true, 90, [some (.ref 31), none, some (.int 3), some (.long 3244), none, some (.int 16), none], [.ref 1010, .int 16], (Ia3, Ja3, qcR_65, qcS_33 L, 33), 2, 21)) 5 rfl).trans ?_
  refine (q_D_call (X := q_text4 [.ref 1010] (Ia3, Ja3, qcR_65, qcS_33 L, 33)) (b := true) (pc := 93) (L := [some (.ref 31), none, some (.int 3), some (.long 3244), none, some (.int 16), none]) (st := [.int 16]) (ce := 2) (sl := 21) 0 (true, 90, [some (.ref 31), none, some (.int 3), some (.long 3244), none, some (.int 16), none], [.ref 1010, .int 16], (Ia3, Ja3, qcR_65, qcS_33 L, 33), 2, 21) rfl rfl).trans ?_
  rw [q_ck_tt, q_tx4 rfl]
  show q_D _ _ _ (true, 93, [some (.ref 31), none, some (.int 3), some (.long 3244), none, some (.int 16), none], [.int 102, .int 16], (Ia3, Ja3, qcR_65, qcS_33 L, 33), 2, 21) = _
  refine (q_D_br (b := true) (p := (16 : Int32) < 102) (pa := 96) (pb := 154) (L := [some (.ref 31), none, some (.int 3), some (.long 3244), none, some (.int 16), none]) (d := ([], (Ia3, Ja3, qcR_65, qcS_33 L, 33), 2, 21)) (La := [some (.ref 31), none, some (.int 3), some (.long 3244), none, some (.int 16), none]) (Lb := [none, none, none, none, none, none, none]) 1 rfl rfl rfl).trans ?_
  rw [q_ck_tt, if_pos (by decide)]
  refine (q_D_br (b := true) (p := (3 : Int32) < 21) (pa := 102) (pb := 154) (L := [some (.ref 31), none, some (.int 3), some (.long 3244), none, some (.int 16), none]) (d := ([], (Ia3, Ja3, qcR_65, qcS_33 L, 33), 2, 21)) (La := [some (.ref 31), none, some (.int 3), some (.long 3244), none, some (.int 16), none]) (Lb := [none, none, none, none, none, none, none]) 3 rfl rfl rfl).trans ?_
  rw [q_ck_tt, if_pos (by decide)]
  refine (q_D_by (c' := (true, 106, [some (.ref 31), none, some (.int 3), some (.long 3244), none, some (.int 16), none], [.int 16, .ref 1010], (Ia3, Ja3, qcR_65, qcS_33 L, 33), 2, 21)) 2 rfl).trans ?_
  refine (q_D_call (X := q_text5 [.ref 1010, .int 16] (Ia3, Ja3, qcR_65, qcS_33 L, 33)) (b := true) (pc := 109) (L := [some (.ref 31), none, some (.int 3), some (.long 3244), none, some (.int 16), none]) (st := []) (ce := 2) (sl := 21) 0 (true, 106, [some (.ref 31), none, some (.int 3), some (.long 3244), none, some (.int 16), none], [.int 16, .ref 1010], (Ia3, Ja3, qcR_65, qcS_33 L, 33), 2, 21) rfl rfl).trans ?_
  rw [q_ck_tt, q_tx5 16 108 rfl (by decide) (by decide)]
  show q_D _ _ _ (true, 109, [some (.ref 31), none, some (.int 3), some (.long 3244), none, some (.int 16), none], [.int 108], (Ia3, Ja3, qcR_65, qcS_33 L, 33), 2, 21) = _
  refine (q_D_br (b := true) (p := (108 : Int32) = 32) (pa := 118) (pb := 133) (L := [some (.ref 31), none, some (.int 3), some (.long 3244), none, some (.int 16), some (.int 108)]) (d := ([], (Ia3, Ja3, qcR_65, qcS_33 L, 33), 2, 21)) (La := [some (.ref 31), none, some (.int 3), some (.long 3244), none, some (.int 16), none]) (Lb := [some (.ref 31), none, some (.int 3), some (.long 3244), none, some (.int 16), some (.int 108)]) 4 rfl rfl rfl).trans ?_
  rw [q_ck_tt, if_neg (by decide)]
  refine (q_D_by (c' := (true, 147, [some (.ref 31), none, some (.int 3), some (.long 3244), none, some (.int 16), some (.int 108)], [.long 103820], (Ia3, Ja3, qcR_65, qcS_33 L, 33), 2, 21)) 10 rfl).trans ?_
  refine (q_D_by (c' := (true, 90, [some (.ref 31), none, some (.int 3), some (.long 103820), none, some (.int 17), none], [.ref 1010, .int 17], (Ia3, Ja3, qcR_65, qcS_33 L, 33), 2, 21)) 5 rfl).trans ?_
  refine (q_D_call (X := q_text4 [.ref 1010] (Ia3, Ja3, qcR_65, qcS_33 L, 33)) (b := true) (pc := 93) (L := [some (.ref 31), none, some (.int 3), some (.long 103820), none, some (.int 17), none]) (st := [.int 17]) (ce := 2) (sl := 21) 0 (true, 90, [some (.ref 31), none, some (.int 3), some (.long 103820), none, some (.int 17), none], [.ref 1010, .int 17], (Ia3, Ja3, qcR_65, qcS_33 L, 33), 2, 21) rfl rfl).trans ?_
  rw [q_ck_tt, q_tx4 rfl]
  show q_D _ _ _ (true, 93, [some (.ref 31), none, some (.int 3), some (.long 103820), none, some (.int 17), none], [.int 102, .int 17], (Ia3, Ja3, qcR_65, qcS_33 L, 33), 2, 21) = _
  refine (q_D_br (b := true) (p := (17 : Int32) < 102) (pa := 96) (pb := 154) (L := [some (.ref 31), none, some (.int 3), some (.long 103820), none, some (.int 17), none]) (d := ([], (Ia3, Ja3, qcR_65, qcS_33 L, 33), 2, 21)) (La := [some (.ref 31), none, some (.int 3), some (.long 103820), none, some (.int 17), none]) (Lb := [none, none, none, none, none, none, none]) 1 rfl rfl rfl).trans ?_
  rw [q_ck_tt, if_pos (by decide)]
  refine (q_D_br (b := true) (p := (3 : Int32) < 21) (pa := 102) (pb := 154) (L := [some (.ref 31), none, some (.int 3), some (.long 103820), none, some (.int 17), none]) (d := ([], (Ia3, Ja3, qcR_65, qcS_33 L, 33), 2, 21)) (La := [some (.ref 31), none, some (.int 3), some (.long 103820), none, some (.int 17), none]) (Lb := [none, none, none, none, none, none, none]) 3 rfl rfl rfl).trans ?_
  rw [q_ck_tt, if_pos (by decide)]
  refine (q_D_by (c' := (true, 106, [some (.ref 31), none, some (.int 3), some (.long 103820), none, some (.int 17), none], [.int 17, .ref 1010], (Ia3, Ja3, qcR_65, qcS_33 L, 33), 2, 21)) 2 rfl).trans ?_
  refine (q_D_call (X := q_text5 [.ref 1010, .int 17] (Ia3, Ja3, qcR_65, qcS_33 L, 33)) (b := true) (pc := 109) (L := [some (.ref 31), none, some (.int 3), some (.long 103820), none, some (.int 17), none]) (st := []) (ce := 2) (sl := 21) 0 (true, 106, [some (.ref 31), none, some (.int 3), some (.long 103820), none, some (.int 17), none], [.int 17, .ref 1010], (Ia3, Ja3, qcR_65, qcS_33 L, 33), 2, 21) rfl rfl).trans ?_
  rw [q_ck_tt, q_tx5 17 115 rfl (by decide) (by decide)]
  show q_D _ _ _ (true, 109, [some (.ref 31), none, some (.int 3), some (.long 103820), none, some (.int 17), none], [.int 115], (Ia3, Ja3, qcR_65, qcS_33 L, 33), 2, 21) = _
  refine (q_D_br (b := true) (p := (115 : Int32) = 32) (pa := 118) (pb := 133) (L := [some (.ref 31), none, some (.int 3), some (.long 103820), none, some (.int 17), some (.int 115)]) (d := ([], (Ia3, Ja3, qcR_65, qcS_33 L, 33), 2, 21)) (La := [some (.ref 31), none, some (.int 3), some (.long 103820), none, some (.int 17), none]) (Lb := [some (.ref 31), none, some (.int 3), some (.long 103820), none, some (.int 17), some (.int 115)]) 4 rfl rfl rfl).trans ?_
  rw [q_ck_tt, if_neg (by decide)]
  refine (q_D_by (c' := (true, 147, [some (.ref 31), none, some (.int 3), some (.long 103820), none, some (.int 17), some (.int 115)], [.long 3322259], (Ia3, Ja3, qcR_65, qcS_33 L, 33), 2, 21)) 10 rfl).trans ?_
  refine (q_D_by (c' := (true, 90, [some (.ref 31), none, some (.int 3), some (.long 3322259), none, some (.int 18), none], [.ref 1010, .int 18], (Ia3, Ja3, qcR_65, qcS_33 L, 33), 2, 21)) 5 rfl).trans ?_
  refine (q_D_call (X := q_text4 [.ref 1010] (Ia3, Ja3, qcR_65, qcS_33 L, 33)) (b := true) (pc := 93) (L := [some (.ref 31), none, some (.int 3), some (.long 3322259), none, some (.int 18), none]) (st := [.int 18]) (ce := 2) (sl := 21) 0 (true, 90, [some (.ref 31), none, some (.int 3), some (.long 3322259), none, some (.int 18), none], [.ref 1010, .int 18], (Ia3, Ja3, qcR_65, qcS_33 L, 33), 2, 21) rfl rfl).trans ?_
  rw [q_ck_tt, q_tx4 rfl]
  show q_D _ _ _ (true, 93, [some (.ref 31), none, some (.int 3), some (.long 3322259), none, some (.int 18), none], [.int 102, .int 18], (Ia3, Ja3, qcR_65, qcS_33 L, 33), 2, 21) = _
  refine (q_D_br (b := true) (p := (18 : Int32) < 102) (pa := 96) (pb := 154) (L := [some (.ref 31), none, some (.int 3), some (.long 3322259), none, some (.int 18), none]) (d := ([], (Ia3, Ja3, qcR_65, qcS_33 L, 33), 2, 21)) (La := [some (.ref 31), none, some (.int 3), some (.long 3322259), none, some (.int 18), none]) (Lb := [none, none, none, none, none, none, none]) 1 rfl rfl rfl).trans ?_
  rw [q_ck_tt, if_pos (by decide)]
  refine (q_D_br (b := true) (p := (3 : Int32) < 21) (pa := 102) (pb := 154) (L := [some (.ref 31), none, some (.int 3), some (.long 3322259), none, some (.int 18), none]) (d := ([], (Ia3, Ja3, qcR_65, qcS_33 L, 33), 2, 21)) (La := [some (.ref 31), none, some (.int 3), some (.long 3322259), none, some (.int 18), none]) (Lb := [none, none, none, none, none, none, none]) 3 rfl rfl rfl).trans ?_
  rw [q_ck_tt, if_pos (by decide)]
  refine (q_D_by (c' := (true, 106, [some (.ref 31), none, some (.int 3), some (.long 3322259), none, some (.int 18), none], [.int 18, .ref 1010], (Ia3, Ja3, qcR_65, qcS_33 L, 33), 2, 21)) 2 rfl).trans ?_
  refine (q_D_call (X := q_text5 [.ref 1010, .int 18] (Ia3, Ja3, qcR_65, qcS_33 L, 33)) (b := true) (pc := 109) (L := [some (.ref 31), none, some (.int 3), some (.long 3322259), none, some (.int 18), none]) (st := []) (ce := 2) (sl := 21) 0 (true, 106, [some (.ref 31), none, some (.int 3), some (.long 3322259), none, some (.int 18), none], [.int 18, .ref 1010], (Ia3, Ja3, qcR_65, qcS_33 L, 33), 2, 21) rfl rfl).trans ?_
  rw [q_ck_tt, q_tx5 18 32 rfl (by decide) (by decide)]
  show q_D _ _ _ (true, 109, [some (.ref 31), none, some (.int 3), some (.long 3322259), none, some (.int 18), none], [.int 32], (Ia3, Ja3, qcR_65, qcS_33 L, 33), 2, 21) = _
  refine (q_D_br (b := true) (p := (32 : Int32) = 32) (pa := 118) (pb := 133) (L := [some (.ref 31), none, some (.int 3), some (.long 3322259), none, some (.int 18), some (.int 32)]) (d := ([], (Ia3, Ja3, qcR_65, qcS_33 L, 33), 2, 21)) (La := [some (.ref 31), none, some (.int 3), some (.long 3322259), none, some (.int 18), none]) (Lb := [some (.ref 31), none, some (.int 3), some (.long 3322259), none, some (.int 18), some (.int 32)]) 4 rfl rfl rfl).trans ?_
  rw [q_ck_tt, if_pos (by decide)]
  refine (q_D_by (c' := (true, 125, [some (.ref 31), none, some (.int 3), some (.long 3322259), none, some (.int 18), none], [], (Ia3, (q_up Ja3 32 3 3322259), qcR_65, qcS_33 L, 33), 2, 21)) 5 rfl).trans ?_
  rw [← ea4, ← ja4]
  refine (q_D_by (c' := (true, 90, [some (.ref 31), none, some (.int 4), some (.long 0), none, some (.int 19), none], [.ref 1010, .int 19], (Ia4, Ja4, qcR_65, qcS_33 L, 33), 2, 21)) 8 rfl).trans ?_
  refine (q_D_call (X := q_text4 [.ref 1010] (Ia4, Ja4, qcR_65, qcS_33 L, 33)) (b := true) (pc := 93) (L := [some (.ref 31), none, some (.int 4), some (.long 0), none, some (.int 19), none]) (st := [.int 19]) (ce := 2) (sl := 21) 0 (true, 90, [some (.ref 31), none, some (.int 4), some (.long 0), none, some (.int 19), none], [.ref 1010, .int 19], (Ia4, Ja4, qcR_65, qcS_33 L, 33), 2, 21) rfl rfl).trans ?_
  rw [q_ck_tt, q_tx4 rfl]
  show q_D _ _ _ (true, 93, [some (.ref 31), none, some (.int 4), some (.long 0), none, some (.int 19), none], [.int 102, .int 19], (Ia4, Ja4, qcR_65, qcS_33 L, 33), 2, 21) = _
  refine (q_D_br (b := true) (p := (19 : Int32) < 102) (pa := 96) (pb := 154) (L := [some (.ref 31), none, some (.int 4), some (.long 0), none, some (.int 19), none]) (d := ([], (Ia4, Ja4, qcR_65, qcS_33 L, 33), 2, 21)) (La := [some (.ref 31), none, some (.int 4), some (.long 0), none, some (.int 19), none]) (Lb := [none, none, none, none, none, none, none]) 1 rfl rfl rfl).trans ?_
  rw [q_ck_tt, if_pos (by decide)]
  refine (q_D_br (b := true) (p := (4 : Int32) < 21) (pa := 102) (pb := 154) (L := [some (.ref 31), none, some (.int 4), some (.long 0), none, some (.int 19), none]) (d := ([], (Ia4, Ja4, qcR_65, qcS_33 L, 33), 2, 21)) (La := [some (.ref 31), none, some (.int 4), some (.long 0), none, some (.int 19), none]) (Lb := [none, none, none, none, none, none, none]) 3 rfl rfl rfl).trans ?_
  rw [q_ck_tt, if_pos (by decide)]
  refine (q_D_by (c' := (true, 106, [some (.ref 31), none, some (.int 4), some (.long 0), none, some (.int 19), none], [.int 19, .ref 1010], (Ia4, Ja4, qcR_65, qcS_33 L, 33), 2, 21)) 2 rfl).trans ?_
  refine (q_D_call (X := q_text5 [.ref 1010, .int 19] (Ia4, Ja4, qcR_65, qcS_33 L, 33)) (b := true) (pc := 109) (L := [some (.ref 31), none, some (.int 4), some (.long 0), none, some (.int 19), none]) (st := []) (ce := 2) (sl := 21) 0 (true, 106, [some (.ref 31), none, some (.int 4), some (.long 0), none, some (.int 19), none], [.int 19, .ref 1010], (Ia4, Ja4, qcR_65, qcS_33 L, 33), 2, 21) rfl rfl).trans ?_
  rw [q_ck_tt, q_tx5 19 110 rfl (by decide) (by decide)]
  show q_D _ _ _ (true, 109, [some (.ref 31), none, some (.int 4), some (.long 0), none, some (.int 19), none], [.int 110], (Ia4, Ja4, qcR_65, qcS_33 L, 33), 2, 21) = _
  refine (q_D_br (b := true) (p := (110 : Int32) = 32) (pa := 118) (pb := 133) (L := [some (.ref 31), none, some (.int 4), some (.long 0), none, some (.int 19), some (.int 110)]) (d := ([], (Ia4, Ja4, qcR_65, qcS_33 L, 33), 2, 21)) (La := [some (.ref 31), none, some (.int 4), some (.long 0), none, some (.int 19), none]) (Lb := [some (.ref 31), none, some (.int 4), some (.long 0), none, some (.int 19), some (.int 110)]) 4 rfl rfl rfl).trans ?_
  rw [q_ck_tt, if_neg (by decide)]
  refine (q_D_by (c' := (true, 147, [some (.ref 31), none, some (.int 4), some (.long 0), none, some (.int 19), some (.int 110)], [.long 14], (Ia4, Ja4, qcR_65, qcS_33 L, 33), 2, 21)) 10 rfl).trans ?_
  refine (q_D_by (c' := (true, 90, [some (.ref 31), none, some (.int 4), some (.long 14), none, some (.int 20), none], [.ref 1010, .int 20], (Ia4, Ja4, qcR_65, qcS_33 L, 33), 2, 21)) 5 rfl).trans ?_
  refine (q_D_call (X := q_text4 [.ref 1010] (Ia4, Ja4, qcR_65, qcS_33 L, 33)) (b := true) (pc := 93) (L := [some (.ref 31), none, some (.int 4), some (.long 14), none, some (.int 20), none]) (st := [.int 20]) (ce := 2) (sl := 21) 0 (true, 90, [some (.ref 31), none, some (.int 4), some (.long 14), none, some (.int 20), none], [.ref 1010, .int 20], (Ia4, Ja4, qcR_65, qcS_33 L, 33), 2, 21) rfl rfl).trans ?_
  rw [q_ck_tt, q_tx4 rfl]
  show q_D _ _ _ (true, 93, [some (.ref 31), none, some (.int 4), some (.long 14), none, some (.int 20), none], [.int 102, .int 20], (Ia4, Ja4, qcR_65, qcS_33 L, 33), 2, 21) = _
  refine (q_D_br (b := true) (p := (20 : Int32) < 102) (pa := 96) (pb := 154) (L := [some (.ref 31), none, some (.int 4), some (.long 14), none, some (.int 20), none]) (d := ([], (Ia4, Ja4, qcR_65, qcS_33 L, 33), 2, 21)) (La := [some (.ref 31), none, some (.int 4), some (.long 14), none, some (.int 20), none]) (Lb := [none, none, none, none, none, none, none]) 1 rfl rfl rfl).trans ?_
  rw [q_ck_tt, if_pos (by decide)]
  refine (q_D_br (b := true) (p := (4 : Int32) < 21) (pa := 102) (pb := 154) (L := [some (.ref 31), none, some (.int 4), some (.long 14), none, some (.int 20), none]) (d := ([], (Ia4, Ja4, qcR_65, qcS_33 L, 33), 2, 21)) (La := [some (.ref 31), none, some (.int 4), some (.long 14), none, some (.int 20), none]) (Lb := [none, none, none, none, none, none, none]) 3 rfl rfl rfl).trans ?_
  rw [q_ck_tt, if_pos (by decide)]
  refine (q_D_by (c' := (true, 106, [some (.ref 31), none, some (.int 4), some (.long 14), none, some (.int 20), none], [.int 20, .ref 1010], (Ia4, Ja4, qcR_65, qcS_33 L, 33), 2, 21)) 2 rfl).trans ?_
  refine (q_D_call (X := q_text5 [.ref 1010, .int 20] (Ia4, Ja4, qcR_65, qcS_33 L, 33)) (b := true) (pc := 109) (L := [some (.ref 31), none, some (.int 4), some (.long 14), none, some (.int 20), none]) (st := []) (ce := 2) (sl := 21) 0 (true, 106, [some (.ref 31), none, some (.int 4), some (.long 14), none, some (.int 20), none], [.int 20, .ref 1010], (Ia4, Ja4, qcR_65, qcS_33 L, 33), 2, 21) rfl rfl).trans ?_
  rw [q_ck_tt, q_tx5 20 101 rfl (by decide) (by decide)]
  show q_D _ _ _ (true, 109, [some (.ref 31), none, some (.int 4), some (.long 14), none, some (.int 20), none], [.int 101], (Ia4, Ja4, qcR_65, qcS_33 L, 33), 2, 21) = _
  refine (q_D_br (b := true) (p := (101 : Int32) = 32) (pa := 118) (pb := 133) (L := [some (.ref 31), none, some (.int 4), some (.long 14), none, some (.int 20), some (.int 101)]) (d := ([], (Ia4, Ja4, qcR_65, qcS_33 L, 33), 2, 21)) (La := [some (.ref 31), none, some (.int 4), some (.long 14), none, some (.int 20), none]) (Lb := [some (.ref 31), none, some (.int 4), some (.long 14), none, some (.int 20), some (.int 101)]) 4 rfl rfl rfl).trans ?_
  rw [q_ck_tt, if_neg (by decide)]
  refine (q_D_by (c' := (true, 147, [some (.ref 31), none, some (.int 4), some (.long 14), none, some (.int 20), some (.int 101)], [.long 453], (Ia4, Ja4, qcR_65, qcS_33 L, 33), 2, 21)) 10 rfl).trans ?_
  refine (q_D_by (c' := (true, 90, [some (.ref 31), none, some (.int 4), some (.long 453), none, some (.int 21), none], [.ref 1010, .int 21], (Ia4, Ja4, qcR_65, qcS_33 L, 33), 2, 21)) 5 rfl).trans ?_
  refine (q_D_call (X := q_text4 [.ref 1010] (Ia4, Ja4, qcR_65, qcS_33 L, 33)) (b := true) (pc := 93) (L := [some (.ref 31), none, some (.int 4), some (.long 453), none, some (.int 21), none]) (st := [.int 21]) (ce := 2) (sl := 21) 0 (true, 90, [some (.ref 31), none, some (.int 4), some (.long 453), none, some (.int 21), none], [.ref 1010, .int 21], (Ia4, Ja4, qcR_65, qcS_33 L, 33), 2, 21) rfl rfl).trans ?_
  rw [q_ck_tt, q_tx4 rfl]
  show q_D _ _ _ (true, 93, [some (.ref 31), none, some (.int 4), some (.long 453), none, some (.int 21), none], [.int 102, .int 21], (Ia4, Ja4, qcR_65, qcS_33 L, 33), 2, 21) = _
  refine (q_D_br (b := true) (p := (21 : Int32) < 102) (pa := 96) (pb := 154) (L := [some (.ref 31), none, some (.int 4), some (.long 453), none, some (.int 21), none]) (d := ([], (Ia4, Ja4, qcR_65, qcS_33 L, 33), 2, 21)) (La := [some (.ref 31), none, some (.int 4), some (.long 453), none, some (.int 21), none]) (Lb := [none, none, none, none, none, none, none]) 1 rfl rfl rfl).trans ?_
  rw [q_ck_tt, if_pos (by decide)]
  refine (q_D_br (b := true) (p := (4 : Int32) < 21) (pa := 102) (pb := 154) (L := [some (.ref 31), none, some (.int 4), some (.long 453), none, some (.int 21), none]) (d := ([], (Ia4, Ja4, qcR_65, qcS_33 L, 33), 2, 21)) (La := [some (.ref 31), none, some (.int 4), some (.long 453), none, some (.int 21), none]) (Lb := [none, none, none, none, none, none, none]) 3 rfl rfl rfl).trans ?_
  rw [q_ck_tt, if_pos (by decide)]
  refine (q_D_by (c' := (true, 106, [some (.ref 31), none, some (.int 4), some (.long 453), none, some (.int 21), none], [.int 21, .ref 1010], (Ia4, Ja4, qcR_65, qcS_33 L, 33), 2, 21)) 2 rfl).trans ?_
  refine (q_D_call (X := q_text5 [.ref 1010, .int 21] (Ia4, Ja4, qcR_65, qcS_33 L, 33)) (b := true) (pc := 109) (L := [some (.ref 31), none, some (.int 4), some (.long 453), none, some (.int 21), none]) (st := []) (ce := 2) (sl := 21) 0 (true, 106, [some (.ref 31), none, some (.int 4), some (.long 453), none, some (.int 21), none], [.int 21, .ref 1010], (Ia4, Ja4, qcR_65, qcS_33 L, 33), 2, 21) rfl rfl).trans ?_
  rw [q_ck_tt, q_tx5 21 116 rfl (by decide) (by decide)]
  show q_D _ _ _ (true, 109, [some (.ref 31), none, some (.int 4), some (.long 453), none, some (.int 21), none], [.int 116], (Ia4, Ja4, qcR_65, qcS_33 L, 33), 2, 21) = _
  refine (q_D_br (b := true) (p := (116 : Int32) = 32) (pa := 118) (pb := 133) (L := [some (.ref 31), none, some (.int 4), some (.long 453), none, some (.int 21), some (.int 116)]) (d := ([], (Ia4, Ja4, qcR_65, qcS_33 L, 33), 2, 21)) (La := [some (.ref 31), none, some (.int 4), some (.long 453), none, some (.int 21), none]) (Lb := [some (.ref 31), none, some (.int 4), some (.long 453), none, some (.int 21), some (.int 116)]) 4 rfl rfl rfl).trans ?_
  rw [q_ck_tt, if_neg (by decide)]
  refine (q_D_by (c' := (true, 147, [some (.ref 31), none, some (.int 4), some (.long 453), none, some (.int 21), some (.int 116)], [.long 14516], (Ia4, Ja4, qcR_65, qcS_33 L, 33), 2, 21)) 10 rfl).trans ?_
  refine (q_D_by (c' := (true, 90, [some (.ref 31), none, some (.int 4), some (.long 14516), none, some (.int 22), none], [.ref 1010, .int 22], (Ia4, Ja4, qcR_65, qcS_33 L, 33), 2, 21)) 5 rfl).trans ?_
  refine (q_D_call (X := q_text4 [.ref 1010] (Ia4, Ja4, qcR_65, qcS_33 L, 33)) (b := true) (pc := 93) (L := [some (.ref 31), none, some (.int 4), some (.long 14516), none, some (.int 22), none]) (st := [.int 22]) (ce := 2) (sl := 21) 0 (true, 90, [some (.ref 31), none, some (.int 4), some (.long 14516), none, some (.int 22), none], [.ref 1010, .int 22], (Ia4, Ja4, qcR_65, qcS_33 L, 33), 2, 21) rfl rfl).trans ?_
  rw [q_ck_tt, q_tx4 rfl]
  show q_D _ _ _ (true, 93, [some (.ref 31), none, some (.int 4), some (.long 14516), none, some (.int 22), none], [.int 102, .int 22], (Ia4, Ja4, qcR_65, qcS_33 L, 33), 2, 21) = _
  refine (q_D_br (b := true) (p := (22 : Int32) < 102) (pa := 96) (pb := 154) (L := [some (.ref 31), none, some (.int 4), some (.long 14516), none, some (.int 22), none]) (d := ([], (Ia4, Ja4, qcR_65, qcS_33 L, 33), 2, 21)) (La := [some (.ref 31), none, some (.int 4), some (.long 14516), none, some (.int 22), none]) (Lb := [none, none, none, none, none, none, none]) 1 rfl rfl rfl).trans ?_
  rw [q_ck_tt, if_pos (by decide)]
  refine (q_D_br (b := true) (p := (4 : Int32) < 21) (pa := 102) (pb := 154) (L := [some (.ref 31), none, some (.int 4), some (.long 14516), none, some (.int 22), none]) (d := ([], (Ia4, Ja4, qcR_65, qcS_33 L, 33), 2, 21)) (La := [some (.ref 31), none, some (.int 4), some (.long 14516), none, some (.int 22), none]) (Lb := [none, none, none, none, none, none, none]) 3 rfl rfl rfl).trans ?_
  rw [q_ck_tt, if_pos (by decide)]
  refine (q_D_by (c' := (true, 106, [some (.ref 31), none, some (.int 4), some (.long 14516), none, some (.int 22), none], [.int 22, .ref 1010], (Ia4, Ja4, qcR_65, qcS_33 L, 33), 2, 21)) 2 rfl).trans ?_
  refine (q_D_call (X := q_text5 [.ref 1010, .int 22] (Ia4, Ja4, qcR_65, qcS_33 L, 33)) (b := true) (pc := 109) (L := [some (.ref 31), none, some (.int 4), some (.long 14516), none, some (.int 22), none]) (st := []) (ce := 2) (sl := 21) 0 (true, 106, [some (.ref 31), none, some (.int 4), some (.long 14516), none, some (.int 22), none], [.int 22, .ref 1010], (Ia4, Ja4, qcR_65, qcS_33 L, 33), 2, 21) rfl rfl).trans ?_
  rw [q_ck_tt, q_tx5 22 32 rfl (by decide) (by decide)]
  show q_D _ _ _ (true, 109, [some (.ref 31), none, some (.int 4), some (.long 14516), none, some (.int 22), none], [.int 32], (Ia4, Ja4, qcR_65, qcS_33 L, 33), 2, 21) = _
  refine (q_D_br (b := true) (p := (32 : Int32) = 32) (pa := 118) (pb := 133) (L := [some (.ref 31), none, some (.int 4), some (.long 14516), none, some (.int 22), some (.int 32)]) (d := ([], (Ia4, Ja4, qcR_65, qcS_33 L, 33), 2, 21)) (La := [some (.ref 31), none, some (.int 4), some (.long 14516), none, some (.int 22), none]) (Lb := [some (.ref 31), none, some (.int 4), some (.long 14516), none, some (.int 22), some (.int 32)]) 4 rfl rfl rfl).trans ?_
  rw [q_ck_tt, if_pos (by decide)]
  refine (q_D_by (c' := (true, 125, [some (.ref 31), none, some (.int 4), some (.long 14516), none, some (.int 22), none], [], (Ia4, (q_up Ja4 32 4 14516), qcR_65, qcS_33 L, 33), 2, 21)) 5 rfl).trans ?_
  rw [← ea5, ← ja5]
  refine (q_D_by (c' := (true, 90, [some (.ref 31), none, some (.int 5), some (.long 0), none, some (.int 23), none], [.ref 1010, .int 23], (Ia5, Ja5, qcR_65, qcS_33 L, 33), 2, 21)) 8 rfl).trans ?_
  refine (q_D_call (X := q_text4 [.ref 1010] (Ia5, Ja5, qcR_65, qcS_33 L, 33)) (b := true) (pc := 93) (L := [some (.ref 31), none, some (.int 5), some (.long 0), none, some (.int 23), none]) (st := [.int 23]) (ce := 2) (sl := 21) 0 (true, 90, [some (.ref 31), none, some (.int 5), some (.long 0), none, some (.int 23), none], [.ref 1010, .int 23], (Ia5, Ja5, qcR_65, qcS_33 L, 33), 2, 21) rfl rfl).trans ?_
  rw [q_ck_tt, q_tx4 rfl]
  show q_D _ _ _ (true, 93, [some (.ref 31), none, some (.int 5), some (.long 0), none, some (.int 23), none], [.int 102, .int 23], (Ia5, Ja5, qcR_65, qcS_33 L, 33), 2, 21) = _
  refine (q_D_br (b := true) (p := (23 : Int32) < 102) (pa := 96) (pb := 154) (L := [some (.ref 31), none, some (.int 5), some (.long 0), none, some (.int 23), none]) (d := ([], (Ia5, Ja5, qcR_65, qcS_33 L, 33), 2, 21)) (La := [some (.ref 31), none, some (.int 5), some (.long 0), none, some (.int 23), none]) (Lb := [none, none, none, none, none, none, none]) 1 rfl rfl rfl).trans ?_
  rw [q_ck_tt, if_pos (by decide)]
  refine (q_D_br (b := true) (p := (5 : Int32) < 21) (pa := 102) (pb := 154) (L := [some (.ref 31), none, some (.int 5), some (.long 0), none, some (.int 23), none]) (d := ([], (Ia5, Ja5, qcR_65, qcS_33 L, 33), 2, 21)) (La := [some (.ref 31), none, some (.int 5), some (.long 0), none, some (.int 23), none]) (Lb := [none, none, none, none, none, none, none]) 3 rfl rfl rfl).trans ?_
  rw [q_ck_tt, if_pos (by decide)]
  refine (q_D_by (c' := (true, 106, [some (.ref 31), none, some (.int 5), some (.long 0), none, some (.int 23), none], [.int 23, .ref 1010], (Ia5, Ja5, qcR_65, qcS_33 L, 33), 2, 21)) 2 rfl).trans ?_
  refine (q_D_call (X := q_text5 [.ref 1010, .int 23] (Ia5, Ja5, qcR_65, qcS_33 L, 33)) (b := true) (pc := 109) (L := [some (.ref 31), none, some (.int 5), some (.long 0), none, some (.int 23), none]) (st := []) (ce := 2) (sl := 21) 0 (true, 106, [some (.ref 31), none, some (.int 5), some (.long 0), none, some (.int 23), none], [.int 23, .ref 1010], (Ia5, Ja5, qcR_65, qcS_33 L, 33), 2, 21) rfl rfl).trans ?_
  rw [q_ck_tt, q_tx5 23 102 rfl (by decide) (by decide)]
  show q_D _ _ _ (true, 109, [some (.ref 31), none, some (.int 5), some (.long 0), none, some (.int 23), none], [.int 102], (Ia5, Ja5, qcR_65, qcS_33 L, 33), 2, 21) = _
  refine (q_D_br (b := true) (p := (102 : Int32) = 32) (pa := 118) (pb := 133) (L := [some (.ref 31), none, some (.int 5), some (.long 0), none, some (.int 23), some (.int 102)]) (d := ([], (Ia5, Ja5, qcR_65, qcS_33 L, 33), 2, 21)) (La := [some (.ref 31), none, some (.int 5), some (.long 0), none, some (.int 23), none]) (Lb := [some (.ref 31), none, some (.int 5), some (.long 0), none, some (.int 23), some (.int 102)]) 4 rfl rfl rfl).trans ?_
  rw [q_ck_tt, if_neg (by decide)]
  refine (q_D_by (c' := (true, 147, [some (.ref 31), none, some (.int 5), some (.long 0), none, some (.int 23), some (.int 102)], [.long 6], (Ia5, Ja5, qcR_65, qcS_33 L, 33), 2, 21)) 10 rfl).trans ?_
  refine (q_D_by (c' := (true, 90, [some (.ref 31), none, some (.int 5), some (.long 6), none, some (.int 24), none], [.ref 1010, .int 24], (Ia5, Ja5, qcR_65, qcS_33 L, 33), 2, 21)) 5 rfl).trans ?_
  refine (q_D_call (X := q_text4 [.ref 1010] (Ia5, Ja5, qcR_65, qcS_33 L, 33)) (b := true) (pc := 93) (L := [some (.ref 31), none, some (.int 5), some (.long 6), none, some (.int 24), none]) (st := [.int 24]) (ce := 2) (sl := 21) 0 (true, 90, [some (.ref 31), none, some (.int 5), some (.long 6), none, some (.int 24), none], [.ref 1010, .int 24], (Ia5, Ja5, qcR_65, qcS_33 L, 33), 2, 21) rfl rfl).trans ?_
  rw [q_ck_tt, q_tx4 rfl]
  show q_D _ _ _ (true, 93, [some (.ref 31), none, some (.int 5), some (.long 6), none, some (.int 24), none], [.int 102, .int 24], (Ia5, Ja5, qcR_65, qcS_33 L, 33), 2, 21) = _
  refine (q_D_br (b := true) (p := (24 : Int32) < 102) (pa := 96) (pb := 154) (L := [some (.ref 31), none, some (.int 5), some (.long 6), none, some (.int 24), none]) (d := ([], (Ia5, Ja5, qcR_65, qcS_33 L, 33), 2, 21)) (La := [some (.ref 31), none, some (.int 5), some (.long 6), none, some (.int 24), none]) (Lb := [none, none, none, none, none, none, none]) 1 rfl rfl rfl).trans ?_
  rw [q_ck_tt, if_pos (by decide)]
  refine (q_D_br (b := true) (p := (5 : Int32) < 21) (pa := 102) (pb := 154) (L := [some (.ref 31), none, some (.int 5), some (.long 6), none, some (.int 24), none]) (d := ([], (Ia5, Ja5, qcR_65, qcS_33 L, 33), 2, 21)) (La := [some (.ref 31), none, some (.int 5), some (.long 6), none, some (.int 24), none]) (Lb := [none, none, none, none, none, none, none]) 3 rfl rfl rfl).trans ?_
  rw [q_ck_tt, if_pos (by decide)]
  refine (q_D_by (c' := (true, 106, [some (.ref 31), none, some (.int 5), some (.long 6), none, some (.int 24), none], [.int 24, .ref 1010], (Ia5, Ja5, qcR_65, qcS_33 L, 33), 2, 21)) 2 rfl).trans ?_
  refine (q_D_call (X := q_text5 [.ref 1010, .int 24] (Ia5, Ja5, qcR_65, qcS_33 L, 33)) (b := true) (pc := 109) (L := [some (.ref 31), none, some (.int 5), some (.long 6), none, some (.int 24), none]) (st := []) (ce := 2) (sl := 21) 0 (true, 106, [some (.ref 31), none, some (.int 5), some (.long 6), none, some (.int 24), none], [.int 24, .ref 1010], (Ia5, Ja5, qcR_65, qcS_33 L, 33), 2, 21) rfl rfl).trans ?_
  rw [q_ck_tt, q_tx5 24 114 rfl (by decide) (by decide)]
  show q_D _ _ _ (true, 109, [some (.ref 31), none, some (.int 5), some (.long 6), none, some (.int 24), none], [.int 114], (Ia5, Ja5, qcR_65, qcS_33 L, 33), 2, 21) = _
  refine (q_D_br (b := true) (p := (114 : Int32) = 32) (pa := 118) (pb := 133) (L := [some (.ref 31), none, some (.int 5), some (.long 6), none, some (.int 24), some (.int 114)]) (d := ([], (Ia5, Ja5, qcR_65, qcS_33 L, 33), 2, 21)) (La := [some (.ref 31), none, some (.int 5), some (.long 6), none, some (.int 24), none]) (Lb := [some (.ref 31), none, some (.int 5), some (.long 6), none, some (.int 24), some (.int 114)]) 4 rfl rfl rfl).trans ?_
  rw [q_ck_tt, if_neg (by decide)]
  refine (q_D_by (c' := (true, 147, [some (.ref 31), none, some (.int 5), some (.long 6), none, some (.int 24), some (.int 114)], [.long 210], (Ia5, Ja5, qcR_65, qcS_33 L, 33), 2, 21)) 10 rfl).trans ?_
  refine (q_D_by (c' := (true, 90, [some (.ref 31), none, some (.int 5), some (.long 210), none, some (.int 25), none], [.ref 1010, .int 25], (Ia5, Ja5, qcR_65, qcS_33 L, 33), 2, 21)) 5 rfl).trans ?_
  refine (q_D_call (X := q_text4 [.ref 1010] (Ia5, Ja5, qcR_65, qcS_33 L, 33)) (b := true) (pc := 93) (L := [some (.ref 31), none, some (.int 5), some (.long 210), none, some (.int 25), none]) (st := [.int 25]) (ce := 2) (sl := 21) 0 (true, 90, [some (.ref 31), none, some (.int 5), some (.long 210), none, some (.int 25), none], [.ref 1010, .int 25], (Ia5, Ja5, qcR_65, qcS_33 L, 33), 2, 21) rfl rfl).trans ?_
  rw [q_ck_tt, q_tx4 rfl]
  show q_D _ _ _ (true, 93, [some (.ref 31), none, some (.int 5), some (.long 210), none, some (.int 25), none], [.int 102, .int 25], (Ia5, Ja5, qcR_65, qcS_33 L, 33), 2, 21) = _
  refine (q_D_br (b := true) (p := (25 : Int32) < 102) (pa := 96) (pb := 154) (L := [some (.ref 31), none, some (.int 5), some (.long 210), none, some (.int 25), none]) (d := ([], (Ia5, Ja5, qcR_65, qcS_33 L, 33), 2, 21)) (La := [some (.ref 31), none, some (.int 5), some (.long 210), none, some (.int 25), none]) (Lb := [none, none, none, none, none, none, none]) 1 rfl rfl rfl).trans ?_
  rw [q_ck_tt, if_pos (by decide)]
  refine (q_D_br (b := true) (p := (5 : Int32) < 21) (pa := 102) (pb := 154) (L := [some (.ref 31), none, some (.int 5), some (.long 210), none, some (.int 25), none]) (d := ([], (Ia5, Ja5, qcR_65, qcS_33 L, 33), 2, 21)) (La := [some (.ref 31), none, some (.int 5), some (.long 210), none, some (.int 25), none]) (Lb := [none, none, none, none, none, none, none]) 3 rfl rfl rfl).trans ?_
  rw [q_ck_tt, if_pos (by decide)]
  refine (q_D_by (c' := (true, 106, [some (.ref 31), none, some (.int 5), some (.long 210), none, some (.int 25), none], [.int 25, .ref 1010], (Ia5, Ja5, qcR_65, qcS_33 L, 33), 2, 21)) 2 rfl).trans ?_
  refine (q_D_call (X := q_text5 [.ref 1010, .int 25] (Ia5, Ja5, qcR_65, qcS_33 L, 33)) (b := true) (pc := 109) (L := [some (.ref 31), none, some (.int 5), some (.long 210), none, some (.int 25), none]) (st := []) (ce := 2) (sl := 21) 0 (true, 106, [some (.ref 31), none, some (.int 5), some (.long 210), none, some (.int 25), none], [.int 25, .ref 1010], (Ia5, Ja5, qcR_65, qcS_33 L, 33), 2, 21) rfl rfl).trans ?_
  rw [q_ck_tt, q_tx5 25 111 rfl (by decide) (by decide)]
  show q_D _ _ _ (true, 109, [some (.ref 31), none, some (.int 5), some (.long 210), none, some (.int 25), none], [.int 111], (Ia5, Ja5, qcR_65, qcS_33 L, 33), 2, 21) = _
  refine (q_D_br (b := true) (p := (111 : Int32) = 32) (pa := 118) (pb := 133) (L := [some (.ref 31), none, some (.int 5), some (.long 210), none, some (.int 25), some (.int 111)]) (d := ([], (Ia5, Ja5, qcR_65, qcS_33 L, 33), 2, 21)) (La := [some (.ref 31), none, some (.int 5), some (.long 210), none, some (.int 25), none]) (Lb := [some (.ref 31), none, some (.int 5), some (.long 210), none, some (.int 25), some (.int 111)]) 4 rfl rfl rfl).trans ?_
  rw [q_ck_tt, if_neg (by decide)]
  refine (q_D_by (c' := (true, 147, [some (.ref 31), none, some (.int 5), some (.long 210), none, some (.int 25), some (.int 111)], [.long 6735], (Ia5, Ja5, qcR_65, qcS_33 L, 33), 2, 21)) 10 rfl).trans ?_
  refine (q_D_by (c' := (true, 90, [some (.ref 31), none, some (.int 5), some (.long 6735), none, some (.int 26), none], [.ref 1010, .int 26], (Ia5, Ja5, qcR_65, qcS_33 L, 33), 2, 21)) 5 rfl).trans ?_
  refine (q_D_call (X := q_text4 [.ref 1010] (Ia5, Ja5, qcR_65, qcS_33 L, 33)) (b := true) (pc := 93) (L := [some (.ref 31), none, some (.int 5), some (.long 6735), none, some (.int 26), none]) (st := [.int 26]) (ce := 2) (sl := 21) 0 (true, 90, [some (.ref 31), none, some (.int 5), some (.long 6735), none, some (.int 26), none], [.ref 1010, .int 26], (Ia5, Ja5, qcR_65, qcS_33 L, 33), 2, 21) rfl rfl).trans ?_
  rw [q_ck_tt, q_tx4 rfl]
  show q_D _ _ _ (true, 93, [some (.ref 31), none, some (.int 5), some (.long 6735), none, some (.int 26), none], [.int 102, .int 26], (Ia5, Ja5, qcR_65, qcS_33 L, 33), 2, 21) = _
  refine (q_D_br (b := true) (p := (26 : Int32) < 102) (pa := 96) (pb := 154) (L := [some (.ref 31), none, some (.int 5), some (.long 6735), none, some (.int 26), none]) (d := ([], (Ia5, Ja5, qcR_65, qcS_33 L, 33), 2, 21)) (La := [some (.ref 31), none, some (.int 5), some (.long 6735), none, some (.int 26), none]) (Lb := [none, none, none, none, none, none, none]) 1 rfl rfl rfl).trans ?_
  rw [q_ck_tt, if_pos (by decide)]
  refine (q_D_br (b := true) (p := (5 : Int32) < 21) (pa := 102) (pb := 154) (L := [some (.ref 31), none, some (.int 5), some (.long 6735), none, some (.int 26), none]) (d := ([], (Ia5, Ja5, qcR_65, qcS_33 L, 33), 2, 21)) (La := [some (.ref 31), none, some (.int 5), some (.long 6735), none, some (.int 26), none]) (Lb := [none, none, none, none, none, none, none]) 3 rfl rfl rfl).trans ?_
  rw [q_ck_tt, if_pos (by decide)]
  refine (q_D_by (c' := (true, 106, [some (.ref 31), none, some (.int 5), some (.long 6735), none, some (.int 26), none], [.int 26, .ref 1010], (Ia5, Ja5, qcR_65, qcS_33 L, 33), 2, 21)) 2 rfl).trans ?_
  refine (q_D_call (X := q_text5 [.ref 1010, .int 26] (Ia5, Ja5, qcR_65, qcS_33 L, 33)) (b := true) (pc := 109) (L := [some (.ref 31), none, some (.int 5), some (.long 6735), none, some (.int 26), none]) (st := []) (ce := 2) (sl := 21) 0 (true, 106, [some (.ref 31), none, some (.int 5), some (.long 6735), none, some (.int 26), none], [.int 26, .ref 1010], (Ia5, Ja5, qcR_65, qcS_33 L, 33), 2, 21) rfl rfl).trans ?_
  rw [q_ck_tt, q_tx5 26 109 rfl (by decide) (by decide)]
  show q_D _ _ _ (true, 109, [some (.ref 31), none, some (.int 5), some (.long 6735), none, some (.int 26), none], [.int 109], (Ia5, Ja5, qcR_65, qcS_33 L, 33), 2, 21) = _
  refine (q_D_br (b := true) (p := (109 : Int32) = 32) (pa := 118) (pb := 133) (L := [some (.ref 31), none, some (.int 5), some (.long 6735), none, some (.int 26), some (.int 109)]) (d := ([], (Ia5, Ja5, qcR_65, qcS_33 L, 33), 2, 21)) (La := [some (.ref 31), none, some (.int 5), some (.long 6735), none, some (.int 26), none]) (Lb := [some (.ref 31), none, some (.int 5), some (.long 6735), none, some (.int 26), some (.int 109)]) 4 rfl rfl rfl).trans ?_
  rw [q_ck_tt, if_neg (by decide)]
  refine (q_D_by (c' := (true, 147, [some (.ref 31), none, some (.int 5), some (.long 6735), none, some (.int 26), some (.int 109)], [.long 215533], (Ia5, Ja5, qcR_65, qcS_33 L, 33), 2, 21)) 10 rfl).trans ?_
  refine (q_D_by (c' := (true, 90, [some (.ref 31), none, some (.int 5), some (.long 215533), none, some (.int 27), none], [.ref 1010, .int 27], (Ia5, Ja5, qcR_65, qcS_33 L, 33), 2, 21)) 5 rfl).trans ?_
  refine (q_D_call (X := q_text4 [.ref 1010] (Ia5, Ja5, qcR_65, qcS_33 L, 33)) (b := true) (pc := 93) (L := [some (.ref 31), none, some (.int 5), some (.long 215533), none, some (.int 27), none]) (st := [.int 27]) (ce := 2) (sl := 21) 0 (true, 90, [some (.ref 31), none, some (.int 5), some (.long 215533), none, some (.int 27), none], [.ref 1010, .int 27], (Ia5, Ja5, qcR_65, qcS_33 L, 33), 2, 21) rfl rfl).trans ?_
  rw [q_ck_tt, q_tx4 rfl]
  show q_D _ _ _ (true, 93, [some (.ref 31), none, some (.int 5), some (.long 215533), none, some (.int 27), none], [.int 102, .int 27], (Ia5, Ja5, qcR_65, qcS_33 L, 33), 2, 21) = _
  refine (q_D_br (b := true) (p := (27 : Int32) < 102) (pa := 96) (pb := 154) (L := [some (.ref 31), none, some (.int 5), some (.long 215533), none, some (.int 27), none]) (d := ([], (Ia5, Ja5, qcR_65, qcS_33 L, 33), 2, 21)) (La := [some (.ref 31), none, some (.int 5), some (.long 215533), none, some (.int 27), none]) (Lb := [none, none, none, none, none, none, none]) 1 rfl rfl rfl).trans ?_
  rw [q_ck_tt, if_pos (by decide)]
  refine (q_D_br (b := true) (p := (5 : Int32) < 21) (pa := 102) (pb := 154) (L := [some (.ref 31), none, some (.int 5), some (.long 215533), none, some (.int 27), none]) (d := ([], (Ia5, Ja5, qcR_65, qcS_33 L, 33), 2, 21)) (La := [some (.ref 31), none, some (.int 5), some (.long 215533), none, some (.int 27), none]) (Lb := [none, none, none, none, none, none, none]) 3 rfl rfl rfl).trans ?_
  rw [q_ck_tt, if_pos (by decide)]
  refine (q_D_by (c' := (true, 106, [some (.ref 31), none, some (.int 5), some (.long 215533), none, some (.int 27), none], [.int 27, .ref 1010], (Ia5, Ja5, qcR_65, qcS_33 L, 33), 2, 21)) 2 rfl).trans ?_
  refine (q_D_call (X := q_text5 [.ref 1010, .int 27] (Ia5, Ja5, qcR_65, qcS_33 L, 33)) (b := true) (pc := 109) (L := [some (.ref 31), none, some (.int 5), some (.long 215533), none, some (.int 27), none]) (st := []) (ce := 2) (sl := 21) 0 (true, 106, [some (.ref 31), none, some (.int 5), some (.long 215533), none, some (.int 27), none], [.int 27, .ref 1010], (Ia5, Ja5, qcR_65, qcS_33 L, 33), 2, 21) rfl rfl).trans ?_
  rw [q_ck_tt, q_tx5 27 32 rfl (by decide) (by decide)]
  show q_D _ _ _ (true, 109, [some (.ref 31), none, some (.int 5), some (.long 215533), none, some (.int 27), none], [.int 32], (Ia5, Ja5, qcR_65, qcS_33 L, 33), 2, 21) = _
  refine (q_D_br (b := true) (p := (32 : Int32) = 32) (pa := 118) (pb := 133) (L := [some (.ref 31), none, some (.int 5), some (.long 215533), none, some (.int 27), some (.int 32)]) (d := ([], (Ia5, Ja5, qcR_65, qcS_33 L, 33), 2, 21)) (La := [some (.ref 31), none, some (.int 5), some (.long 215533), none, some (.int 27), none]) (Lb := [some (.ref 31), none, some (.int 5), some (.long 215533), none, some (.int 27), some (.int 32)]) 4 rfl rfl rfl).trans ?_
  rw [q_ck_tt, if_pos (by decide)]
  refine (q_D_by (c' := (true, 125, [some (.ref 31), none, some (.int 5), some (.long 215533), none, some (.int 27), none], [], (Ia5, (q_up Ja5 32 5 215533), qcR_65, qcS_33 L, 33), 2, 21)) 5 rfl).trans ?_
  rw [← ea6, ← ja6]
  refine (q_D_by (c' := (true, 90, [some (.ref 31), none, some (.int 6), some (.long 0), none, some (.int 28), none], [.ref 1010, .int 28], (Ia6, Ja6, qcR_65, qcS_33 L, 33), 2, 21)) 8 rfl).trans ?_
  refine (q_D_call (X := q_text4 [.ref 1010] (Ia6, Ja6, qcR_65, qcS_33 L, 33)) (b := true) (pc := 93) (L := [some (.ref 31), none, some (.int 6), some (.long 0), none, some (.int 28), none]) (st := [.int 28]) (ce := 2) (sl := 21) 0 (true, 90, [some (.ref 31), none, some (.int 6), some (.long 0), none, some (.int 28), none], [.ref 1010, .int 28], (Ia6, Ja6, qcR_65, qcS_33 L, 33), 2, 21) rfl rfl).trans ?_
  rw [q_ck_tt, q_tx4 rfl]
  show q_D _ _ _ (true, 93, [some (.ref 31), none, some (.int 6), some (.long 0), none, some (.int 28), none], [.int 102, .int 28], (Ia6, Ja6, qcR_65, qcS_33 L, 33), 2, 21) = _
  refine (q_D_br (b := true) (p := (28 : Int32) < 102) (pa := 96) (pb := 154) (L := [some (.ref 31), none, some (.int 6), some (.long 0), none, some (.int 28), none]) (d := ([], (Ia6, Ja6, qcR_65, qcS_33 L, 33), 2, 21)) (La := [some (.ref 31), none, some (.int 6), some (.long 0), none, some (.int 28), none]) (Lb := [none, none, none, none, none, none, none]) 1 rfl rfl rfl).trans ?_
  rw [q_ck_tt, if_pos (by decide)]
  refine (q_D_br (b := true) (p := (6 : Int32) < 21) (pa := 102) (pb := 154) (L := [some (.ref 31), none, some (.int 6), some (.long 0), none, some (.int 28), none]) (d := ([], (Ia6, Ja6, qcR_65, qcS_33 L, 33), 2, 21)) (La := [some (.ref 31), none, some (.int 6), some (.long 0), none, some (.int 28), none]) (Lb := [none, none, none, none, none, none, none]) 3 rfl rfl rfl).trans ?_
  rw [q_ck_tt, if_pos (by decide)]
  refine (q_D_by (c' := (true, 106, [some (.ref 31), none, some (.int 6), some (.long 0), none, some (.int 28), none], [.int 28, .ref 1010], (Ia6, Ja6, qcR_65, qcS_33 L, 33), 2, 21)) 2 rfl).trans ?_
  refine (q_D_call (X := q_text5 [.ref 1010, .int 28] (Ia6, Ja6, qcR_65, qcS_33 L, 33)) (b := true) (pc := 109) (L := [some (.ref 31), none, some (.int 6), some (.long 0), none, some (.int 28), none]) (st := []) (ce := 2) (sl := 21) 0 (true, 106, [some (.ref 31), none, some (.int 6), some (.long 0), none, some (.int 28), none], [.int 28, .ref 1010], (Ia6, Ja6, qcR_65, qcS_33 L, 33), 2, 21) rfl rfl).trans ?_
  rw [q_ck_tt, q_tx5 28 97 rfl (by decide) (by decide)]
  show q_D _ _ _ (true, 109, [some (.ref 31), none, some (.int 6), some (.long 0), none, some (.int 28), none], [.int 97], (Ia6, Ja6, qcR_65, qcS_33 L, 33), 2, 21) = _
  refine (q_D_br (b := true) (p := (97 : Int32) = 32) (pa := 118) (pb := 133) (L := [some (.ref 31), none, some (.int 6), some (.long 0), none, some (.int 28), some (.int 97)]) (d := ([], (Ia6, Ja6, qcR_65, qcS_33 L, 33), 2, 21)) (La := [some (.ref 31), none, some (.int 6), some (.long 0), none, some (.int 28), none]) (Lb := [some (.ref 31), none, some (.int 6), some (.long 0), none, some (.int 28), some (.int 97)]) 4 rfl rfl rfl).trans ?_
  rw [q_ck_tt, if_neg (by decide)]
  refine (q_D_by (c' := (true, 147, [some (.ref 31), none, some (.int 6), some (.long 0), none, some (.int 28), some (.int 97)], [.long 1], (Ia6, Ja6, qcR_65, qcS_33 L, 33), 2, 21)) 10 rfl).trans ?_
  refine (q_D_by (c' := (true, 90, [some (.ref 31), none, some (.int 6), some (.long 1), none, some (.int 29), none], [.ref 1010, .int 29], (Ia6, Ja6, qcR_65, qcS_33 L, 33), 2, 21)) 5 rfl).trans ?_
  refine (q_D_call (X := q_text4 [.ref 1010] (Ia6, Ja6, qcR_65, qcS_33 L, 33)) (b := true) (pc := 93) (L := [some (.ref 31), none, some (.int 6), some (.long 1), none, some (.int 29), none]) (st := [.int 29]) (ce := 2) (sl := 21) 0 (true, 90, [some (.ref 31), none, some (.int 6), some (.long 1), none, some (.int 29), none], [.ref 1010, .int 29], (Ia6, Ja6, qcR_65, qcS_33 L, 33), 2, 21) rfl rfl).trans ?_
  rw [q_ck_tt, q_tx4 rfl]
  show q_D _ _ _ (true, 93, [some (.ref 31), none, some (.int 6), some (.long 1), none, some (.int 29), none], [.int 102, .int 29], (Ia6, Ja6, qcR_65, qcS_33 L, 33), 2, 21) = _
  refine (q_D_br (b := true) (p := (29 : Int32) < 102) (pa := 96) (pb := 154) (L := [some (.ref 31), none, some (.int 6), some (.long 1), none, some (.int 29), none]) (d := ([], (Ia6, Ja6, qcR_65, qcS_33 L, 33), 2, 21)) (La := [some (.ref 31), none, some (.int 6), some (.long 1), none, some (.int 29), none]) (Lb := [none, none, none, none, none, none, none]) 1 rfl rfl rfl).trans ?_
  rw [q_ck_tt, if_pos (by decide)]
  refine (q_D_br (b := true) (p := (6 : Int32) < 21) (pa := 102) (pb := 154) (L := [some (.ref 31), none, some (.int 6), some (.long 1), none, some (.int 29), none]) (d := ([], (Ia6, Ja6, qcR_65, qcS_33 L, 33), 2, 21)) (La := [some (.ref 31), none, some (.int 6), some (.long 1), none, some (.int 29), none]) (Lb := [none, none, none, none, none, none, none]) 3 rfl rfl rfl).trans ?_
  rw [q_ck_tt, if_pos (by decide)]
  refine (q_D_by (c' := (true, 106, [some (.ref 31), none, some (.int 6), some (.long 1), none, some (.int 29), none], [.int 29, .ref 1010], (Ia6, Ja6, qcR_65, qcS_33 L, 33), 2, 21)) 2 rfl).trans ?_
  refine (q_D_call (X := q_text5 [.ref 1010, .int 29] (Ia6, Ja6, qcR_65, qcS_33 L, 33)) (b := true) (pc := 109) (L := [some (.ref 31), none, some (.int 6), some (.long 1), none, some (.int 29), none]) (st := []) (ce := 2) (sl := 21) 0 (true, 106, [some (.ref 31), none, some (.int 6), some (.long 1), none, some (.int 29), none], [.int 29, .ref 1010], (Ia6, Ja6, qcR_65, qcS_33 L, 33), 2, 21) rfl rfl).trans ?_
  rw [q_ck_tt, q_tx5 29 110 rfl (by decide) (by decide)]
  show q_D _ _ _ (true, 109, [some (.ref 31), none, some (.int 6), some (.long 1), none, some (.int 29), none], [.int 110], (Ia6, Ja6, qcR_65, qcS_33 L, 33), 2, 21) = _
  refine (q_D_br (b := true) (p := (110 : Int32) = 32) (pa := 118) (pb := 133) (L := [some (.ref 31), none, some (.int 6), some (.long 1), none, some (.int 29), some (.int 110)]) (d := ([], (Ia6, Ja6, qcR_65, qcS_33 L, 33), 2, 21)) (La := [some (.ref 31), none, some (.int 6), some (.long 1), none, some (.int 29), none]) (Lb := [some (.ref 31), none, some (.int 6), some (.long 1), none, some (.int 29), some (.int 110)]) 4 rfl rfl rfl).trans ?_
  rw [q_ck_tt, if_neg (by decide)]
  refine (q_D_by (c' := (true, 147, [some (.ref 31), none, some (.int 6), some (.long 1), none, some (.int 29), some (.int 110)], [.long 46], (Ia6, Ja6, qcR_65, qcS_33 L, 33), 2, 21)) 10 rfl).trans ?_
  refine (q_D_by (c' := (true, 90, [some (.ref 31), none, some (.int 6), some (.long 46), none, some (.int 30), none], [.ref 1010, .int 30], (Ia6, Ja6, qcR_65, qcS_33 L, 33), 2, 21)) 5 rfl).trans ?_
  refine (q_D_call (X := q_text4 [.ref 1010] (Ia6, Ja6, qcR_65, qcS_33 L, 33)) (b := true) (pc := 93) (L := [some (.ref 31), none, some (.int 6), some (.long 46), none, some (.int 30), none]) (st := [.int 30]) (ce := 2) (sl := 21) 0 (true, 90, [some (.ref 31), none, some (.int 6), some (.long 46), none, some (.int 30), none], [.ref 1010, .int 30], (Ia6, Ja6, qcR_65, qcS_33 L, 33), 2, 21) rfl rfl).trans ?_
  rw [q_ck_tt, q_tx4 rfl]
  show q_D _ _ _ (true, 93, [some (.ref 31), none, some (.int 6), some (.long 46), none, some (.int 30), none], [.int 102, .int 30], (Ia6, Ja6, qcR_65, qcS_33 L, 33), 2, 21) = _
  refine (q_D_br (b := true) (p := (30 : Int32) < 102) (pa := 96) (pb := 154) (L := [some (.ref 31), none, some (.int 6), some (.long 46), none, some (.int 30), none]) (d := ([], (Ia6, Ja6, qcR_65, qcS_33 L, 33), 2, 21)) (La := [some (.ref 31), none, some (.int 6), some (.long 46), none, some (.int 30), none]) (Lb := [none, none, none, none, none, none, none]) 1 rfl rfl rfl).trans ?_
  rw [q_ck_tt, if_pos (by decide)]
  refine (q_D_br (b := true) (p := (6 : Int32) < 21) (pa := 102) (pb := 154) (L := [some (.ref 31), none, some (.int 6), some (.long 46), none, some (.int 30), none]) (d := ([], (Ia6, Ja6, qcR_65, qcS_33 L, 33), 2, 21)) (La := [some (.ref 31), none, some (.int 6), some (.long 46), none, some (.int 30), none]) (Lb := [none, none, none, none, none, none, none]) 3 rfl rfl rfl).trans ?_
  rw [q_ck_tt, if_pos (by decide)]
  refine (q_D_by (c' := (true, 106, [some (.ref 31), none, some (.int 6), some (.long 46), none, some (.int 30), none], [.int 30, .ref 1010], (Ia6, Ja6, qcR_65, qcS_33 L, 33), 2, 21)) 2 rfl).trans ?_
  refine (q_D_call (X := q_text5 [.ref 1010, .int 30] (Ia6, Ja6, qcR_65, qcS_33 L, 33)) (b := true) (pc := 109) (L := [some (.ref 31), none, some (.int 6), some (.long 46), none, some (.int 30), none]) (st := []) (ce := 2) (sl := 21) 0 (true, 106, [some (.ref 31), none, some (.int 6), some (.long 46), none, some (.int 30), none], [.int 30, .ref 1010], (Ia6, Ja6, qcR_65, qcS_33 L, 33), 2, 21) rfl rfl).trans ?_
  rw [q_ck_tt, q_tx5 30 100 rfl (by decide) (by decide)]
  show q_D _ _ _ (true, 109, [some (.ref 31), none, some (.int 6), some (.long 46), none, some (.int 30), none], [.int 100], (Ia6, Ja6, qcR_65, qcS_33 L, 33), 2, 21) = _
  refine (q_D_br (b := true) (p := (100 : Int32) = 32) (pa := 118) (pb := 133) (L := [some (.ref 31), none, some (.int 6), some (.long 46), none, some (.int 30), some (.int 100)]) (d := ([], (Ia6, Ja6, qcR_65, qcS_33 L, 33), 2, 21)) (La := [some (.ref 31), none, some (.int 6), some (.long 46), none, some (.int 30), none]) (Lb := [some (.ref 31), none, some (.int 6), some (.long 46), none, some (.int 30), some (.int 100)]) 4 rfl rfl rfl).trans ?_
  rw [q_ck_tt, if_neg (by decide)]
  refine (q_D_by (c' := (true, 147, [some (.ref 31), none, some (.int 6), some (.long 46), none, some (.int 30), some (.int 100)], [.long 1476], (Ia6, Ja6, qcR_65, qcS_33 L, 33), 2, 21)) 10 rfl).trans ?_
  refine (q_D_by (c' := (true, 90, [some (.ref 31), none, some (.int 6), some (.long 1476), none, some (.int 31), none], [.ref 1010, .int 31], (Ia6, Ja6, qcR_65, qcS_33 L, 33), 2, 21)) 5 rfl).trans ?_
  refine (q_D_call (X := q_text4 [.ref 1010] (Ia6, Ja6, qcR_65, qcS_33 L, 33)) (b := true) (pc := 93) (L := [some (.ref 31), none, some (.int 6), some (.long 1476), none, some (.int 31), none]) (st := [.int 31]) (ce := 2) (sl := 21) 0 (true, 90, [some (.ref 31), none, some (.int 6), some (.long 1476), none, some (.int 31), none], [.ref 1010, .int 31], (Ia6, Ja6, qcR_65, qcS_33 L, 33), 2, 21) rfl rfl).trans ?_
  rw [q_ck_tt, q_tx4 rfl]
  show q_D _ _ _ (true, 93, [some (.ref 31), none, some (.int 6), some (.long 1476), none, some (.int 31), none], [.int 102, .int 31], (Ia6, Ja6, qcR_65, qcS_33 L, 33), 2, 21) = _
  refine (q_D_br (b := true) (p := (31 : Int32) < 102) (pa := 96) (pb := 154) (L := [some (.ref 31), none, some (.int 6), some (.long 1476), none, some (.int 31), none]) (d := ([], (Ia6, Ja6, qcR_65, qcS_33 L, 33), 2, 21)) (La := [some (.ref 31), none, some (.int 6), some (.long 1476), none, some (.int 31), none]) (Lb := [none, none, none, none, none, none, none]) 1 rfl rfl rfl).trans ?_
  rw [q_ck_tt, if_pos (by decide)]
  refine (q_D_br (b := true) (p := (6 : Int32) < 21) (pa := 102) (pb := 154) (L := [some (.ref 31), none, some (.int 6), some (.long 1476), none, some (.int 31), none]) (d := ([], (Ia6, Ja6, qcR_65, qcS_33 L, 33), 2, 21)) (La := [some (.ref 31), none, some (.int 6), some (.long 1476), none, some (.int 31), none]) (Lb := [none, none, none, none, none, none, none]) 3 rfl rfl rfl).trans ?_
  rw [q_ck_tt, if_pos (by decide)]
  refine (q_D_by (c' := (true, 106, [some (.ref 31), none, some (.int 6), some (.long 1476), none, some (.int 31), none], [.int 31, .ref 1010], (Ia6, Ja6, qcR_65, qcS_33 L, 33), 2, 21)) 2 rfl).trans ?_
  refine (q_D_call (X := q_text5 [.ref 1010, .int 31] (Ia6, Ja6, qcR_65, qcS_33 L, 33)) (b := true) (pc := 109) (L := [some (.ref 31), none, some (.int 6), some (.long 1476), none, some (.int 31), none]) (st := []) (ce := 2) (sl := 21) 0 (true, 106, [some (.ref 31), none, some (.int 6), some (.long 1476), none, some (.int 31), none], [.int 31, .ref 1010], (Ia6, Ja6, qcR_65, qcS_33 L, 33), 2, 21) rfl rfl).trans ?_
  rw [q_ck_tt, q_tx5 31 32 rfl (by decide) (by decide)]
  show q_D _ _ _ (true, 109, [some (.ref 31), none, some (.int 6), some (.long 1476), none, some (.int 31), none], [.int 32], (Ia6, Ja6, qcR_65, qcS_33 L, 33), 2, 21) = _
  refine (q_D_br (b := true) (p := (32 : Int32) = 32) (pa := 118) (pb := 133) (L := [some (.ref 31), none, some (.int 6), some (.long 1476), none, some (.int 31), some (.int 32)]) (d := ([], (Ia6, Ja6, qcR_65, qcS_33 L, 33), 2, 21)) (La := [some (.ref 31), none, some (.int 6), some (.long 1476), none, some (.int 31), none]) (Lb := [some (.ref 31), none, some (.int 6), some (.long 1476), none, some (.int 31), some (.int 32)]) 4 rfl rfl rfl).trans ?_
  rw [q_ck_tt, if_pos (by decide)]
  refine (q_D_by (c' := (true, 125, [some (.ref 31), none, some (.int 6), some (.long 1476), none, some (.int 31), none], [], (Ia6, (q_up Ja6 32 6 1476), qcR_65, qcS_33 L, 33), 2, 21)) 5 rfl).trans ?_
  rw [← ea7, ← ja7]
  refine (q_D_by (c' := (true, 90, [some (.ref 31), none, some (.int 7), some (.long 0), none, some (.int 32), none], [.ref 1010, .int 32], (Ia7, Ja7, qcR_65, qcS_33 L, 33), 2, 21)) 8 rfl).trans ?_
  refine (q_D_call (X := q_text4 [.ref 1010] (Ia7, Ja7, qcR_65, qcS_33 L, 33)) (b := true) (pc := 93) (L := [some (.ref 31), none, some (.int 7), some (.long 0), none, some (.int 32), none]) (st := [.int 32]) (ce := 2) (sl := 21) 0 (true, 90, [some (.ref 31), none, some (.int 7), some (.long 0), none, some (.int 32), none], [.ref 1010, .int 32], (Ia7, Ja7, qcR_65, qcS_33 L, 33), 2, 21) rfl rfl).trans ?_
  rw [q_ck_tt, q_tx4 rfl]
  show q_D _ _ _ (true, 93, [some (.ref 31), none, some (.int 7), some (.long 0), none, some (.int 32), none], [.int 102, .int 32], (Ia7, Ja7, qcR_65, qcS_33 L, 33), 2, 21) = _
  refine (q_D_br (b := true) (p := (32 : Int32) < 102) (pa := 96) (pb := 154) (L := [some (.ref 31), none, some (.int 7), some (.long 0), none, some (.int 32), none]) (d := ([], (Ia7, Ja7, qcR_65, qcS_33 L, 33), 2, 21)) (La := [some (.ref 31), none, some (.int 7), some (.long 0), none, some (.int 32), none]) (Lb := [none, none, none, none, none, none, none]) 1 rfl rfl rfl).trans ?_
  rw [q_ck_tt, if_pos (by decide)]
  refine (q_D_br (b := true) (p := (7 : Int32) < 21) (pa := 102) (pb := 154) (L := [some (.ref 31), none, some (.int 7), some (.long 0), none, some (.int 32), none]) (d := ([], (Ia7, Ja7, qcR_65, qcS_33 L, 33), 2, 21)) (La := [some (.ref 31), none, some (.int 7), some (.long 0), none, some (.int 32), none]) (Lb := [none, none, none, none, none, none, none]) 3 rfl rfl rfl).trans ?_
  rw [q_ck_tt, if_pos (by decide)]
  refine (q_D_by (c' := (true, 106, [some (.ref 31), none, some (.int 7), some (.long 0), none, some (.int 32), none], [.int 32, .ref 1010], (Ia7, Ja7, qcR_65, qcS_33 L, 33), 2, 21)) 2 rfl).trans ?_
  refine (q_D_call (X := q_text5 [.ref 1010, .int 32] (Ia7, Ja7, qcR_65, qcS_33 L, 33)) (b := true) (pc := 109) (L := [some (.ref 31), none, some (.int 7), some (.long 0), none, some (.int 32), none]) (st := []) (ce := 2) (sl := 21) 0 (true, 106, [some (.ref 31), none, some (.int 7), some (.long 0), none, some (.int 32), none], [.int 32, .ref 1010], (Ia7, Ja7, qcR_65, qcS_33 L, 33), 2, 21) rfl rfl).trans ?_
  rw [q_ck_tt, q_tx5 32 116 rfl (by decide) (by decide)]
  show q_D _ _ _ (true, 109, [some (.ref 31), none, some (.int 7), some (.long 0), none, some (.int 32), none], [.int 116], (Ia7, Ja7, qcR_65, qcS_33 L, 33), 2, 21) = _
  refine (q_D_br (b := true) (p := (116 : Int32) = 32) (pa := 118) (pb := 133) (L := [some (.ref 31), none, some (.int 7), some (.long 0), none, some (.int 32), some (.int 116)]) (d := ([], (Ia7, Ja7, qcR_65, qcS_33 L, 33), 2, 21)) (La := [some (.ref 31), none, some (.int 7), some (.long 0), none, some (.int 32), none]) (Lb := [some (.ref 31), none, some (.int 7), some (.long 0), none, some (.int 32), some (.int 116)]) 4 rfl rfl rfl).trans ?_
  rw [q_ck_tt, if_neg (by decide)]
  refine (q_D_by (c' := (true, 147, [some (.ref 31), none, some (.int 7), some (.long 0), none, some (.int 32), some (.int 116)], [.long 20], (Ia7, Ja7, qcR_65, qcS_33 L, 33), 2, 21)) 10 rfl).trans ?_
  refine (q_D_by (c' := (true, 90, [some (.ref 31), none, some (.int 7), some (.long 20), none, some (.int 33), none], [.ref 1010, .int 33], (Ia7, Ja7, qcR_65, qcS_33 L, 33), 2, 21)) 5 rfl).trans ?_
  refine (q_D_call (X := q_text4 [.ref 1010] (Ia7, Ja7, qcR_65, qcS_33 L, 33)) (b := true) (pc := 93) (L := [some (.ref 31), none, some (.int 7), some (.long 20), none, some (.int 33), none]) (st := [.int 33]) (ce := 2) (sl := 21) 0 (true, 90, [some (.ref 31), none, some (.int 7), some (.long 20), none, some (.int 33), none], [.ref 1010, .int 33], (Ia7, Ja7, qcR_65, qcS_33 L, 33), 2, 21) rfl rfl).trans ?_
  rw [q_ck_tt, q_tx4 rfl]
  show q_D _ _ _ (true, 93, [some (.ref 31), none, some (.int 7), some (.long 20), none, some (.int 33), none], [.int 102, .int 33], (Ia7, Ja7, qcR_65, qcS_33 L, 33), 2, 21) = _
  refine (q_D_br (b := true) (p := (33 : Int32) < 102) (pa := 96) (pb := 154) (L := [some (.ref 31), none, some (.int 7), some (.long 20), none, some (.int 33), none]) (d := ([], (Ia7, Ja7, qcR_65, qcS_33 L, 33), 2, 21)) (La := [some (.ref 31), none, some (.int 7), some (.long 20), none, some (.int 33), none]) (Lb := [none, none, none, none, none, none, none]) 1 rfl rfl rfl).trans ?_
  rw [q_ck_tt, if_pos (by decide)]
  refine (q_D_br (b := true) (p := (7 : Int32) < 21) (pa := 102) (pb := 154) (L := [some (.ref 31), none, some (.int 7), some (.long 20), none, some (.int 33), none]) (d := ([], (Ia7, Ja7, qcR_65, qcS_33 L, 33), 2, 21)) (La := [some (.ref 31), none, some (.int 7), some (.long 20), none, some (.int 33), none]) (Lb := [none, none, none, none, none, none, none]) 3 rfl rfl rfl).trans ?_
  rw [q_ck_tt, if_pos (by decide)]
  refine (q_D_by (c' := (true, 106, [some (.ref 31), none, some (.int 7), some (.long 20), none, some (.int 33), none], [.int 33, .ref 1010], (Ia7, Ja7, qcR_65, qcS_33 L, 33), 2, 21)) 2 rfl).trans ?_
  refine (q_D_call (X := q_text5 [.ref 1010, .int 33] (Ia7, Ja7, qcR_65, qcS_33 L, 33)) (b := true) (pc := 109) (L := [some (.ref 31), none, some (.int 7), some (.long 20), none, some (.int 33), none]) (st := []) (ce := 2) (sl := 21) 0 (true, 106, [some (.ref 31), none, some (.int 7), some (.long 20), none, some (.int 33), none], [.int 33, .ref 1010], (Ia7, Ja7, qcR_65, qcS_33 L, 33), 2, 21) rfl rfl).trans ?_
  rw [q_ck_tt, q_tx5 33 111 rfl (by decide) (by decide)]
  show q_D _ _ _ (true, 109, [some (.ref 31), none, some (.int 7), some (.long 20), none, some (.int 33), none], [.int 111], (Ia7, Ja7, qcR_65, qcS_33 L, 33), 2, 21) = _
  refine (q_D_br (b := true) (p := (111 : Int32) = 32) (pa := 118) (pb := 133) (L := [some (.ref 31), none, some (.int 7), some (.long 20), none, some (.int 33), some (.int 111)]) (d := ([], (Ia7, Ja7, qcR_65, qcS_33 L, 33), 2, 21)) (La := [some (.ref 31), none, some (.int 7), some (.long 20), none, some (.int 33), none]) (Lb := [some (.ref 31), none, some (.int 7), some (.long 20), none, some (.int 33), some (.int 111)]) 4 rfl rfl rfl).trans ?_
  rw [q_ck_tt, if_neg (by decide)]
  refine (q_D_by (c' := (true, 147, [some (.ref 31), none, some (.int 7), some (.long 20), none, some (.int 33), some (.int 111)], [.long 655], (Ia7, Ja7, qcR_65, qcS_33 L, 33), 2, 21)) 10 rfl).trans ?_
  refine (q_D_by (c' := (true, 90, [some (.ref 31), none, some (.int 7), some (.long 655), none, some (.int 34), none], [.ref 1010, .int 34], (Ia7, Ja7, qcR_65, qcS_33 L, 33), 2, 21)) 5 rfl).trans ?_
  refine (q_D_call (X := q_text4 [.ref 1010] (Ia7, Ja7, qcR_65, qcS_33 L, 33)) (b := true) (pc := 93) (L := [some (.ref 31), none, some (.int 7), some (.long 655), none, some (.int 34), none]) (st := [.int 34]) (ce := 2) (sl := 21) 0 (true, 90, [some (.ref 31), none, some (.int 7), some (.long 655), none, some (.int 34), none], [.ref 1010, .int 34], (Ia7, Ja7, qcR_65, qcS_33 L, 33), 2, 21) rfl rfl).trans ?_
  rw [q_ck_tt, q_tx4 rfl]
  show q_D _ _ _ (true, 93, [some (.ref 31), none, some (.int 7), some (.long 655), none, some (.int 34), none], [.int 102, .int 34], (Ia7, Ja7, qcR_65, qcS_33 L, 33), 2, 21) = _
  refine (q_D_br (b := true) (p := (34 : Int32) < 102) (pa := 96) (pb := 154) (L := [some (.ref 31), none, some (.int 7), some (.long 655), none, some (.int 34), none]) (d := ([], (Ia7, Ja7, qcR_65, qcS_33 L, 33), 2, 21)) (La := [some (.ref 31), none, some (.int 7), some (.long 655), none, some (.int 34), none]) (Lb := [none, none, none, none, none, none, none]) 1 rfl rfl rfl).trans ?_
  rw [q_ck_tt, if_pos (by decide)]
  refine (q_D_br (b := true) (p := (7 : Int32) < 21) (pa := 102) (pb := 154) (L := [some (.ref 31), none, some (.int 7), some (.long 655), none, some (.int 34), none]) (d := ([], (Ia7, Ja7, qcR_65, qcS_33 L, 33), 2, 21)) (La := [some (.ref 31), none, some (.int 7), some (.long 655), none, some (.int 34), none]) (Lb := [none, none, none, none, none, none, none]) 3 rfl rfl rfl).trans ?_
  rw [q_ck_tt, if_pos (by decide)]
  refine (q_D_by (c' := (true, 106, [some (.ref 31), none, some (.int 7), some (.long 655), none, some (.int 34), none], [.int 34, .ref 1010], (Ia7, Ja7, qcR_65, qcS_33 L, 33), 2, 21)) 2 rfl).trans ?_
  refine (q_D_call (X := q_text5 [.ref 1010, .int 34] (Ia7, Ja7, qcR_65, qcS_33 L, 33)) (b := true) (pc := 109) (L := [some (.ref 31), none, some (.int 7), some (.long 655), none, some (.int 34), none]) (st := []) (ce := 2) (sl := 21) 0 (true, 106, [some (.ref 31), none, some (.int 7), some (.long 655), none, some (.int 34), none], [.int 34, .ref 1010], (Ia7, Ja7, qcR_65, qcS_33 L, 33), 2, 21) rfl rfl).trans ?_
  rw [q_ck_tt, q_tx5 34 32 rfl (by decide) (by decide)]
  show q_D _ _ _ (true, 109, [some (.ref 31), none, some (.int 7), some (.long 655), none, some (.int 34), none], [.int 32], (Ia7, Ja7, qcR_65, qcS_33 L, 33), 2, 21) = _
  refine (q_D_br (b := true) (p := (32 : Int32) = 32) (pa := 118) (pb := 133) (L := [some (.ref 31), none, some (.int 7), some (.long 655), none, some (.int 34), some (.int 32)]) (d := ([], (Ia7, Ja7, qcR_65, qcS_33 L, 33), 2, 21)) (La := [some (.ref 31), none, some (.int 7), some (.long 655), none, some (.int 34), none]) (Lb := [some (.ref 31), none, some (.int 7), some (.long 655), none, some (.int 34), some (.int 32)]) 4 rfl rfl rfl).trans ?_
  rw [q_ck_tt, if_pos (by decide)]
  refine (q_D_by (c' := (true, 125, [some (.ref 31), none, some (.int 7), some (.long 655), none, some (.int 34), none], [], (Ia7, (q_up Ja7 32 7 655), qcR_65, qcS_33 L, 33), 2, 21)) 5 rfl).trans ?_
  rw [← ea8, ← ja8]
  refine (q_D_by (c' := (true, 90, [some (.ref 31), none, some (.int 8), some (.long 0), none, some (.int 35), none], [.ref 1010, .int 35], (Ia8, Ja8, qcR_65, qcS_33 L, 33), 2, 21)) 8 rfl).trans ?_
  refine (q_D_call (X := q_text4 [.ref 1010] (Ia8, Ja8, qcR_65, qcS_33 L, 33)) (b := true) (pc := 93) (L := [some (.ref 31), none, some (.int 8), some (.long 0), none, some (.int 35), none]) (st := [.int 35]) (ce := 2) (sl := 21) 0 (true, 90, [some (.ref 31), none, some (.int 8), some (.long 0), none, some (.int 35), none], [.ref 1010, .int 35], (Ia8, Ja8, qcR_65, qcS_33 L, 33), 2, 21) rfl rfl).trans ?_
  rw [q_ck_tt, q_tx4 rfl]
  show q_D _ _ _ (true, 93, [some (.ref 31), none, some (.int 8), some (.long 0), none, some (.int 35), none], [.int 102, .int 35], (Ia8, Ja8, qcR_65, qcS_33 L, 33), 2, 21) = _
  refine (q_D_br (b := true) (p := (35 : Int32) < 102) (pa := 96) (pb := 154) (L := [some (.ref 31), none, some (.int 8), some (.long 0), none, some (.int 35), none]) (d := ([], (Ia8, Ja8, qcR_65, qcS_33 L, 33), 2, 21)) (La := [some (.ref 31), none, some (.int 8), some (.long 0), none, some (.int 35), none]) (Lb := [none, none, none, none, none, none, none]) 1 rfl rfl rfl).trans ?_
  rw [q_ck_tt, if_pos (by decide)]
  refine (q_D_br (b := true) (p := (8 : Int32) < 21) (pa := 102) (pb := 154) (L := [some (.ref 31), none, some (.int 8), some (.long 0), none, some (.int 35), none]) (d := ([], (Ia8, Ja8, qcR_65, qcS_33 L, 33), 2, 21)) (La := [some (.ref 31), none, some (.int 8), some (.long 0), none, some (.int 35), none]) (Lb := [none, none, none, none, none, none, none]) 3 rfl rfl rfl).trans ?_
  rw [q_ck_tt, if_pos (by decide)]
  refine (q_D_by (c' := (true, 106, [some (.ref 31), none, some (.int 8), some (.long 0), none, some (.int 35), none], [.int 35, .ref 1010], (Ia8, Ja8, qcR_65, qcS_33 L, 33), 2, 21)) 2 rfl).trans ?_
  refine (q_D_call (X := q_text5 [.ref 1010, .int 35] (Ia8, Ja8, qcR_65, qcS_33 L, 33)) (b := true) (pc := 109) (L := [some (.ref 31), none, some (.int 8), some (.long 0), none, some (.int 35), none]) (st := []) (ce := 2) (sl := 21) 0 (true, 106, [some (.ref 31), none, some (.int 8), some (.long 0), none, some (.int 35), none], [.int 35, .ref 1010], (Ia8, Ja8, qcR_65, qcS_33 L, 33), 2, 21) rfl rfl).trans ?_
  rw [q_ck_tt, q_tx5 35 115 rfl (by decide) (by decide)]
  show q_D _ _ _ (true, 109, [some (.ref 31), none, some (.int 8), some (.long 0), none, some (.int 35), none], [.int 115], (Ia8, Ja8, qcR_65, qcS_33 L, 33), 2, 21) = _
  refine (q_D_br (b := true) (p := (115 : Int32) = 32) (pa := 118) (pb := 133) (L := [some (.ref 31), none, some (.int 8), some (.long 0), none, some (.int 35), some (.int 115)]) (d := ([], (Ia8, Ja8, qcR_65, qcS_33 L, 33), 2, 21)) (La := [some (.ref 31), none, some (.int 8), some (.long 0), none, some (.int 35), none]) (Lb := [some (.ref 31), none, some (.int 8), some (.long 0), none, some (.int 35), some (.int 115)]) 4 rfl rfl rfl).trans ?_
  rw [q_ck_tt, if_neg (by decide)]
  refine (q_D_by (c' := (true, 147, [some (.ref 31), none, some (.int 8), some (.long 0), none, some (.int 35), some (.int 115)], [.long 19], (Ia8, Ja8, qcR_65, qcS_33 L, 33), 2, 21)) 10 rfl).trans ?_
  refine (q_D_by (c' := (true, 90, [some (.ref 31), none, some (.int 8), some (.long 19), none, some (.int 36), none], [.ref 1010, .int 36], (Ia8, Ja8, qcR_65, qcS_33 L, 33), 2, 21)) 5 rfl).trans ?_
  refine (q_D_call (X := q_text4 [.ref 1010] (Ia8, Ja8, qcR_65, qcS_33 L, 33)) (b := true) (pc := 93) (L := [some (.ref 31), none, some (.int 8), some (.long 19), none, some (.int 36), none]) (st := [.int 36]) (ce := 2) (sl := 21) 0 (true, 90, [some (.ref 31), none, some (.int 8), some (.long 19), none, some (.int 36), none], [.ref 1010, .int 36], (Ia8, Ja8, qcR_65, qcS_33 L, 33), 2, 21) rfl rfl).trans ?_
  rw [q_ck_tt, q_tx4 rfl]
  show q_D _ _ _ (true, 93, [some (.ref 31), none, some (.int 8), some (.long 19), none, some (.int 36), none], [.int 102, .int 36], (Ia8, Ja8, qcR_65, qcS_33 L, 33), 2, 21) = _
  refine (q_D_br (b := true) (p := (36 : Int32) < 102) (pa := 96) (pb := 154) (L := [some (.ref 31), none, some (.int 8), some (.long 19), none, some (.int 36), none]) (d := ([], (Ia8, Ja8, qcR_65, qcS_33 L, 33), 2, 21)) (La := [some (.ref 31), none, some (.int 8), some (.long 19), none, some (.int 36), none]) (Lb := [none, none, none, none, none, none, none]) 1 rfl rfl rfl).trans ?_
  rw [q_ck_tt, if_pos (by decide)]
  refine (q_D_br (b := true) (p := (8 : Int32) < 21) (pa := 102) (pb := 154) (L := [some (.ref 31), none, some (.int 8), some (.long 19), none, some (.int 36), none]) (d := ([], (Ia8, Ja8, qcR_65, qcS_33 L, 33), 2, 21)) (La := [some (.ref 31), none, some (.int 8), some (.long 19), none, some (.int 36), none]) (Lb := [none, none, none, none, none, none, none]) 3 rfl rfl rfl).trans ?_
  rw [q_ck_tt, if_pos (by decide)]
  refine (q_D_by (c' := (true, 106, [some (.ref 31), none, some (.int 8), some (.long 19), none, some (.int 36), none], [.int 36, .ref 1010], (Ia8, Ja8, qcR_65, qcS_33 L, 33), 2, 21)) 2 rfl).trans ?_
  refine (q_D_call (X := q_text5 [.ref 1010, .int 36] (Ia8, Ja8, qcR_65, qcS_33 L, 33)) (b := true) (pc := 109) (L := [some (.ref 31), none, some (.int 8), some (.long 19), none, some (.int 36), none]) (st := []) (ce := 2) (sl := 21) 0 (true, 106, [some (.ref 31), none, some (.int 8), some (.long 19), none, some (.int 36), none], [.int 36, .ref 1010], (Ia8, Ja8, qcR_65, qcS_33 L, 33), 2, 21) rfl rfl).trans ?_
  rw [q_ck_tt, q_tx5 36 97 rfl (by decide) (by decide)]
  show q_D _ _ _ (true, 109, [some (.ref 31), none, some (.int 8), some (.long 19), none, some (.int 36), none], [.int 97], (Ia8, Ja8, qcR_65, qcS_33 L, 33), 2, 21) = _
  refine (q_D_br (b := true) (p := (97 : Int32) = 32) (pa := 118) (pb := 133) (L := [some (.ref 31), none, some (.int 8), some (.long 19), none, some (.int 36), some (.int 97)]) (d := ([], (Ia8, Ja8, qcR_65, qcS_33 L, 33), 2, 21)) (La := [some (.ref 31), none, some (.int 8), some (.long 19), none, some (.int 36), none]) (Lb := [some (.ref 31), none, some (.int 8), some (.long 19), none, some (.int 36), some (.int 97)]) 4 rfl rfl rfl).trans ?_
  rw [q_ck_tt, if_neg (by decide)]
  refine (q_D_by (c' := (true, 147, [some (.ref 31), none, some (.int 8), some (.long 19), none, some (.int 36), some (.int 97)], [.long 609], (Ia8, Ja8, qcR_65, qcS_33 L, 33), 2, 21)) 10 rfl).trans ?_
  refine (q_D_by (c' := (true, 90, [some (.ref 31), none, some (.int 8), some (.long 609), none, some (.int 37), none], [.ref 1010, .int 37], (Ia8, Ja8, qcR_65, qcS_33 L, 33), 2, 21)) 5 rfl).trans ?_
  refine (q_D_call (X := q_text4 [.ref 1010] (Ia8, Ja8, qcR_65, qcS_33 L, 33)) (b := true) (pc := 93) (L := [some (.ref 31), none, some (.int 8), some (.long 609), none, some (.int 37), none]) (st := [.int 37]) (ce := 2) (sl := 21) 0 (true, 90, [some (.ref 31), none, some (.int 8), some (.long 609), none, some (.int 37), none], [.ref 1010, .int 37], (Ia8, Ja8, qcR_65, qcS_33 L, 33), 2, 21) rfl rfl).trans ?_
  rw [q_ck_tt, q_tx4 rfl]
  show q_D _ _ _ (true, 93, [some (.ref 31), none, some (.int 8), some (.long 609), none, some (.int 37), none], [.int 102, .int 37], (Ia8, Ja8, qcR_65, qcS_33 L, 33), 2, 21) = _
  refine (q_D_br (b := true) (p := (37 : Int32) < 102) (pa := 96) (pb := 154) (L := [some (.ref 31), none, some (.int 8), some (.long 609), none, some (.int 37), none]) (d := ([], (Ia8, Ja8, qcR_65, qcS_33 L, 33), 2, 21)) (La := [some (.ref 31), none, some (.int 8), some (.long 609), none, some (.int 37), none]) (Lb := [none, none, none, none, none, none, none]) 1 rfl rfl rfl).trans ?_
  rw [q_ck_tt, if_pos (by decide)]
  refine (q_D_br (b := true) (p := (8 : Int32) < 21) (pa := 102) (pb := 154) (L := [some (.ref 31), none, some (.int 8), some (.long 609), none, some (.int 37), none]) (d := ([], (Ia8, Ja8, qcR_65, qcS_33 L, 33), 2, 21)) (La := [some (.ref 31), none, some (.int 8), some (.long 609), none, some (.int 37), none]) (Lb := [none, none, none, none, none, none, none]) 3 rfl rfl rfl).trans ?_
  rw [q_ck_tt, if_pos (by decide)]
  refine (q_D_by (c' := (true, 106, [some (.ref 31), none, some (.int 8), some (.long 609), none, some (.int 37), none], [.int 37, .ref 1010], (Ia8, Ja8, qcR_65, qcS_33 L, 33), 2, 21)) 2 rfl).trans ?_
  refine (q_D_call (X := q_text5 [.ref 1010, .int 37] (Ia8, Ja8, qcR_65, qcS_33 L, 33)) (b := true) (pc := 109) (L := [some (.ref 31), none, some (.int 8), some (.long 609), none, some (.int 37), none]) (st := []) (ce := 2) (sl := 21) 0 (true, 106, [some (.ref 31), none, some (.int 8), some (.long 609), none, some (.int 37), none], [.int 37, .ref 1010], (Ia8, Ja8, qcR_65, qcS_33 L, 33), 2, 21) rfl rfl).trans ?_
  rw [q_ck_tt, q_tx5 37 102 rfl (by decide) (by decide)]
  show q_D _ _ _ (true, 109, [some (.ref 31), none, some (.int 8), some (.long 609), none, some (.int 37), none], [.int 102], (Ia8, Ja8, qcR_65, qcS_33 L, 33), 2, 21) = _
  refine (q_D_br (b := true) (p := (102 : Int32) = 32) (pa := 118) (pb := 133) (L := [some (.ref 31), none, some (.int 8), some (.long 609), none, some (.int 37), some (.int 102)]) (d := ([], (Ia8, Ja8, qcR_65, qcS_33 L, 33), 2, 21)) (La := [some (.ref 31), none, some (.int 8), some (.long 609), none, some (.int 37), none]) (Lb := [some (.ref 31), none, some (.int 8), some (.long 609), none, some (.int 37), some (.int 102)]) 4 rfl rfl rfl).trans ?_
  rw [q_ck_tt, if_neg (by decide)]
  refine (q_D_by (c' := (true, 147, [some (.ref 31), none, some (.int 8), some (.long 609), none, some (.int 37), some (.int 102)], [.long 19494], (Ia8, Ja8, qcR_65, qcS_33 L, 33), 2, 21)) 10 rfl).trans ?_
  refine (q_D_by (c' := (true, 90, [some (.ref 31), none, some (.int 8), some (.long 19494), none, some (.int 38), none], [.ref 1010, .int 38], (Ia8, Ja8, qcR_65, qcS_33 L, 33), 2, 21)) 5 rfl).trans ?_
  refine (q_D_call (X := q_text4 [.ref 1010] (Ia8, Ja8, qcR_65, qcS_33 L, 33)) (b := true) (pc := 93) (L := [some (.ref 31), none, some (.int 8), some (.long 19494), none, some (.int 38), none]) (st := [.int 38]) (ce := 2) (sl := 21) 0 (true, 90, [some (.ref 31), none, some (.int 8), some (.long 19494), none, some (.int 38), none], [.ref 1010, .int 38], (Ia8, Ja8, qcR_65, qcS_33 L, 33), 2, 21) rfl rfl).trans ?_
  rw [q_ck_tt, q_tx4 rfl]
  show q_D _ _ _ (true, 93, [some (.ref 31), none, some (.int 8), some (.long 19494), none, some (.int 38), none], [.int 102, .int 38], (Ia8, Ja8, qcR_65, qcS_33 L, 33), 2, 21) = _
  refine (q_D_br (b := true) (p := (38 : Int32) < 102) (pa := 96) (pb := 154) (L := [some (.ref 31), none, some (.int 8), some (.long 19494), none, some (.int 38), none]) (d := ([], (Ia8, Ja8, qcR_65, qcS_33 L, 33), 2, 21)) (La := [some (.ref 31), none, some (.int 8), some (.long 19494), none, some (.int 38), none]) (Lb := [none, none, none, none, none, none, none]) 1 rfl rfl rfl).trans ?_
  rw [q_ck_tt, if_pos (by decide)]
  refine (q_D_br (b := true) (p := (8 : Int32) < 21) (pa := 102) (pb := 154) (L := [some (.ref 31), none, some (.int 8), some (.long 19494), none, some (.int 38), none]) (d := ([], (Ia8, Ja8, qcR_65, qcS_33 L, 33), 2, 21)) (La := [some (.ref 31), none, some (.int 8), some (.long 19494), none, some (.int 38), none]) (Lb := [none, none, none, none, none, none, none]) 3 rfl rfl rfl).trans ?_
  rw [q_ck_tt, if_pos (by decide)]
  refine (q_D_by (c' := (true, 106, [some (.ref 31), none, some (.int 8), some (.long 19494), none, some (.int 38), none], [.int 38, .ref 1010], (Ia8, Ja8, qcR_65, qcS_33 L, 33), 2, 21)) 2 rfl).trans ?_
  refine (q_D_call (X := q_text5 [.ref 1010, .int 38] (Ia8, Ja8, qcR_65, qcS_33 L, 33)) (b := true) (pc := 109) (L := [some (.ref 31), none, some (.int 8), some (.long 19494), none, some (.int 38), none]) (st := []) (ce := 2) (sl := 21) 0 (true, 106, [some (.ref 31), none, some (.int 8), some (.long 19494), none, some (.int 38), none], [.int 38, .ref 1010], (Ia8, Ja8, qcR_65, qcS_33 L, 33), 2, 21) rfl rfl).trans ?_
  rw [q_ck_tt, q_tx5 38 101 rfl (by decide) (by decide)]
  show q_D _ _ _ (true, 109, [some (.ref 31), none, some (.int 8), some (.long 19494), none, some (.int 38), none], [.int 101], (Ia8, Ja8, qcR_65, qcS_33 L, 33), 2, 21) = _
  refine (q_D_br (b := true) (p := (101 : Int32) = 32) (pa := 118) (pb := 133) (L := [some (.ref 31), none, some (.int 8), some (.long 19494), none, some (.int 38), some (.int 101)]) (d := ([], (Ia8, Ja8, qcR_65, qcS_33 L, 33), 2, 21)) (La := [some (.ref 31), none, some (.int 8), some (.long 19494), none, some (.int 38), none]) (Lb := [some (.ref 31), none, some (.int 8), some (.long 19494), none, some (.int 38), some (.int 101)]) 4 rfl rfl rfl).trans ?_
  rw [q_ck_tt, if_neg (by decide)]
  refine (q_D_by (c' := (true, 147, [some (.ref 31), none, some (.int 8), some (.long 19494), none, some (.int 38), some (.int 101)], [.long 623813], (Ia8, Ja8, qcR_65, qcS_33 L, 33), 2, 21)) 10 rfl).trans ?_
  refine (q_D_by (c' := (true, 90, [some (.ref 31), none, some (.int 8), some (.long 623813), none, some (.int 39), none], [.ref 1010, .int 39], (Ia8, Ja8, qcR_65, qcS_33 L, 33), 2, 21)) 5 rfl).trans ?_
  refine (q_D_call (X := q_text4 [.ref 1010] (Ia8, Ja8, qcR_65, qcS_33 L, 33)) (b := true) (pc := 93) (L := [some (.ref 31), none, some (.int 8), some (.long 623813), none, some (.int 39), none]) (st := [.int 39]) (ce := 2) (sl := 21) 0 (true, 90, [some (.ref 31), none, some (.int 8), some (.long 623813), none, some (.int 39), none], [.ref 1010, .int 39], (Ia8, Ja8, qcR_65, qcS_33 L, 33), 2, 21) rfl rfl).trans ?_
  rw [q_ck_tt, q_tx4 rfl]
  show q_D _ _ _ (true, 93, [some (.ref 31), none, some (.int 8), some (.long 623813), none, some (.int 39), none], [.int 102, .int 39], (Ia8, Ja8, qcR_65, qcS_33 L, 33), 2, 21) = _
  refine (q_D_br (b := true) (p := (39 : Int32) < 102) (pa := 96) (pb := 154) (L := [some (.ref 31), none, some (.int 8), some (.long 623813), none, some (.int 39), none]) (d := ([], (Ia8, Ja8, qcR_65, qcS_33 L, 33), 2, 21)) (La := [some (.ref 31), none, some (.int 8), some (.long 623813), none, some (.int 39), none]) (Lb := [none, none, none, none, none, none, none]) 1 rfl rfl rfl).trans ?_
  rw [q_ck_tt, if_pos (by decide)]
  refine (q_D_br (b := true) (p := (8 : Int32) < 21) (pa := 102) (pb := 154) (L := [some (.ref 31), none, some (.int 8), some (.long 623813), none, some (.int 39), none]) (d := ([], (Ia8, Ja8, qcR_65, qcS_33 L, 33), 2, 21)) (La := [some (.ref 31), none, some (.int 8), some (.long 623813), none, some (.int 39), none]) (Lb := [none, none, none, none, none, none, none]) 3 rfl rfl rfl).trans ?_
  rw [q_ck_tt, if_pos (by decide)]
  refine (q_D_by (c' := (true, 106, [some (.ref 31), none, some (.int 8), some (.long 623813), none, some (.int 39), none], [.int 39, .ref 1010], (Ia8, Ja8, qcR_65, qcS_33 L, 33), 2, 21)) 2 rfl).trans ?_
  refine (q_D_call (X := q_text5 [.ref 1010, .int 39] (Ia8, Ja8, qcR_65, qcS_33 L, 33)) (b := true) (pc := 109) (L := [some (.ref 31), none, some (.int 8), some (.long 623813), none, some (.int 39), none]) (st := []) (ce := 2) (sl := 21) 0 (true, 106, [some (.ref 31), none, some (.int 8), some (.long 623813), none, some (.int 39), none], [.int 39, .ref 1010], (Ia8, Ja8, qcR_65, qcS_33 L, 33), 2, 21) rfl rfl).trans ?_
  rw [q_ck_tt, q_tx5 39 32 rfl (by decide) (by decide)]
  show q_D _ _ _ (true, 109, [some (.ref 31), none, some (.int 8), some (.long 623813), none, some (.int 39), none], [.int 32], (Ia8, Ja8, qcR_65, qcS_33 L, 33), 2, 21) = _
  refine (q_D_br (b := true) (p := (32 : Int32) = 32) (pa := 118) (pb := 133) (L := [some (.ref 31), none, some (.int 8), some (.long 623813), none, some (.int 39), some (.int 32)]) (d := ([], (Ia8, Ja8, qcR_65, qcS_33 L, 33), 2, 21)) (La := [some (.ref 31), none, some (.int 8), some (.long 623813), none, some (.int 39), none]) (Lb := [some (.ref 31), none, some (.int 8), some (.long 623813), none, some (.int 39), some (.int 32)]) 4 rfl rfl rfl).trans ?_
  rw [q_ck_tt, if_pos (by decide)]
  refine (q_D_by (c' := (true, 125, [some (.ref 31), none, some (.int 8), some (.long 623813), none, some (.int 39), none], [], (Ia8, (q_up Ja8 32 8 623813), qcR_65, qcS_33 L, 33), 2, 21)) 5 rfl).trans ?_
  rw [← ea9, ← ja9]
  refine (q_D_by (c' := (true, 90, [some (.ref 31), none, some (.int 9), some (.long 0), none, some (.int 40), none], [.ref 1010, .int 40], (Ia9, Ja9, qcR_65, qcS_33 L, 33), 2, 21)) 8 rfl).trans ?_
  refine (q_D_call (X := q_text4 [.ref 1010] (Ia9, Ja9, qcR_65, qcS_33 L, 33)) (b := true) (pc := 93) (L := [some (.ref 31), none, some (.int 9), some (.long 0), none, some (.int 40), none]) (st := [.int 40]) (ce := 2) (sl := 21) 0 (true, 90, [some (.ref 31), none, some (.int 9), some (.long 0), none, some (.int 40), none], [.ref 1010, .int 40], (Ia9, Ja9, qcR_65, qcS_33 L, 33), 2, 21) rfl rfl).trans ?_
  rw [q_ck_tt, q_tx4 rfl]
  show q_D _ _ _ (true, 93, [some (.ref 31), none, some (.int 9), some (.long 0), none, some (.int 40), none], [.int 102, .int 40], (Ia9, Ja9, qcR_65, qcS_33 L, 33), 2, 21) = _
  refine (q_D_br (b := true) (p := (40 : Int32) < 102) (pa := 96) (pb := 154) (L := [some (.ref 31), none, some (.int 9), some (.long 0), none, some (.int 40), none]) (d := ([], (Ia9, Ja9, qcR_65, qcS_33 L, 33), 2, 21)) (La := [some (.ref 31), none, some (.int 9), some (.long 0), none, some (.int 40), none]) (Lb := [none, none, none, none, none, none, none]) 1 rfl rfl rfl).trans ?_
  rw [q_ck_tt, if_pos (by decide)]
  refine (q_D_br (b := true) (p := (9 : Int32) < 21) (pa := 102) (pb := 154) (L := [some (.ref 31), none, some (.int 9), some (.long 0), none, some (.int 40), none]) (d := ([], (Ia9, Ja9, qcR_65, qcS_33 L, 33), 2, 21)) (La := [some (.ref 31), none, some (.int 9), some (.long 0), none, some (.int 40), none]) (Lb := [none, none, none, none, none, none, none]) 3 rfl rfl rfl).trans ?_
  rw [q_ck_tt, if_pos (by decide)]
  refine (q_D_by (c' := (true, 106, [some (.ref 31), none, some (.int 9), some (.long 0), none, some (.int 40), none], [.int 40, .ref 1010], (Ia9, Ja9, qcR_65, qcS_33 L, 33), 2, 21)) 2 rfl).trans ?_
  refine (q_D_call (X := q_text5 [.ref 1010, .int 40] (Ia9, Ja9, qcR_65, qcS_33 L, 33)) (b := true) (pc := 109) (L := [some (.ref 31), none, some (.int 9), some (.long 0), none, some (.int 40), none]) (st := []) (ce := 2) (sl := 21) 0 (true, 106, [some (.ref 31), none, some (.int 9), some (.long 0), none, some (.int 40), none], [.int 40, .ref 1010], (Ia9, Ja9, qcR_65, qcS_33 L, 33), 2, 21) rfl rfl).trans ?_
  rw [q_ck_tt, q_tx5 40 115 rfl (by decide) (by decide)]
  show q_D _ _ _ (true, 109, [some (.ref 31), none, some (.int 9), some (.long 0), none, some (.int 40), none], [.int 115], (Ia9, Ja9, qcR_65, qcS_33 L, 33), 2, 21) = _
  refine (q_D_br (b := true) (p := (115 : Int32) = 32) (pa := 118) (pb := 133) (L := [some (.ref 31), none, some (.int 9), some (.long 0), none, some (.int 40), some (.int 115)]) (d := ([], (Ia9, Ja9, qcR_65, qcS_33 L, 33), 2, 21)) (La := [some (.ref 31), none, some (.int 9), some (.long 0), none, some (.int 40), none]) (Lb := [some (.ref 31), none, some (.int 9), some (.long 0), none, some (.int 40), some (.int 115)]) 4 rfl rfl rfl).trans ?_
  rw [q_ck_tt, if_neg (by decide)]
  refine (q_D_by (c' := (true, 147, [some (.ref 31), none, some (.int 9), some (.long 0), none, some (.int 40), some (.int 115)], [.long 19], (Ia9, Ja9, qcR_65, qcS_33 L, 33), 2, 21)) 10 rfl).trans ?_
  refine (q_D_by (c' := (true, 90, [some (.ref 31), none, some (.int 9), some (.long 19), none, some (.int 41), none], [.ref 1010, .int 41], (Ia9, Ja9, qcR_65, qcS_33 L, 33), 2, 21)) 5 rfl).trans ?_
  refine (q_D_call (X := q_text4 [.ref 1010] (Ia9, Ja9, qcR_65, qcS_33 L, 33)) (b := true) (pc := 93) (L := [some (.ref 31), none, some (.int 9), some (.long 19), none, some (.int 41), none]) (st := [.int 41]) (ce := 2) (sl := 21) 0 (true, 90, [some (.ref 31), none, some (.int 9), some (.long 19), none, some (.int 41), none], [.ref 1010, .int 41], (Ia9, Ja9, qcR_65, qcS_33 L, 33), 2, 21) rfl rfl).trans ?_
  rw [q_ck_tt, q_tx4 rfl]
  show q_D _ _ _ (true, 93, [some (.ref 31), none, some (.int 9), some (.long 19), none, some (.int 41), none], [.int 102, .int 41], (Ia9, Ja9, qcR_65, qcS_33 L, 33), 2, 21) = _
  refine (q_D_br (b := true) (p := (41 : Int32) < 102) (pa := 96) (pb := 154) (L := [some (.ref 31), none, some (.int 9), some (.long 19), none, some (.int 41), none]) (d := ([], (Ia9, Ja9, qcR_65, qcS_33 L, 33), 2, 21)) (La := [some (.ref 31), none, some (.int 9), some (.long 19), none, some (.int 41), none]) (Lb := [none, none, none, none, none, none, none]) 1 rfl rfl rfl).trans ?_
  rw [q_ck_tt, if_pos (by decide)]
  refine (q_D_br (b := true) (p := (9 : Int32) < 21) (pa := 102) (pb := 154) (L := [some (.ref 31), none, some (.int 9), some (.long 19), none, some (.int 41), none]) (d := ([], (Ia9, Ja9, qcR_65, qcS_33 L, 33), 2, 21)) (La := [some (.ref 31), none, some (.int 9), some (.long 19), none, some (.int 41), none]) (Lb := [none, none, none, none, none, none, none]) 3 rfl rfl rfl).trans ?_
  rw [q_ck_tt, if_pos (by decide)]
  refine (q_D_by (c' := (true, 106, [some (.ref 31), none, some (.int 9), some (.long 19), none, some (.int 41), none], [.int 41, .ref 1010], (Ia9, Ja9, qcR_65, qcS_33 L, 33), 2, 21)) 2 rfl).trans ?_
  refine (q_D_call (X := q_text5 [.ref 1010, .int 41] (Ia9, Ja9, qcR_65, qcS_33 L, 33)) (b := true) (pc := 109) (L := [some (.ref 31), none, some (.int 9), some (.long 19), none, some (.int 41), none]) (st := []) (ce := 2) (sl := 21) 0 (true, 106, [some (.ref 31), none, some (.int 9), some (.long 19), none, some (.int 41), none], [.int 41, .ref 1010], (Ia9, Ja9, qcR_65, qcS_33 L, 33), 2, 21) rfl rfl).trans ?_
  rw [q_ck_tt, q_tx5 41 104 rfl (by decide) (by decide)]
  show q_D _ _ _ (true, 109, [some (.ref 31), none, some (.int 9), some (.long 19), none, some (.int 41), none], [.int 104], (Ia9, Ja9, qcR_65, qcS_33 L, 33), 2, 21) = _
  refine (q_D_br (b := true) (p := (104 : Int32) = 32) (pa := 118) (pb := 133) (L := [some (.ref 31), none, some (.int 9), some (.long 19), none, some (.int 41), some (.int 104)]) (d := ([], (Ia9, Ja9, qcR_65, qcS_33 L, 33), 2, 21)) (La := [some (.ref 31), none, some (.int 9), some (.long 19), none, some (.int 41), none]) (Lb := [some (.ref 31), none, some (.int 9), some (.long 19), none, some (.int 41), some (.int 104)]) 4 rfl rfl rfl).trans ?_
  rw [q_ck_tt, if_neg (by decide)]
  refine (q_D_by (c' := (true, 147, [some (.ref 31), none, some (.int 9), some (.long 19), none, some (.int 41), some (.int 104)], [.long 616], (Ia9, Ja9, qcR_65, qcS_33 L, 33), 2, 21)) 10 rfl).trans ?_
  refine (q_D_by (c' := (true, 90, [some (.ref 31), none, some (.int 9), some (.long 616), none, some (.int 42), none], [.ref 1010, .int 42], (Ia9, Ja9, qcR_65, qcS_33 L, 33), 2, 21)) 5 rfl).trans ?_
  refine (q_D_call (X := q_text4 [.ref 1010] (Ia9, Ja9, qcR_65, qcS_33 L, 33)) (b := true) (pc := 93) (L := [some (.ref 31), none, some (.int 9), some (.long 616), none, some (.int 42), none]) (st := [.int 42]) (ce := 2) (sl := 21) 0 (true, 90, [some (.ref 31), none, some (.int 9), some (.long 616), none, some (.int 42), none], [.ref 1010, .int 42], (Ia9, Ja9, qcR_65, qcS_33 L, 33), 2, 21) rfl rfl).trans ?_
  rw [q_ck_tt, q_tx4 rfl]
  show q_D _ _ _ (true, 93, [some (.ref 31), none, some (.int 9), some (.long 616), none, some (.int 42), none], [.int 102, .int 42], (Ia9, Ja9, qcR_65, qcS_33 L, 33), 2, 21) = _
  refine (q_D_br (b := true) (p := (42 : Int32) < 102) (pa := 96) (pb := 154) (L := [some (.ref 31), none, some (.int 9), some (.long 616), none, some (.int 42), none]) (d := ([], (Ia9, Ja9, qcR_65, qcS_33 L, 33), 2, 21)) (La := [some (.ref 31), none, some (.int 9), some (.long 616), none, some (.int 42), none]) (Lb := [none, none, none, none, none, none, none]) 1 rfl rfl rfl).trans ?_
  rw [q_ck_tt, if_pos (by decide)]
  refine (q_D_br (b := true) (p := (9 : Int32) < 21) (pa := 102) (pb := 154) (L := [some (.ref 31), none, some (.int 9), some (.long 616), none, some (.int 42), none]) (d := ([], (Ia9, Ja9, qcR_65, qcS_33 L, 33), 2, 21)) (La := [some (.ref 31), none, some (.int 9), some (.long 616), none, some (.int 42), none]) (Lb := [none, none, none, none, none, none, none]) 3 rfl rfl rfl).trans ?_
  rw [q_ck_tt, if_pos (by decide)]
  refine (q_D_by (c' := (true, 106, [some (.ref 31), none, some (.int 9), some (.long 616), none, some (.int 42), none], [.int 42, .ref 1010], (Ia9, Ja9, qcR_65, qcS_33 L, 33), 2, 21)) 2 rfl).trans ?_
  refine (q_D_call (X := q_text5 [.ref 1010, .int 42] (Ia9, Ja9, qcR_65, qcS_33 L, 33)) (b := true) (pc := 109) (L := [some (.ref 31), none, some (.int 9), some (.long 616), none, some (.int 42), none]) (st := []) (ce := 2) (sl := 21) 0 (true, 106, [some (.ref 31), none, some (.int 9), some (.long 616), none, some (.int 42), none], [.int 42, .ref 1010], (Ia9, Ja9, qcR_65, qcS_33 L, 33), 2, 21) rfl rfl).trans ?_
  rw [q_ck_tt, q_tx5 42 111 rfl (by decide) (by decide)]
  show q_D _ _ _ (true, 109, [some (.ref 31), none, some (.int 9), some (.long 616), none, some (.int 42), none], [.int 111], (Ia9, Ja9, qcR_65, qcS_33 L, 33), 2, 21) = _
  refine (q_D_br (b := true) (p := (111 : Int32) = 32) (pa := 118) (pb := 133) (L := [some (.ref 31), none, some (.int 9), some (.long 616), none, some (.int 42), some (.int 111)]) (d := ([], (Ia9, Ja9, qcR_65, qcS_33 L, 33), 2, 21)) (La := [some (.ref 31), none, some (.int 9), some (.long 616), none, some (.int 42), none]) (Lb := [some (.ref 31), none, some (.int 9), some (.long 616), none, some (.int 42), some (.int 111)]) 4 rfl rfl rfl).trans ?_
  rw [q_ck_tt, if_neg (by decide)]
  refine (q_D_by (c' := (true, 147, [some (.ref 31), none, some (.int 9), some (.long 616), none, some (.int 42), some (.int 111)], [.long 19727], (Ia9, Ja9, qcR_65, qcS_33 L, 33), 2, 21)) 10 rfl).trans ?_
  refine (q_D_by (c' := (true, 90, [some (.ref 31), none, some (.int 9), some (.long 19727), none, some (.int 43), none], [.ref 1010, .int 43], (Ia9, Ja9, qcR_65, qcS_33 L, 33), 2, 21)) 5 rfl).trans ?_
  refine (q_D_call (X := q_text4 [.ref 1010] (Ia9, Ja9, qcR_65, qcS_33 L, 33)) (b := true) (pc := 93) (L := [some (.ref 31), none, some (.int 9), some (.long 19727), none, some (.int 43), none]) (st := [.int 43]) (ce := 2) (sl := 21) 0 (true, 90, [some (.ref 31), none, some (.int 9), some (.long 19727), none, some (.int 43), none], [.ref 1010, .int 43], (Ia9, Ja9, qcR_65, qcS_33 L, 33), 2, 21) rfl rfl).trans ?_
  rw [q_ck_tt, q_tx4 rfl]
  show q_D _ _ _ (true, 93, [some (.ref 31), none, some (.int 9), some (.long 19727), none, some (.int 43), none], [.int 102, .int 43], (Ia9, Ja9, qcR_65, qcS_33 L, 33), 2, 21) = _
  refine (q_D_br (b := true) (p := (43 : Int32) < 102) (pa := 96) (pb := 154) (L := [some (.ref 31), none, some (.int 9), some (.long 19727), none, some (.int 43), none]) (d := ([], (Ia9, Ja9, qcR_65, qcS_33 L, 33), 2, 21)) (La := [some (.ref 31), none, some (.int 9), some (.long 19727), none, some (.int 43), none]) (Lb := [none, none, none, none, none, none, none]) 1 rfl rfl rfl).trans ?_
  rw [q_ck_tt, if_pos (by decide)]
  refine (q_D_br (b := true) (p := (9 : Int32) < 21) (pa := 102) (pb := 154) (L := [some (.ref 31), none, some (.int 9), some (.long 19727), none, some (.int 43), none]) (d := ([], (Ia9, Ja9, qcR_65, qcS_33 L, 33), 2, 21)) (La := [some (.ref 31), none, some (.int 9), some (.long 19727), none, some (.int 43), none]) (Lb := [none, none, none, none, none, none, none]) 3 rfl rfl rfl).trans ?_
  rw [q_ck_tt, if_pos (by decide)]
  refine (q_D_by (c' := (true, 106, [some (.ref 31), none, some (.int 9), some (.long 19727), none, some (.int 43), none], [.int 43, .ref 1010], (Ia9, Ja9, qcR_65, qcS_33 L, 33), 2, 21)) 2 rfl).trans ?_
  refine (q_D_call (X := q_text5 [.ref 1010, .int 43] (Ia9, Ja9, qcR_65, qcS_33 L, 33)) (b := true) (pc := 109) (L := [some (.ref 31), none, some (.int 9), some (.long 19727), none, some (.int 43), none]) (st := []) (ce := 2) (sl := 21) 0 (true, 106, [some (.ref 31), none, some (.int 9), some (.long 19727), none, some (.int 43), none], [.int 43, .ref 1010], (Ia9, Ja9, qcR_65, qcS_33 L, 33), 2, 21) rfl rfl).trans ?_
  rw [q_ck_tt, q_tx5 43 114 rfl (by decide) (by decide)]
  show q_D _ _ _ (true, 109, [some (.ref 31), none, some (.int 9), some (.long 19727), none, some (.int 43), none], [.int 114], (Ia9, Ja9, qcR_65, qcS_33 L, 33), 2, 21) = _
  refine (q_D_br (b := true) (p := (114 : Int32) = 32) (pa := 118) (pb := 133) (L := [some (.ref 31), none, some (.int 9), some (.long 19727), none, some (.int 43), some (.int 114)]) (d := ([], (Ia9, Ja9, qcR_65, qcS_33 L, 33), 2, 21)) (La := [some (.ref 31), none, some (.int 9), some (.long 19727), none, some (.int 43), none]) (Lb := [some (.ref 31), none, some (.int 9), some (.long 19727), none, some (.int 43), some (.int 114)]) 4 rfl rfl rfl).trans ?_
  rw [q_ck_tt, if_neg (by decide)]
  refine (q_D_by (c' := (true, 147, [some (.ref 31), none, some (.int 9), some (.long 19727), none, some (.int 43), some (.int 114)], [.long 631282], (Ia9, Ja9, qcR_65, qcS_33 L, 33), 2, 21)) 10 rfl).trans ?_
  refine (q_D_by (c' := (true, 90, [some (.ref 31), none, some (.int 9), some (.long 631282), none, some (.int 44), none], [.ref 1010, .int 44], (Ia9, Ja9, qcR_65, qcS_33 L, 33), 2, 21)) 5 rfl).trans ?_
  refine (q_D_call (X := q_text4 [.ref 1010] (Ia9, Ja9, qcR_65, qcS_33 L, 33)) (b := true) (pc := 93) (L := [some (.ref 31), none, some (.int 9), some (.long 631282), none, some (.int 44), none]) (st := [.int 44]) (ce := 2) (sl := 21) 0 (true, 90, [some (.ref 31), none, some (.int 9), some (.long 631282), none, some (.int 44), none], [.ref 1010, .int 44], (Ia9, Ja9, qcR_65, qcS_33 L, 33), 2, 21) rfl rfl).trans ?_
  rw [q_ck_tt, q_tx4 rfl]
  show q_D _ _ _ (true, 93, [some (.ref 31), none, some (.int 9), some (.long 631282), none, some (.int 44), none], [.int 102, .int 44], (Ia9, Ja9, qcR_65, qcS_33 L, 33), 2, 21) = _
  refine (q_D_br (b := true) (p := (44 : Int32) < 102) (pa := 96) (pb := 154) (L := [some (.ref 31), none, some (.int 9), some (.long 631282), none, some (.int 44), none]) (d := ([], (Ia9, Ja9, qcR_65, qcS_33 L, 33), 2, 21)) (La := [some (.ref 31), none, some (.int 9), some (.long 631282), none, some (.int 44), none]) (Lb := [none, none, none, none, none, none, none]) 1 rfl rfl rfl).trans ?_
  rw [q_ck_tt, if_pos (by decide)]
  refine (q_D_br (b := true) (p := (9 : Int32) < 21) (pa := 102) (pb := 154) (L := [some (.ref 31), none, some (.int 9), some (.long 631282), none, some (.int 44), none]) (d := ([], (Ia9, Ja9, qcR_65, qcS_33 L, 33), 2, 21)) (La := [some (.ref 31), none, some (.int 9), some (.long 631282), none, some (.int 44), none]) (Lb := [none, none, none, none, none, none, none]) 3 rfl rfl rfl).trans ?_
  rw [q_ck_tt, if_pos (by decide)]
  refine (q_D_by (c' := (true, 106, [some (.ref 31), none, some (.int 9), some (.long 631282), none, some (.int 44), none], [.int 44, .ref 1010], (Ia9, Ja9, qcR_65, qcS_33 L, 33), 2, 21)) 2 rfl).trans ?_
  refine (q_D_call (X := q_text5 [.ref 1010, .int 44] (Ia9, Ja9, qcR_65, qcS_33 L, 33)) (b := true) (pc := 109) (L := [some (.ref 31), none, some (.int 9), some (.long 631282), none, some (.int 44), none]) (st := []) (ce := 2) (sl := 21) 0 (true, 106, [some (.ref 31), none, some (.int 9), some (.long 631282), none, some (.int 44), none], [.int 44, .ref 1010], (Ia9, Ja9, qcR_65, qcS_33 L, 33), 2, 21) rfl rfl).trans ?_
  rw [q_ck_tt, q_tx5 44 116 rfl (by decide) (by decide)]
  show q_D _ _ _ (true, 109, [some (.ref 31), none, some (.int 9), some (.long 631282), none, some (.int 44), none], [.int 116], (Ia9, Ja9, qcR_65, qcS_33 L, 33), 2, 21) = _
  refine (q_D_br (b := true) (p := (116 : Int32) = 32) (pa := 118) (pb := 133) (L := [some (.ref 31), none, some (.int 9), some (.long 631282), none, some (.int 44), some (.int 116)]) (d := ([], (Ia9, Ja9, qcR_65, qcS_33 L, 33), 2, 21)) (La := [some (.ref 31), none, some (.int 9), some (.long 631282), none, some (.int 44), none]) (Lb := [some (.ref 31), none, some (.int 9), some (.long 631282), none, some (.int 44), some (.int 116)]) 4 rfl rfl rfl).trans ?_
  rw [q_ck_tt, if_neg (by decide)]
  refine (q_D_by (c' := (true, 147, [some (.ref 31), none, some (.int 9), some (.long 631282), none, some (.int 44), some (.int 116)], [.long 20201044], (Ia9, Ja9, qcR_65, qcS_33 L, 33), 2, 21)) 10 rfl).trans ?_
  refine (q_D_by (c' := (true, 90, [some (.ref 31), none, some (.int 9), some (.long 20201044), none, some (.int 45), none], [.ref 1010, .int 45], (Ia9, Ja9, qcR_65, qcS_33 L, 33), 2, 21)) 5 rfl).trans ?_
  refine (q_D_call (X := q_text4 [.ref 1010] (Ia9, Ja9, qcR_65, qcS_33 L, 33)) (b := true) (pc := 93) (L := [some (.ref 31), none, some (.int 9), some (.long 20201044), none, some (.int 45), none]) (st := [.int 45]) (ce := 2) (sl := 21) 0 (true, 90, [some (.ref 31), none, some (.int 9), some (.long 20201044), none, some (.int 45), none], [.ref 1010, .int 45], (Ia9, Ja9, qcR_65, qcS_33 L, 33), 2, 21) rfl rfl).trans ?_
  rw [q_ck_tt, q_tx4 rfl]
  show q_D _ _ _ (true, 93, [some (.ref 31), none, some (.int 9), some (.long 20201044), none, some (.int 45), none], [.int 102, .int 45], (Ia9, Ja9, qcR_65, qcS_33 L, 33), 2, 21) = _
  refine (q_D_br (b := true) (p := (45 : Int32) < 102) (pa := 96) (pb := 154) (L := [some (.ref 31), none, some (.int 9), some (.long 20201044), none, some (.int 45), none]) (d := ([], (Ia9, Ja9, qcR_65, qcS_33 L, 33), 2, 21)) (La := [some (.ref 31), none, some (.int 9), some (.long 20201044), none, some (.int 45), none]) (Lb := [none, none, none, none, none, none, none]) 1 rfl rfl rfl).trans ?_
  rw [q_ck_tt, if_pos (by decide)]
  refine (q_D_br (b := true) (p := (9 : Int32) < 21) (pa := 102) (pb := 154) (L := [some (.ref 31), none, some (.int 9), some (.long 20201044), none, some (.int 45), none]) (d := ([], (Ia9, Ja9, qcR_65, qcS_33 L, 33), 2, 21)) (La := [some (.ref 31), none, some (.int 9), some (.long 20201044), none, some (.int 45), none]) (Lb := [none, none, none, none, none, none, none]) 3 rfl rfl rfl).trans ?_
  rw [q_ck_tt, if_pos (by decide)]
  refine (q_D_by (c' := (true, 106, [some (.ref 31), none, some (.int 9), some (.long 20201044), none, some (.int 45), none], [.int 45, .ref 1010], (Ia9, Ja9, qcR_65, qcS_33 L, 33), 2, 21)) 2 rfl).trans ?_
  refine (q_D_call (X := q_text5 [.ref 1010, .int 45] (Ia9, Ja9, qcR_65, qcS_33 L, 33)) (b := true) (pc := 109) (L := [some (.ref 31), none, some (.int 9), some (.long 20201044), none, some (.int 45), none]) (st := []) (ce := 2) (sl := 21) 0 (true, 106, [some (.ref 31), none, some (.int 9), some (.long 20201044), none, some (.int 45), none], [.int 45, .ref 1010], (Ia9, Ja9, qcR_65, qcS_33 L, 33), 2, 21) rfl rfl).trans ?_
  rw [q_ck_tt, q_tx5 45 32 rfl (by decide) (by decide)]
  show q_D _ _ _ (true, 109, [some (.ref 31), none, some (.int 9), some (.long 20201044), none, some (.int 45), none], [.int 32], (Ia9, Ja9, qcR_65, qcS_33 L, 33), 2, 21) = _
  refine (q_D_br (b := true) (p := (32 : Int32) = 32) (pa := 118) (pb := 133) (L := [some (.ref 31), none, some (.int 9), some (.long 20201044), none, some (.int 45), some (.int 32)]) (d := ([], (Ia9, Ja9, qcR_65, qcS_33 L, 33), 2, 21)) (La := [some (.ref 31), none, some (.int 9), some (.long 20201044), none, some (.int 45), none]) (Lb := [some (.ref 31), none, some (.int 9), some (.long 20201044), none, some (.int 45), some (.int 32)]) 4 rfl rfl rfl).trans ?_
  rw [q_ck_tt, if_pos (by decide)]
  refine (q_D_by (c' := (true, 125, [some (.ref 31), none, some (.int 9), some (.long 20201044), none, some (.int 45), none], [], (Ia9, (q_up Ja9 32 9 20201044), qcR_65, qcS_33 L, 33), 2, 21)) 5 rfl).trans ?_
  rw [← ea10, ← ja10]
  refine (q_D_by (c' := (true, 90, [some (.ref 31), none, some (.int 10), some (.long 0), none, some (.int 46), none], [.ref 1010, .int 46], (Ia10, Ja10, qcR_65, qcS_33 L, 33), 2, 21)) 8 rfl).trans ?_
  refine (q_D_call (X := q_text4 [.ref 1010] (Ia10, Ja10, qcR_65, qcS_33 L, 33)) (b := true) (pc := 93) (L := [some (.ref 31), none, some (.int 10), some (.long 0), none, some (.int 46), none]) (st := [.int 46]) (ce := 2) (sl := 21) 0 (true, 90, [some (.ref 31), none, some (.int 10), some (.long 0), none, some (.int 46), none], [.ref 1010, .int 46], (Ia10, Ja10, qcR_65, qcS_33 L, 33), 2, 21) rfl rfl).trans ?_
  rw [q_ck_tt, q_tx4 rfl]
  show q_D _ _ _ (true, 93, [some (.ref 31), none, some (.int 10), some (.long 0), none, some (.int 46), none], [.int 102, .int 46], (Ia10, Ja10, qcR_65, qcS_33 L, 33), 2, 21) = _
  refine (q_D_br (b := true) (p := (46 : Int32) < 102) (pa := 96) (pb := 154) (L := [some (.ref 31), none, some (.int 10), some (.long 0), none, some (.int 46), none]) (d := ([], (Ia10, Ja10, qcR_65, qcS_33 L, 33), 2, 21)) (La := [some (.ref 31), none, some (.int 10), some (.long 0), none, some (.int 46), none]) (Lb := [none, none, none, none, none, none, none]) 1 rfl rfl rfl).trans ?_
  rw [q_ck_tt, if_pos (by decide)]
  refine (q_D_br (b := true) (p := (10 : Int32) < 21) (pa := 102) (pb := 154) (L := [some (.ref 31), none, some (.int 10), some (.long 0), none, some (.int 46), none]) (d := ([], (Ia10, Ja10, qcR_65, qcS_33 L, 33), 2, 21)) (La := [some (.ref 31), none, some (.int 10), some (.long 0), none, some (.int 46), none]) (Lb := [none, none, none, none, none, none, none]) 3 rfl rfl rfl).trans ?_
  rw [q_ck_tt, if_pos (by decide)]
  refine (q_D_by (c' := (true, 106, [some (.ref 31), none, some (.int 10), some (.long 0), none, some (.int 46), none], [.int 46, .ref 1010], (Ia10, Ja10, qcR_65, qcS_33 L, 33), 2, 21)) 2 rfl).trans ?_
  refine (q_D_call (X := q_text5 [.ref 1010, .int 46] (Ia10, Ja10, qcR_65, qcS_33 L, 33)) (b := true) (pc := 109) (L := [some (.ref 31), none, some (.int 10), some (.long 0), none, some (.int 46), none]) (st := []) (ce := 2) (sl := 21) 0 (true, 106, [some (.ref 31), none, some (.int 10), some (.long 0), none, some (.int 46), none], [.int 46, .ref 1010], (Ia10, Ja10, qcR_65, qcS_33 L, 33), 2, 21) rfl rfl).trans ?_
  rw [q_ck_tt, q_tx5 46 108 rfl (by decide) (by decide)]
  show q_D _ _ _ (true, 109, [some (.ref 31), none, some (.int 10), some (.long 0), none, some (.int 46), none], [.int 108], (Ia10, Ja10, qcR_65, qcS_33 L, 33), 2, 21) = _
  refine (q_D_br (b := true) (p := (108 : Int32) = 32) (pa := 118) (pb := 133) (L := [some (.ref 31), none, some (.int 10), some (.long 0), none, some (.int 46), some (.int 108)]) (d := ([], (Ia10, Ja10, qcR_65, qcS_33 L, 33), 2, 21)) (La := [some (.ref 31), none, some (.int 10), some (.long 0), none, some (.int 46), none]) (Lb := [some (.ref 31), none, some (.int 10), some (.long 0), none, some (.int 46), some (.int 108)]) 4 rfl rfl rfl).trans ?_
  rw [q_ck_tt, if_neg (by decide)]
  refine (q_D_by (c' := (true, 147, [some (.ref 31), none, some (.int 10), some (.long 0), none, some (.int 46), some (.int 108)], [.long 12], (Ia10, Ja10, qcR_65, qcS_33 L, 33), 2, 21)) 10 rfl).trans ?_
  refine (q_D_by (c' := (true, 90, [some (.ref 31), none, some (.int 10), some (.long 12), none, some (.int 47), none], [.ref 1010, .int 47], (Ia10, Ja10, qcR_65, qcS_33 L, 33), 2, 21)) 5 rfl).trans ?_
  refine (q_D_call (X := q_text4 [.ref 1010] (Ia10, Ja10, qcR_65, qcS_33 L, 33)) (b := true) (pc := 93) (L := [some (.ref 31), none, some (.int 10), some (.long 12), none, some (.int 47), none]) (st := [.int 47]) (ce := 2) (sl := 21) 0 (true, 90, [some (.ref 31), none, some (.int 10), some (.long 12), none, some (.int 47), none], [.ref 1010, .int 47], (Ia10, Ja10, qcR_65, qcS_33 L, 33), 2, 21) rfl rfl).trans ?_
  rw [q_ck_tt, q_tx4 rfl]
  show q_D _ _ _ (true, 93, [some (.ref 31), none, some (.int 10), some (.long 12), none, some (.int 47), none], [.int 102, .int 47], (Ia10, Ja10, qcR_65, qcS_33 L, 33), 2, 21) = _
  refine (q_D_br (b := true) (p := (47 : Int32) < 102) (pa := 96) (pb := 154) (L := [some (.ref 31), none, some (.int 10), some (.long 12), none, some (.int 47), none]) (d := ([], (Ia10, Ja10, qcR_65, qcS_33 L, 33), 2, 21)) (La := [some (.ref 31), none, some (.int 10), some (.long 12), none, some (.int 47), none]) (Lb := [none, none, none, none, none, none, none]) 1 rfl rfl rfl).trans ?_
  rw [q_ck_tt, if_pos (by decide)]
  refine (q_D_br (b := true) (p := (10 : Int32) < 21) (pa := 102) (pb := 154) (L := [some (.ref 31), none, some (.int 10), some (.long 12), none, some (.int 47), none]) (d := ([], (Ia10, Ja10, qcR_65, qcS_33 L, 33), 2, 21)) (La := [some (.ref 31), none, some (.int 10), some (.long 12), none, some (.int 47), none]) (Lb := [none, none, none, none, none, none, none]) 3 rfl rfl rfl).trans ?_
  rw [q_ck_tt, if_pos (by decide)]
  refine (q_D_by (c' := (true, 106, [some (.ref 31), none, some (.int 10), some (.long 12), none, some (.int 47), none], [.int 47, .ref 1010], (Ia10, Ja10, qcR_65, qcS_33 L, 33), 2, 21)) 2 rfl).trans ?_
  refine (q_D_call (X := q_text5 [.ref 1010, .int 47] (Ia10, Ja10, qcR_65, qcS_33 L, 33)) (b := true) (pc := 109) (L := [some (.ref 31), none, some (.int 10), some (.long 12), none, some (.int 47), none]) (st := []) (ce := 2) (sl := 21) 0 (true, 106, [some (.ref 31), none, some (.int 10), some (.long 12), none, some (.int 47), none], [.int 47, .ref 1010], (Ia10, Ja10, qcR_65, qcS_33 L, 33), 2, 21) rfl rfl).trans ?_
  rw [q_ck_tt, q_tx5 47 111 rfl (by decide) (by decide)]
  show q_D _ _ _ (true, 109, [some (.ref 31), none, some (.int 10), some (.long 12), none, some (.int 47), none], [.int 111], (Ia10, Ja10, qcR_65, qcS_33 L, 33), 2, 21) = _
  refine (q_D_br (b := true) (p := (111 : Int32) = 32) (pa := 118) (pb := 133) (L := [some (.ref 31), none, some (.int 10), some (.long 12), none, some (.int 47), some (.int 111)]) (d := ([], (Ia10, Ja10, qcR_65, qcS_33 L, 33), 2, 21)) (La := [some (.ref 31), none, some (.int 10), some (.long 12), none, some (.int 47), none]) (Lb := [some (.ref 31), none, some (.int 10), some (.long 12), none, some (.int 47), some (.int 111)]) 4 rfl rfl rfl).trans ?_
  rw [q_ck_tt, if_neg (by decide)]
  refine (q_D_by (c' := (true, 147, [some (.ref 31), none, some (.int 10), some (.long 12), none, some (.int 47), some (.int 111)], [.long 399], (Ia10, Ja10, qcR_65, qcS_33 L, 33), 2, 21)) 10 rfl).trans ?_
  refine (q_D_by (c' := (true, 90, [some (.ref 31), none, some (.int 10), some (.long 399), none, some (.int 48), none], [.ref 1010, .int 48], (Ia10, Ja10, qcR_65, qcS_33 L, 33), 2, 21)) 5 rfl).trans ?_
  refine (q_D_call (X := q_text4 [.ref 1010] (Ia10, Ja10, qcR_65, qcS_33 L, 33)) (b := true) (pc := 93) (L := [some (.ref 31), none, some (.int 10), some (.long 399), none, some (.int 48), none]) (st := [.int 48]) (ce := 2) (sl := 21) 0 (true, 90, [some (.ref 31), none, some (.int 10), some (.long 399), none, some (.int 48), none], [.ref 1010, .int 48], (Ia10, Ja10, qcR_65, qcS_33 L, 33), 2, 21) rfl rfl).trans ?_
  rw [q_ck_tt, q_tx4 rfl]
  show q_D _ _ _ (true, 93, [some (.ref 31), none, some (.int 10), some (.long 399), none, some (.int 48), none], [.int 102, .int 48], (Ia10, Ja10, qcR_65, qcS_33 L, 33), 2, 21) = _
  refine (q_D_br (b := true) (p := (48 : Int32) < 102) (pa := 96) (pb := 154) (L := [some (.ref 31), none, some (.int 10), some (.long 399), none, some (.int 48), none]) (d := ([], (Ia10, Ja10, qcR_65, qcS_33 L, 33), 2, 21)) (La := [some (.ref 31), none, some (.int 10), some (.long 399), none, some (.int 48), none]) (Lb := [none, none, none, none, none, none, none]) 1 rfl rfl rfl).trans ?_
  rw [q_ck_tt, if_pos (by decide)]
  refine (q_D_br (b := true) (p := (10 : Int32) < 21) (pa := 102) (pb := 154) (L := [some (.ref 31), none, some (.int 10), some (.long 399), none, some (.int 48), none]) (d := ([], (Ia10, Ja10, qcR_65, qcS_33 L, 33), 2, 21)) (La := [some (.ref 31), none, some (.int 10), some (.long 399), none, some (.int 48), none]) (Lb := [none, none, none, none, none, none, none]) 3 rfl rfl rfl).trans ?_
  rw [q_ck_tt, if_pos (by decide)]
  refine (q_D_by (c' := (true, 106, [some (.ref 31), none, some (.int 10), some (.long 399), none, some (.int 48), none], [.int 48, .ref 1010], (Ia10, Ja10, qcR_65, qcS_33 L, 33), 2, 21)) 2 rfl).trans ?_
  refine (q_D_call (X := q_text5 [.ref 1010, .int 48] (Ia10, Ja10, qcR_65, qcS_33 L, 33)) (b := true) (pc := 109) (L := [some (.ref 31), none, some (.int 10), some (.long 399), none, some (.int 48), none]) (st := []) (ce := 2) (sl := 21) 0 (true, 106, [some (.ref 31), none, some (.int 10), some (.long 399), none, some (.int 48), none], [.int 48, .ref 1010], (Ia10, Ja10, qcR_65, qcS_33 L, 33), 2, 21) rfl rfl).trans ?_
  rw [q_ck_tt, q_tx5 48 119 rfl (by decide) (by decide)]
  show q_D _ _ _ (true, 109, [some (.ref 31), none, some (.int 10), some (.long 399), none, some (.int 48), none], [.int 119], (Ia10, Ja10, qcR_65, qcS_33 L, 33), 2, 21) = _
  refine (q_D_br (b := true) (p := (119 : Int32) = 32) (pa := 118) (pb := 133) (L := [some (.ref 31), none, some (.int 10), some (.long 399), none, some (.int 48), some (.int 119)]) (d := ([], (Ia10, Ja10, qcR_65, qcS_33 L, 33), 2, 21)) (La := [some (.ref 31), none, some (.int 10), some (.long 399), none, some (.int 48), none]) (Lb := [some (.ref 31), none, some (.int 10), some (.long 399), none, some (.int 48), some (.int 119)]) 4 rfl rfl rfl).trans ?_
  rw [q_ck_tt, if_neg (by decide)]
  refine (q_D_by (c' := (true, 147, [some (.ref 31), none, some (.int 10), some (.long 399), none, some (.int 48), some (.int 119)], [.long 12791], (Ia10, Ja10, qcR_65, qcS_33 L, 33), 2, 21)) 10 rfl).trans ?_
  refine (q_D_by (c' := (true, 90, [some (.ref 31), none, some (.int 10), some (.long 12791), none, some (.int 49), none], [.ref 1010, .int 49], (Ia10, Ja10, qcR_65, qcS_33 L, 33), 2, 21)) 5 rfl).trans ?_
  refine (q_D_call (X := q_text4 [.ref 1010] (Ia10, Ja10, qcR_65, qcS_33 L, 33)) (b := true) (pc := 93) (L := [some (.ref 31), none, some (.int 10), some (.long 12791), none, some (.int 49), none]) (st := [.int 49]) (ce := 2) (sl := 21) 0 (true, 90, [some (.ref 31), none, some (.int 10), some (.long 12791), none, some (.int 49), none], [.ref 1010, .int 49], (Ia10, Ja10, qcR_65, qcS_33 L, 33), 2, 21) rfl rfl).trans ?_
  rw [q_ck_tt, q_tx4 rfl]
  show q_D _ _ _ (true, 93, [some (.ref 31), none, some (.int 10), some (.long 12791), none, some (.int 49), none], [.int 102, .int 49], (Ia10, Ja10, qcR_65, qcS_33 L, 33), 2, 21) = _
  refine (q_D_br (b := true) (p := (49 : Int32) < 102) (pa := 96) (pb := 154) (L := [some (.ref 31), none, some (.int 10), some (.long 12791), none, some (.int 49), none]) (d := ([], (Ia10, Ja10, qcR_65, qcS_33 L, 33), 2, 21)) (La := [some (.ref 31), none, some (.int 10), some (.long 12791), none, some (.int 49), none]) (Lb := [none, none, none, none, none, none, none]) 1 rfl rfl rfl).trans ?_
  rw [q_ck_tt, if_pos (by decide)]
  refine (q_D_br (b := true) (p := (10 : Int32) < 21) (pa := 102) (pb := 154) (L := [some (.ref 31), none, some (.int 10), some (.long 12791), none, some (.int 49), none]) (d := ([], (Ia10, Ja10, qcR_65, qcS_33 L, 33), 2, 21)) (La := [some (.ref 31), none, some (.int 10), some (.long 12791), none, some (.int 49), none]) (Lb := [none, none, none, none, none, none, none]) 3 rfl rfl rfl).trans ?_
  rw [q_ck_tt, if_pos (by decide)]
  refine (q_D_by (c' := (true, 106, [some (.ref 31), none, some (.int 10), some (.long 12791), none, some (.int 49), none], [.int 49, .ref 1010], (Ia10, Ja10, qcR_65, qcS_33 L, 33), 2, 21)) 2 rfl).trans ?_
  refine (q_D_call (X := q_text5 [.ref 1010, .int 49] (Ia10, Ja10, qcR_65, qcS_33 L, 33)) (b := true) (pc := 109) (L := [some (.ref 31), none, some (.int 10), some (.long 12791), none, some (.int 49), none]) (st := []) (ce := 2) (sl := 21) 0 (true, 106, [some (.ref 31), none, some (.int 10), some (.long 12791), none, some (.int 49), none], [.int 49, .ref 1010], (Ia10, Ja10, qcR_65, qcS_33 L, 33), 2, 21) rfl rfl).trans ?_
  rw [q_ck_tt, q_tx5 49 32 rfl (by decide) (by decide)]
  show q_D _ _ _ (true, 109, [some (.ref 31), none, some (.int 10), some (.long 12791), none, some (.int 49), none], [.int 32], (Ia10, Ja10, qcR_65, qcS_33 L, 33), 2, 21) = _
  refine (q_D_br (b := true) (p := (32 : Int32) = 32) (pa := 118) (pb := 133) (L := [some (.ref 31), none, some (.int 10), some (.long 12791), none, some (.int 49), some (.int 32)]) (d := ([], (Ia10, Ja10, qcR_65, qcS_33 L, 33), 2, 21)) (La := [some (.ref 31), none, some (.int 10), some (.long 12791), none, some (.int 49), none]) (Lb := [some (.ref 31), none, some (.int 10), some (.long 12791), none, some (.int 49), some (.int 32)]) 4 rfl rfl rfl).trans ?_
  rw [q_ck_tt, if_pos (by decide)]
  refine (q_D_by (c' := (true, 125, [some (.ref 31), none, some (.int 10), some (.long 12791), none, some (.int 49), none], [], (Ia10, (q_up Ja10 32 10 12791), qcR_65, qcS_33 L, 33), 2, 21)) 5 rfl).trans ?_
  rw [← ea11, ← ja11]
  refine (q_D_by (c' := (true, 90, [some (.ref 31), none, some (.int 11), some (.long 0), none, some (.int 50), none], [.ref 1010, .int 50], (Ia11, Ja11, qcR_65, qcS_33 L, 33), 2, 21)) 8 rfl).trans ?_
  refine (q_D_call (X := q_text4 [.ref 1010] (Ia11, Ja11, qcR_65, qcS_33 L, 33)) (b := true) (pc := 93) (L := [some (.ref 31), none, some (.int 11), some (.long 0), none, some (.int 50), none]) (st := [.int 50]) (ce := 2) (sl := 21) 0 (true, 90, [some (.ref 31), none, some (.int 11), some (.long 0), none, some (.int 50), none], [.ref 1010, .int 50], (Ia11, Ja11, qcR_65, qcS_33 L, 33), 2, 21) rfl rfl).trans ?_
  rw [q_ck_tt, q_tx4 rfl]
  show q_D _ _ _ (true, 93, [some (.ref 31), none, some (.int 11), some (.long 0), none, some (.int 50), none], [.int 102, .int 50], (Ia11, Ja11, qcR_65, qcS_33 L, 33), 2, 21) = _
  refine (q_D_br (b := true) (p := (50 : Int32) < 102) (pa := 96) (pb := 154) (L := [some (.ref 31), none, some (.int 11), some (.long 0), none, some (.int 50), none]) (d := ([], (Ia11, Ja11, qcR_65, qcS_33 L, 33), 2, 21)) (La := [some (.ref 31), none, some (.int 11), some (.long 0), none, some (.int 50), none]) (Lb := [none, none, none, none, none, none, none]) 1 rfl rfl rfl).trans ?_
  rw [q_ck_tt, if_pos (by decide)]
  refine (q_D_br (b := true) (p := (11 : Int32) < 21) (pa := 102) (pb := 154) (L := [some (.ref 31), none, some (.int 11), some (.long 0), none, some (.int 50), none]) (d := ([], (Ia11, Ja11, qcR_65, qcS_33 L, 33), 2, 21)) (La := [some (.ref 31), none, some (.int 11), some (.long 0), none, some (.int 50), none]) (Lb := [none, none, none, none, none, none, none]) 3 rfl rfl rfl).trans ?_
  rw [q_ck_tt, if_pos (by decide)]
  refine (q_D_by (c' := (true, 106, [some (.ref 31), none, some (.int 11), some (.long 0), none, some (.int 50), none], [.int 50, .ref 1010], (Ia11, Ja11, qcR_65, qcS_33 L, 33), 2, 21)) 2 rfl).trans ?_
  refine (q_D_call (X := q_text5 [.ref 1010, .int 50] (Ia11, Ja11, qcR_65, qcS_33 L, 33)) (b := true) (pc := 109) (L := [some (.ref 31), none, some (.int 11), some (.long 0), none, some (.int 50), none]) (st := []) (ce := 2) (sl := 21) 0 (true, 106, [some (.ref 31), none, some (.int 11), some (.long 0), none, some (.int 50), none], [.int 50, .ref 1010], (Ia11, Ja11, qcR_65, qcS_33 L, 33), 2, 21) rfl rfl).trans ?_
  rw [q_ck_tt, q_tx5 50 104 rfl (by decide) (by decide)]
  show q_D _ _ _ (true, 109, [some (.ref 31), none, some (.int 11), some (.long 0), none, some (.int 50), none], [.int 104], (Ia11, Ja11, qcR_65, qcS_33 L, 33), 2, 21) = _
  refine (q_D_br (b := true) (p := (104 : Int32) = 32) (pa := 118) (pb := 133) (L := [some (.ref 31), none, some (.int 11), some (.long 0), none, some (.int 50), some (.int 104)]) (d := ([], (Ia11, Ja11, qcR_65, qcS_33 L, 33), 2, 21)) (La := [some (.ref 31), none, some (.int 11), some (.long 0), none, some (.int 50), none]) (Lb := [some (.ref 31), none, some (.int 11), some (.long 0), none, some (.int 50), some (.int 104)]) 4 rfl rfl rfl).trans ?_
  rw [q_ck_tt, if_neg (by decide)]
  refine (q_D_by (c' := (true, 147, [some (.ref 31), none, some (.int 11), some (.long 0), none, some (.int 50), some (.int 104)], [.long 8], (Ia11, Ja11, qcR_65, qcS_33 L, 33), 2, 21)) 10 rfl).trans ?_
  refine (q_D_by (c' := (true, 90, [some (.ref 31), none, some (.int 11), some (.long 8), none, some (.int 51), none], [.ref 1010, .int 51], (Ia11, Ja11, qcR_65, qcS_33 L, 33), 2, 21)) 5 rfl).trans ?_
  refine (q_D_call (X := q_text4 [.ref 1010] (Ia11, Ja11, qcR_65, qcS_33 L, 33)) (b := true) (pc := 93) (L := [some (.ref 31), none, some (.int 11), some (.long 8), none, some (.int 51), none]) (st := [.int 51]) (ce := 2) (sl := 21) 0 (true, 90, [some (.ref 31), none, some (.int 11), some (.long 8), none, some (.int 51), none], [.ref 1010, .int 51], (Ia11, Ja11, qcR_65, qcS_33 L, 33), 2, 21) rfl rfl).trans ?_
  rw [q_ck_tt, q_tx4 rfl]
  show q_D _ _ _ (true, 93, [some (.ref 31), none, some (.int 11), some (.long 8), none, some (.int 51), none], [.int 102, .int 51], (Ia11, Ja11, qcR_65, qcS_33 L, 33), 2, 21) = _
  refine (q_D_br (b := true) (p := (51 : Int32) < 102) (pa := 96) (pb := 154) (L := [some (.ref 31), none, some (.int 11), some (.long 8), none, some (.int 51), none]) (d := ([], (Ia11, Ja11, qcR_65, qcS_33 L, 33), 2, 21)) (La := [some (.ref 31), none, some (.int 11), some (.long 8), none, some (.int 51), none]) (Lb := [none, none, none, none, none, none, none]) 1 rfl rfl rfl).trans ?_
  rw [q_ck_tt, if_pos (by decide)]
  refine (q_D_br (b := true) (p := (11 : Int32) < 21) (pa := 102) (pb := 154) (L := [some (.ref 31), none, some (.int 11), some (.long 8), none, some (.int 51), none]) (d := ([], (Ia11, Ja11, qcR_65, qcS_33 L, 33), 2, 21)) (La := [some (.ref 31), none, some (.int 11), some (.long 8), none, some (.int 51), none]) (Lb := [none, none, none, none, none, none, none]) 3 rfl rfl rfl).trans ?_
  rw [q_ck_tt, if_pos (by decide)]
  refine (q_D_by (c' := (true, 106, [some (.ref 31), none, some (.int 11), some (.long 8), none, some (.int 51), none], [.int 51, .ref 1010], (Ia11, Ja11, qcR_65, qcS_33 L, 33), 2, 21)) 2 rfl).trans ?_
  refine (q_D_call (X := q_text5 [.ref 1010, .int 51] (Ia11, Ja11, qcR_65, qcS_33 L, 33)) (b := true) (pc := 109) (L := [some (.ref 31), none, some (.int 11), some (.long 8), none, some (.int 51), none]) (st := []) (ce := 2) (sl := 21) 0 (true, 106, [some (.ref 31), none, some (.int 11), some (.long 8), none, some (.int 51), none], [.int 51, .ref 1010], (Ia11, Ja11, qcR_65, qcS_33 L, 33), 2, 21) rfl rfl).trans ?_
  rw [q_ck_tt, q_tx5 51 105 rfl (by decide) (by decide)]
  show q_D _ _ _ (true, 109, [some (.ref 31), none, some (.int 11), some (.long 8), none, some (.int 51), none], [.int 105], (Ia11, Ja11, qcR_65, qcS_33 L, 33), 2, 21) = _
  refine (q_D_br (b := true) (p := (105 : Int32) = 32) (pa := 118) (pb := 133) (L := [some (.ref 31), none, some (.int 11), some (.long 8), none, some (.int 51), some (.int 105)]) (d := ([], (Ia11, Ja11, qcR_65, qcS_33 L, 33), 2, 21)) (La := [some (.ref 31), none, some (.int 11), some (.long 8), none, some (.int 51), none]) (Lb := [some (.ref 31), none, some (.int 11), some (.long 8), none, some (.int 51), some (.int 105)]) 4 rfl rfl rfl).trans ?_
  rw [q_ck_tt, if_neg (by decide)]
  refine (q_D_by (c' := (true, 147, [some (.ref 31), none, some (.int 11), some (.long 8), none, some (.int 51), some (.int 105)], [.long 265], (Ia11, Ja11, qcR_65, qcS_33 L, 33), 2, 21)) 10 rfl).trans ?_
  refine (q_D_by (c' := (true, 90, [some (.ref 31), none, some (.int 11), some (.long 265), none, some (.int 52), none], [.ref 1010, .int 52], (Ia11, Ja11, qcR_65, qcS_33 L, 33), 2, 21)) 5 rfl).trans ?_
  refine (q_D_call (X := q_text4 [.ref 1010] (Ia11, Ja11, qcR_65, qcS_33 L, 33)) (b := true) (pc := 93) (L := [some (.ref 31), none, some (.int 11), some (.long 265), none, some (.int 52), none]) (st := [.int 52]) (ce := 2) (sl := 21) 0 (true, 90, [some (.ref 31), none, some (.int 11), some (.long 265), none, some (.int 52), none], [.ref 1010, .int 52], (Ia11, Ja11, qcR_65, qcS_33 L, 33), 2, 21) rfl rfl).trans ?_
  rw [q_ck_tt, q_tx4 rfl]
  show q_D _ _ _ (true, 93, [some (.ref 31), none, some (.int 11), some (.long 265), none, some (.int 52), none], [.int 102, .int 52], (Ia11, Ja11, qcR_65, qcS_33 L, 33), 2, 21) = _
  refine (q_D_br (b := true) (p := (52 : Int32) < 102) (pa := 96) (pb := 154) (L := [some (.ref 31), none, some (.int 11), some (.long 265), none, some (.int 52), none]) (d := ([], (Ia11, Ja11, qcR_65, qcS_33 L, 33), 2, 21)) (La := [some (.ref 31), none, some (.int 11), some (.long 265), none, some (.int 52), none]) (Lb := [none, none, none, none, none, none, none]) 1 rfl rfl rfl).trans ?_
  rw [q_ck_tt, if_pos (by decide)]
  refine (q_D_br (b := true) (p := (11 : Int32) < 21) (pa := 102) (pb := 154) (L := [some (.ref 31), none, some (.int 11), some (.long 265), none, some (.int 52), none]) (d := ([], (Ia11, Ja11, qcR_65, qcS_33 L, 33), 2, 21)) (La := [some (.ref 31), none, some (.int 11), some (.long 265), none, some (.int 52), none]) (Lb := [none, none, none, none, none, none, none]) 3 rfl rfl rfl).trans ?_
  rw [q_ck_tt, if_pos (by decide)]
  refine (q_D_by (c' := (true, 106, [some (.ref 31), none, some (.int 11), some (.long 265), none, some (.int 52), none], [.int 52, .ref 1010], (Ia11, Ja11, qcR_65, qcS_33 L, 33), 2, 21)) 2 rfl).trans ?_
  refine (q_D_call (X := q_text5 [.ref 1010, .int 52] (Ia11, Ja11, qcR_65, qcS_33 L, 33)) (b := true) (pc := 109) (L := [some (.ref 31), none, some (.int 11), some (.long 265), none, some (.int 52), none]) (st := []) (ce := 2) (sl := 21) 0 (true, 106, [some (.ref 31), none, some (.int 11), some (.long 265), none, some (.int 52), none], [.int 52, .ref 1010], (Ia11, Ja11, qcR_65, qcS_33 L, 33), 2, 21) rfl rfl).trans ?_
  rw [q_ck_tt, q_tx5 52 103 rfl (by decide) (by decide)]
  show q_D _ _ _ (true, 109, [some (.ref 31), none, some (.int 11), some (.long 265), none, some (.int 52), none], [.int 103], (Ia11, Ja11, qcR_65, qcS_33 L, 33), 2, 21) = _
  refine (q_D_br (b := true) (p := (103 : Int32) = 32) (pa := 118) (pb := 133) (L := [some (.ref 31), none, some (.int 11), some (.long 265), none, some (.int 52), some (.int 103)]) (d := ([], (Ia11, Ja11, qcR_65, qcS_33 L, 33), 2, 21)) (La := [some (.ref 31), none, some (.int 11), some (.long 265), none, some (.int 52), none]) (Lb := [some (.ref 31), none, some (.int 11), some (.long 265), none, some (.int 52), some (.int 103)]) 4 rfl rfl rfl).trans ?_
  rw [q_ck_tt, if_neg (by decide)]
  refine (q_D_by (c' := (true, 147, [some (.ref 31), none, some (.int 11), some (.long 265), none, some (.int 52), some (.int 103)], [.long 8487], (Ia11, Ja11, qcR_65, qcS_33 L, 33), 2, 21)) 10 rfl).trans ?_
  refine (q_D_by (c' := (true, 90, [some (.ref 31), none, some (.int 11), some (.long 8487), none, some (.int 53), none], [.ref 1010, .int 53], (Ia11, Ja11, qcR_65, qcS_33 L, 33), 2, 21)) 5 rfl).trans ?_
  refine (q_D_call (X := q_text4 [.ref 1010] (Ia11, Ja11, qcR_65, qcS_33 L, 33)) (b := true) (pc := 93) (L := [some (.ref 31), none, some (.int 11), some (.long 8487), none, some (.int 53), none]) (st := [.int 53]) (ce := 2) (sl := 21) 0 (true, 90, [some (.ref 31), none, some (.int 11), some (.long 8487), none, some (.int 53), none], [.ref 1010, .int 53], (Ia11, Ja11, qcR_65, qcS_33 L, 33), 2, 21) rfl rfl).trans ?_
  rw [q_ck_tt, q_tx4 rfl]
  show q_D _ _ _ (true, 93, [some (.ref 31), none, some (.int 11), some (.long 8487), none, some (.int 53), none], [.int 102, .int 53], (Ia11, Ja11, qcR_65, qcS_33 L, 33), 2, 21) = _
  refine (q_D_br (b := true) (p := (53 : Int32) < 102) (pa := 96) (pb := 154) (L := [some (.ref 31), none, some (.int 11), some (.long 8487), none, some (.int 53), none]) (d := ([], (Ia11, Ja11, qcR_65, qcS_33 L, 33), 2, 21)) (La := [some (.ref 31), none, some (.int 11), some (.long 8487), none, some (.int 53), none]) (Lb := [none, none, none, none, none, none, none]) 1 rfl rfl rfl).trans ?_
  rw [q_ck_tt, if_pos (by decide)]
  refine (q_D_br (b := true) (p := (11 : Int32) < 21) (pa := 102) (pb := 154) (L := [some (.ref 31), none, some (.int 11), some (.long 8487), none, some (.int 53), none]) (d := ([], (Ia11, Ja11, qcR_65, qcS_33 L, 33), 2, 21)) (La := [some (.ref 31), none, some (.int 11), some (.long 8487), none, some (.int 53), none]) (Lb := [none, none, none, none, none, none, none]) 3 rfl rfl rfl).trans ?_
  rw [q_ck_tt, if_pos (by decide)]
  refine (q_D_by (c' := (true, 106, [some (.ref 31), none, some (.int 11), some (.long 8487), none, some (.int 53), none], [.int 53, .ref 1010], (Ia11, Ja11, qcR_65, qcS_33 L, 33), 2, 21)) 2 rfl).trans ?_
  refine (q_D_call (X := q_text5 [.ref 1010, .int 53] (Ia11, Ja11, qcR_65, qcS_33 L, 33)) (b := true) (pc := 109) (L := [some (.ref 31), none, some (.int 11), some (.long 8487), none, some (.int 53), none]) (st := []) (ce := 2) (sl := 21) 0 (true, 106, [some (.ref 31), none, some (.int 11), some (.long 8487), none, some (.int 53), none], [.int 53, .ref 1010], (Ia11, Ja11, qcR_65, qcS_33 L, 33), 2, 21) rfl rfl).trans ?_
  rw [q_ck_tt, q_tx5 53 104 rfl (by decide) (by decide)]
  show q_D _ _ _ (true, 109, [some (.ref 31), none, some (.int 11), some (.long 8487), none, some (.int 53), none], [.int 104], (Ia11, Ja11, qcR_65, qcS_33 L, 33), 2, 21) = _
  refine (q_D_br (b := true) (p := (104 : Int32) = 32) (pa := 118) (pb := 133) (L := [some (.ref 31), none, some (.int 11), some (.long 8487), none, some (.int 53), some (.int 104)]) (d := ([], (Ia11, Ja11, qcR_65, qcS_33 L, 33), 2, 21)) (La := [some (.ref 31), none, some (.int 11), some (.long 8487), none, some (.int 53), none]) (Lb := [some (.ref 31), none, some (.int 11), some (.long 8487), none, some (.int 53), some (.int 104)]) 4 rfl rfl rfl).trans ?_
  rw [q_ck_tt, if_neg (by decide)]
  refine (q_D_by (c' := (true, 147, [some (.ref 31), none, some (.int 11), some (.long 8487), none, some (.int 53), some (.int 104)], [.long 271592], (Ia11, Ja11, qcR_65, qcS_33 L, 33), 2, 21)) 10 rfl).trans ?_
  refine (q_D_by (c' := (true, 90, [some (.ref 31), none, some (.int 11), some (.long 271592), none, some (.int 54), none], [.ref 1010, .int 54], (Ia11, Ja11, qcR_65, qcS_33 L, 33), 2, 21)) 5 rfl).trans ?_
  refine (q_D_call (X := q_text4 [.ref 1010] (Ia11, Ja11, qcR_65, qcS_33 L, 33)) (b := true) (pc := 93) (L := [some (.ref 31), none, some (.int 11), some (.long 271592), none, some (.int 54), none]) (st := [.int 54]) (ce := 2) (sl := 21) 0 (true, 90, [some (.ref 31), none, some (.int 11), some (.long 271592), none, some (.int 54), none], [.ref 1010, .int 54], (Ia11, Ja11, qcR_65, qcS_33 L, 33), 2, 21) rfl rfl).trans ?_
  rw [q_ck_tt, q_tx4 rfl]
  show q_D _ _ _ (true, 93, [some (.ref 31), none, some (.int 11), some (.long 271592), none, some (.int 54), none], [.int 102, .int 54], (Ia11, Ja11, qcR_65, qcS_33 L, 33), 2, 21) = _
  refine (q_D_br (b := true) (p := (54 : Int32) < 102) (pa := 96) (pb := 154) (L := [some (.ref 31), none, some (.int 11), some (.long 271592), none, some (.int 54), none]) (d := ([], (Ia11, Ja11, qcR_65, qcS_33 L, 33), 2, 21)) (La := [some (.ref 31), none, some (.int 11), some (.long 271592), none, some (.int 54), none]) (Lb := [none, none, none, none, none, none, none]) 1 rfl rfl rfl).trans ?_
  rw [q_ck_tt, if_pos (by decide)]
  refine (q_D_br (b := true) (p := (11 : Int32) < 21) (pa := 102) (pb := 154) (L := [some (.ref 31), none, some (.int 11), some (.long 271592), none, some (.int 54), none]) (d := ([], (Ia11, Ja11, qcR_65, qcS_33 L, 33), 2, 21)) (La := [some (.ref 31), none, some (.int 11), some (.long 271592), none, some (.int 54), none]) (Lb := [none, none, none, none, none, none, none]) 3 rfl rfl rfl).trans ?_
  rw [q_ck_tt, if_pos (by decide)]
  refine (q_D_by (c' := (true, 106, [some (.ref 31), none, some (.int 11), some (.long 271592), none, some (.int 54), none], [.int 54, .ref 1010], (Ia11, Ja11, qcR_65, qcS_33 L, 33), 2, 21)) 2 rfl).trans ?_
  refine (q_D_call (X := q_text5 [.ref 1010, .int 54] (Ia11, Ja11, qcR_65, qcS_33 L, 33)) (b := true) (pc := 109) (L := [some (.ref 31), none, some (.int 11), some (.long 271592), none, some (.int 54), none]) (st := []) (ce := 2) (sl := 21) 0 (true, 106, [some (.ref 31), none, some (.int 11), some (.long 271592), none, some (.int 54), none], [.int 54, .ref 1010], (Ia11, Ja11, qcR_65, qcS_33 L, 33), 2, 21) rfl rfl).trans ?_
  rw [q_ck_tt, q_tx5 54 32 rfl (by decide) (by decide)]
  show q_D _ _ _ (true, 109, [some (.ref 31), none, some (.int 11), some (.long 271592), none, some (.int 54), none], [.int 32], (Ia11, Ja11, qcR_65, qcS_33 L, 33), 2, 21) = _
  refine (q_D_br (b := true) (p := (32 : Int32) = 32) (pa := 118) (pb := 133) (L := [some (.ref 31), none, some (.int 11), some (.long 271592), none, some (.int 54), some (.int 32)]) (d := ([], (Ia11, Ja11, qcR_65, qcS_33 L, 33), 2, 21)) (La := [some (.ref 31), none, some (.int 11), some (.long 271592), none, some (.int 54), none]) (Lb := [some (.ref 31), none, some (.int 11), some (.long 271592), none, some (.int 54), some (.int 32)]) 4 rfl rfl rfl).trans ?_
  rw [q_ck_tt, if_pos (by decide)]
  refine (q_D_by (c' := (true, 125, [some (.ref 31), none, some (.int 11), some (.long 271592), none, some (.int 54), none], [], (Ia11, (q_up Ja11 32 11 271592), qcR_65, qcS_33 L, 33), 2, 21)) 5 rfl).trans ?_
  rw [← ea12, ← ja12]
  refine (q_D_by (c' := (true, 90, [some (.ref 31), none, some (.int 12), some (.long 0), none, some (.int 55), none], [.ref 1010, .int 55], (Ia12, Ja12, qcR_65, qcS_33 L, 33), 2, 21)) 8 rfl).trans ?_
  refine (q_D_call (X := q_text4 [.ref 1010] (Ia12, Ja12, qcR_65, qcS_33 L, 33)) (b := true) (pc := 93) (L := [some (.ref 31), none, some (.int 12), some (.long 0), none, some (.int 55), none]) (st := [.int 55]) (ce := 2) (sl := 21) 0 (true, 90, [some (.ref 31), none, some (.int 12), some (.long 0), none, some (.int 55), none], [.ref 1010, .int 55], (Ia12, Ja12, qcR_65, qcS_33 L, 33), 2, 21) rfl rfl).trans ?_
  rw [q_ck_tt, q_tx4 rfl]
  show q_D _ _ _ (true, 93, [some (.ref 31), none, some (.int 12), some (.long 0), none, some (.int 55), none], [.int 102, .int 55], (Ia12, Ja12, qcR_65, qcS_33 L, 33), 2, 21) = _
  refine (q_D_br (b := true) (p := (55 : Int32) < 102) (pa := 96) (pb := 154) (L := [some (.ref 31), none, some (.int 12), some (.long 0), none, some (.int 55), none]) (d := ([], (Ia12, Ja12, qcR_65, qcS_33 L, 33), 2, 21)) (La := [some (.ref 31), none, some (.int 12), some (.long 0), none, some (.int 55), none]) (Lb := [none, none, none, none, none, none, none]) 1 rfl rfl rfl).trans ?_
  rw [q_ck_tt, if_pos (by decide)]
  refine (q_D_br (b := true) (p := (12 : Int32) < 21) (pa := 102) (pb := 154) (L := [some (.ref 31), none, some (.int 12), some (.long 0), none, some (.int 55), none]) (d := ([], (Ia12, Ja12, qcR_65, qcS_33 L, 33), 2, 21)) (La := [some (.ref 31), none, some (.int 12), some (.long 0), none, some (.int 55), none]) (Lb := [none, none, none, none, none, none, none]) 3 rfl rfl rfl).trans ?_
  rw [q_ck_tt, if_pos (by decide)]
  refine (q_D_by (c' := (true, 106, [some (.ref 31), none, some (.int 12), some (.long 0), none, some (.int 55), none], [.int 55, .ref 1010], (Ia12, Ja12, qcR_65, qcS_33 L, 33), 2, 21)) 2 rfl).trans ?_
  refine (q_D_call (X := q_text5 [.ref 1010, .int 55] (Ia12, Ja12, qcR_65, qcS_33 L, 33)) (b := true) (pc := 109) (L := [some (.ref 31), none, some (.int 12), some (.long 0), none, some (.int 55), none]) (st := []) (ce := 2) (sl := 21) 0 (true, 106, [some (.ref 31), none, some (.int 12), some (.long 0), none, some (.int 55), none], [.int 55, .ref 1010], (Ia12, Ja12, qcR_65, qcS_33 L, 33), 2, 21) rfl rfl).trans ?_
  rw [q_ck_tt, q_tx5 55 111 rfl (by decide) (by decide)]
  show q_D _ _ _ (true, 109, [some (.ref 31), none, some (.int 12), some (.long 0), none, some (.int 55), none], [.int 111], (Ia12, Ja12, qcR_65, qcS_33 L, 33), 2, 21) = _
  refine (q_D_br (b := true) (p := (111 : Int32) = 32) (pa := 118) (pb := 133) (L := [some (.ref 31), none, some (.int 12), some (.long 0), none, some (.int 55), some (.int 111)]) (d := ([], (Ia12, Ja12, qcR_65, qcS_33 L, 33), 2, 21)) (La := [some (.ref 31), none, some (.int 12), some (.long 0), none, some (.int 55), none]) (Lb := [some (.ref 31), none, some (.int 12), some (.long 0), none, some (.int 55), some (.int 111)]) 4 rfl rfl rfl).trans ?_
  rw [q_ck_tt, if_neg (by decide)]
  refine (q_D_by (c' := (true, 147, [some (.ref 31), none, some (.int 12), some (.long 0), none, some (.int 55), some (.int 111)], [.long 15], (Ia12, Ja12, qcR_65, qcS_33 L, 33), 2, 21)) 10 rfl).trans ?_
  refine (q_D_by (c' := (true, 90, [some (.ref 31), none, some (.int 12), some (.long 15), none, some (.int 56), none], [.ref 1010, .int 56], (Ia12, Ja12, qcR_65, qcS_33 L, 33), 2, 21)) 5 rfl).trans ?_
  refine (q_D_call (X := q_text4 [.ref 1010] (Ia12, Ja12, qcR_65, qcS_33 L, 33)) (b := true) (pc := 93) (L := [some (.ref 31), none, some (.int 12), some (.long 15), none, some (.int 56), none]) (st := [.int 56]) (ce := 2) (sl := 21) 0 (true, 90, [some (.ref 31), none, some (.int 12), some (.long 15), none, some (.int 56), none], [.ref 1010, .int 56], (Ia12, Ja12, qcR_65, qcS_33 L, 33), 2, 21) rfl rfl).trans ?_
  rw [q_ck_tt, q_tx4 rfl]
  show q_D _ _ _ (true, 93, [some (.ref 31), none, some (.int 12), some (.long 15), none, some (.int 56), none], [.int 102, .int 56], (Ia12, Ja12, qcR_65, qcS_33 L, 33), 2, 21) = _
  refine (q_D_br (b := true) (p := (56 : Int32) < 102) (pa := 96) (pb := 154) (L := [some (.ref 31), none, some (.int 12), some (.long 15), none, some (.int 56), none]) (d := ([], (Ia12, Ja12, qcR_65, qcS_33 L, 33), 2, 21)) (La := [some (.ref 31), none, some (.int 12), some (.long 15), none, some (.int 56), none]) (Lb := [none, none, none, none, none, none, none]) 1 rfl rfl rfl).trans ?_
  rw [q_ck_tt, if_pos (by decide)]
  refine (q_D_br (b := true) (p := (12 : Int32) < 21) (pa := 102) (pb := 154) (L := [some (.ref 31), none, some (.int 12), some (.long 15), none, some (.int 56), none]) (d := ([], (Ia12, Ja12, qcR_65, qcS_33 L, 33), 2, 21)) (La := [some (.ref 31), none, some (.int 12), some (.long 15), none, some (.int 56), none]) (Lb := [none, none, none, none, none, none, none]) 3 rfl rfl rfl).trans ?_
  rw [q_ck_tt, if_pos (by decide)]
  refine (q_D_by (c' := (true, 106, [some (.ref 31), none, some (.int 12), some (.long 15), none, some (.int 56), none], [.int 56, .ref 1010], (Ia12, Ja12, qcR_65, qcS_33 L, 33), 2, 21)) 2 rfl).trans ?_
  refine (q_D_call (X := q_text5 [.ref 1010, .int 56] (Ia12, Ja12, qcR_65, qcS_33 L, 33)) (b := true) (pc := 109) (L := [some (.ref 31), none, some (.int 12), some (.long 15), none, some (.int 56), none]) (st := []) (ce := 2) (sl := 21) 0 (true, 106, [some (.ref 31), none, some (.int 12), some (.long 15), none, some (.int 56), none], [.int 56, .ref 1010], (Ia12, Ja12, qcR_65, qcS_33 L, 33), 2, 21) rfl rfl).trans ?_
  rw [q_ck_tt, q_tx5 56 112 rfl (by decide) (by decide)]
  show q_D _ _ _ (true, 109, [some (.ref 31), none, some (.int 12), some (.long 15), none, some (.int 56), none], [.int 112], (Ia12, Ja12, qcR_65, qcS_33 L, 33), 2, 21) = _
  refine (q_D_br (b := true) (p := (112 : Int32) = 32) (pa := 118) (pb := 133) (L := [some (.ref 31), none, some (.int 12), some (.long 15), none, some (.int 56), some (.int 112)]) (d := ([], (Ia12, Ja12, qcR_65, qcS_33 L, 33), 2, 21)) (La := [some (.ref 31), none, some (.int 12), some (.long 15), none, some (.int 56), none]) (Lb := [some (.ref 31), none, some (.int 12), some (.long 15), none, some (.int 56), some (.int 112)]) 4 rfl rfl rfl).trans ?_
  rw [q_ck_tt, if_neg (by decide)]
  refine (q_D_by (c' := (true, 147, [some (.ref 31), none, some (.int 12), some (.long 15), none, some (.int 56), some (.int 112)], [.long 496], (Ia12, Ja12, qcR_65, qcS_33 L, 33), 2, 21)) 10 rfl).trans ?_
  refine (q_D_by (c' := (true, 90, [some (.ref 31), none, some (.int 12), some (.long 496), none, some (.int 57), none], [.ref 1010, .int 57], (Ia12, Ja12, qcR_65, qcS_33 L, 33), 2, 21)) 5 rfl).trans ?_
  refine (q_D_call (X := q_text4 [.ref 1010] (Ia12, Ja12, qcR_65, qcS_33 L, 33)) (b := true) (pc := 93) (L := [some (.ref 31), none, some (.int 12), some (.long 496), none, some (.int 57), none]) (st := [.int 57]) (ce := 2) (sl := 21) 0 (true, 90, [some (.ref 31), none, some (.int 12), some (.long 496), none, some (.int 57), none], [.ref 1010, .int 57], (Ia12, Ja12, qcR_65, qcS_33 L, 33), 2, 21) rfl rfl).trans ?_
  rw [q_ck_tt, q_tx4 rfl]
  show q_D _ _ _ (true, 93, [some (.ref 31), none, some (.int 12), some (.long 496), none, some (.int 57), none], [.int 102, .int 57], (Ia12, Ja12, qcR_65, qcS_33 L, 33), 2, 21) = _
  refine (q_D_br (b := true) (p := (57 : Int32) < 102) (pa := 96) (pb := 154) (L := [some (.ref 31), none, some (.int 12), some (.long 496), none, some (.int 57), none]) (d := ([], (Ia12, Ja12, qcR_65, qcS_33 L, 33), 2, 21)) (La := [some (.ref 31), none, some (.int 12), some (.long 496), none, some (.int 57), none]) (Lb := [none, none, none, none, none, none, none]) 1 rfl rfl rfl).trans ?_
  rw [q_ck_tt, if_pos (by decide)]
  refine (q_D_br (b := true) (p := (12 : Int32) < 21) (pa := 102) (pb := 154) (L := [some (.ref 31), none, some (.int 12), some (.long 496), none, some (.int 57), none]) (d := ([], (Ia12, Ja12, qcR_65, qcS_33 L, 33), 2, 21)) (La := [some (.ref 31), none, some (.int 12), some (.long 496), none, some (.int 57), none]) (Lb := [none, none, none, none, none, none, none]) 3 rfl rfl rfl).trans ?_
  rw [q_ck_tt, if_pos (by decide)]
  refine (q_D_by (c' := (true, 106, [some (.ref 31), none, some (.int 12), some (.long 496), none, some (.int 57), none], [.int 57, .ref 1010], (Ia12, Ja12, qcR_65, qcS_33 L, 33), 2, 21)) 2 rfl).trans ?_
  refine (q_D_call (X := q_text5 [.ref 1010, .int 57] (Ia12, Ja12, qcR_65, qcS_33 L, 33)) (b := true) (pc := 109) (L := [some (.ref 31), none, some (.int 12), some (.long 496), none, some (.int 57), none]) (st := []) (ce := 2) (sl := 21) 0 (true, 106, [some (.ref 31), none, some (.int 12), some (.long 496), none, some (.int 57), none], [.int 57, .ref 1010], (Ia12, Ja12, qcR_65, qcS_33 L, 33), 2, 21) rfl rfl).trans ?_
  rw [q_ck_tt, q_tx5 57 101 rfl (by decide) (by decide)]
  show q_D _ _ _ (true, 109, [some (.ref 31), none, some (.int 12), some (.long 496), none, some (.int 57), none], [.int 101], (Ia12, Ja12, qcR_65, qcS_33 L, 33), 2, 21) = _
  refine (q_D_br (b := true) (p := (101 : Int32) = 32) (pa := 118) (pb := 133) (L := [some (.ref 31), none, some (.int 12), some (.long 496), none, some (.int 57), some (.int 101)]) (d := ([], (Ia12, Ja12, qcR_65, qcS_33 L, 33), 2, 21)) (La := [some (.ref 31), none, some (.int 12), some (.long 496), none, some (.int 57), none]) (Lb := [some (.ref 31), none, some (.int 12), some (.long 496), none, some (.int 57), some (.int 101)]) 4 rfl rfl rfl).trans ?_
  rw [q_ck_tt, if_neg (by decide)]
  refine (q_D_by (c' := (true, 147, [some (.ref 31), none, some (.int 12), some (.long 496), none, some (.int 57), some (.int 101)], [.long 15877], (Ia12, Ja12, qcR_65, qcS_33 L, 33), 2, 21)) 10 rfl).trans ?_
  refine (q_D_by (c' := (true, 90, [some (.ref 31), none, some (.int 12), some (.long 15877), none, some (.int 58), none], [.ref 1010, .int 58], (Ia12, Ja12, qcR_65, qcS_33 L, 33), 2, 21)) 5 rfl).trans ?_
  refine (q_D_call (X := q_text4 [.ref 1010] (Ia12, Ja12, qcR_65, qcS_33 L, 33)) (b := true) (pc := 93) (L := [some (.ref 31), none, some (.int 12), some (.long 15877), none, some (.int 58), none]) (st := [.int 58]) (ce := 2) (sl := 21) 0 (true, 90, [some (.ref 31), none, some (.int 12), some (.long 15877), none, some (.int 58), none], [.ref 1010, .int 58], (Ia12, Ja12, qcR_65, qcS_33 L, 33), 2, 21) rfl rfl).trans ?_
  rw [q_ck_tt, q_tx4 rfl]
  show q_D _ _ _ (true, 93, [some (.ref 31), none, some (.int 12), some (.long 15877), none, some (.int 58), none], [.int 102, .int 58], (Ia12, Ja12, qcR_65, qcS_33 L, 33), 2, 21) = _
  refine (q_D_br (b := true) (p := (58 : Int32) < 102) (pa := 96) (pb := 154) (L := [some (.ref 31), none, some (.int 12), some (.long 15877), none, some (.int 58), none]) (d := ([], (Ia12, Ja12, qcR_65, qcS_33 L, 33), 2, 21)) (La := [some (.ref 31), none, some (.int 12), some (.long 15877), none, some (.int 58), none]) (Lb := [none, none, none, none, none, none, none]) 1 rfl rfl rfl).trans ?_
  rw [q_ck_tt, if_pos (by decide)]
  refine (q_D_br (b := true) (p := (12 : Int32) < 21) (pa := 102) (pb := 154) (L := [some (.ref 31), none, some (.int 12), some (.long 15877), none, some (.int 58), none]) (d := ([], (Ia12, Ja12, qcR_65, qcS_33 L, 33), 2, 21)) (La := [some (.ref 31), none, some (.int 12), some (.long 15877), none, some (.int 58), none]) (Lb := [none, none, none, none, none, none, none]) 3 rfl rfl rfl).trans ?_
  rw [q_ck_tt, if_pos (by decide)]
  refine (q_D_by (c' := (true, 106, [some (.ref 31), none, some (.int 12), some (.long 15877), none, some (.int 58), none], [.int 58, .ref 1010], (Ia12, Ja12, qcR_65, qcS_33 L, 33), 2, 21)) 2 rfl).trans ?_
  refine (q_D_call (X := q_text5 [.ref 1010, .int 58] (Ia12, Ja12, qcR_65, qcS_33 L, 33)) (b := true) (pc := 109) (L := [some (.ref 31), none, some (.int 12), some (.long 15877), none, some (.int 58), none]) (st := []) (ce := 2) (sl := 21) 0 (true, 106, [some (.ref 31), none, some (.int 12), some (.long 15877), none, some (.int 58), none], [.int 58, .ref 1010], (Ia12, Ja12, qcR_65, qcS_33 L, 33), 2, 21) rfl rfl).trans ?_
  rw [q_ck_tt, q_tx5 58 110 rfl (by decide) (by decide)]
  show q_D _ _ _ (true, 109, [some (.ref 31), none, some (.int 12), some (.long 15877), none, some (.int 58), none], [.int 110], (Ia12, Ja12, qcR_65, qcS_33 L, 33), 2, 21) = _
  refine (q_D_br (b := true) (p := (110 : Int32) = 32) (pa := 118) (pb := 133) (L := [some (.ref 31), none, some (.int 12), some (.long 15877), none, some (.int 58), some (.int 110)]) (d := ([], (Ia12, Ja12, qcR_65, qcS_33 L, 33), 2, 21)) (La := [some (.ref 31), none, some (.int 12), some (.long 15877), none, some (.int 58), none]) (Lb := [some (.ref 31), none, some (.int 12), some (.long 15877), none, some (.int 58), some (.int 110)]) 4 rfl rfl rfl).trans ?_
  rw [q_ck_tt, if_neg (by decide)]
  refine (q_D_by (c' := (true, 147, [some (.ref 31), none, some (.int 12), some (.long 15877), none, some (.int 58), some (.int 110)], [.long 508078], (Ia12, Ja12, qcR_65, qcS_33 L, 33), 2, 21)) 10 rfl).trans ?_
  refine (q_D_by (c' := (true, 90, [some (.ref 31), none, some (.int 12), some (.long 508078), none, some (.int 59), none], [.ref 1010, .int 59], (Ia12, Ja12, qcR_65, qcS_33 L, 33), 2, 21)) 5 rfl).trans ?_
  refine (q_D_call (X := q_text4 [.ref 1010] (Ia12, Ja12, qcR_65, qcS_33 L, 33)) (b := true) (pc := 93) (L := [some (.ref 31), none, some (.int 12), some (.long 508078), none, some (.int 59), none]) (st := [.int 59]) (ce := 2) (sl := 21) 0 (true, 90, [some (.ref 31), none, some (.int 12), some (.long 508078), none, some (.int 59), none], [.ref 1010, .int 59], (Ia12, Ja12, qcR_65, qcS_33 L, 33), 2, 21) rfl rfl).trans ?_
  rw [q_ck_tt, q_tx4 rfl]
  show q_D _ _ _ (true, 93, [some (.ref 31), none, some (.int 12), some (.long 508078), none, some (.int 59), none], [.int 102, .int 59], (Ia12, Ja12, qcR_65, qcS_33 L, 33), 2, 21) = _
  refine (q_D_br (b := true) (p := (59 : Int32) < 102) (pa := 96) (pb := 154) (L := [some (.ref 31), none, some (.int 12), some (.long 508078), none, some (.int 59), none]) (d := ([], (Ia12, Ja12, qcR_65, qcS_33 L, 33), 2, 21)) (La := [some (.ref 31), none, some (.int 12), some (.long 508078), none, some (.int 59), none]) (Lb := [none, none, none, none, none, none, none]) 1 rfl rfl rfl).trans ?_
  rw [q_ck_tt, if_pos (by decide)]
  refine (q_D_br (b := true) (p := (12 : Int32) < 21) (pa := 102) (pb := 154) (L := [some (.ref 31), none, some (.int 12), some (.long 508078), none, some (.int 59), none]) (d := ([], (Ia12, Ja12, qcR_65, qcS_33 L, 33), 2, 21)) (La := [some (.ref 31), none, some (.int 12), some (.long 508078), none, some (.int 59), none]) (Lb := [none, none, none, none, none, none, none]) 3 rfl rfl rfl).trans ?_
  rw [q_ck_tt, if_pos (by decide)]
  refine (q_D_by (c' := (true, 106, [some (.ref 31), none, some (.int 12), some (.long 508078), none, some (.int 59), none], [.int 59, .ref 1010], (Ia12, Ja12, qcR_65, qcS_33 L, 33), 2, 21)) 2 rfl).trans ?_
  refine (q_D_call (X := q_text5 [.ref 1010, .int 59] (Ia12, Ja12, qcR_65, qcS_33 L, 33)) (b := true) (pc := 109) (L := [some (.ref 31), none, some (.int 12), some (.long 508078), none, some (.int 59), none]) (st := []) (ce := 2) (sl := 21) 0 (true, 106, [some (.ref 31), none, some (.int 12), some (.long 508078), none, some (.int 59), none], [.int 59, .ref 1010], (Ia12, Ja12, qcR_65, qcS_33 L, 33), 2, 21) rfl rfl).trans ?_
  rw [q_ck_tt, q_tx5 59 32 rfl (by decide) (by decide)]
  show q_D _ _ _ (true, 109, [some (.ref 31), none, some (.int 12), some (.long 508078), none, some (.int 59), none], [.int 32], (Ia12, Ja12, qcR_65, qcS_33 L, 33), 2, 21) = _
  refine (q_D_br (b := true) (p := (32 : Int32) = 32) (pa := 118) (pb := 133) (L := [some (.ref 31), none, some (.int 12), some (.long 508078), none, some (.int 59), some (.int 32)]) (d := ([], (Ia12, Ja12, qcR_65, qcS_33 L, 33), 2, 21)) (La := [some (.ref 31), none, some (.int 12), some (.long 508078), none, some (.int 59), none]) (Lb := [some (.ref 31), none, some (.int 12), some (.long 508078), none, some (.int 59), some (.int 32)]) 4 rfl rfl rfl).trans ?_
  rw [q_ck_tt, if_pos (by decide)]
  refine (q_D_by (c' := (true, 125, [some (.ref 31), none, some (.int 12), some (.long 508078), none, some (.int 59), none], [], (Ia12, (q_up Ja12 32 12 508078), qcR_65, qcS_33 L, 33), 2, 21)) 5 rfl).trans ?_
  rw [← ea13, ← ja13]
  refine (q_D_by (c' := (true, 90, [some (.ref 31), none, some (.int 13), some (.long 0), none, some (.int 60), none], [.ref 1010, .int 60], (Ia13, Ja13, qcR_65, qcS_33 L, 33), 2, 21)) 8 rfl).trans ?_
  refine (q_D_call (X := q_text4 [.ref 1010] (Ia13, Ja13, qcR_65, qcS_33 L, 33)) (b := true) (pc := 93) (L := [some (.ref 31), none, some (.int 13), some (.long 0), none, some (.int 60), none]) (st := [.int 60]) (ce := 2) (sl := 21) 0 (true, 90, [some (.ref 31), none, some (.int 13), some (.long 0), none, some (.int 60), none], [.ref 1010, .int 60], (Ia13, Ja13, qcR_65, qcS_33 L, 33), 2, 21) rfl rfl).trans ?_
  rw [q_ck_tt, q_tx4 rfl]
  show q_D _ _ _ (true, 93, [some (.ref 31), none, some (.int 13), some (.long 0), none, some (.int 60), none], [.int 102, .int 60], (Ia13, Ja13, qcR_65, qcS_33 L, 33), 2, 21) = _
  refine (q_D_br (b := true) (p := (60 : Int32) < 102) (pa := 96) (pb := 154) (L := [some (.ref 31), none, some (.int 13), some (.long 0), none, some (.int 60), none]) (d := ([], (Ia13, Ja13, qcR_65, qcS_33 L, 33), 2, 21)) (La := [some (.ref 31), none, some (.int 13), some (.long 0), none, some (.int 60), none]) (Lb := [none, none, none, none, none, none, none]) 1 rfl rfl rfl).trans ?_
  rw [q_ck_tt, if_pos (by decide)]
  refine (q_D_br (b := true) (p := (13 : Int32) < 21) (pa := 102) (pb := 154) (L := [some (.ref 31), none, some (.int 13), some (.long 0), none, some (.int 60), none]) (d := ([], (Ia13, Ja13, qcR_65, qcS_33 L, 33), 2, 21)) (La := [some (.ref 31), none, some (.int 13), some (.long 0), none, some (.int 60), none]) (Lb := [none, none, none, none, none, none, none]) 3 rfl rfl rfl).trans ?_
  rw [q_ck_tt, if_pos (by decide)]
  refine (q_D_by (c' := (true, 106, [some (.ref 31), none, some (.int 13), some (.long 0), none, some (.int 60), none], [.int 60, .ref 1010], (Ia13, Ja13, qcR_65, qcS_33 L, 33), 2, 21)) 2 rfl).trans ?_
  refine (q_D_call (X := q_text5 [.ref 1010, .int 60] (Ia13, Ja13, qcR_65, qcS_33 L, 33)) (b := true) (pc := 109) (L := [some (.ref 31), none, some (.int 13), some (.long 0), none, some (.int 60), none]) (st := []) (ce := 2) (sl := 21) 0 (true, 106, [some (.ref 31), none, some (.int 13), some (.long 0), none, some (.int 60), none], [.int 60, .ref 1010], (Ia13, Ja13, qcR_65, qcS_33 L, 33), 2, 21) rfl rfl).trans ?_
  rw [q_ck_tt, q_tx5 60 115 rfl (by decide) (by decide)]
  show q_D _ _ _ (true, 109, [some (.ref 31), none, some (.int 13), some (.long 0), none, some (.int 60), none], [.int 115], (Ia13, Ja13, qcR_65, qcS_33 L, 33), 2, 21) = _
  refine (q_D_br (b := true) (p := (115 : Int32) = 32) (pa := 118) (pb := 133) (L := [some (.ref 31), none, some (.int 13), some (.long 0), none, some (.int 60), some (.int 115)]) (d := ([], (Ia13, Ja13, qcR_65, qcS_33 L, 33), 2, 21)) (La := [some (.ref 31), none, some (.int 13), some (.long 0), none, some (.int 60), none]) (Lb := [some (.ref 31), none, some (.int 13), some (.long 0), none, some (.int 60), some (.int 115)]) 4 rfl rfl rfl).trans ?_
  rw [q_ck_tt, if_neg (by decide)]
  refine (q_D_by (c' := (true, 147, [some (.ref 31), none, some (.int 13), some (.long 0), none, some (.int 60), some (.int 115)], [.long 19], (Ia13, Ja13, qcR_65, qcS_33 L, 33), 2, 21)) 10 rfl).trans ?_
  refine (q_D_by (c' := (true, 90, [some (.ref 31), none, some (.int 13), some (.long 19), none, some (.int 61), none], [.ref 1010, .int 61], (Ia13, Ja13, qcR_65, qcS_33 L, 33), 2, 21)) 5 rfl).trans ?_
  refine (q_D_call (X := q_text4 [.ref 1010] (Ia13, Ja13, qcR_65, qcS_33 L, 33)) (b := true) (pc := 93) (L := [some (.ref 31), none, some (.int 13), some (.long 19), none, some (.int 61), none]) (st := [.int 61]) (ce := 2) (sl := 21) 0 (true, 90, [some (.ref 31), none, some (.int 13), some (.long 19), none, some (.int 61), none], [.ref 1010, .int 61], (Ia13, Ja13, qcR_65, qcS_33 L, 33), 2, 21) rfl rfl).trans ?_
  rw [q_ck_tt, q_tx4 rfl]
  show q_D _ _ _ (true, 93, [some (.ref 31), none, some (.int 13), some (.long 19), none, some (.int 61), none], [.int 102, .int 61], (Ia13, Ja13, qcR_65, qcS_33 L, 33), 2, 21) = _
  refine (q_D_br (b := true) (p := (61 : Int32) < 102) (pa := 96) (pb := 154) (L := [some (.ref 31), none, some (.int 13), some (.long 19), none, some (.int 61), none]) (d := ([], (Ia13, Ja13, qcR_65, qcS_33 L, 33), 2, 21)) (La := [some (.ref 31), none, some (.int 13), some (.long 19), none, some (.int 61), none]) (Lb := [none, none, none, none, none, none, none]) 1 rfl rfl rfl).trans ?_
  rw [q_ck_tt, if_pos (by decide)]
  refine (q_D_br (b := true) (p := (13 : Int32) < 21) (pa := 102) (pb := 154) (L := [some (.ref 31), none, some (.int 13), some (.long 19), none, some (.int 61), none]) (d := ([], (Ia13, Ja13, qcR_65, qcS_33 L, 33), 2, 21)) (La := [some (.ref 31), none, some (.int 13), some (.long 19), none, some (.int 61), none]) (Lb := [none, none, none, none, none, none, none]) 3 rfl rfl rfl).trans ?_
  rw [q_ck_tt, if_pos (by decide)]
  refine (q_D_by (c' := (true, 106, [some (.ref 31), none, some (.int 13), some (.long 19), none, some (.int 61), none], [.int 61, .ref 1010], (Ia13, Ja13, qcR_65, qcS_33 L, 33), 2, 21)) 2 rfl).trans ?_
  refine (q_D_call (X := q_text5 [.ref 1010, .int 61] (Ia13, Ja13, qcR_65, qcS_33 L, 33)) (b := true) (pc := 109) (L := [some (.ref 31), none, some (.int 13), some (.long 19), none, some (.int 61), none]) (st := []) (ce := 2) (sl := 21) 0 (true, 106, [some (.ref 31), none, some (.int 13), some (.long 19), none, some (.int 61), none], [.int 61, .ref 1010], (Ia13, Ja13, qcR_65, qcS_33 L, 33), 2, 21) rfl rfl).trans ?_
  rw [q_ck_tt, q_tx5 61 116 rfl (by decide) (by decide)]
  show q_D _ _ _ (true, 109, [some (.ref 31), none, some (.int 13), some (.long 19), none, some (.int 61), none], [.int 116], (Ia13, Ja13, qcR_65, qcS_33 L, 33), 2, 21) = _
  refine (q_D_br (b := true) (p := (116 : Int32) = 32) (pa := 118) (pb := 133) (L := [some (.ref 31), none, some (.int 13), some (.long 19), none, some (.int 61), some (.int 116)]) (d := ([], (Ia13, Ja13, qcR_65, qcS_33 L, 33), 2, 21)) (La := [some (.ref 31), none, some (.int 13), some (.long 19), none, some (.int 61), none]) (Lb := [some (.ref 31), none, some (.int 13), some (.long 19), none, some (.int 61), some (.int 116)]) 4 rfl rfl rfl).trans ?_
  rw [q_ck_tt, if_neg (by decide)]
  refine (q_D_by (c' := (true, 147, [some (.ref 31), none, some (.int 13), some (.long 19), none, some (.int 61), some (.int 116)], [.long 628], (Ia13, Ja13, qcR_65, qcS_33 L, 33), 2, 21)) 10 rfl).trans ?_
  refine (q_D_by (c' := (true, 90, [some (.ref 31), none, some (.int 13), some (.long 628), none, some (.int 62), none], [.ref 1010, .int 62], (Ia13, Ja13, qcR_65, qcS_33 L, 33), 2, 21)) 5 rfl).trans ?_
  refine (q_D_call (X := q_text4 [.ref 1010] (Ia13, Ja13, qcR_65, qcS_33 L, 33)) (b := true) (pc := 93) (L := [some (.ref 31), none, some (.int 13), some (.long 628), none, some (.int 62), none]) (st := [.int 62]) (ce := 2) (sl := 21) 0 (true, 90, [some (.ref 31), none, some (.int 13), some (.long 628), none, some (.int 62), none], [.ref 1010, .int 62], (Ia13, Ja13, qcR_65, qcS_33 L, 33), 2, 21) rfl rfl).trans ?_
  rw [q_ck_tt, q_tx4 rfl]
  show q_D _ _ _ (true, 93, [some (.ref 31), none, some (.int 13), some (.long 628), none, some (.int 62), none], [.int 102, .int 62], (Ia13, Ja13, qcR_65, qcS_33 L, 33), 2, 21) = _
  refine (q_D_br (b := true) (p := (62 : Int32) < 102) (pa := 96) (pb := 154) (L := [some (.ref 31), none, some (.int 13), some (.long 628), none, some (.int 62), none]) (d := ([], (Ia13, Ja13, qcR_65, qcS_33 L, 33), 2, 21)) (La := [some (.ref 31), none, some (.int 13), some (.long 628), none, some (.int 62), none]) (Lb := [none, none, none, none, none, none, none]) 1 rfl rfl rfl).trans ?_
  rw [q_ck_tt, if_pos (by decide)]
  refine (q_D_br (b := true) (p := (13 : Int32) < 21) (pa := 102) (pb := 154) (L := [some (.ref 31), none, some (.int 13), some (.long 628), none, some (.int 62), none]) (d := ([], (Ia13, Ja13, qcR_65, qcS_33 L, 33), 2, 21)) (La := [some (.ref 31), none, some (.int 13), some (.long 628), none, some (.int 62), none]) (Lb := [none, none, none, none, none, none, none]) 3 rfl rfl rfl).trans ?_
  rw [q_ck_tt, if_pos (by decide)]
  refine (q_D_by (c' := (true, 106, [some (.ref 31), none, some (.int 13), some (.long 628), none, some (.int 62), none], [.int 62, .ref 1010], (Ia13, Ja13, qcR_65, qcS_33 L, 33), 2, 21)) 2 rfl).trans ?_
  refine (q_D_call (X := q_text5 [.ref 1010, .int 62] (Ia13, Ja13, qcR_65, qcS_33 L, 33)) (b := true) (pc := 109) (L := [some (.ref 31), none, some (.int 13), some (.long 628), none, some (.int 62), none]) (st := []) (ce := 2) (sl := 21) 0 (true, 106, [some (.ref 31), none, some (.int 13), some (.long 628), none, some (.int 62), none], [.int 62, .ref 1010], (Ia13, Ja13, qcR_65, qcS_33 L, 33), 2, 21) rfl rfl).trans ?_
  rw [q_ck_tt, q_tx5 62 117 rfl (by decide) (by decide)]
  show q_D _ _ _ (true, 109, [some (.ref 31), none, some (.int 13), some (.long 628), none, some (.int 62), none], [.int 117], (Ia13, Ja13, qcR_65, qcS_33 L, 33), 2, 21) = _
  refine (q_D_br (b := true) (p := (117 : Int32) = 32) (pa := 118) (pb := 133) (L := [some (.ref 31), none, some (.int 13), some (.long 628), none, some (.int 62), some (.int 117)]) (d := ([], (Ia13, Ja13, qcR_65, qcS_33 L, 33), 2, 21)) (La := [some (.ref 31), none, some (.int 13), some (.long 628), none, some (.int 62), none]) (Lb := [some (.ref 31), none, some (.int 13), some (.long 628), none, some (.int 62), some (.int 117)]) 4 rfl rfl rfl).trans ?_
  rw [q_ck_tt, if_neg (by decide)]
  refine (q_D_by (c' := (true, 147, [some (.ref 31), none, some (.int 13), some (.long 628), none, some (.int 62), some (.int 117)], [.long 20117], (Ia13, Ja13, qcR_65, qcS_33 L, 33), 2, 21)) 10 rfl).trans ?_
  refine (q_D_by (c' := (true, 90, [some (.ref 31), none, some (.int 13), some (.long 20117), none, some (.int 63), none], [.ref 1010, .int 63], (Ia13, Ja13, qcR_65, qcS_33 L, 33), 2, 21)) 5 rfl).trans ?_
  refine (q_D_call (X := q_text4 [.ref 1010] (Ia13, Ja13, qcR_65, qcS_33 L, 33)) (b := true) (pc := 93) (L := [some (.ref 31), none, some (.int 13), some (.long 20117), none, some (.int 63), none]) (st := [.int 63]) (ce := 2) (sl := 21) 0 (true, 90, [some (.ref 31), none, some (.int 13), some (.long 20117), none, some (.int 63), none], [.ref 1010, .int 63], (Ia13, Ja13, qcR_65, qcS_33 L, 33), 2, 21) rfl rfl).trans ?_
  rw [q_ck_tt, q_tx4 rfl]
  show q_D _ _ _ (true, 93, [some (.ref 31), none, some (.int 13), some (.long 20117), none, some (.int 63), none], [.int 102, .int 63], (Ia13, Ja13, qcR_65, qcS_33 L, 33), 2, 21) = _
  refine (q_D_br (b := true) (p := (63 : Int32) < 102) (pa := 96) (pb := 154) (L := [some (.ref 31), none, some (.int 13), some (.long 20117), none, some (.int 63), none]) (d := ([], (Ia13, Ja13, qcR_65, qcS_33 L, 33), 2, 21)) (La := [some (.ref 31), none, some (.int 13), some (.long 20117), none, some (.int 63), none]) (Lb := [none, none, none, none, none, none, none]) 1 rfl rfl rfl).trans ?_
  rw [q_ck_tt, if_pos (by decide)]
  refine (q_D_br (b := true) (p := (13 : Int32) < 21) (pa := 102) (pb := 154) (L := [some (.ref 31), none, some (.int 13), some (.long 20117), none, some (.int 63), none]) (d := ([], (Ia13, Ja13, qcR_65, qcS_33 L, 33), 2, 21)) (La := [some (.ref 31), none, some (.int 13), some (.long 20117), none, some (.int 63), none]) (Lb := [none, none, none, none, none, none, none]) 3 rfl rfl rfl).trans ?_
  rw [q_ck_tt, if_pos (by decide)]
  refine (q_D_by (c' := (true, 106, [some (.ref 31), none, some (.int 13), some (.long 20117), none, some (.int 63), none], [.int 63, .ref 1010], (Ia13, Ja13, qcR_65, qcS_33 L, 33), 2, 21)) 2 rfl).trans ?_
  refine (q_D_call (X := q_text5 [.ref 1010, .int 63] (Ia13, Ja13, qcR_65, qcS_33 L, 33)) (b := true) (pc := 109) (L := [some (.ref 31), none, some (.int 13), some (.long 20117), none, some (.int 63), none]) (st := []) (ce := 2) (sl := 21) 0 (true, 106, [some (.ref 31), none, some (.int 13), some (.long 20117), none, some (.int 63), none], [.int 63, .ref 1010], (Ia13, Ja13, qcR_65, qcS_33 L, 33), 2, 21) rfl rfl).trans ?_
  rw [q_ck_tt, q_tx5 63 99 rfl (by decide) (by decide)]
  show q_D _ _ _ (true, 109, [some (.ref 31), none, some (.int 13), some (.long 20117), none, some (.int 63), none], [.int 99], (Ia13, Ja13, qcR_65, qcS_33 L, 33), 2, 21) = _
  refine (q_D_br (b := true) (p := (99 : Int32) = 32) (pa := 118) (pb := 133) (L := [some (.ref 31), none, some (.int 13), some (.long 20117), none, some (.int 63), some (.int 99)]) (d := ([], (Ia13, Ja13, qcR_65, qcS_33 L, 33), 2, 21)) (La := [some (.ref 31), none, some (.int 13), some (.long 20117), none, some (.int 63), none]) (Lb := [some (.ref 31), none, some (.int 13), some (.long 20117), none, some (.int 63), some (.int 99)]) 4 rfl rfl rfl).trans ?_
  rw [q_ck_tt, if_neg (by decide)]
  refine (q_D_by (c' := (true, 147, [some (.ref 31), none, some (.int 13), some (.long 20117), none, some (.int 63), some (.int 99)], [.long 643747], (Ia13, Ja13, qcR_65, qcS_33 L, 33), 2, 21)) 10 rfl).trans ?_
  refine (q_D_by (c' := (true, 90, [some (.ref 31), none, some (.int 13), some (.long 643747), none, some (.int 64), none], [.ref 1010, .int 64], (Ia13, Ja13, qcR_65, qcS_33 L, 33), 2, 21)) 5 rfl).trans ?_
  refine (q_D_call (X := q_text4 [.ref 1010] (Ia13, Ja13, qcR_65, qcS_33 L, 33)) (b := true) (pc := 93) (L := [some (.ref 31), none, some (.int 13), some (.long 643747), none, some (.int 64), none]) (st := [.int 64]) (ce := 2) (sl := 21) 0 (true, 90, [some (.ref 31), none, some (.int 13), some (.long 643747), none, some (.int 64), none], [.ref 1010, .int 64], (Ia13, Ja13, qcR_65, qcS_33 L, 33), 2, 21) rfl rfl).trans ?_
  rw [q_ck_tt, q_tx4 rfl]
  show q_D _ _ _ (true, 93, [some (.ref 31), none, some (.int 13), some (.long 643747), none, some (.int 64), none], [.int 102, .int 64], (Ia13, Ja13, qcR_65, qcS_33 L, 33), 2, 21) = _
  refine (q_D_br (b := true) (p := (64 : Int32) < 102) (pa := 96) (pb := 154) (L := [some (.ref 31), none, some (.int 13), some (.long 643747), none, some (.int 64), none]) (d := ([], (Ia13, Ja13, qcR_65, qcS_33 L, 33), 2, 21)) (La := [some (.ref 31), none, some (.int 13), some (.long 643747), none, some (.int 64), none]) (Lb := [none, none, none, none, none, none, none]) 1 rfl rfl rfl).trans ?_
  rw [q_ck_tt, if_pos (by decide)]
  refine (q_D_br (b := true) (p := (13 : Int32) < 21) (pa := 102) (pb := 154) (L := [some (.ref 31), none, some (.int 13), some (.long 643747), none, some (.int 64), none]) (d := ([], (Ia13, Ja13, qcR_65, qcS_33 L, 33), 2, 21)) (La := [some (.ref 31), none, some (.int 13), some (.long 643747), none, some (.int 64), none]) (Lb := [none, none, none, none, none, none, none]) 3 rfl rfl rfl).trans ?_
  rw [q_ck_tt, if_pos (by decide)]
  refine (q_D_by (c' := (true, 106, [some (.ref 31), none, some (.int 13), some (.long 643747), none, some (.int 64), none], [.int 64, .ref 1010], (Ia13, Ja13, qcR_65, qcS_33 L, 33), 2, 21)) 2 rfl).trans ?_
  refine (q_D_call (X := q_text5 [.ref 1010, .int 64] (Ia13, Ja13, qcR_65, qcS_33 L, 33)) (b := true) (pc := 109) (L := [some (.ref 31), none, some (.int 13), some (.long 643747), none, some (.int 64), none]) (st := []) (ce := 2) (sl := 21) 0 (true, 106, [some (.ref 31), none, some (.int 13), some (.long 643747), none, some (.int 64), none], [.int 64, .ref 1010], (Ia13, Ja13, qcR_65, qcS_33 L, 33), 2, 21) rfl rfl).trans ?_
  rw [q_ck_tt, q_tx5 64 107 rfl (by decide) (by decide)]
  show q_D _ _ _ (true, 109, [some (.ref 31), none, some (.int 13), some (.long 643747), none, some (.int 64), none], [.int 107], (Ia13, Ja13, qcR_65, qcS_33 L, 33), 2, 21) = _
  refine (q_D_br (b := true) (p := (107 : Int32) = 32) (pa := 118) (pb := 133) (L := [some (.ref 31), none, some (.int 13), some (.long 643747), none, some (.int 64), some (.int 107)]) (d := ([], (Ia13, Ja13, qcR_65, qcS_33 L, 33), 2, 21)) (La := [some (.ref 31), none, some (.int 13), some (.long 643747), none, some (.int 64), none]) (Lb := [some (.ref 31), none, some (.int 13), some (.long 643747), none, some (.int 64), some (.int 107)]) 4 rfl rfl rfl).trans ?_
  rw [q_ck_tt, if_neg (by decide)]
  refine (q_D_by (c' := (true, 147, [some (.ref 31), none, some (.int 13), some (.long 643747), none, some (.int 64), some (.int 107)], [.long 20599915], (Ia13, Ja13, qcR_65, qcS_33 L, 33), 2, 21)) 10 rfl).trans ?_
  refine (q_D_by (c' := (true, 90, [some (.ref 31), none, some (.int 13), some (.long 20599915), none, some (.int 65), none], [.ref 1010, .int 65], (Ia13, Ja13, qcR_65, qcS_33 L, 33), 2, 21)) 5 rfl).trans ?_
  refine (q_D_call (X := q_text4 [.ref 1010] (Ia13, Ja13, qcR_65, qcS_33 L, 33)) (b := true) (pc := 93) (L := [some (.ref 31), none, some (.int 13), some (.long 20599915), none, some (.int 65), none]) (st := [.int 65]) (ce := 2) (sl := 21) 0 (true, 90, [some (.ref 31), none, some (.int 13), some (.long 20599915), none, some (.int 65), none], [.ref 1010, .int 65], (Ia13, Ja13, qcR_65, qcS_33 L, 33), 2, 21) rfl rfl).trans ?_
  rw [q_ck_tt, q_tx4 rfl]
  show q_D _ _ _ (true, 93, [some (.ref 31), none, some (.int 13), some (.long 20599915), none, some (.int 65), none], [.int 102, .int 65], (Ia13, Ja13, qcR_65, qcS_33 L, 33), 2, 21) = _
  refine (q_D_br (b := true) (p := (65 : Int32) < 102) (pa := 96) (pb := 154) (L := [some (.ref 31), none, some (.int 13), some (.long 20599915), none, some (.int 65), none]) (d := ([], (Ia13, Ja13, qcR_65, qcS_33 L, 33), 2, 21)) (La := [some (.ref 31), none, some (.int 13), some (.long 20599915), none, some (.int 65), none]) (Lb := [none, none, none, none, none, none, none]) 1 rfl rfl rfl).trans ?_
  rw [q_ck_tt, if_pos (by decide)]
  refine (q_D_br (b := true) (p := (13 : Int32) < 21) (pa := 102) (pb := 154) (L := [some (.ref 31), none, some (.int 13), some (.long 20599915), none, some (.int 65), none]) (d := ([], (Ia13, Ja13, qcR_65, qcS_33 L, 33), 2, 21)) (La := [some (.ref 31), none, some (.int 13), some (.long 20599915), none, some (.int 65), none]) (Lb := [none, none, none, none, none, none, none]) 3 rfl rfl rfl).trans ?_
  rw [q_ck_tt, if_pos (by decide)]
  refine (q_D_by (c' := (true, 106, [some (.ref 31), none, some (.int 13), some (.long 20599915), none, some (.int 65), none], [.int 65, .ref 1010], (Ia13, Ja13, qcR_65, qcS_33 L, 33), 2, 21)) 2 rfl).trans ?_
  refine (q_D_call (X := q_text5 [.ref 1010, .int 65] (Ia13, Ja13, qcR_65, qcS_33 L, 33)) (b := true) (pc := 109) (L := [some (.ref 31), none, some (.int 13), some (.long 20599915), none, some (.int 65), none]) (st := []) (ce := 2) (sl := 21) 0 (true, 106, [some (.ref 31), none, some (.int 13), some (.long 20599915), none, some (.int 65), none], [.int 65, .ref 1010], (Ia13, Ja13, qcR_65, qcS_33 L, 33), 2, 21) rfl rfl).trans ?_
  rw [q_ck_tt, q_tx5 65 32 rfl (by decide) (by decide)]
  show q_D _ _ _ (true, 109, [some (.ref 31), none, some (.int 13), some (.long 20599915), none, some (.int 65), none], [.int 32], (Ia13, Ja13, qcR_65, qcS_33 L, 33), 2, 21) = _
  refine (q_D_br (b := true) (p := (32 : Int32) = 32) (pa := 118) (pb := 133) (L := [some (.ref 31), none, some (.int 13), some (.long 20599915), none, some (.int 65), some (.int 32)]) (d := ([], (Ia13, Ja13, qcR_65, qcS_33 L, 33), 2, 21)) (La := [some (.ref 31), none, some (.int 13), some (.long 20599915), none, some (.int 65), none]) (Lb := [some (.ref 31), none, some (.int 13), some (.long 20599915), none, some (.int 65), some (.int 32)]) 4 rfl rfl rfl).trans ?_
  rw [q_ck_tt, if_pos (by decide)]
  refine (q_D_by (c' := (true, 125, [some (.ref 31), none, some (.int 13), some (.long 20599915), none, some (.int 65), none], [], (Ia13, (q_up Ja13 32 13 20599915), qcR_65, qcS_33 L, 33), 2, 21)) 5 rfl).trans ?_
  rw [← ea14, ← ja14]
  refine (q_D_by (c' := (true, 90, [some (.ref 31), none, some (.int 14), some (.long 0), none, some (.int 66), none], [.ref 1010, .int 66], (Ia14, Ja14, qcR_65, qcS_33 L, 33), 2, 21)) 8 rfl).trans ?_
  refine (q_D_call (X := q_text4 [.ref 1010] (Ia14, Ja14, qcR_65, qcS_33 L, 33)) (b := true) (pc := 93) (L := [some (.ref 31), none, some (.int 14), some (.long 0), none, some (.int 66), none]) (st := [.int 66]) (ce := 2) (sl := 21) 0 (true, 90, [some (.ref 31), none, some (.int 14), some (.long 0), none, some (.int 66), none], [.ref 1010, .int 66], (Ia14, Ja14, qcR_65, qcS_33 L, 33), 2, 21) rfl rfl).trans ?_
  rw [q_ck_tt, q_tx4 rfl]
  show q_D _ _ _ (true, 93, [some (.ref 31), none, some (.int 14), some (.long 0), none, some (.int 66), none], [.int 102, .int 66], (Ia14, Ja14, qcR_65, qcS_33 L, 33), 2, 21) = _
  refine (q_D_br (b := true) (p := (66 : Int32) < 102) (pa := 96) (pb := 154) (L := [some (.ref 31), none, some (.int 14), some (.long 0), none, some (.int 66), none]) (d := ([], (Ia14, Ja14, qcR_65, qcS_33 L, 33), 2, 21)) (La := [some (.ref 31), none, some (.int 14), some (.long 0), none, some (.int 66), none]) (Lb := [none, none, none, none, none, none, none]) 1 rfl rfl rfl).trans ?_
  rw [q_ck_tt, if_pos (by decide)]
  refine (q_D_br (b := true) (p := (14 : Int32) < 21) (pa := 102) (pb := 154) (L := [some (.ref 31), none, some (.int 14), some (.long 0), none, some (.int 66), none]) (d := ([], (Ia14, Ja14, qcR_65, qcS_33 L, 33), 2, 21)) (La := [some (.ref 31), none, some (.int 14), some (.long 0), none, some (.int 66), none]) (Lb := [none, none, none, none, none, none, none]) 3 rfl rfl rfl).trans ?_
  rw [q_ck_tt, if_pos (by decide)]
  refine (q_D_by (c' := (true, 106, [some (.ref 31), none, some (.int 14), some (.long 0), none, some (.int 66), none], [.int 66, .ref 1010], (Ia14, Ja14, qcR_65, qcS_33 L, 33), 2, 21)) 2 rfl).trans ?_
  refine (q_D_call (X := q_text5 [.ref 1010, .int 66] (Ia14, Ja14, qcR_65, qcS_33 L, 33)) (b := true) (pc := 109) (L := [some (.ref 31), none, some (.int 14), some (.long 0), none, some (.int 66), none]) (st := []) (ce := 2) (sl := 21) 0 (true, 106, [some (.ref 31), none, some (.int 14), some (.long 0), none, some (.int 66), none], [.int 66, .ref 1010], (Ia14, Ja14, qcR_65, qcS_33 L, 33), 2, 21) rfl rfl).trans ?_
  rw [q_ck_tt, q_tx5 66 102 rfl (by decide) (by decide)]
  show q_D _ _ _ (true, 109, [some (.ref 31), none, some (.int 14), some (.long 0), none, some (.int 66), none], [.int 102], (Ia14, Ja14, qcR_65, qcS_33 L, 33), 2, 21) = _
  refine (q_D_br (b := true) (p := (102 : Int32) = 32) (pa := 118) (pb := 133) (L := [some (.ref 31), none, some (.int 14), some (.long 0), none, some (.int 66), some (.int 102)]) (d := ([], (Ia14, Ja14, qcR_65, qcS_33 L, 33), 2, 21)) (La := [some (.ref 31), none, some (.int 14), some (.long 0), none, some (.int 66), none]) (Lb := [some (.ref 31), none, some (.int 14), some (.long 0), none, some (.int 66), some (.int 102)]) 4 rfl rfl rfl).trans ?_
  rw [q_ck_tt, if_neg (by decide)]
  refine (q_D_by (c' := (true, 147, [some (.ref 31), none, some (.int 14), some (.long 0), none, some (.int 66), some (.int 102)], [.long 6], (Ia14, Ja14, qcR_65, qcS_33 L, 33), 2, 21)) 10 rfl).trans ?_
  refine (q_D_by (c' := (true, 90, [some (.ref 31), none, some (.int 14), some (.long 6), none, some (.int 67), none], [.ref 1010, .int 67], (Ia14, Ja14, qcR_65, qcS_33 L, 33), 2, 21)) 5 rfl).trans ?_
  refine (q_D_call (X := q_text4 [.ref 1010] (Ia14, Ja14, qcR_65, qcS_33 L, 33)) (b := true) (pc := 93) (L := [some (.ref 31), none, some (.int 14), some (.long 6), none, some (.int 67), none]) (st := [.int 67]) (ce := 2) (sl := 21) 0 (true, 90, [some (.ref 31), none, some (.int 14), some (.long 6), none, some (.int 67), none], [.ref 1010, .int 67], (Ia14, Ja14, qcR_65, qcS_33 L, 33), 2, 21) rfl rfl).trans ?_
  rw [q_ck_tt, q_tx4 rfl]
  show q_D _ _ _ (true, 93, [some (.ref 31), none, some (.int 14), some (.long 6), none, some (.int 67), none], [.int 102, .int 67], (Ia14, Ja14, qcR_65, qcS_33 L, 33), 2, 21) = _
  refine (q_D_br (b := true) (p := (67 : Int32) < 102) (pa := 96) (pb := 154) (L := [some (.ref 31), none, some (.int 14), some (.long 6), none, some (.int 67), none]) (d := ([], (Ia14, Ja14, qcR_65, qcS_33 L, 33), 2, 21)) (La := [some (.ref 31), none, some (.int 14), some (.long 6), none, some (.int 67), none]) (Lb := [none, none, none, none, none, none, none]) 1 rfl rfl rfl).trans ?_
  rw [q_ck_tt, if_pos (by decide)]
  refine (q_D_br (b := true) (p := (14 : Int32) < 21) (pa := 102) (pb := 154) (L := [some (.ref 31), none, some (.int 14), some (.long 6), none, some (.int 67), none]) (d := ([], (Ia14, Ja14, qcR_65, qcS_33 L, 33), 2, 21)) (La := [some (.ref 31), none, some (.int 14), some (.long 6), none, some (.int 67), none]) (Lb := [none, none, none, none, none, none, none]) 3 rfl rfl rfl).trans ?_
  rw [q_ck_tt, if_pos (by decide)]
  refine (q_D_by (c' := (true, 106, [some (.ref 31), none, some (.int 14), some (.long 6), none, some (.int 67), none], [.int 67, .ref 1010], (Ia14, Ja14, qcR_65, qcS_33 L, 33), 2, 21)) 2 rfl).trans ?_
  refine (q_D_call (X := q_text5 [.ref 1010, .int 67] (Ia14, Ja14, qcR_65, qcS_33 L, 33)) (b := true) (pc := 109) (L := [some (.ref 31), none, some (.int 14), some (.long 6), none, some (.int 67), none]) (st := []) (ce := 2) (sl := 21) 0 (true, 106, [some (.ref 31), none, some (.int 14), some (.long 6), none, some (.int 67), none], [.int 67, .ref 1010], (Ia14, Ja14, qcR_65, qcS_33 L, 33), 2, 21) rfl rfl).trans ?_
  rw [q_ck_tt, q_tx5 67 108 rfl (by decide) (by decide)]
  show q_D _ _ _ (true, 109, [some (.ref 31), none, some (.int 14), some (.long 6), none, some (.int 67), none], [.int 108], (Ia14, Ja14, qcR_65, qcS_33 L, 33), 2, 21) = _
  refine (q_D_br (b := true) (p := (108 : Int32) = 32) (pa := 118) (pb := 133) (L := [some (.ref 31), none, some (.int 14), some (.long 6), none, some (.int 67), some (.int 108)]) (d := ([], (Ia14, Ja14, qcR_65, qcS_33 L, 33), 2, 21)) (La := [some (.ref 31), none, some (.int 14), some (.long 6), none, some (.int 67), none]) (Lb := [some (.ref 31), none, some (.int 14), some (.long 6), none, some (.int 67), some (.int 108)]) 4 rfl rfl rfl).trans ?_
  rw [q_ck_tt, if_neg (by decide)]
  refine (q_D_by (c' := (true, 147, [some (.ref 31), none, some (.int 14), some (.long 6), none, some (.int 67), some (.int 108)], [.long 204], (Ia14, Ja14, qcR_65, qcS_33 L, 33), 2, 21)) 10 rfl).trans ?_
  refine (q_D_by (c' := (true, 90, [some (.ref 31), none, some (.int 14), some (.long 204), none, some (.int 68), none], [.ref 1010, .int 68], (Ia14, Ja14, qcR_65, qcS_33 L, 33), 2, 21)) 5 rfl).trans ?_
  refine (q_D_call (X := q_text4 [.ref 1010] (Ia14, Ja14, qcR_65, qcS_33 L, 33)) (b := true) (pc := 93) (L := [some (.ref 31), none, some (.int 14), some (.long 204), none, some (.int 68), none]) (st := [.int 68]) (ce := 2) (sl := 21) 0 (true, 90, [some (.ref 31), none, some (.int 14), some (.long 204), none, some (.int 68), none], [.ref 1010, .int 68], (Ia14, Ja14, qcR_65, qcS_33 L, 33), 2, 21) rfl rfl).trans ?_
  rw [q_ck_tt, q_tx4 rfl]
  show q_D _ _ _ (true, 93, [some (.ref 31), none, some (.int 14), some (.long 204), none, some (.int 68), none], [.int 102, .int 68], (Ia14, Ja14, qcR_65, qcS_33 L, 33), 2, 21) = _
  refine (q_D_br (b := true) (p := (68 : Int32) < 102) (pa := 96) (pb := 154) (L := [some (.ref 31), none, some (.int 14), some (.long 204), none, some (.int 68), none]) (d := ([], (Ia14, Ja14, qcR_65, qcS_33 L, 33), 2, 21)) (La := [some (.ref 31), none, some (.int 14), some (.long 204), none, some (.int 68), none]) (Lb := [none, none, none, none, none, none, none]) 1 rfl rfl rfl).trans ?_
  rw [q_ck_tt, if_pos (by decide)]
  refine (q_D_br (b := true) (p := (14 : Int32) < 21) (pa := 102) (pb := 154) (L := [some (.ref 31), none, some (.int 14), some (.long 204), none, some (.int 68), none]) (d := ([], (Ia14, Ja14, qcR_65, qcS_33 L, 33), 2, 21)) (La := [some (.ref 31), none, some (.int 14), some (.long 204), none, some (.int 68), none]) (Lb := [none, none, none, none, none, none, none]) 3 rfl rfl rfl).trans ?_
  rw [q_ck_tt, if_pos (by decide)]
  refine (q_D_by (c' := (true, 106, [some (.ref 31), none, some (.int 14), some (.long 204), none, some (.int 68), none], [.int 68, .ref 1010], (Ia14, Ja14, qcR_65, qcS_33 L, 33), 2, 21)) 2 rfl).trans ?_
  refine (q_D_call (X := q_text5 [.ref 1010, .int 68] (Ia14, Ja14, qcR_65, qcS_33 L, 33)) (b := true) (pc := 109) (L := [some (.ref 31), none, some (.int 14), some (.long 204), none, some (.int 68), none]) (st := []) (ce := 2) (sl := 21) 0 (true, 106, [some (.ref 31), none, some (.int 14), some (.long 204), none, some (.int 68), none], [.int 68, .ref 1010], (Ia14, Ja14, qcR_65, qcS_33 L, 33), 2, 21) rfl rfl).trans ?_
  rw [q_ck_tt, q_tx5 68 111 rfl (by decide) (by decide)]
  show q_D _ _ _ (true, 109, [some (.ref 31), none, some (.int 14), some (.long 204), none, some (.int 68), none], [.int 111], (Ia14, Ja14, qcR_65, qcS_33 L, 33), 2, 21) = _
  refine (q_D_br (b := true) (p := (111 : Int32) = 32) (pa := 118) (pb := 133) (L := [some (.ref 31), none, some (.int 14), some (.long 204), none, some (.int 68), some (.int 111)]) (d := ([], (Ia14, Ja14, qcR_65, qcS_33 L, 33), 2, 21)) (La := [some (.ref 31), none, some (.int 14), some (.long 204), none, some (.int 68), none]) (Lb := [some (.ref 31), none, some (.int 14), some (.long 204), none, some (.int 68), some (.int 111)]) 4 rfl rfl rfl).trans ?_
  rw [q_ck_tt, if_neg (by decide)]
  refine (q_D_by (c' := (true, 147, [some (.ref 31), none, some (.int 14), some (.long 204), none, some (.int 68), some (.int 111)], [.long 6543], (Ia14, Ja14, qcR_65, qcS_33 L, 33), 2, 21)) 10 rfl).trans ?_
  refine (q_D_by (c' := (true, 90, [some (.ref 31), none, some (.int 14), some (.long 6543), none, some (.int 69), none], [.ref 1010, .int 69], (Ia14, Ja14, qcR_65, qcS_33 L, 33), 2, 21)) 5 rfl).trans ?_
  refine (q_D_call (X := q_text4 [.ref 1010] (Ia14, Ja14, qcR_65, qcS_33 L, 33)) (b := true) (pc := 93) (L := [some (.ref 31), none, some (.int 14), some (.long 6543), none, some (.int 69), none]) (st := [.int 69]) (ce := 2) (sl := 21) 0 (true, 90, [some (.ref 31), none, some (.int 14), some (.long 6543), none, some (.int 69), none], [.ref 1010, .int 69], (Ia14, Ja14, qcR_65, qcS_33 L, 33), 2, 21) rfl rfl).trans ?_
  rw [q_ck_tt, q_tx4 rfl]
  show q_D _ _ _ (true, 93, [some (.ref 31), none, some (.int 14), some (.long 6543), none, some (.int 69), none], [.int 102, .int 69], (Ia14, Ja14, qcR_65, qcS_33 L, 33), 2, 21) = _
  refine (q_D_br (b := true) (p := (69 : Int32) < 102) (pa := 96) (pb := 154) (L := [some (.ref 31), none, some (.int 14), some (.long 6543), none, some (.int 69), none]) (d := ([], (Ia14, Ja14, qcR_65, qcS_33 L, 33), 2, 21)) (La := [some (.ref 31), none, some (.int 14), some (.long 6543), none, some (.int 69), none]) (Lb := [none, none, none, none, none, none, none]) 1 rfl rfl rfl).trans ?_
  rw [q_ck_tt, if_pos (by decide)]
  refine (q_D_br (b := true) (p := (14 : Int32) < 21) (pa := 102) (pb := 154) (L := [some (.ref 31), none, some (.int 14), some (.long 6543), none, some (.int 69), none]) (d := ([], (Ia14, Ja14, qcR_65, qcS_33 L, 33), 2, 21)) (La := [some (.ref 31), none, some (.int 14), some (.long 6543), none, some (.int 69), none]) (Lb := [none, none, none, none, none, none, none]) 3 rfl rfl rfl).trans ?_
  rw [q_ck_tt, if_pos (by decide)]
  refine (q_D_by (c' := (true, 106, [some (.ref 31), none, some (.int 14), some (.long 6543), none, some (.int 69), none], [.int 69, .ref 1010], (Ia14, Ja14, qcR_65, qcS_33 L, 33), 2, 21)) 2 rfl).trans ?_
  refine (q_D_call (X := q_text5 [.ref 1010, .int 69] (Ia14, Ja14, qcR_65, qcS_33 L, 33)) (b := true) (pc := 109) (L := [some (.ref 31), none, some (.int 14), some (.long 6543), none, some (.int 69), none]) (st := []) (ce := 2) (sl := 21) 0 (true, 106, [some (.ref 31), none, some (.int 14), some (.long 6543), none, some (.int 69), none], [.int 69, .ref 1010], (Ia14, Ja14, qcR_65, qcS_33 L, 33), 2, 21) rfl rfl).trans ?_
  rw [q_ck_tt, q_tx5 69 97 rfl (by decide) (by decide)]
  show q_D _ _ _ (true, 109, [some (.ref 31), none, some (.int 14), some (.long 6543), none, some (.int 69), none], [.int 97], (Ia14, Ja14, qcR_65, qcS_33 L, 33), 2, 21) = _
  refine (q_D_br (b := true) (p := (97 : Int32) = 32) (pa := 118) (pb := 133) (L := [some (.ref 31), none, some (.int 14), some (.long 6543), none, some (.int 69), some (.int 97)]) (d := ([], (Ia14, Ja14, qcR_65, qcS_33 L, 33), 2, 21)) (La := [some (.ref 31), none, some (.int 14), some (.long 6543), none, some (.int 69), none]) (Lb := [some (.ref 31), none, some (.int 14), some (.long 6543), none, some (.int 69), some (.int 97)]) 4 rfl rfl rfl).trans ?_
  rw [q_ck_tt, if_neg (by decide)]
  refine (q_D_by (c' := (true, 147, [some (.ref 31), none, some (.int 14), some (.long 6543), none, some (.int 69), some (.int 97)], [.long 209377], (Ia14, Ja14, qcR_65, qcS_33 L, 33), 2, 21)) 10 rfl).trans ?_
  refine (q_D_by (c' := (true, 90, [some (.ref 31), none, some (.int 14), some (.long 209377), none, some (.int 70), none], [.ref 1010, .int 70], (Ia14, Ja14, qcR_65, qcS_33 L, 33), 2, 21)) 5 rfl).trans ?_
  refine (q_D_call (X := q_text4 [.ref 1010] (Ia14, Ja14, qcR_65, qcS_33 L, 33)) (b := true) (pc := 93) (L := [some (.ref 31), none, some (.int 14), some (.long 209377), none, some (.int 70), none]) (st := [.int 70]) (ce := 2) (sl := 21) 0 (true, 90, [some (.ref 31), none, some (.int 14), some (.long 209377), none, some (.int 70), none], [.ref 1010, .int 70], (Ia14, Ja14, qcR_65, qcS_33 L, 33), 2, 21) rfl rfl).trans ?_
  rw [q_ck_tt, q_tx4 rfl]
  show q_D _ _ _ (true, 93, [some (.ref 31), none, some (.int 14), some (.long 209377), none, some (.int 70), none], [.int 102, .int 70], (Ia14, Ja14, qcR_65, qcS_33 L, 33), 2, 21) = _
  refine (q_D_br (b := true) (p := (70 : Int32) < 102) (pa := 96) (pb := 154) (L := [some (.ref 31), none, some (.int 14), some (.long 209377), none, some (.int 70), none]) (d := ([], (Ia14, Ja14, qcR_65, qcS_33 L, 33), 2, 21)) (La := [some (.ref 31), none, some (.int 14), some (.long 209377), none, some (.int 70), none]) (Lb := [none, none, none, none, none, none, none]) 1 rfl rfl rfl).trans ?_
  rw [q_ck_tt, if_pos (by decide)]
  refine (q_D_br (b := true) (p := (14 : Int32) < 21) (pa := 102) (pb := 154) (L := [some (.ref 31), none, some (.int 14), some (.long 209377), none, some (.int 70), none]) (d := ([], (Ia14, Ja14, qcR_65, qcS_33 L, 33), 2, 21)) (La := [some (.ref 31), none, some (.int 14), some (.long 209377), none, some (.int 70), none]) (Lb := [none, none, none, none, none, none, none]) 3 rfl rfl rfl).trans ?_
  rw [q_ck_tt, if_pos (by decide)]
  refine (q_D_by (c' := (true, 106, [some (.ref 31), none, some (.int 14), some (.long 209377), none, some (.int 70), none], [.int 70, .ref 1010], (Ia14, Ja14, qcR_65, qcS_33 L, 33), 2, 21)) 2 rfl).trans ?_
  refine (q_D_call (X := q_text5 [.ref 1010, .int 70] (Ia14, Ja14, qcR_65, qcS_33 L, 33)) (b := true) (pc := 109) (L := [some (.ref 31), none, some (.int 14), some (.long 209377), none, some (.int 70), none]) (st := []) (ce := 2) (sl := 21) 0 (true, 106, [some (.ref 31), none, some (.int 14), some (.long 209377), none, some (.int 70), none], [.int 70, .ref 1010], (Ia14, Ja14, qcR_65, qcS_33 L, 33), 2, 21) rfl rfl).trans ?_
  rw [q_ck_tt, q_tx5 70 116 rfl (by decide) (by decide)]
  show q_D _ _ _ (true, 109, [some (.ref 31), none, some (.int 14), some (.long 209377), none, some (.int 70), none], [.int 116], (Ia14, Ja14, qcR_65, qcS_33 L, 33), 2, 21) = _
  refine (q_D_br (b := true) (p := (116 : Int32) = 32) (pa := 118) (pb := 133) (L := [some (.ref 31), none, some (.int 14), some (.long 209377), none, some (.int 70), some (.int 116)]) (d := ([], (Ia14, Ja14, qcR_65, qcS_33 L, 33), 2, 21)) (La := [some (.ref 31), none, some (.int 14), some (.long 209377), none, some (.int 70), none]) (Lb := [some (.ref 31), none, some (.int 14), some (.long 209377), none, some (.int 70), some (.int 116)]) 4 rfl rfl rfl).trans ?_
  rw [q_ck_tt, if_neg (by decide)]
  refine (q_D_by (c' := (true, 147, [some (.ref 31), none, some (.int 14), some (.long 209377), none, some (.int 70), some (.int 116)], [.long 6700084], (Ia14, Ja14, qcR_65, qcS_33 L, 33), 2, 21)) 10 rfl).trans ?_
  refine (q_D_by (c' := (true, 90, [some (.ref 31), none, some (.int 14), some (.long 6700084), none, some (.int 71), none], [.ref 1010, .int 71], (Ia14, Ja14, qcR_65, qcS_33 L, 33), 2, 21)) 5 rfl).trans ?_
  refine (q_D_call (X := q_text4 [.ref 1010] (Ia14, Ja14, qcR_65, qcS_33 L, 33)) (b := true) (pc := 93) (L := [some (.ref 31), none, some (.int 14), some (.long 6700084), none, some (.int 71), none]) (st := [.int 71]) (ce := 2) (sl := 21) 0 (true, 90, [some (.ref 31), none, some (.int 14), some (.long 6700084), none, some (.int 71), none], [.ref 1010, .int 71], (Ia14, Ja14, qcR_65, qcS_33 L, 33), 2, 21) rfl rfl).trans ?_
  rw [q_ck_tt, q_tx4 rfl]
  show q_D _ _ _ (true, 93, [some (.ref 31), none, some (.int 14), some (.long 6700084), none, some (.int 71), none], [.int 102, .int 71], (Ia14, Ja14, qcR_65, qcS_33 L, 33), 2, 21) = _
  refine (q_D_br (b := true) (p := (71 : Int32) < 102) (pa := 96) (pb := 154) (L := [some (.ref 31), none, some (.int 14), some (.long 6700084), none, some (.int 71), none]) (d := ([], (Ia14, Ja14, qcR_65, qcS_33 L, 33), 2, 21)) (La := [some (.ref 31), none, some (.int 14), some (.long 6700084), none, some (.int 71), none]) (Lb := [none, none, none, none, none, none, none]) 1 rfl rfl rfl).trans ?_
  rw [q_ck_tt, if_pos (by decide)]
  refine (q_D_br (b := true) (p := (14 : Int32) < 21) (pa := 102) (pb := 154) (L := [some (.ref 31), none, some (.int 14), some (.long 6700084), none, some (.int 71), none]) (d := ([], (Ia14, Ja14, qcR_65, qcS_33 L, 33), 2, 21)) (La := [some (.ref 31), none, some (.int 14), some (.long 6700084), none, some (.int 71), none]) (Lb := [none, none, none, none, none, none, none]) 3 rfl rfl rfl).trans ?_
  rw [q_ck_tt, if_pos (by decide)]
  refine (q_D_by (c' := (true, 106, [some (.ref 31), none, some (.int 14), some (.long 6700084), none, some (.int 71), none], [.int 71, .ref 1010], (Ia14, Ja14, qcR_65, qcS_33 L, 33), 2, 21)) 2 rfl).trans ?_
  refine (q_D_call (X := q_text5 [.ref 1010, .int 71] (Ia14, Ja14, qcR_65, qcS_33 L, 33)) (b := true) (pc := 109) (L := [some (.ref 31), none, some (.int 14), some (.long 6700084), none, some (.int 71), none]) (st := []) (ce := 2) (sl := 21) 0 (true, 106, [some (.ref 31), none, some (.int 14), some (.long 6700084), none, some (.int 71), none], [.int 71, .ref 1010], (Ia14, Ja14, qcR_65, qcS_33 L, 33), 2, 21) rfl rfl).trans ?_
  rw [q_ck_tt, q_tx5 71 115 rfl (by decide) (by decide)]
  show q_D _ _ _ (true, 109, [some (.ref 31), none, some (.int 14), some (.long 6700084), none, some (.int 71), none], [.int 115], (Ia14, Ja14, qcR_65, qcS_33 L, 33), 2, 21) = _
  refine (q_D_br (b := true) (p := (115 : Int32) = 32) (pa := 118) (pb := 133) (L := [some (.ref 31), none, some (.int 14), some (.long 6700084), none, some (.int 71), some (.int 115)]) (d := ([], (Ia14, Ja14, qcR_65, qcS_33 L, 33), 2, 21)) (La := [some (.ref 31), none, some (.int 14), some (.long 6700084), none, some (.int 71), none]) (Lb := [some (.ref 31), none, some (.int 14), some (.long 6700084), none, some (.int 71), some (.int 115)]) 4 rfl rfl rfl).trans ?_
  rw [q_ck_tt, if_neg (by decide)]
  refine (q_D_by (c' := (true, 147, [some (.ref 31), none, some (.int 14), some (.long 6700084), none, some (.int 71), some (.int 115)], [.long 214402707], (Ia14, Ja14, qcR_65, qcS_33 L, 33), 2, 21)) 10 rfl).trans ?_
  refine (q_D_by (c' := (true, 90, [some (.ref 31), none, some (.int 14), some (.long 214402707), none, some (.int 72), none], [.ref 1010, .int 72], (Ia14, Ja14, qcR_65, qcS_33 L, 33), 2, 21)) 5 rfl).trans ?_
  refine (q_D_call (X := q_text4 [.ref 1010] (Ia14, Ja14, qcR_65, qcS_33 L, 33)) (b := true) (pc := 93) (L := [some (.ref 31), none, some (.int 14), some (.long 214402707), none, some (.int 72), none]) (st := [.int 72]) (ce := 2) (sl := 21) 0 (true, 90, [some (.ref 31), none, some (.int 14), some (.long 214402707), none, some (.int 72), none], [.ref 1010, .int 72], (Ia14, Ja14, qcR_65, qcS_33 L, 33), 2, 21) rfl rfl).trans ?_
  rw [q_ck_tt, q_tx4 rfl]
  show q_D _ _ _ (true, 93, [some (.ref 31), none, some (.int 14), some (.long 214402707), none, some (.int 72), none], [.int 102, .int 72], (Ia14, Ja14, qcR_65, qcS_33 L, 33), 2, 21) = _
  refine (q_D_br (b := true) (p := (72 : Int32) < 102) (pa := 96) (pb := 154) (L := [some (.ref 31), none, some (.int 14), some (.long 214402707), none, some (.int 72), none]) (d := ([], (Ia14, Ja14, qcR_65, qcS_33 L, 33), 2, 21)) (La := [some (.ref 31), none, some (.int 14), some (.long 214402707), none, some (.int 72), none]) (Lb := [none, none, none, none, none, none, none]) 1 rfl rfl rfl).trans ?_
  rw [q_ck_tt, if_pos (by decide)]
  refine (q_D_br (b := true) (p := (14 : Int32) < 21) (pa := 102) (pb := 154) (L := [some (.ref 31), none, some (.int 14), some (.long 214402707), none, some (.int 72), none]) (d := ([], (Ia14, Ja14, qcR_65, qcS_33 L, 33), 2, 21)) (La := [some (.ref 31), none, some (.int 14), some (.long 214402707), none, some (.int 72), none]) (Lb := [none, none, none, none, none, none, none]) 3 rfl rfl rfl).trans ?_
  rw [q_ck_tt, if_pos (by decide)]
  refine (q_D_by (c' := (true, 106, [some (.ref 31), none, some (.int 14), some (.long 214402707), none, some (.int 72), none], [.int 72, .ref 1010], (Ia14, Ja14, qcR_65, qcS_33 L, 33), 2, 21)) 2 rfl).trans ?_
  refine (q_D_call (X := q_text5 [.ref 1010, .int 72] (Ia14, Ja14, qcR_65, qcS_33 L, 33)) (b := true) (pc := 109) (L := [some (.ref 31), none, some (.int 14), some (.long 214402707), none, some (.int 72), none]) (st := []) (ce := 2) (sl := 21) 0 (true, 106, [some (.ref 31), none, some (.int 14), some (.long 214402707), none, some (.int 72), none], [.int 72, .ref 1010], (Ia14, Ja14, qcR_65, qcS_33 L, 33), 2, 21) rfl rfl).trans ?_
  rw [q_ck_tt, q_tx5 72 32 rfl (by decide) (by decide)]
  show q_D _ _ _ (true, 109, [some (.ref 31), none, some (.int 14), some (.long 214402707), none, some (.int 72), none], [.int 32], (Ia14, Ja14, qcR_65, qcS_33 L, 33), 2, 21) = _
  refine (q_D_br (b := true) (p := (32 : Int32) = 32) (pa := 118) (pb := 133) (L := [some (.ref 31), none, some (.int 14), some (.long 214402707), none, some (.int 72), some (.int 32)]) (d := ([], (Ia14, Ja14, qcR_65, qcS_33 L, 33), 2, 21)) (La := [some (.ref 31), none, some (.int 14), some (.long 214402707), none, some (.int 72), none]) (Lb := [some (.ref 31), none, some (.int 14), some (.long 214402707), none, some (.int 72), some (.int 32)]) 4 rfl rfl rfl).trans ?_
  rw [q_ck_tt, if_pos (by decide)]
  refine (q_D_by (c' := (true, 125, [some (.ref 31), none, some (.int 14), some (.long 214402707), none, some (.int 72), none], [], (Ia14, (q_up Ja14 32 14 214402707), qcR_65, qcS_33 L, 33), 2, 21)) 5 rfl).trans ?_
  rw [← ea15, ← ja15]
  refine (q_D_by (c' := (true, 90, [some (.ref 31), none, some (.int 15), some (.long 0), none, some (.int 73), none], [.ref 1010, .int 73], (Ia15, Ja15, qcR_65, qcS_33 L, 33), 2, 21)) 8 rfl).trans ?_
  refine (q_D_call (X := q_text4 [.ref 1010] (Ia15, Ja15, qcR_65, qcS_33 L, 33)) (b := true) (pc := 93) (L := [some (.ref 31), none, some (.int 15), some (.long 0), none, some (.int 73), none]) (st := [.int 73]) (ce := 2) (sl := 21) 0 (true, 90, [some (.ref 31), none, some (.int 15), some (.long 0), none, some (.int 73), none], [.ref 1010, .int 73], (Ia15, Ja15, qcR_65, qcS_33 L, 33), 2, 21) rfl rfl).trans ?_
  rw [q_ck_tt, q_tx4 rfl]
  show q_D _ _ _ (true, 93, [some (.ref 31), none, some (.int 15), some (.long 0), none, some (.int 73), none], [.int 102, .int 73], (Ia15, Ja15, qcR_65, qcS_33 L, 33), 2, 21) = _
  refine (q_D_br (b := true) (p := (73 : Int32) < 102) (pa := 96) (pb := 154) (L := [some (.ref 31), none, some (.int 15), some (.long 0), none, some (.int 73), none]) (d := ([], (Ia15, Ja15, qcR_65, qcS_33 L, 33), 2, 21)) (La := [some (.ref 31), none, some (.int 15), some (.long 0), none, some (.int 73), none]) (Lb := [none, none, none, none, none, none, none]) 1 rfl rfl rfl).trans ?_
  rw [q_ck_tt, if_pos (by decide)]
  refine (q_D_br (b := true) (p := (15 : Int32) < 21) (pa := 102) (pb := 154) (L := [some (.ref 31), none, some (.int 15), some (.long 0), none, some (.int 73), none]) (d := ([], (Ia15, Ja15, qcR_65, qcS_33 L, 33), 2, 21)) (La := [some (.ref 31), none, some (.int 15), some (.long 0), none, some (.int 73), none]) (Lb := [none, none, none, none, none, none, none]) 3 rfl rfl rfl).trans ?_
  rw [q_ck_tt, if_pos (by decide)]
  refine (q_D_by (c' := (true, 106, [some (.ref 31), none, some (.int 15), some (.long 0), none, some (.int 73), none], [.int 73, .ref 1010], (Ia15, Ja15, qcR_65, qcS_33 L, 33), 2, 21)) 2 rfl).trans ?_
  refine (q_D_call (X := q_text5 [.ref 1010, .int 73] (Ia15, Ja15, qcR_65, qcS_33 L, 33)) (b := true) (pc := 109) (L := [some (.ref 31), none, some (.int 15), some (.long 0), none, some (.int 73), none]) (st := []) (ce := 2) (sl := 21) 0 (true, 106, [some (.ref 31), none, some (.int 15), some (.long 0), none, some (.int 73), none], [.int 73, .ref 1010], (Ia15, Ja15, qcR_65, qcS_33 L, 33), 2, 21) rfl rfl).trans ?_
  rw [q_ck_tt, q_tx5 73 110 rfl (by decide) (by decide)]
  show q_D _ _ _ (true, 109, [some (.ref 31), none, some (.int 15), some (.long 0), none, some (.int 73), none], [.int 110], (Ia15, Ja15, qcR_65, qcS_33 L, 33), 2, 21) = _
  refine (q_D_br (b := true) (p := (110 : Int32) = 32) (pa := 118) (pb := 133) (L := [some (.ref 31), none, some (.int 15), some (.long 0), none, some (.int 73), some (.int 110)]) (d := ([], (Ia15, Ja15, qcR_65, qcS_33 L, 33), 2, 21)) (La := [some (.ref 31), none, some (.int 15), some (.long 0), none, some (.int 73), none]) (Lb := [some (.ref 31), none, some (.int 15), some (.long 0), none, some (.int 73), some (.int 110)]) 4 rfl rfl rfl).trans ?_
  rw [q_ck_tt, if_neg (by decide)]
  refine (q_D_by (c' := (true, 147, [some (.ref 31), none, some (.int 15), some (.long 0), none, some (.int 73), some (.int 110)], [.long 14], (Ia15, Ja15, qcR_65, qcS_33 L, 33), 2, 21)) 10 rfl).trans ?_
  refine (q_D_by (c' := (true, 90, [some (.ref 31), none, some (.int 15), some (.long 14), none, some (.int 74), none], [.ref 1010, .int 74], (Ia15, Ja15, qcR_65, qcS_33 L, 33), 2, 21)) 5 rfl).trans ?_
  refine (q_D_call (X := q_text4 [.ref 1010] (Ia15, Ja15, qcR_65, qcS_33 L, 33)) (b := true) (pc := 93) (L := [some (.ref 31), none, some (.int 15), some (.long 14), none, some (.int 74), none]) (st := [.int 74]) (ce := 2) (sl := 21) 0 (true, 90, [some (.ref 31), none, some (.int 15), some (.long 14), none, some (.int 74), none], [.ref 1010, .int 74], (Ia15, Ja15, qcR_65, qcS_33 L, 33), 2, 21) rfl rfl).trans ?_
  rw [q_ck_tt, q_tx4 rfl]
  show q_D _ _ _ (true, 93, [some (.ref 31), none, some (.int 15), some (.long 14), none, some (.int 74), none], [.int 102, .int 74], (Ia15, Ja15, qcR_65, qcS_33 L, 33), 2, 21) = _
  refine (q_D_br (b := true) (p := (74 : Int32) < 102) (pa := 96) (pb := 154) (L := [some (.ref 31), none, some (.int 15), some (.long 14), none, some (.int 74), none]) (d := ([], (Ia15, Ja15, qcR_65, qcS_33 L, 33), 2, 21)) (La := [some (.ref 31), none, some (.int 15), some (.long 14), none, some (.int 74), none]) (Lb := [none, none, none, none, none, none, none]) 1 rfl rfl rfl).trans ?_
  rw [q_ck_tt, if_pos (by decide)]
  refine (q_D_br (b := true) (p := (15 : Int32) < 21) (pa := 102) (pb := 154) (L := [some (.ref 31), none, some (.int 15), some (.long 14), none, some (.int 74), none]) (d := ([], (Ia15, Ja15, qcR_65, qcS_33 L, 33), 2, 21)) (La := [some (.ref 31), none, some (.int 15), some (.long 14), none, some (.int 74), none]) (Lb := [none, none, none, none, none, none, none]) 3 rfl rfl rfl).trans ?_
  rw [q_ck_tt, if_pos (by decide)]
  refine (q_D_by (c' := (true, 106, [some (.ref 31), none, some (.int 15), some (.long 14), none, some (.int 74), none], [.int 74, .ref 1010], (Ia15, Ja15, qcR_65, qcS_33 L, 33), 2, 21)) 2 rfl).trans ?_
  refine (q_D_call (X := q_text5 [.ref 1010, .int 74] (Ia15, Ja15, qcR_65, qcS_33 L, 33)) (b := true) (pc := 109) (L := [some (.ref 31), none, some (.int 15), some (.long 14), none, some (.int 74), none]) (st := []) (ce := 2) (sl := 21) 0 (true, 106, [some (.ref 31), none, some (.int 15), some (.long 14), none, some (.int 74), none], [.int 74, .ref 1010], (Ia15, Ja15, qcR_65, qcS_33 L, 33), 2, 21) rfl rfl).trans ?_
  rw [q_ck_tt, q_tx5 74 111 rfl (by decide) (by decide)]
  show q_D _ _ _ (true, 109, [some (.ref 31), none, some (.int 15), some (.long 14), none, some (.int 74), none], [.int 111], (Ia15, Ja15, qcR_65, qcS_33 L, 33), 2, 21) = _
  refine (q_D_br (b := true) (p := (111 : Int32) = 32) (pa := 118) (pb := 133) (L := [some (.ref 31), none, some (.int 15), some (.long 14), none, some (.int 74), some (.int 111)]) (d := ([], (Ia15, Ja15, qcR_65, qcS_33 L, 33), 2, 21)) (La := [some (.ref 31), none, some (.int 15), some (.long 14), none, some (.int 74), none]) (Lb := [some (.ref 31), none, some (.int 15), some (.long 14), none, some (.int 74), some (.int 111)]) 4 rfl rfl rfl).trans ?_
  rw [q_ck_tt, if_neg (by decide)]
  refine (q_D_by (c' := (true, 147, [some (.ref 31), none, some (.int 15), some (.long 14), none, some (.int 74), some (.int 111)], [.long 463], (Ia15, Ja15, qcR_65, qcS_33 L, 33), 2, 21)) 10 rfl).trans ?_
  refine (q_D_by (c' := (true, 90, [some (.ref 31), none, some (.int 15), some (.long 463), none, some (.int 75), none], [.ref 1010, .int 75], (Ia15, Ja15, qcR_65, qcS_33 L, 33), 2, 21)) 5 rfl).trans ?_
  refine (q_D_call (X := q_text4 [.ref 1010] (Ia15, Ja15, qcR_65, qcS_33 L, 33)) (b := true) (pc := 93) (L := [some (.ref 31), none, some (.int 15), some (.long 463), none, some (.int 75), none]) (st := [.int 75]) (ce := 2) (sl := 21) 0 (true, 90, [some (.ref 31), none, some (.int 15), some (.long 463), none, some (.int 75), none], [.ref 1010, .int 75], (Ia15, Ja15, qcR_65, qcS_33 L, 33), 2, 21) rfl rfl).trans ?_
  rw [q_ck_tt, q_tx4 rfl]
  show q_D _ _ _ (true, 93, [some (.ref 31), none, some (.int 15), some (.long 463), none, some (.int 75), none], [.int 102, .int 75], (Ia15, Ja15, qcR_65, qcS_33 L, 33), 2, 21) = _
  refine (q_D_br (b := true) (p := (75 : Int32) < 102) (pa := 96) (pb := 154) (L := [some (.ref 31), none, some (.int 15), some (.long 463), none, some (.int 75), none]) (d := ([], (Ia15, Ja15, qcR_65, qcS_33 L, 33), 2, 21)) (La := [some (.ref 31), none, some (.int 15), some (.long 463), none, some (.int 75), none]) (Lb := [none, none, none, none, none, none, none]) 1 rfl rfl rfl).trans ?_
  rw [q_ck_tt, if_pos (by decide)]
  refine (q_D_br (b := true) (p := (15 : Int32) < 21) (pa := 102) (pb := 154) (L := [some (.ref 31), none, some (.int 15), some (.long 463), none, some (.int 75), none]) (d := ([], (Ia15, Ja15, qcR_65, qcS_33 L, 33), 2, 21)) (La := [some (.ref 31), none, some (.int 15), some (.long 463), none, some (.int 75), none]) (Lb := [none, none, none, none, none, none, none]) 3 rfl rfl rfl).trans ?_
  rw [q_ck_tt, if_pos (by decide)]
  refine (q_D_by (c' := (true, 106, [some (.ref 31), none, some (.int 15), some (.long 463), none, some (.int 75), none], [.int 75, .ref 1010], (Ia15, Ja15, qcR_65, qcS_33 L, 33), 2, 21)) 2 rfl).trans ?_
  refine (q_D_call (X := q_text5 [.ref 1010, .int 75] (Ia15, Ja15, qcR_65, qcS_33 L, 33)) (b := true) (pc := 109) (L := [some (.ref 31), none, some (.int 15), some (.long 463), none, some (.int 75), none]) (st := []) (ce := 2) (sl := 21) 0 (true, 106, [some (.ref 31), none, some (.int 15), some (.long 463), none, some (.int 75), none], [.int 75, .ref 1010], (Ia15, Ja15, qcR_65, qcS_33 L, 33), 2, 21) rfl rfl).trans ?_
  rw [q_ck_tt, q_tx5 75 105 rfl (by decide) (by decide)]
  show q_D _ _ _ (true, 109, [some (.ref 31), none, some (.int 15), some (.long 463), none, some (.int 75), none], [.int 105], (Ia15, Ja15, qcR_65, qcS_33 L, 33), 2, 21) = _
  refine (q_D_br (b := true) (p := (105 : Int32) = 32) (pa := 118) (pb := 133) (L := [some (.ref 31), none, some (.int 15), some (.long 463), none, some (.int 75), some (.int 105)]) (d := ([], (Ia15, Ja15, qcR_65, qcS_33 L, 33), 2, 21)) (La := [some (.ref 31), none, some (.int 15), some (.long 463), none, some (.int 75), none]) (Lb := [some (.ref 31), none, some (.int 15), some (.long 463), none, some (.int 75), some (.int 105)]) 4 rfl rfl rfl).trans ?_
  rw [q_ck_tt, if_neg (by decide)]
  refine (q_D_by (c' := (true, 147, [some (.ref 31), none, some (.int 15), some (.long 463), none, some (.int 75), some (.int 105)], [.long 14825], (Ia15, Ja15, qcR_65, qcS_33 L, 33), 2, 21)) 10 rfl).trans ?_
  refine (q_D_by (c' := (true, 90, [some (.ref 31), none, some (.int 15), some (.long 14825), none, some (.int 76), none], [.ref 1010, .int 76], (Ia15, Ja15, qcR_65, qcS_33 L, 33), 2, 21)) 5 rfl).trans ?_
  refine (q_D_call (X := q_text4 [.ref 1010] (Ia15, Ja15, qcR_65, qcS_33 L, 33)) (b := true) (pc := 93) (L := [some (.ref 31), none, some (.int 15), some (.long 14825), none, some (.int 76), none]) (st := [.int 76]) (ce := 2) (sl := 21) 0 (true, 90, [some (.ref 31), none, some (.int 15), some (.long 14825), none, some (.int 76), none], [.ref 1010, .int 76], (Ia15, Ja15, qcR_65, qcS_33 L, 33), 2, 21) rfl rfl).trans ?_
  rw [q_ck_tt, q_tx4 rfl]
  show q_D _ _ _ (true, 93, [some (.ref 31), none, some (.int 15), some (.long 14825), none, some (.int 76), none], [.int 102, .int 76], (Ia15, Ja15, qcR_65, qcS_33 L, 33), 2, 21) = _
  refine (q_D_br (b := true) (p := (76 : Int32) < 102) (pa := 96) (pb := 154) (L := [some (.ref 31), none, some (.int 15), some (.long 14825), none, some (.int 76), none]) (d := ([], (Ia15, Ja15, qcR_65, qcS_33 L, 33), 2, 21)) (La := [some (.ref 31), none, some (.int 15), some (.long 14825), none, some (.int 76), none]) (Lb := [none, none, none, none, none, none, none]) 1 rfl rfl rfl).trans ?_
  rw [q_ck_tt, if_pos (by decide)]
  refine (q_D_br (b := true) (p := (15 : Int32) < 21) (pa := 102) (pb := 154) (L := [some (.ref 31), none, some (.int 15), some (.long 14825), none, some (.int 76), none]) (d := ([], (Ia15, Ja15, qcR_65, qcS_33 L, 33), 2, 21)) (La := [some (.ref 31), none, some (.int 15), some (.long 14825), none, some (.int 76), none]) (Lb := [none, none, none, none, none, none, none]) 3 rfl rfl rfl).trans ?_
  rw [q_ck_tt, if_pos (by decide)]
  refine (q_D_by (c' := (true, 106, [some (.ref 31), none, some (.int 15), some (.long 14825), none, some (.int 76), none], [.int 76, .ref 1010], (Ia15, Ja15, qcR_65, qcS_33 L, 33), 2, 21)) 2 rfl).trans ?_
  refine (q_D_call (X := q_text5 [.ref 1010, .int 76] (Ia15, Ja15, qcR_65, qcS_33 L, 33)) (b := true) (pc := 109) (L := [some (.ref 31), none, some (.int 15), some (.long 14825), none, some (.int 76), none]) (st := []) (ce := 2) (sl := 21) 0 (true, 106, [some (.ref 31), none, some (.int 15), some (.long 14825), none, some (.int 76), none], [.int 76, .ref 1010], (Ia15, Ja15, qcR_65, qcS_33 L, 33), 2, 21) rfl rfl).trans ?_
  rw [q_ck_tt, q_tx5 76 115 rfl (by decide) (by decide)]
  show q_D _ _ _ (true, 109, [some (.ref 31), none, some (.int 15), some (.long 14825), none, some (.int 76), none], [.int 115], (Ia15, Ja15, qcR_65, qcS_33 L, 33), 2, 21) = _
  refine (q_D_br (b := true) (p := (115 : Int32) = 32) (pa := 118) (pb := 133) (L := [some (.ref 31), none, some (.int 15), some (.long 14825), none, some (.int 76), some (.int 115)]) (d := ([], (Ia15, Ja15, qcR_65, qcS_33 L, 33), 2, 21)) (La := [some (.ref 31), none, some (.int 15), some (.long 14825), none, some (.int 76), none]) (Lb := [some (.ref 31), none, some (.int 15), some (.long 14825), none, some (.int 76), some (.int 115)]) 4 rfl rfl rfl).trans ?_
  rw [q_ck_tt, if_neg (by decide)]
  refine (q_D_by (c' := (true, 147, [some (.ref 31), none, some (.int 15), some (.long 14825), none, some (.int 76), some (.int 115)], [.long 474419], (Ia15, Ja15, qcR_65, qcS_33 L, 33), 2, 21)) 10 rfl).trans ?_
  refine (q_D_by (c' := (true, 90, [some (.ref 31), none, some (.int 15), some (.long 474419), none, some (.int 77), none], [.ref 1010, .int 77], (Ia15, Ja15, qcR_65, qcS_33 L, 33), 2, 21)) 5 rfl).trans ?_
  refine (q_D_call (X := q_text4 [.ref 1010] (Ia15, Ja15, qcR_65, qcS_33 L, 33)) (b := true) (pc := 93) (L := [some (.ref 31), none, some (.int 15), some (.long 474419), none, some (.int 77), none]) (st := [.int 77]) (ce := 2) (sl := 21) 0 (true, 90, [some (.ref 31), none, some (.int 15), some (.long 474419), none, some (.int 77), none], [.ref 1010, .int 77], (Ia15, Ja15, qcR_65, qcS_33 L, 33), 2, 21) rfl rfl).trans ?_
  rw [q_ck_tt, q_tx4 rfl]
  show q_D _ _ _ (true, 93, [some (.ref 31), none, some (.int 15), some (.long 474419), none, some (.int 77), none], [.int 102, .int 77], (Ia15, Ja15, qcR_65, qcS_33 L, 33), 2, 21) = _
  refine (q_D_br (b := true) (p := (77 : Int32) < 102) (pa := 96) (pb := 154) (L := [some (.ref 31), none, some (.int 15), some (.long 474419), none, some (.int 77), none]) (d := ([], (Ia15, Ja15, qcR_65, qcS_33 L, 33), 2, 21)) (La := [some (.ref 31), none, some (.int 15), some (.long 474419), none, some (.int 77), none]) (Lb := [none, none, none, none, none, none, none]) 1 rfl rfl rfl).trans ?_
  rw [q_ck_tt, if_pos (by decide)]
  refine (q_D_br (b := true) (p := (15 : Int32) < 21) (pa := 102) (pb := 154) (L := [some (.ref 31), none, some (.int 15), some (.long 474419), none, some (.int 77), none]) (d := ([], (Ia15, Ja15, qcR_65, qcS_33 L, 33), 2, 21)) (La := [some (.ref 31), none, some (.int 15), some (.long 474419), none, some (.int 77), none]) (Lb := [none, none, none, none, none, none, none]) 3 rfl rfl rfl).trans ?_
  rw [q_ck_tt, if_pos (by decide)]
  refine (q_D_by (c' := (true, 106, [some (.ref 31), none, some (.int 15), some (.long 474419), none, some (.int 77), none], [.int 77, .ref 1010], (Ia15, Ja15, qcR_65, qcS_33 L, 33), 2, 21)) 2 rfl).trans ?_
  refine (q_D_call (X := q_text5 [.ref 1010, .int 77] (Ia15, Ja15, qcR_65, qcS_33 L, 33)) (b := true) (pc := 109) (L := [some (.ref 31), none, some (.int 15), some (.long 474419), none, some (.int 77), none]) (st := []) (ce := 2) (sl := 21) 0 (true, 106, [some (.ref 31), none, some (.int 15), some (.long 474419), none, some (.int 77), none], [.int 77, .ref 1010], (Ia15, Ja15, qcR_65, qcS_33 L, 33), 2, 21) rfl rfl).trans ?_
  rw [q_ck_tt, q_tx5 77 101 rfl (by decide) (by decide)]
  show q_D _ _ _ (true, 109, [some (.ref 31), none, some (.int 15), some (.long 474419), none, some (.int 77), none], [.int 101], (Ia15, Ja15, qcR_65, qcS_33 L, 33), 2, 21) = _
  refine (q_D_br (b := true) (p := (101 : Int32) = 32) (pa := 118) (pb := 133) (L := [some (.ref 31), none, some (.int 15), some (.long 474419), none, some (.int 77), some (.int 101)]) (d := ([], (Ia15, Ja15, qcR_65, qcS_33 L, 33), 2, 21)) (La := [some (.ref 31), none, some (.int 15), some (.long 474419), none, some (.int 77), none]) (Lb := [some (.ref 31), none, some (.int 15), some (.long 474419), none, some (.int 77), some (.int 101)]) 4 rfl rfl rfl).trans ?_
  rw [q_ck_tt, if_neg (by decide)]
  refine (q_D_by (c' := (true, 147, [some (.ref 31), none, some (.int 15), some (.long 474419), none, some (.int 77), some (.int 101)], [.long 15181413], (Ia15, Ja15, qcR_65, qcS_33 L, 33), 2, 21)) 10 rfl).trans ?_
  refine (q_D_by (c' := (true, 90, [some (.ref 31), none, some (.int 15), some (.long 15181413), none, some (.int 78), none], [.ref 1010, .int 78], (Ia15, Ja15, qcR_65, qcS_33 L, 33), 2, 21)) 5 rfl).trans ?_
  refine (q_D_call (X := q_text4 [.ref 1010] (Ia15, Ja15, qcR_65, qcS_33 L, 33)) (b := true) (pc := 93) (L := [some (.ref 31), none, some (.int 15), some (.long 15181413), none, some (.int 78), none]) (st := [.int 78]) (ce := 2) (sl := 21) 0 (true, 90, [some (.ref 31), none, some (.int 15), some (.long 15181413), none, some (.int 78), none], [.ref 1010, .int 78], (Ia15, Ja15, qcR_65, qcS_33 L, 33), 2, 21) rfl rfl).trans ?_
  rw [q_ck_tt, q_tx4 rfl]
  show q_D _ _ _ (true, 93, [some (.ref 31), none, some (.int 15), some (.long 15181413), none, some (.int 78), none], [.int 102, .int 78], (Ia15, Ja15, qcR_65, qcS_33 L, 33), 2, 21) = _
  refine (q_D_br (b := true) (p := (78 : Int32) < 102) (pa := 96) (pb := 154) (L := [some (.ref 31), none, some (.int 15), some (.long 15181413), none, some (.int 78), none]) (d := ([], (Ia15, Ja15, qcR_65, qcS_33 L, 33), 2, 21)) (La := [some (.ref 31), none, some (.int 15), some (.long 15181413), none, some (.int 78), none]) (Lb := [none, none, none, none, none, none, none]) 1 rfl rfl rfl).trans ?_
  rw [q_ck_tt, if_pos (by decide)]
  refine (q_D_br (b := true) (p := (15 : Int32) < 21) (pa := 102) (pb := 154) (L := [some (.ref 31), none, some (.int 15), some (.long 15181413), none, some (.int 78), none]) (d := ([], (Ia15, Ja15, qcR_65, qcS_33 L, 33), 2, 21)) (La := [some (.ref 31), none, some (.int 15), some (.long 15181413), none, some (.int 78), none]) (Lb := [none, none, none, none, none, none, none]) 3 rfl rfl rfl).trans ?_
  rw [q_ck_tt, if_pos (by decide)]
  refine (q_D_by (c' := (true, 106, [some (.ref 31), none, some (.int 15), some (.long 15181413), none, some (.int 78), none], [.int 78, .ref 1010], (Ia15, Ja15, qcR_65, qcS_33 L, 33), 2, 21)) 2 rfl).trans ?_
  refine (q_D_call (X := q_text5 [.ref 1010, .int 78] (Ia15, Ja15, qcR_65, qcS_33 L, 33)) (b := true) (pc := 109) (L := [some (.ref 31), none, some (.int 15), some (.long 15181413), none, some (.int 78), none]) (st := []) (ce := 2) (sl := 21) 0 (true, 106, [some (.ref 31), none, some (.int 15), some (.long 15181413), none, some (.int 78), none], [.int 78, .ref 1010], (Ia15, Ja15, qcR_65, qcS_33 L, 33), 2, 21) rfl rfl).trans ?_
  rw [q_ck_tt, q_tx5 78 32 rfl (by decide) (by decide)]
  show q_D _ _ _ (true, 109, [some (.ref 31), none, some (.int 15), some (.long 15181413), none, some (.int 78), none], [.int 32], (Ia15, Ja15, qcR_65, qcS_33 L, 33), 2, 21) = _
  refine (q_D_br (b := true) (p := (32 : Int32) = 32) (pa := 118) (pb := 133) (L := [some (.ref 31), none, some (.int 15), some (.long 15181413), none, some (.int 78), some (.int 32)]) (d := ([], (Ia15, Ja15, qcR_65, qcS_33 L, 33), 2, 21)) (La := [some (.ref 31), none, some (.int 15), some (.long 15181413), none, some (.int 78), none]) (Lb := [some (.ref 31), none, some (.int 15), some (.long 15181413), none, some (.int 78), some (.int 32)]) 4 rfl rfl rfl).trans ?_
  rw [q_ck_tt, if_pos (by decide)]
  refine (q_D_by (c' := (true, 125, [some (.ref 31), none, some (.int 15), some (.long 15181413), none, some (.int 78), none], [], (Ia15, (q_up Ja15 32 15 15181413), qcR_65, qcS_33 L, 33), 2, 21)) 5 rfl).trans ?_
  rw [← ea16, ← ja16]
  refine (q_D_by (c' := (true, 90, [some (.ref 31), none, some (.int 16), some (.long 0), none, some (.int 79), none], [.ref 1010, .int 79], (Ia16, Ja16, qcR_65, qcS_33 L, 33), 2, 21)) 8 rfl).trans ?_
  refine (q_D_call (X := q_text4 [.ref 1010] (Ia16, Ja16, qcR_65, qcS_33 L, 33)) (b := true) (pc := 93) (L := [some (.ref 31), none, some (.int 16), some (.long 0), none, some (.int 79), none]) (st := [.int 79]) (ce := 2) (sl := 21) 0 (true, 90, [some (.ref 31), none, some (.int 16), some (.long 0), none, some (.int 79), none], [.ref 1010, .int 79], (Ia16, Ja16, qcR_65, qcS_33 L, 33), 2, 21) rfl rfl).trans ?_
  rw [q_ck_tt, q_tx4 rfl]
  show q_D _ _ _ (true, 93, [some (.ref 31), none, some (.int 16), some (.long 0), none, some (.int 79), none], [.int 102, .int 79], (Ia16, Ja16, qcR_65, qcS_33 L, 33), 2, 21) = _
  refine (q_D_br (b := true) (p := (79 : Int32) < 102) (pa := 96) (pb := 154) (L := [some (.ref 31), none, some (.int 16), some (.long 0), none, some (.int 79), none]) (d := ([], (Ia16, Ja16, qcR_65, qcS_33 L, 33), 2, 21)) (La := [some (.ref 31), none, some (.int 16), some (.long 0), none, some (.int 79), none]) (Lb := [none, none, none, none, none, none, none]) 1 rfl rfl rfl).trans ?_
  rw [q_ck_tt, if_pos (by decide)]
  refine (q_D_br (b := true) (p := (16 : Int32) < 21) (pa := 102) (pb := 154) (L := [some (.ref 31), none, some (.int 16), some (.long 0), none, some (.int 79), none]) (d := ([], (Ia16, Ja16, qcR_65, qcS_33 L, 33), 2, 21)) (La := [some (.ref 31), none, some (.int 16), some (.long 0), none, some (.int 79), none]) (Lb := [none, none, none, none, none, none, none]) 3 rfl rfl rfl).trans ?_
  rw [q_ck_tt, if_pos (by decide)]
  refine (q_D_by (c' := (true, 106, [some (.ref 31), none, some (.int 16), some (.long 0), none, some (.int 79), none], [.int 79, .ref 1010], (Ia16, Ja16, qcR_65, qcS_33 L, 33), 2, 21)) 2 rfl).trans ?_
  refine (q_D_call (X := q_text5 [.ref 1010, .int 79] (Ia16, Ja16, qcR_65, qcS_33 L, 33)) (b := true) (pc := 109) (L := [some (.ref 31), none, some (.int 16), some (.long 0), none, some (.int 79), none]) (st := []) (ce := 2) (sl := 21) 0 (true, 106, [some (.ref 31), none, some (.int 16), some (.long 0), none, some (.int 79), none], [.int 79, .ref 1010], (Ia16, Ja16, qcR_65, qcS_33 L, 33), 2, 21) rfl rfl).trans ?_
  rw [q_ck_tt, q_tx5 79 100 rfl (by decide) (by decide)]
  show q_D _ _ _ (true, 109, [some (.ref 31), none, some (.int 16), some (.long 0), none, some (.int 79), none], [.int 100], (Ia16, Ja16, qcR_65, qcS_33 L, 33), 2, 21) = _
  refine (q_D_br (b := true) (p := (100 : Int32) = 32) (pa := 118) (pb := 133) (L := [some (.ref 31), none, some (.int 16), some (.long 0), none, some (.int 79), some (.int 100)]) (d := ([], (Ia16, Ja16, qcR_65, qcS_33 L, 33), 2, 21)) (La := [some (.ref 31), none, some (.int 16), some (.long 0), none, some (.int 79), none]) (Lb := [some (.ref 31), none, some (.int 16), some (.long 0), none, some (.int 79), some (.int 100)]) 4 rfl rfl rfl).trans ?_
  rw [q_ck_tt, if_neg (by decide)]
  refine (q_D_by (c' := (true, 147, [some (.ref 31), none, some (.int 16), some (.long 0), none, some (.int 79), some (.int 100)], [.long 4], (Ia16, Ja16, qcR_65, qcS_33 L, 33), 2, 21)) 10 rfl).trans ?_
  refine (q_D_by (c' := (true, 90, [some (.ref 31), none, some (.int 16), some (.long 4), none, some (.int 80), none], [.ref 1010, .int 80], (Ia16, Ja16, qcR_65, qcS_33 L, 33), 2, 21)) 5 rfl).trans ?_
  refine (q_D_call (X := q_text4 [.ref 1010] (Ia16, Ja16, qcR_65, qcS_33 L, 33)) (b := true) (pc := 93) (L := [some (.ref 31), none, some (.int 16), some (.long 4), none, some (.int 80), none]) (st := [.int 80]) (ce := 2) (sl := 21) 0 (true, 90, [some (.ref 31), none, some (.int 16), some (.long 4), none, some (.int 80), none], [.ref 1010, .int 80], (Ia16, Ja16, qcR_65, qcS_33 L, 33), 2, 21) rfl rfl).trans ?_
  rw [q_ck_tt, q_tx4 rfl]
  show q_D _ _ _ (true, 93, [some (.ref 31), none, some (.int 16), some (.long 4), none, some (.int 80), none], [.int 102, .int 80], (Ia16, Ja16, qcR_65, qcS_33 L, 33), 2, 21) = _
  refine (q_D_br (b := true) (p := (80 : Int32) < 102) (pa := 96) (pb := 154) (L := [some (.ref 31), none, some (.int 16), some (.long 4), none, some (.int 80), none]) (d := ([], (Ia16, Ja16, qcR_65, qcS_33 L, 33), 2, 21)) (La := [some (.ref 31), none, some (.int 16), some (.long 4), none, some (.int 80), none]) (Lb := [none, none, none, none, none, none, none]) 1 rfl rfl rfl).trans ?_
  rw [q_ck_tt, if_pos (by decide)]
  refine (q_D_br (b := true) (p := (16 : Int32) < 21) (pa := 102) (pb := 154) (L := [some (.ref 31), none, some (.int 16), some (.long 4), none, some (.int 80), none]) (d := ([], (Ia16, Ja16, qcR_65, qcS_33 L, 33), 2, 21)) (La := [some (.ref 31), none, some (.int 16), some (.long 4), none, some (.int 80), none]) (Lb := [none, none, none, none, none, none, none]) 3 rfl rfl rfl).trans ?_
  rw [q_ck_tt, if_pos (by decide)]
  refine (q_D_by (c' := (true, 106, [some (.ref 31), none, some (.int 16), some (.long 4), none, some (.int 80), none], [.int 80, .ref 1010], (Ia16, Ja16, qcR_65, qcS_33 L, 33), 2, 21)) 2 rfl).trans ?_
  refine (q_D_call (X := q_text5 [.ref 1010, .int 80] (Ia16, Ja16, qcR_65, qcS_33 L, 33)) (b := true) (pc := 109) (L := [some (.ref 31), none, some (.int 16), some (.long 4), none, some (.int 80), none]) (st := []) (ce := 2) (sl := 21) 0 (true, 106, [some (.ref 31), none, some (.int 16), some (.long 4), none, some (.int 80), none], [.int 80, .ref 1010], (Ia16, Ja16, qcR_65, qcS_33 L, 33), 2, 21) rfl rfl).trans ?_
  rw [q_ck_tt, q_tx5 80 114 rfl (by decide) (by decide)]
  show q_D _ _ _ (true, 109, [some (.ref 31), none, some (.int 16), some (.long 4), none, some (.int 80), none], [.int 114], (Ia16, Ja16, qcR_65, qcS_33 L, 33), 2, 21) = _
  refine (q_D_br (b := true) (p := (114 : Int32) = 32) (pa := 118) (pb := 133) (L := [some (.ref 31), none, some (.int 16), some (.long 4), none, some (.int 80), some (.int 114)]) (d := ([], (Ia16, Ja16, qcR_65, qcS_33 L, 33), 2, 21)) (La := [some (.ref 31), none, some (.int 16), some (.long 4), none, some (.int 80), none]) (Lb := [some (.ref 31), none, some (.int 16), some (.long 4), none, some (.int 80), some (.int 114)]) 4 rfl rfl rfl).trans ?_
  rw [q_ck_tt, if_neg (by decide)]
  refine (q_D_by (c' := (true, 147, [some (.ref 31), none, some (.int 16), some (.long 4), none, some (.int 80), some (.int 114)], [.long 146], (Ia16, Ja16, qcR_65, qcS_33 L, 33), 2, 21)) 10 rfl).trans ?_
  refine (q_D_by (c' := (true, 90, [some (.ref 31), none, some (.int 16), some (.long 146), none, some (.int 81), none], [.ref 1010, .int 81], (Ia16, Ja16, qcR_65, qcS_33 L, 33), 2, 21)) 5 rfl).trans ?_
  refine (q_D_call (X := q_text4 [.ref 1010] (Ia16, Ja16, qcR_65, qcS_33 L, 33)) (b := true) (pc := 93) (L := [some (.ref 31), none, some (.int 16), some (.long 146), none, some (.int 81), none]) (st := [.int 81]) (ce := 2) (sl := 21) 0 (true, 90, [some (.ref 31), none, some (.int 16), some (.long 146), none, some (.int 81), none], [.ref 1010, .int 81], (Ia16, Ja16, qcR_65, qcS_33 L, 33), 2, 21) rfl rfl).trans ?_
  rw [q_ck_tt, q_tx4 rfl]
  show q_D _ _ _ (true, 93, [some (.ref 31), none, some (.int 16), some (.long 146), none, some (.int 81), none], [.int 102, .int 81], (Ia16, Ja16, qcR_65, qcS_33 L, 33), 2, 21) = _
  refine (q_D_br (b := true) (p := (81 : Int32) < 102) (pa := 96) (pb := 154) (L := [some (.ref 31), none, some (.int 16), some (.long 146), none, some (.int 81), none]) (d := ([], (Ia16, Ja16, qcR_65, qcS_33 L, 33), 2, 21)) (La := [some (.ref 31), none, some (.int 16), some (.long 146), none, some (.int 81), none]) (Lb := [none, none, none, none, none, none, none]) 1 rfl rfl rfl).trans ?_
  rw [q_ck_tt, if_pos (by decide)]
  refine (q_D_br (b := true) (p := (16 : Int32) < 21) (pa := 102) (pb := 154) (L := [some (.ref 31), none, some (.int 16), some (.long 146), none, some (.int 81), none]) (d := ([], (Ia16, Ja16, qcR_65, qcS_33 L, 33), 2, 21)) (La := [some (.ref 31), none, some (.int 16), some (.long 146), none, some (.int 81), none]) (Lb := [none, none, none, none, none, none, none]) 3 rfl rfl rfl).trans ?_
  rw [q_ck_tt, if_pos (by decide)]
  refine (q_D_by (c' := (true, 106, [some (.ref 31), none, some (.int 16), some (.long 146), none, some (.int 81), none], [.int 81, .ref 1010], (Ia16, Ja16, qcR_65, qcS_33 L, 33), 2, 21)) 2 rfl).trans ?_
  refine (q_D_call (X := q_text5 [.ref 1010, .int 81] (Ia16, Ja16, qcR_65, qcS_33 L, 33)) (b := true) (pc := 109) (L := [some (.ref 31), none, some (.int 16), some (.long 146), none, some (.int 81), none]) (st := []) (ce := 2) (sl := 21) 0 (true, 106, [some (.ref 31), none, some (.int 16), some (.long 146), none, some (.int 81), none], [.int 81, .ref 1010], (Ia16, Ja16, qcR_65, qcS_33 L, 33), 2, 21) rfl rfl).trans ?_
  rw [q_ck_tt, q_tx5 81 97 rfl (by decide) (by decide)]
  show q_D _ _ _ (true, 109, [some (.ref 31), none, some (.int 16), some (.long 146), none, some (.int 81), none], [.int 97], (Ia16, Ja16, qcR_65, qcS_33 L, 33), 2, 21) = _
  refine (q_D_br (b := true) (p := (97 : Int32) = 32) (pa := 118) (pb := 133) (L := [some (.ref 31), none, some (.int 16), some (.long 146), none, some (.int 81), some (.int 97)]) (d := ([], (Ia16, Ja16, qcR_65, qcS_33 L, 33), 2, 21)) (La := [some (.ref 31), none, some (.int 16), some (.long 146), none, some (.int 81), none]) (Lb := [some (.ref 31), none, some (.int 16), some (.long 146), none, some (.int 81), some (.int 97)]) 4 rfl rfl rfl).trans ?_
  rw [q_ck_tt, if_neg (by decide)]
  refine (q_D_by (c' := (true, 147, [some (.ref 31), none, some (.int 16), some (.long 146), none, some (.int 81), some (.int 97)], [.long 4673], (Ia16, Ja16, qcR_65, qcS_33 L, 33), 2, 21)) 10 rfl).trans ?_
  refine (q_D_by (c' := (true, 90, [some (.ref 31), none, some (.int 16), some (.long 4673), none, some (.int 82), none], [.ref 1010, .int 82], (Ia16, Ja16, qcR_65, qcS_33 L, 33), 2, 21)) 5 rfl).trans ?_
  refine (q_D_call (X := q_text4 [.ref 1010] (Ia16, Ja16, qcR_65, qcS_33 L, 33)) (b := true) (pc := 93) (L := [some (.ref 31), none, some (.int 16), some (.long 4673), none, some (.int 82), none]) (st := [.int 82]) (ce := 2) (sl := 21) 0 (true, 90, [some (.ref 31), none, some (.int 16), some (.long 4673), none, some (.int 82), none], [.ref 1010, .int 82], (Ia16, Ja16, qcR_65, qcS_33 L, 33), 2, 21) rfl rfl).trans ?_
  rw [q_ck_tt, q_tx4 rfl]
  show q_D _ _ _ (true, 93, [some (.ref 31), none, some (.int 16), some (.long 4673), none, some (.int 82), none], [.int 102, .int 82], (Ia16, Ja16, qcR_65, qcS_33 L, 33), 2, 21) = _
  refine (q_D_br (b := true) (p := (82 : Int32) < 102) (pa := 96) (pb := 154) (L := [some (.ref 31), none, some (.int 16), some (.long 4673), none, some (.int 82), none]) (d := ([], (Ia16, Ja16, qcR_65, qcS_33 L, 33), 2, 21)) (La := [some (.ref 31), none, some (.int 16), some (.long 4673), none, some (.int 82), none]) (Lb := [none, none, none, none, none, none, none]) 1 rfl rfl rfl).trans ?_
  rw [q_ck_tt, if_pos (by decide)]
  refine (q_D_br (b := true) (p := (16 : Int32) < 21) (pa := 102) (pb := 154) (L := [some (.ref 31), none, some (.int 16), some (.long 4673), none, some (.int 82), none]) (d := ([], (Ia16, Ja16, qcR_65, qcS_33 L, 33), 2, 21)) (La := [some (.ref 31), none, some (.int 16), some (.long 4673), none, some (.int 82), none]) (Lb := [none, none, none, none, none, none, none]) 3 rfl rfl rfl).trans ?_
  rw [q_ck_tt, if_pos (by decide)]
  refine (q_D_by (c' := (true, 106, [some (.ref 31), none, some (.int 16), some (.long 4673), none, some (.int 82), none], [.int 82, .ref 1010], (Ia16, Ja16, qcR_65, qcS_33 L, 33), 2, 21)) 2 rfl).trans ?_
  refine (q_D_call (X := q_text5 [.ref 1010, .int 82] (Ia16, Ja16, qcR_65, qcS_33 L, 33)) (b := true) (pc := 109) (L := [some (.ref 31), none, some (.int 16), some (.long 4673), none, some (.int 82), none]) (st := []) (ce := 2) (sl := 21) 0 (true, 106, [some (.ref 31), none, some (.int 16), some (.long 4673), none, some (.int 82), none], [.int 82, .ref 1010], (Ia16, Ja16, qcR_65, qcS_33 L, 33), 2, 21) rfl rfl).trans ?_
  rw [q_ck_tt, q_tx5 82 119 rfl (by decide) (by decide)]
  show q_D _ _ _ (true, 109, [some (.ref 31), none, some (.int 16), some (.long 4673), none, some (.int 82), none], [.int 119], (Ia16, Ja16, qcR_65, qcS_33 L, 33), 2, 21) = _
  refine (q_D_br (b := true) (p := (119 : Int32) = 32) (pa := 118) (pb := 133) (L := [some (.ref 31), none, some (.int 16), some (.long 4673), none, some (.int 82), some (.int 119)]) (d := ([], (Ia16, Ja16, qcR_65, qcS_33 L, 33), 2, 21)) (La := [some (.ref 31), none, some (.int 16), some (.long 4673), none, some (.int 82), none]) (Lb := [some (.ref 31), none, some (.int 16), some (.long 4673), none, some (.int 82), some (.int 119)]) 4 rfl rfl rfl).trans ?_
  rw [q_ck_tt, if_neg (by decide)]
  refine (q_D_by (c' := (true, 147, [some (.ref 31), none, some (.int 16), some (.long 4673), none, some (.int 82), some (.int 119)], [.long 149559], (Ia16, Ja16, qcR_65, qcS_33 L, 33), 2, 21)) 10 rfl).trans ?_
  refine (q_D_by (c' := (true, 90, [some (.ref 31), none, some (.int 16), some (.long 149559), none, some (.int 83), none], [.ref 1010, .int 83], (Ia16, Ja16, qcR_65, qcS_33 L, 33), 2, 21)) 5 rfl).trans ?_
  refine (q_D_call (X := q_text4 [.ref 1010] (Ia16, Ja16, qcR_65, qcS_33 L, 33)) (b := true) (pc := 93) (L := [some (.ref 31), none, some (.int 16), some (.long 149559), none, some (.int 83), none]) (st := [.int 83]) (ce := 2) (sl := 21) 0 (true, 90, [some (.ref 31), none, some (.int 16), some (.long 149559), none, some (.int 83), none], [.ref 1010, .int 83], (Ia16, Ja16, qcR_65, qcS_33 L, 33), 2, 21) rfl rfl).trans ?_
  rw [q_ck_tt, q_tx4 rfl]
  show q_D _ _ _ (true, 93, [some (.ref 31), none, some (.int 16), some (.long 149559), none, some (.int 83), none], [.int 102, .int 83], (Ia16, Ja16, qcR_65, qcS_33 L, 33), 2, 21) = _
  refine (q_D_br (b := true) (p := (83 : Int32) < 102) (pa := 96) (pb := 154) (L := [some (.ref 31), none, some (.int 16), some (.long 149559), none, some (.int 83), none]) (d := ([], (Ia16, Ja16, qcR_65, qcS_33 L, 33), 2, 21)) (La := [some (.ref 31), none, some (.int 16), some (.long 149559), none, some (.int 83), none]) (Lb := [none, none, none, none, none, none, none]) 1 rfl rfl rfl).trans ?_
  rw [q_ck_tt, if_pos (by decide)]
  refine (q_D_br (b := true) (p := (16 : Int32) < 21) (pa := 102) (pb := 154) (L := [some (.ref 31), none, some (.int 16), some (.long 149559), none, some (.int 83), none]) (d := ([], (Ia16, Ja16, qcR_65, qcS_33 L, 33), 2, 21)) (La := [some (.ref 31), none, some (.int 16), some (.long 149559), none, some (.int 83), none]) (Lb := [none, none, none, none, none, none, none]) 3 rfl rfl rfl).trans ?_
  rw [q_ck_tt, if_pos (by decide)]
  refine (q_D_by (c' := (true, 106, [some (.ref 31), none, some (.int 16), some (.long 149559), none, some (.int 83), none], [.int 83, .ref 1010], (Ia16, Ja16, qcR_65, qcS_33 L, 33), 2, 21)) 2 rfl).trans ?_
  refine (q_D_call (X := q_text5 [.ref 1010, .int 83] (Ia16, Ja16, qcR_65, qcS_33 L, 33)) (b := true) (pc := 109) (L := [some (.ref 31), none, some (.int 16), some (.long 149559), none, some (.int 83), none]) (st := []) (ce := 2) (sl := 21) 0 (true, 106, [some (.ref 31), none, some (.int 16), some (.long 149559), none, some (.int 83), none], [.int 83, .ref 1010], (Ia16, Ja16, qcR_65, qcS_33 L, 33), 2, 21) rfl rfl).trans ?_
  rw [q_ck_tt, q_tx5 83 32 rfl (by decide) (by decide)]
  show q_D _ _ _ (true, 109, [some (.ref 31), none, some (.int 16), some (.long 149559), none, some (.int 83), none], [.int 32], (Ia16, Ja16, qcR_65, qcS_33 L, 33), 2, 21) = _
  refine (q_D_br (b := true) (p := (32 : Int32) = 32) (pa := 118) (pb := 133) (L := [some (.ref 31), none, some (.int 16), some (.long 149559), none, some (.int 83), some (.int 32)]) (d := ([], (Ia16, Ja16, qcR_65, qcS_33 L, 33), 2, 21)) (La := [some (.ref 31), none, some (.int 16), some (.long 149559), none, some (.int 83), none]) (Lb := [some (.ref 31), none, some (.int 16), some (.long 149559), none, some (.int 83), some (.int 32)]) 4 rfl rfl rfl).trans ?_
  rw [q_ck_tt, if_pos (by decide)]
  refine (q_D_by (c' := (true, 125, [some (.ref 31), none, some (.int 16), some (.long 149559), none, some (.int 83), none], [], (Ia16, (q_up Ja16 32 16 149559), qcR_65, qcS_33 L, 33), 2, 21)) 5 rfl).trans ?_
  rw [← ea17, ← ja17]
  refine (q_D_by (c' := (true, 90, [some (.ref 31), none, some (.int 17), some (.long 0), none, some (.int 84), none], [.ref 1010, .int 84], (Ia17, Ja17, qcR_65, qcS_33 L, 33), 2, 21)) 8 rfl).trans ?_
  refine (q_D_call (X := q_text4 [.ref 1010] (Ia17, Ja17, qcR_65, qcS_33 L, 33)) (b := true) (pc := 93) (L := [some (.ref 31), none, some (.int 17), some (.long 0), none, some (.int 84), none]) (st := [.int 84]) (ce := 2) (sl := 21) 0 (true, 90, [some (.ref 31), none, some (.int 17), some (.long 0), none, some (.int 84), none], [.ref 1010, .int 84], (Ia17, Ja17, qcR_65, qcS_33 L, 33), 2, 21) rfl rfl).trans ?_
  rw [q_ck_tt, q_tx4 rfl]
  show q_D _ _ _ (true, 93, [some (.ref 31), none, some (.int 17), some (.long 0), none, some (.int 84), none], [.int 102, .int 84], (Ia17, Ja17, qcR_65, qcS_33 L, 33), 2, 21) = _
  refine (q_D_br (b := true) (p := (84 : Int32) < 102) (pa := 96) (pb := 154) (L := [some (.ref 31), none, some (.int 17), some (.long 0), none, some (.int 84), none]) (d := ([], (Ia17, Ja17, qcR_65, qcS_33 L, 33), 2, 21)) (La := [some (.ref 31), none, some (.int 17), some (.long 0), none, some (.int 84), none]) (Lb := [none, none, none, none, none, none, none]) 1 rfl rfl rfl).trans ?_
  rw [q_ck_tt, if_pos (by decide)]
  refine (q_D_br (b := true) (p := (17 : Int32) < 21) (pa := 102) (pb := 154) (L := [some (.ref 31), none, some (.int 17), some (.long 0), none, some (.int 84), none]) (d := ([], (Ia17, Ja17, qcR_65, qcS_33 L, 33), 2, 21)) (La := [some (.ref 31), none, some (.int 17), some (.long 0), none, some (.int 84), none]) (Lb := [none, none, none, none, none, none, none]) 3 rfl rfl rfl).trans ?_
  rw [q_ck_tt, if_pos (by decide)]
  refine (q_D_by (c' := (true, 106, [some (.ref 31), none, some (.int 17), some (.long 0), none, some (.int 84), none], [.int 84, .ref 1010], (Ia17, Ja17, qcR_65, qcS_33 L, 33), 2, 21)) 2 rfl).trans ?_
  refine (q_D_call (X := q_text5 [.ref 1010, .int 84] (Ia17, Ja17, qcR_65, qcS_33 L, 33)) (b := true) (pc := 109) (L := [some (.ref 31), none, some (.int 17), some (.long 0), none, some (.int 84), none]) (st := []) (ce := 2) (sl := 21) 0 (true, 106, [some (.ref 31), none, some (.int 17), some (.long 0), none, some (.int 84), none], [.int 84, .ref 1010], (Ia17, Ja17, qcR_65, qcS_33 L, 33), 2, 21) rfl rfl).trans ?_
  rw [q_ck_tt, q_tx5 84 111 rfl (by decide) (by decide)]
  show q_D _ _ _ (true, 109, [some (.ref 31), none, some (.int 17), some (.long 0), none, some (.int 84), none], [.int 111], (Ia17, Ja17, qcR_65, qcS_33 L, 33), 2, 21) = _
  refine (q_D_br (b := true) (p := (111 : Int32) = 32) (pa := 118) (pb := 133) (L := [some (.ref 31), none, some (.int 17), some (.long 0), none, some (.int 84), some (.int 111)]) (d := ([], (Ia17, Ja17, qcR_65, qcS_33 L, 33), 2, 21)) (La := [some (.ref 31), none, some (.int 17), some (.long 0), none, some (.int 84), none]) (Lb := [some (.ref 31), none, some (.int 17), some (.long 0), none, some (.int 84), some (.int 111)]) 4 rfl rfl rfl).trans ?_
  rw [q_ck_tt, if_neg (by decide)]
  refine (q_D_by (c' := (true, 147, [some (.ref 31), none, some (.int 17), some (.long 0), none, some (.int 84), some (.int 111)], [.long 15], (Ia17, Ja17, qcR_65, qcS_33 L, 33), 2, 21)) 10 rfl).trans ?_
  refine (q_D_by (c' := (true, 90, [some (.ref 31), none, some (.int 17), some (.long 15), none, some (.int 85), none], [.ref 1010, .int 85], (Ia17, Ja17, qcR_65, qcS_33 L, 33), 2, 21)) 5 rfl).trans ?_
  refine (q_D_call (X := q_text4 [.ref 1010] (Ia17, Ja17, qcR_65, qcS_33 L, 33)) (b := true) (pc := 93) (L := [some (.ref 31), none, some (.int 17), some (.long 15), none, some (.int 85), none]) (st := [.int 85]) (ce := 2) (sl := 21) 0 (true, 90, [some (.ref 31), none, some (.int 17), some (.long 15), none, some (.int 85), none], [.ref 1010, .int 85], (Ia17, Ja17, qcR_65, qcS_33 L, 33), 2, 21) rfl rfl).trans ?_
  rw [q_ck_tt, q_tx4 rfl]
  show q_D _ _ _ (true, 93, [some (.ref 31), none, some (.int 17), some (.long 15), none, some (.int 85), none], [.int 102, .int 85], (Ia17, Ja17, qcR_65, qcS_33 L, 33), 2, 21) = _
  refine (q_D_br (b := true) (p := (85 : Int32) < 102) (pa := 96) (pb := 154) (L := [some (.ref 31), none, some (.int 17), some (.long 15), none, some (.int 85), none]) (d := ([], (Ia17, Ja17, qcR_65, qcS_33 L, 33), 2, 21)) (La := [some (.ref 31), none, some (.int 17), some (.long 15), none, some (.int 85), none]) (Lb := [none, none, none, none, none, none, none]) 1 rfl rfl rfl).trans ?_
  rw [q_ck_tt, if_pos (by decide)]
  refine (q_D_br (b := true) (p := (17 : Int32) < 21) (pa := 102) (pb := 154) (L := [some (.ref 31), none, some (.int 17), some (.long 15), none, some (.int 85), none]) (d := ([], (Ia17, Ja17, qcR_65, qcS_33 L, 33), 2, 21)) (La := [some (.ref 31), none, some (.int 17), some (.long 15), none, some (.int 85), none]) (Lb := [none, none, none, none, none, none, none]) 3 rfl rfl rfl).trans ?_
  rw [q_ck_tt, if_pos (by decide)]
  refine (q_D_by (c' := (true, 106, [some (.ref 31), none, some (.int 17), some (.long 15), none, some (.int 85), none], [.int 85, .ref 1010], (Ia17, Ja17, qcR_65, qcS_33 L, 33), 2, 21)) 2 rfl).trans ?_
  refine (q_D_call (X := q_text5 [.ref 1010, .int 85] (Ia17, Ja17, qcR_65, qcS_33 L, 33)) (b := true) (pc := 109) (L := [some (.ref 31), none, some (.int 17), some (.long 15), none, some (.int 85), none]) (st := []) (ce := 2) (sl := 21) 0 (true, 106, [some (.ref 31), none, some (.int 17), some (.long 15), none, some (.int 85), none], [.int 85, .ref 1010], (Ia17, Ja17, qcR_65, qcS_33 L, 33), 2, 21) rfl rfl).trans ?_
  rw [q_ck_tt, q_tx5 85 114 rfl (by decide) (by decide)]
  show q_D _ _ _ (true, 109, [some (.ref 31), none, some (.int 17), some (.long 15), none, some (.int 85), none], [.int 114], (Ia17, Ja17, qcR_65, qcS_33 L, 33), 2, 21) = _
  refine (q_D_br (b := true) (p := (114 : Int32) = 32) (pa := 118) (pb := 133) (L := [some (.ref 31), none, some (.int 17), some (.long 15), none, some (.int 85), some (.int 114)]) (d := ([], (Ia17, Ja17, qcR_65, qcS_33 L, 33), 2, 21)) (La := [some (.ref 31), none, some (.int 17), some (.long 15), none, some (.int 85), none]) (Lb := [some (.ref 31), none, some (.int 17), some (.long 15), none, some (.int 85), some (.int 114)]) 4 rfl rfl rfl).trans ?_
  rw [q_ck_tt, if_neg (by decide)]
  refine (q_D_by (c' := (true, 147, [some (.ref 31), none, some (.int 17), some (.long 15), none, some (.int 85), some (.int 114)], [.long 498], (Ia17, Ja17, qcR_65, qcS_33 L, 33), 2, 21)) 10 rfl).trans ?_
  refine (q_D_by (c' := (true, 90, [some (.ref 31), none, some (.int 17), some (.long 498), none, some (.int 86), none], [.ref 1010, .int 86], (Ia17, Ja17, qcR_65, qcS_33 L, 33), 2, 21)) 5 rfl).trans ?_
  refine (q_D_call (X := q_text4 [.ref 1010] (Ia17, Ja17, qcR_65, qcS_33 L, 33)) (b := true) (pc := 93) (L := [some (.ref 31), none, some (.int 17), some (.long 498), none, some (.int 86), none]) (st := [.int 86]) (ce := 2) (sl := 21) 0 (true, 90, [some (.ref 31), none, some (.int 17), some (.long 498), none, some (.int 86), none], [.ref 1010, .int 86], (Ia17, Ja17, qcR_65, qcS_33 L, 33), 2, 21) rfl rfl).trans ?_
  rw [q_ck_tt, q_tx4 rfl]
  show q_D _ _ _ (true, 93, [some (.ref 31), none, some (.int 17), some (.long 498), none, some (.int 86), none], [.int 102, .int 86], (Ia17, Ja17, qcR_65, qcS_33 L, 33), 2, 21) = _
  refine (q_D_br (b := true) (p := (86 : Int32) < 102) (pa := 96) (pb := 154) (L := [some (.ref 31), none, some (.int 17), some (.long 498), none, some (.int 86), none]) (d := ([], (Ia17, Ja17, qcR_65, qcS_33 L, 33), 2, 21)) (La := [some (.ref 31), none, some (.int 17), some (.long 498), none, some (.int 86), none]) (Lb := [none, none, none, none, none, none, none]) 1 rfl rfl rfl).trans ?_
  rw [q_ck_tt, if_pos (by decide)]
  refine (q_D_br (b := true) (p := (17 : Int32) < 21) (pa := 102) (pb := 154) (L := [some (.ref 31), none, some (.int 17), some (.long 498), none, some (.int 86), none]) (d := ([], (Ia17, Ja17, qcR_65, qcS_33 L, 33), 2, 21)) (La := [some (.ref 31), none, some (.int 17), some (.long 498), none, some (.int 86), none]) (Lb := [none, none, none, none, none, none, none]) 3 rfl rfl rfl).trans ?_
  rw [q_ck_tt, if_pos (by decide)]
  refine (q_D_by (c' := (true, 106, [some (.ref 31), none, some (.int 17), some (.long 498), none, some (.int 86), none], [.int 86, .ref 1010], (Ia17, Ja17, qcR_65, qcS_33 L, 33), 2, 21)) 2 rfl).trans ?_
  refine (q_D_call (X := q_text5 [.ref 1010, .int 86] (Ia17, Ja17, qcR_65, qcS_33 L, 33)) (b := true) (pc := 109) (L := [some (.ref 31), none, some (.int 17), some (.long 498), none, some (.int 86), none]) (st := []) (ce := 2) (sl := 21) 0 (true, 106, [some (.ref 31), none, some (.int 17), some (.long 498), none, some (.int 86), none], [.int 86, .ref 1010], (Ia17, Ja17, qcR_65, qcS_33 L, 33), 2, 21) rfl rfl).trans ?_
  rw [q_ck_tt, q_tx5 86 32 rfl (by decide) (by decide)]
  show q_D _ _ _ (true, 109, [some (.ref 31), none, some (.int 17), some (.long 498), none, some (.int 86), none], [.int 32], (Ia17, Ja17, qcR_65, qcS_33 L, 33), 2, 21) = _
  refine (q_D_br (b := true) (p := (32 : Int32) = 32) (pa := 118) (pb := 133) (L := [some (.ref 31), none, some (.int 17), some (.long 498), none, some (.int 86), some (.int 32)]) (d := ([], (Ia17, Ja17, qcR_65, qcS_33 L, 33), 2, 21)) (La := [some (.ref 31), none, some (.int 17), some (.long 498), none, some (.int 86), none]) (Lb := [some (.ref 31), none, some (.int 17), some (.long 498), none, some (.int 86), some (.int 32)]) 4 rfl rfl rfl).trans ?_
  rw [q_ck_tt, if_pos (by decide)]
  refine (q_D_by (c' := (true, 125, [some (.ref 31), none, some (.int 17), some (.long 498), none, some (.int 86), none], [], (Ia17, (q_up Ja17 32 17 498), qcR_65, qcS_33 L, 33), 2, 21)) 5 rfl).trans ?_
  rw [← ea18, ← ja18]
  refine (q_D_by (c' := (true, 90, [some (.ref 31), none, some (.int 18), some (.long 0), none, some (.int 87), none], [.ref 1010, .int 87], (Ia18, Ja18, qcR_65, qcS_33 L, 33), 2, 21)) 8 rfl).trans ?_
  refine (q_D_call (X := q_text4 [.ref 1010] (Ia18, Ja18, qcR_65, qcS_33 L, 33)) (b := true) (pc := 93) (L := [some (.ref 31), none, some (.int 18), some (.long 0), none, some (.int 87), none]) (st := [.int 87]) (ce := 2) (sl := 21) 0 (true, 90, [some (.ref 31), none, some (.int 18), some (.long 0), none, some (.int 87), none], [.ref 1010, .int 87], (Ia18, Ja18, qcR_65, qcS_33 L, 33), 2, 21) rfl rfl).trans ?_
  rw [q_ck_tt, q_tx4 rfl]
  show q_D _ _ _ (true, 93, [some (.ref 31), none, some (.int 18), some (.long 0), none, some (.int 87), none], [.int 102, .int 87], (Ia18, Ja18, qcR_65, qcS_33 L, 33), 2, 21) = _
  refine (q_D_br (b := true) (p := (87 : Int32) < 102) (pa := 96) (pb := 154) (L := [some (.ref 31), none, some (.int 18), some (.long 0), none, some (.int 87), none]) (d := ([], (Ia18, Ja18, qcR_65, qcS_33 L, 33), 2, 21)) (La := [some (.ref 31), none, some (.int 18), some (.long 0), none, some (.int 87), none]) (Lb := [none, none, none, none, none, none, none]) 1 rfl rfl rfl).trans ?_
  rw [q_ck_tt, if_pos (by decide)]
  refine (q_D_br (b := true) (p := (18 : Int32) < 21) (pa := 102) (pb := 154) (L := [some (.ref 31), none, some (.int 18), some (.long 0), none, some (.int 87), none]) (d := ([], (Ia18, Ja18, qcR_65, qcS_33 L, 33), 2, 21)) (La := [some (.ref 31), none, some (.int 18), some (.long 0), none, some (.int 87), none]) (Lb := [none, none, none, none, none, none, none]) 3 rfl rfl rfl).trans ?_
  rw [q_ck_tt, if_pos (by decide)]
  refine (q_D_by (c' := (true, 106, [some (.ref 31), none, some (.int 18), some (.long 0), none, some (.int 87), none], [.int 87, .ref 1010], (Ia18, Ja18, qcR_65, qcS_33 L, 33), 2, 21)) 2 rfl).trans ?_
  refine (q_D_call (X := q_text5 [.ref 1010, .int 87] (Ia18, Ja18, qcR_65, qcS_33 L, 33)) (b := true) (pc := 109) (L := [some (.ref 31), none, some (.int 18), some (.long 0), none, some (.int 87), none]) (st := []) (ce := 2) (sl := 21) 0 (true, 106, [some (.ref 31), none, some (.int 18), some (.long 0), none, some (.int 87), none], [.int 87, .ref 1010], (Ia18, Ja18, qcR_65, qcS_33 L, 33), 2, 21) rfl rfl).trans ?_
  rw [q_ck_tt, q_tx5 87 110 rfl (by decide) (by decide)]
  show q_D _ _ _ (true, 109, [some (.ref 31), none, some (.int 18), some (.long 0), none, some (.int 87), none], [.int 110], (Ia18, Ja18, qcR_65, qcS_33 L, 33), 2, 21) = _
  refine (q_D_br (b := true) (p := (110 : Int32) = 32) (pa := 118) (pb := 133) (L := [some (.ref 31), none, some (.int 18), some (.long 0), none, some (.int 87), some (.int 110)]) (d := ([], (Ia18, Ja18, qcR_65, qcS_33 L, 33), 2, 21)) (La := [some (.ref 31), none, some (.int 18), some (.long 0), none, some (.int 87), none]) (Lb := [some (.ref 31), none, some (.int 18), some (.long 0), none, some (.int 87), some (.int 110)]) 4 rfl rfl rfl).trans ?_
  rw [q_ck_tt, if_neg (by decide)]
  refine (q_D_by (c' := (true, 147, [some (.ref 31), none, some (.int 18), some (.long 0), none, some (.int 87), some (.int 110)], [.long 14], (Ia18, Ja18, qcR_65, qcS_33 L, 33), 2, 21)) 10 rfl).trans ?_
  refine (q_D_by (c' := (true, 90, [some (.ref 31), none, some (.int 18), some (.long 14), none, some (.int 88), none], [.ref 1010, .int 88], (Ia18, Ja18, qcR_65, qcS_33 L, 33), 2, 21)) 5 rfl).trans ?_
  refine (q_D_call (X := q_text4 [.ref 1010] (Ia18, Ja18, qcR_65, qcS_33 L, 33)) (b := true) (pc := 93) (L := [some (.ref 31), none, some (.int 18), some (.long 14), none, some (.int 88), none]) (st := [.int 88]) (ce := 2) (sl := 21) 0 (true, 90, [some (.ref 31), none, some (.int 18), some (.long 14), none, some (.int 88), none], [.ref 1010, .int 88], (Ia18, Ja18, qcR_65, qcS_33 L, 33), 2, 21) rfl rfl).trans ?_
  rw [q_ck_tt, q_tx4 rfl]
  show q_D _ _ _ (true, 93, [some (.ref 31), none, some (.int 18), some (.long 14), none, some (.int 88), none], [.int 102, .int 88], (Ia18, Ja18, qcR_65, qcS_33 L, 33), 2, 21) = _
  refine (q_D_br (b := true) (p := (88 : Int32) < 102) (pa := 96) (pb := 154) (L := [some (.ref 31), none, some (.int 18), some (.long 14), none, some (.int 88), none]) (d := ([], (Ia18, Ja18, qcR_65, qcS_33 L, 33), 2, 21)) (La := [some (.ref 31), none, some (.int 18), some (.long 14), none, some (.int 88), none]) (Lb := [none, none, none, none, none, none, none]) 1 rfl rfl rfl).trans ?_
  rw [q_ck_tt, if_pos (by decide)]
  refine (q_D_br (b := true) (p := (18 : Int32) < 21) (pa := 102) (pb := 154) (L := [some (.ref 31), none, some (.int 18), some (.long 14), none, some (.int 88), none]) (d := ([], (Ia18, Ja18, qcR_65, qcS_33 L, 33), 2, 21)) (La := [some (.ref 31), none, some (.int 18), some (.long 14), none, some (.int 88), none]) (Lb := [none, none, none, none, none, none, none]) 3 rfl rfl rfl).trans ?_
  rw [q_ck_tt, if_pos (by decide)]
  refine (q_D_by (c' := (true, 106, [some (.ref 31), none, some (.int 18), some (.long 14), none, some (.int 88), none], [.int 88, .ref 1010], (Ia18, Ja18, qcR_65, qcS_33 L, 33), 2, 21)) 2 rfl).trans ?_
  refine (q_D_call (X := q_text5 [.ref 1010, .int 88] (Ia18, Ja18, qcR_65, qcS_33 L, 33)) (b := true) (pc := 109) (L := [some (.ref 31), none, some (.int 18), some (.long 14), none, some (.int 88), none]) (st := []) (ce := 2) (sl := 21) 0 (true, 106, [some (.ref 31), none, some (.int 18), some (.long 14), none, some (.int 88), none], [.int 88, .ref 1010], (Ia18, Ja18, qcR_65, qcS_33 L, 33), 2, 21) rfl rfl).trans ?_
  rw [q_ck_tt, q_tx5 88 111 rfl (by decide) (by decide)]
  show q_D _ _ _ (true, 109, [some (.ref 31), none, some (.int 18), some (.long 14), none, some (.int 88), none], [.int 111], (Ia18, Ja18, qcR_65, qcS_33 L, 33), 2, 21) = _
  refine (q_D_br (b := true) (p := (111 : Int32) = 32) (pa := 118) (pb := 133) (L := [some (.ref 31), none, some (.int 18), some (.long 14), none, some (.int 88), some (.int 111)]) (d := ([], (Ia18, Ja18, qcR_65, qcS_33 L, 33), 2, 21)) (La := [some (.ref 31), none, some (.int 18), some (.long 14), none, some (.int 88), none]) (Lb := [some (.ref 31), none, some (.int 18), some (.long 14), none, some (.int 88), some (.int 111)]) 4 rfl rfl rfl).trans ?_
  rw [q_ck_tt, if_neg (by decide)]
  refine (q_D_by (c' := (true, 147, [some (.ref 31), none, some (.int 18), some (.long 14), none, some (.int 88), some (.int 111)], [.long 463], (Ia18, Ja18, qcR_65, qcS_33 L, 33), 2, 21)) 10 rfl).trans ?_
  refine (q_D_by (c' := (true, 90, [some (.ref 31), none, some (.int 18), some (.long 463), none, some (.int 89), none], [.ref 1010, .int 89], (Ia18, Ja18, qcR_65, qcS_33 L, 33), 2, 21)) 5 rfl).trans ?_
  refine (q_D_call (X := q_text4 [.ref 1010] (Ia18, Ja18, qcR_65, qcS_33 L, 33)) (b := true) (pc := 93) (L := [some (.ref 31), none, some (.int 18), some (.long 463), none, some (.int 89), none]) (st := [.int 89]) (ce := 2) (sl := 21) 0 (true, 90, [some (.ref 31), none, some (.int 18), some (.long 463), none, some (.int 89), none], [.ref 1010, .int 89], (Ia18, Ja18, qcR_65, qcS_33 L, 33), 2, 21) rfl rfl).trans ?_
  rw [q_ck_tt, q_tx4 rfl]
  show q_D _ _ _ (true, 93, [some (.ref 31), none, some (.int 18), some (.long 463), none, some (.int 89), none], [.int 102, .int 89], (Ia18, Ja18, qcR_65, qcS_33 L, 33), 2, 21) = _
  refine (q_D_br (b := true) (p := (89 : Int32) < 102) (pa := 96) (pb := 154) (L := [some (.ref 31), none, some (.int 18), some (.long 463), none, some (.int 89), none]) (d := ([], (Ia18, Ja18, qcR_65, qcS_33 L, 33), 2, 21)) (La := [some (.ref 31), none, some (.int 18), some (.long 463), none, some (.int 89), none]) (Lb := [none, none, none, none, none, none, none]) 1 rfl rfl rfl).trans ?_
  rw [q_ck_tt, if_pos (by decide)]
  refine (q_D_br (b := true) (p := (18 : Int32) < 21) (pa := 102) (pb := 154) (L := [some (.ref 31), none, some (.int 18), some (.long 463), none, some (.int 89), none]) (d := ([], (Ia18, Ja18, qcR_65, qcS_33 L, 33), 2, 21)) (La := [some (.ref 31), none, some (.int 18), some (.long 463), none, some (.int 89), none]) (Lb := [none, none, none, none, none, none, none]) 3 rfl rfl rfl).trans ?_
  rw [q_ck_tt, if_pos (by decide)]
  refine (q_D_by (c' := (true, 106, [some (.ref 31), none, some (.int 18), some (.long 463), none, some (.int 89), none], [.int 89, .ref 1010], (Ia18, Ja18, qcR_65, qcS_33 L, 33), 2, 21)) 2 rfl).trans ?_
  refine (q_D_call (X := q_text5 [.ref 1010, .int 89] (Ia18, Ja18, qcR_65, qcS_33 L, 33)) (b := true) (pc := 109) (L := [some (.ref 31), none, some (.int 18), some (.long 463), none, some (.int 89), none]) (st := []) (ce := 2) (sl := 21) 0 (true, 106, [some (.ref 31), none, some (.int 18), some (.long 463), none, some (.int 89), none], [.int 89, .ref 1010], (Ia18, Ja18, qcR_65, qcS_33 L, 33), 2, 21) rfl rfl).trans ?_
  rw [q_ck_tt, q_tx5 89 116 rfl (by decide) (by decide)]
  show q_D _ _ _ (true, 109, [some (.ref 31), none, some (.int 18), some (.long 463), none, some (.int 89), none], [.int 116], (Ia18, Ja18, qcR_65, qcS_33 L, 33), 2, 21) = _
  refine (q_D_br (b := true) (p := (116 : Int32) = 32) (pa := 118) (pb := 133) (L := [some (.ref 31), none, some (.int 18), some (.long 463), none, some (.int 89), some (.int 116)]) (d := ([], (Ia18, Ja18, qcR_65, qcS_33 L, 33), 2, 21)) (La := [some (.ref 31), none, some (.int 18), some (.long 463), none, some (.int 89), none]) (Lb := [some (.ref 31), none, some (.int 18), some (.long 463), none, some (.int 89), some (.int 116)]) 4 rfl rfl rfl).trans ?_
  rw [q_ck_tt, if_neg (by decide)]
  refine (q_D_by (c' := (true, 147, [some (.ref 31), none, some (.int 18), some (.long 463), none, some (.int 89), some (.int 116)], [.long 14836], (Ia18, Ja18, qcR_65, qcS_33 L, 33), 2, 21)) 10 rfl).trans ?_
  refine (q_D_by (c' := (true, 90, [some (.ref 31), none, some (.int 18), some (.long 14836), none, some (.int 90), none], [.ref 1010, .int 90], (Ia18, Ja18, qcR_65, qcS_33 L, 33), 2, 21)) 5 rfl).trans ?_
  refine (q_D_call (X := q_text4 [.ref 1010] (Ia18, Ja18, qcR_65, qcS_33 L, 33)) (b := true) (pc := 93) (L := [some (.ref 31), none, some (.int 18), some (.long 14836), none, some (.int 90), none]) (st := [.int 90]) (ce := 2) (sl := 21) 0 (true, 90, [some (.ref 31), none, some (.int 18), some (.long 14836), none, some (.int 90), none], [.ref 1010, .int 90], (Ia18, Ja18, qcR_65, qcS_33 L, 33), 2, 21) rfl rfl).trans ?_
  rw [q_ck_tt, q_tx4 rfl]
  show q_D _ _ _ (true, 93, [some (.ref 31), none, some (.int 18), some (.long 14836), none, some (.int 90), none], [.int 102, .int 90], (Ia18, Ja18, qcR_65, qcS_33 L, 33), 2, 21) = _
  refine (q_D_br (b := true) (p := (90 : Int32) < 102) (pa := 96) (pb := 154) (L := [some (.ref 31), none, some (.int 18), some (.long 14836), none, some (.int 90), none]) (d := ([], (Ia18, Ja18, qcR_65, qcS_33 L, 33), 2, 21)) (La := [some (.ref 31), none, some (.int 18), some (.long 14836), none, some (.int 90), none]) (Lb := [none, none, none, none, none, none, none]) 1 rfl rfl rfl).trans ?_
  rw [q_ck_tt, if_pos (by decide)]
  refine (q_D_br (b := true) (p := (18 : Int32) < 21) (pa := 102) (pb := 154) (L := [some (.ref 31), none, some (.int 18), some (.long 14836), none, some (.int 90), none]) (d := ([], (Ia18, Ja18, qcR_65, qcS_33 L, 33), 2, 21)) (La := [some (.ref 31), none, some (.int 18), some (.long 14836), none, some (.int 90), none]) (Lb := [none, none, none, none, none, none, none]) 3 rfl rfl rfl).trans ?_
  rw [q_ck_tt, if_pos (by decide)]
  refine (q_D_by (c' := (true, 106, [some (.ref 31), none, some (.int 18), some (.long 14836), none, some (.int 90), none], [.int 90, .ref 1010], (Ia18, Ja18, qcR_65, qcS_33 L, 33), 2, 21)) 2 rfl).trans ?_
  refine (q_D_call (X := q_text5 [.ref 1010, .int 90] (Ia18, Ja18, qcR_65, qcS_33 L, 33)) (b := true) (pc := 109) (L := [some (.ref 31), none, some (.int 18), some (.long 14836), none, some (.int 90), none]) (st := []) (ce := 2) (sl := 21) 0 (true, 106, [some (.ref 31), none, some (.int 18), some (.long 14836), none, some (.int 90), none], [.int 90, .ref 1010], (Ia18, Ja18, qcR_65, qcS_33 L, 33), 2, 21) rfl rfl).trans ?_
  rw [q_ck_tt, q_tx5 90 32 rfl (by decide) (by decide)]
  show q_D _ _ _ (true, 109, [some (.ref 31), none, some (.int 18), some (.long 14836), none, some (.int 90), none], [.int 32], (Ia18, Ja18, qcR_65, qcS_33 L, 33), 2, 21) = _
  refine (q_D_br (b := true) (p := (32 : Int32) = 32) (pa := 118) (pb := 133) (L := [some (.ref 31), none, some (.int 18), some (.long 14836), none, some (.int 90), some (.int 32)]) (d := ([], (Ia18, Ja18, qcR_65, qcS_33 L, 33), 2, 21)) (La := [some (.ref 31), none, some (.int 18), some (.long 14836), none, some (.int 90), none]) (Lb := [some (.ref 31), none, some (.int 18), some (.long 14836), none, some (.int 90), some (.int 32)]) 4 rfl rfl rfl).trans ?_
  rw [q_ck_tt, if_pos (by decide)]
  refine (q_D_by (c' := (true, 125, [some (.ref 31), none, some (.int 18), some (.long 14836), none, some (.int 90), none], [], (Ia18, (q_up Ja18 32 18 14836), qcR_65, qcS_33 L, 33), 2, 21)) 5 rfl).trans ?_
  rw [← ea19, ← ja19]
  refine (q_D_by (c' := (true, 90, [some (.ref 31), none, some (.int 19), some (.long 0), none, some (.int 91), none], [.ref 1010, .int 91], (Ia19, Ja19, qcR_65, qcS_33 L, 33), 2, 21)) 8 rfl).trans ?_
  refine (q_D_call (X := q_text4 [.ref 1010] (Ia19, Ja19, qcR_65, qcS_33 L, 33)) (b := true) (pc := 93) (L := [some (.ref 31), none, some (.int 19), some (.long 0), none, some (.int 91), none]) (st := [.int 91]) (ce := 2) (sl := 21) 0 (true, 90, [some (.ref 31), none, some (.int 19), some (.long 0), none, some (.int 91), none], [.ref 1010, .int 91], (Ia19, Ja19, qcR_65, qcS_33 L, 33), 2, 21) rfl rfl).trans ?_
  rw [q_ck_tt, q_tx4 rfl]
  show q_D _ _ _ (true, 93, [some (.ref 31), none, some (.int 19), some (.long 0), none, some (.int 91), none], [.int 102, .int 91], (Ia19, Ja19, qcR_65, qcS_33 L, 33), 2, 21) = _
  refine (q_D_br (b := true) (p := (91 : Int32) < 102) (pa := 96) (pb := 154) (L := [some (.ref 31), none, some (.int 19), some (.long 0), none, some (.int 91), none]) (d := ([], (Ia19, Ja19, qcR_65, qcS_33 L, 33), 2, 21)) (La := [some (.ref 31), none, some (.int 19), some (.long 0), none, some (.int 91), none]) (Lb := [none, none, none, none, none, none, none]) 1 rfl rfl rfl).trans ?_
  rw [q_ck_tt, if_pos (by decide)]
  refine (q_D_br (b := true) (p := (19 : Int32) < 21) (pa := 102) (pb := 154) (L := [some (.ref 31), none, some (.int 19), some (.long 0), none, some (.int 91), none]) (d := ([], (Ia19, Ja19, qcR_65, qcS_33 L, 33), 2, 21)) (La := [some (.ref 31), none, some (.int 19), some (.long 0), none, some (.int 91), none]) (Lb := [none, none, none, none, none, none, none]) 3 rfl rfl rfl).trans ?_
  rw [q_ck_tt, if_pos (by decide)]
  refine (q_D_by (c' := (true, 106, [some (.ref 31), none, some (.int 19), some (.long 0), none, some (.int 91), none], [.int 91, .ref 1010], (Ia19, Ja19, qcR_65, qcS_33 L, 33), 2, 21)) 2 rfl).trans ?_
  refine (q_D_call (X := q_text5 [.ref 1010, .int 91] (Ia19, Ja19, qcR_65, qcS_33 L, 33)) (b := true) (pc := 109) (L := [some (.ref 31), none, some (.int 19), some (.long 0), none, some (.int 91), none]) (st := []) (ce := 2) (sl := 21) 0 (true, 106, [some (.ref 31), none, some (.int 19), some (.long 0), none, some (.int 91), none], [.int 91, .ref 1010], (Ia19, Ja19, qcR_65, qcS_33 L, 33), 2, 21) rfl rfl).trans ?_
  rw [q_ck_tt, q_tx5 91 99 rfl (by decide) (by decide)]
  show q_D _ _ _ (true, 109, [some (.ref 31), none, some (.int 19), some (.long 0), none, some (.int 91), none], [.int 99], (Ia19, Ja19, qcR_65, qcS_33 L, 33), 2, 21) = _
  refine (q_D_br (b := true) (p := (99 : Int32) = 32) (pa := 118) (pb := 133) (L := [some (.ref 31), none, some (.int 19), some (.long 0), none, some (.int 91), some (.int 99)]) (d := ([], (Ia19, Ja19, qcR_65, qcS_33 L, 33), 2, 21)) (La := [some (.ref 31), none, some (.int 19), some (.long 0), none, some (.int 91), none]) (Lb := [some (.ref 31), none, some (.int 19), some (.long 0), none, some (.int 91), some (.int 99)]) 4 rfl rfl rfl).trans ?_
  rw [q_ck_tt, if_neg (by decide)]
  refine (q_D_by (c' := (true, 147, [some (.ref 31), none, some (.int 19), some (.long 0), none, some (.int 91), some (.int 99)], [.long 3], (Ia19, Ja19, qcR_65, qcS_33 L, 33), 2, 21)) 10 rfl).trans ?_
  refine (q_D_by (c' := (true, 90, [some (.ref 31), none, some (.int 19), some (.long 3), none, some (.int 92), none], [.ref 1010, .int 92], (Ia19, Ja19, qcR_65, qcS_33 L, 33), 2, 21)) 5 rfl).trans ?_
  refine (q_D_call (X := q_text4 [.ref 1010] (Ia19, Ja19, qcR_65, qcS_33 L, 33)) (b := true) (pc := 93) (L := [some (.ref 31), none, some (.int 19), some (.long 3), none, some (.int 92), none]) (st := [.int 92]) (ce := 2) (sl := 21) 0 (true, 90, [some (.ref 31), none, some (.int 19), some (.long 3), none, some (.int 92), none], [.ref 1010, .int 92], (Ia19, Ja19, qcR_65, qcS_33 L, 33), 2, 21) rfl rfl).trans ?_
  rw [q_ck_tt, q_tx4 rfl]
  show q_D _ _ _ (true, 93, [some (.ref 31), none, some (.int 19), some (.long 3), none, some (.int 92), none], [.int 102, .int 92], (Ia19, Ja19, qcR_65, qcS_33 L, 33), 2, 21) = _
  refine (q_D_br (b := true) (p := (92 : Int32) < 102) (pa := 96) (pb := 154) (L := [some (.ref 31), none, some (.int 19), some (.long 3), none, some (.int 92), none]) (d := ([], (Ia19, Ja19, qcR_65, qcS_33 L, 33), 2, 21)) (La := [some (.ref 31), none, some (.int 19), some (.long 3), none, some (.int 92), none]) (Lb := [none, none, none, none, none, none, none]) 1 rfl rfl rfl).trans ?_
  rw [q_ck_tt, if_pos (by decide)]
  refine (q_D_br (b := true) (p := (19 : Int32) < 21) (pa := 102) (pb := 154) (L := [some (.ref 31), none, some (.int 19), some (.long 3), none, some (.int 92), none]) (d := ([], (Ia19, Ja19, qcR_65, qcS_33 L, 33), 2, 21)) (La := [some (.ref 31), none, some (.int 19), some (.long 3), none, some (.int 92), none]) (Lb := [none, none, none, none, none, none, none]) 3 rfl rfl rfl).trans ?_
  rw [q_ck_tt, if_pos (by decide)]
  refine (q_D_by (c' := (true, 106, [some (.ref 31), none, some (.int 19), some (.long 3), none, some (.int 92), none], [.int 92, .ref 1010], (Ia19, Ja19, qcR_65, qcS_33 L, 33), 2, 21)) 2 rfl).trans ?_
  refine (q_D_call (X := q_text5 [.ref 1010, .int 92] (Ia19, Ja19, qcR_65, qcS_33 L, 33)) (b := true) (pc := 109) (L := [some (.ref 31), none, some (.int 19), some (.long 3), none, some (.int 92), none]) (st := []) (ce := 2) (sl := 21) 0 (true, 106, [some (.ref 31), none, some (.int 19), some (.long 3), none, some (.int 92), none], [.int 92, .ref 1010], (Ia19, Ja19, qcR_65, qcS_33 L, 33), 2, 21) rfl rfl).trans ?_
  rw [q_ck_tt, q_tx5 92 101 rfl (by decide) (by decide)]
  show q_D _ _ _ (true, 109, [some (.ref 31), none, some (.int 19), some (.long 3), none, some (.int 92), none], [.int 101], (Ia19, Ja19, qcR_65, qcS_33 L, 33), 2, 21) = _
  refine (q_D_br (b := true) (p := (101 : Int32) = 32) (pa := 118) (pb := 133) (L := [some (.ref 31), none, some (.int 19), some (.long 3), none, some (.int 92), some (.int 101)]) (d := ([], (Ia19, Ja19, qcR_65, qcS_33 L, 33), 2, 21)) (La := [some (.ref 31), none, some (.int 19), some (.long 3), none, some (.int 92), none]) (Lb := [some (.ref 31), none, some (.int 19), some (.long 3), none, some (.int 92), some (.int 101)]) 4 rfl rfl rfl).trans ?_
  rw [q_ck_tt, if_neg (by decide)]
  refine (q_D_by (c' := (true, 147, [some (.ref 31), none, some (.int 19), some (.long 3), none, some (.int 92), some (.int 101)], [.long 101], (Ia19, Ja19, qcR_65, qcS_33 L, 33), 2, 21)) 10 rfl).trans ?_
  refine (q_D_by (c' := (true, 90, [some (.ref 31), none, some (.int 19), some (.long 101), none, some (.int 93), none], [.ref 1010, .int 93], (Ia19, Ja19, qcR_65, qcS_33 L, 33), 2, 21)) 5 rfl).trans ?_
  refine (q_D_call (X := q_text4 [.ref 1010] (Ia19, Ja19, qcR_65, qcS_33 L, 33)) (b := true) (pc := 93) (L := [some (.ref 31), none, some (.int 19), some (.long 101), none, some (.int 93), none]) (st := [.int 93]) (ce := 2) (sl := 21) 0 (true, 90, [some (.ref 31), none, some (.int 19), some (.long 101), none, some (.int 93), none], [.ref 1010, .int 93], (Ia19, Ja19, qcR_65, qcS_33 L, 33), 2, 21) rfl rfl).trans ?_
  rw [q_ck_tt, q_tx4 rfl]
  show q_D _ _ _ (true, 93, [some (.ref 31), none, some (.int 19), some (.long 101), none, some (.int 93), none], [.int 102, .int 93], (Ia19, Ja19, qcR_65, qcS_33 L, 33), 2, 21) = _
  refine (q_D_br (b := true) (p := (93 : Int32) < 102) (pa := 96) (pb := 154) (L := [some (.ref 31), none, some (.int 19), some (.long 101), none, some (.int 93), none]) (d := ([], (Ia19, Ja19, qcR_65, qcS_33 L, 33), 2, 21)) (La := [some (.ref 31), none, some (.int 19), some (.long 101), none, some (.int 93), none]) (Lb := [none, none, none, none, none, none, none]) 1 rfl rfl rfl).trans ?_
  rw [q_ck_tt, if_pos (by decide)]
  refine (q_D_br (b := true) (p := (19 : Int32) < 21) (pa := 102) (pb := 154) (L := [some (.ref 31), none, some (.int 19), some (.long 101), none, some (.int 93), none]) (d := ([], (Ia19, Ja19, qcR_65, qcS_33 L, 33), 2, 21)) (La := [some (.ref 31), none, some (.int 19), some (.long 101), none, some (.int 93), none]) (Lb := [none, none, none, none, none, none, none]) 3 rfl rfl rfl).trans ?_
  rw [q_ck_tt, if_pos (by decide)]
  refine (q_D_by (c' := (true, 106, [some (.ref 31), none, some (.int 19), some (.long 101), none, some (.int 93), none], [.int 93, .ref 1010], (Ia19, Ja19, qcR_65, qcS_33 L, 33), 2, 21)) 2 rfl).trans ?_
  refine (q_D_call (X := q_text5 [.ref 1010, .int 93] (Ia19, Ja19, qcR_65, qcS_33 L, 33)) (b := true) (pc := 109) (L := [some (.ref 31), none, some (.int 19), some (.long 101), none, some (.int 93), none]) (st := []) (ce := 2) (sl := 21) 0 (true, 106, [some (.ref 31), none, some (.int 19), some (.long 101), none, some (.int 93), none], [.int 93, .ref 1010], (Ia19, Ja19, qcR_65, qcS_33 L, 33), 2, 21) rfl rfl).trans ?_
  rw [q_ck_tt, q_tx5 93 108 rfl (by decide) (by decide)]
  show q_D _ _ _ (true, 109, [some (.ref 31), none, some (.int 19), some (.long 101), none, some (.int 93), none], [.int 108], (Ia19, Ja19, qcR_65, qcS_33 L, 33), 2, 21) = _
  refine (q_D_br (b := true) (p := (108 : Int32) = 32) (pa := 118) (pb := 133) (L := [some (.ref 31), none, some (.int 19), some (.long 101), none, some (.int 93), some (.int 108)]) (d := ([], (Ia19, Ja19, qcR_65, qcS_33 L, 33), 2, 21)) (La := [some (.ref 31), none, some (.int 19), some (.long 101), none, some (.int 93), none]) (Lb := [some (.ref 31), none, some (.int 19), some (.long 101), none, some (.int 93), some (.int 108)]) 4 rfl rfl rfl).trans ?_
  rw [q_ck_tt, if_neg (by decide)]
  refine (q_D_by (c' := (true, 147, [some (.ref 31), none, some (.int 19), some (.long 101), none, some (.int 93), some (.int 108)], [.long 3244], (Ia19, Ja19, qcR_65, qcS_33 L, 33), 2, 21)) 10 rfl).trans ?_
  refine (q_D_by (c' := (true, 90, [some (.ref 31), none, some (.int 19), some (.long 3244), none, some (.int 94), none], [.ref 1010, .int 94], (Ia19, Ja19, qcR_65, qcS_33 L, 33), 2, 21)) 5 rfl).trans ?_
  refine (q_D_call (X := q_text4 [.ref 1010] (Ia19, Ja19, qcR_65, qcS_33 L, 33)) (b := true) (pc := 93) (L := [some (.ref 31), none, some (.int 19), some (.long 3244), none, some (.int 94), none]) (st := [.int 94]) (ce := 2) (sl := 21) 0 (true, 90, [some (.ref 31), none, some (.int 19), some (.long 3244), none, some (.int 94), none], [.ref 1010, .int 94], (Ia19, Ja19, qcR_65, qcS_33 L, 33), 2, 21) rfl rfl).trans ?_
  rw [q_ck_tt, q_tx4 rfl]
  show q_D _ _ _ (true, 93, [some (.ref 31), none, some (.int 19), some (.long 3244), none, some (.int 94), none], [.int 102, .int 94], (Ia19, Ja19, qcR_65, qcS_33 L, 33), 2, 21) = _
  refine (q_D_br (b := true) (p := (94 : Int32) < 102) (pa := 96) (pb := 154) (L := [some (.ref 31), none, some (.int 19), some (.long 3244), none, some (.int 94), none]) (d := ([], (Ia19, Ja19, qcR_65, qcS_33 L, 33), 2, 21)) (La := [some (.ref 31), none, some (.int 19), some (.long 3244), none, some (.int 94), none]) (Lb := [none, none, none, none, none, none, none]) 1 rfl rfl rfl).trans ?_
  rw [q_ck_tt, if_pos (by decide)]
  refine (q_D_br (b := true) (p := (19 : Int32) < 21) (pa := 102) (pb := 154) (L := [some (.ref 31), none, some (.int 19), some (.long 3244), none, some (.int 94), none]) (d := ([], (Ia19, Ja19, qcR_65, qcS_33 L, 33), 2, 21)) (La := [some (.ref 31), none, some (.int 19), some (.long 3244), none, some (.int 94), none]) (Lb := [none, none, none, none, none, none, none]) 3 rfl rfl rfl).trans ?_
  rw [q_ck_tt, if_pos (by decide)]
  refine (q_D_by (c' := (true, 106, [some (.ref 31), none, some (.int 19), some (.long 3244), none, some (.int 94), none], [.int 94, .ref 1010], (Ia19, Ja19, qcR_65, qcS_33 L, 33), 2, 21)) 2 rfl).trans ?_
  refine (q_D_call (X := q_text5 [.ref 1010, .int 94] (Ia19, Ja19, qcR_65, qcS_33 L, 33)) (b := true) (pc := 109) (L := [some (.ref 31), none, some (.int 19), some (.long 3244), none, some (.int 94), none]) (st := []) (ce := 2) (sl := 21) 0 (true, 106, [some (.ref 31), none, some (.int 19), some (.long 3244), none, some (.int 94), none], [.int 94, .ref 1010], (Ia19, Ja19, qcR_65, qcS_33 L, 33), 2, 21) rfl rfl).trans ?_
  rw [q_ck_tt, q_tx5 94 108 rfl (by decide) (by decide)]
  show q_D _ _ _ (true, 109, [some (.ref 31), none, some (.int 19), some (.long 3244), none, some (.int 94), none], [.int 108], (Ia19, Ja19, qcR_65, qcS_33 L, 33), 2, 21) = _
  refine (q_D_br (b := true) (p := (108 : Int32) = 32) (pa := 118) (pb := 133) (L := [some (.ref 31), none, some (.int 19), some (.long 3244), none, some (.int 94), some (.int 108)]) (d := ([], (Ia19, Ja19, qcR_65, qcS_33 L, 33), 2, 21)) (La := [some (.ref 31), none, some (.int 19), some (.long 3244), none, some (.int 94), none]) (Lb := [some (.ref 31), none, some (.int 19), some (.long 3244), none, some (.int 94), some (.int 108)]) 4 rfl rfl rfl).trans ?_
  rw [q_ck_tt, if_neg (by decide)]
  refine (q_D_by (c' := (true, 147, [some (.ref 31), none, some (.int 19), some (.long 3244), none, some (.int 94), some (.int 108)], [.long 103820], (Ia19, Ja19, qcR_65, qcS_33 L, 33), 2, 21)) 10 rfl).trans ?_
  refine (q_D_by (c' := (true, 90, [some (.ref 31), none, some (.int 19), some (.long 103820), none, some (.int 95), none], [.ref 1010, .int 95], (Ia19, Ja19, qcR_65, qcS_33 L, 33), 2, 21)) 5 rfl).trans ?_
  refine (q_D_call (X := q_text4 [.ref 1010] (Ia19, Ja19, qcR_65, qcS_33 L, 33)) (b := true) (pc := 93) (L := [some (.ref 31), none, some (.int 19), some (.long 103820), none, some (.int 95), none]) (st := [.int 95]) (ce := 2) (sl := 21) 0 (true, 90, [some (.ref 31), none, some (.int 19), some (.long 103820), none, some (.int 95), none], [.ref 1010, .int 95], (Ia19, Ja19, qcR_65, qcS_33 L, 33), 2, 21) rfl rfl).trans ?_
  rw [q_ck_tt, q_tx4 rfl]
  show q_D _ _ _ (true, 93, [some (.ref 31), none, some (.int 19), some (.long 103820), none, some (.int 95), none], [.int 102, .int 95], (Ia19, Ja19, qcR_65, qcS_33 L, 33), 2, 21) = _
  refine (q_D_br (b := true) (p := (95 : Int32) < 102) (pa := 96) (pb := 154) (L := [some (.ref 31), none, some (.int 19), some (.long 103820), none, some (.int 95), none]) (d := ([], (Ia19, Ja19, qcR_65, qcS_33 L, 33), 2, 21)) (La := [some (.ref 31), none, some (.int 19), some (.long 103820), none, some (.int 95), none]) (Lb := [none, none, none, none, none, none, none]) 1 rfl rfl rfl).trans ?_
  rw [q_ck_tt, if_pos (by decide)]
  refine (q_D_br (b := true) (p := (19 : Int32) < 21) (pa := 102) (pb := 154) (L := [some (.ref 31), none, some (.int 19), some (.long 103820), none, some (.int 95), none]) (d := ([], (Ia19, Ja19, qcR_65, qcS_33 L, 33), 2, 21)) (La := [some (.ref 31), none, some (.int 19), some (.long 103820), none, some (.int 95), none]) (Lb := [none, none, none, none, none, none, none]) 3 rfl rfl rfl).trans ?_
  rw [q_ck_tt, if_pos (by decide)]
  refine (q_D_by (c' := (true, 106, [some (.ref 31), none, some (.int 19), some (.long 103820), none, some (.int 95), none], [.int 95, .ref 1010], (Ia19, Ja19, qcR_65, qcS_33 L, 33), 2, 21)) 2 rfl).trans ?_
  refine (q_D_call (X := q_text5 [.ref 1010, .int 95] (Ia19, Ja19, qcR_65, qcS_33 L, 33)) (b := true) (pc := 109) (L := [some (.ref 31), none, some (.int 19), some (.long 103820), none, some (.int 95), none]) (st := []) (ce := 2) (sl := 21) 0 (true, 106, [some (.ref 31), none, some (.int 19), some (.long 103820), none, some (.int 95), none], [.int 95, .ref 1010], (Ia19, Ja19, qcR_65, qcS_33 L, 33), 2, 21) rfl rfl).trans ?_
  rw [q_ck_tt, q_tx5 95 32 rfl (by decide) (by decide)]
  show q_D _ _ _ (true, 109, [some (.ref 31), none, some (.int 19), some (.long 103820), none, some (.int 95), none], [.int 32], (Ia19, Ja19, qcR_65, qcS_33 L, 33), 2, 21) = _
  refine (q_D_br (b := true) (p := (32 : Int32) = 32) (pa := 118) (pb := 133) (L := [some (.ref 31), none, some (.int 19), some (.long 103820), none, some (.int 95), some (.int 32)]) (d := ([], (Ia19, Ja19, qcR_65, qcS_33 L, 33), 2, 21)) (La := [some (.ref 31), none, some (.int 19), some (.long 103820), none, some (.int 95), none]) (Lb := [some (.ref 31), none, some (.int 19), some (.long 103820), none, some (.int 95), some (.int 32)]) 4 rfl rfl rfl).trans ?_
  rw [q_ck_tt, if_pos (by decide)]
  refine (q_D_by (c' := (true, 125, [some (.ref 31), none, some (.int 19), some (.long 103820), none, some (.int 95), none], [], (Ia19, (q_up Ja19 32 19 103820), qcR_65, qcS_33 L, 33), 2, 21)) 5 rfl).trans ?_
  rw [← ea20, ← ja20]
  refine (q_D_by (c' := (true, 90, [some (.ref 31), none, some (.int 20), some (.long 0), none, some (.int 96), none], [.ref 1010, .int 96], (Ia20, Ja20, qcR_65, qcS_33 L, 33), 2, 21)) 8 rfl).trans ?_
  refine (q_D_call (X := q_text4 [.ref 1010] (Ia20, Ja20, qcR_65, qcS_33 L, 33)) (b := true) (pc := 93) (L := [some (.ref 31), none, some (.int 20), some (.long 0), none, some (.int 96), none]) (st := [.int 96]) (ce := 2) (sl := 21) 0 (true, 90, [some (.ref 31), none, some (.int 20), some (.long 0), none, some (.int 96), none], [.ref 1010, .int 96], (Ia20, Ja20, qcR_65, qcS_33 L, 33), 2, 21) rfl rfl).trans ?_
  rw [q_ck_tt, q_tx4 rfl]
  show q_D _ _ _ (true, 93, [some (.ref 31), none, some (.int 20), some (.long 0), none, some (.int 96), none], [.int 102, .int 96], (Ia20, Ja20, qcR_65, qcS_33 L, 33), 2, 21) = _
  refine (q_D_br (b := true) (p := (96 : Int32) < 102) (pa := 96) (pb := 154) (L := [some (.ref 31), none, some (.int 20), some (.long 0), none, some (.int 96), none]) (d := ([], (Ia20, Ja20, qcR_65, qcS_33 L, 33), 2, 21)) (La := [some (.ref 31), none, some (.int 20), some (.long 0), none, some (.int 96), none]) (Lb := [none, none, none, none, none, none, none]) 1 rfl rfl rfl).trans ?_
  rw [q_ck_tt, if_pos (by decide)]
  refine (q_D_br (b := true) (p := (20 : Int32) < 21) (pa := 102) (pb := 154) (L := [some (.ref 31), none, some (.int 20), some (.long 0), none, some (.int 96), none]) (d := ([], (Ia20, Ja20, qcR_65, qcS_33 L, 33), 2, 21)) (La := [some (.ref 31), none, some (.int 20), some (.long 0), none, some (.int 96), none]) (Lb := [none, none, none, none, none, none, none]) 3 rfl rfl rfl).trans ?_
  rw [q_ck_tt, if_pos (by decide)]
  refine (q_D_by (c' := (true, 106, [some (.ref 31), none, some (.int 20), some (.long 0), none, some (.int 96), none], [.int 96, .ref 1010], (Ia20, Ja20, qcR_65, qcS_33 L, 33), 2, 21)) 2 rfl).trans ?_
  refine (q_D_call (X := q_text5 [.ref 1010, .int 96] (Ia20, Ja20, qcR_65, qcS_33 L, 33)) (b := true) (pc := 109) (L := [some (.ref 31), none, some (.int 20), some (.long 0), none, some (.int 96), none]) (st := []) (ce := 2) (sl := 21) 0 (true, 106, [some (.ref 31), none, some (.int 20), some (.long 0), none, some (.int 96), none], [.int 96, .ref 1010], (Ia20, Ja20, qcR_65, qcS_33 L, 33), 2, 21) rfl rfl).trans ?_
  rw [q_ck_tt, q_tx5 96 99 rfl (by decide) (by decide)]
  show q_D _ _ _ (true, 109, [some (.ref 31), none, some (.int 20), some (.long 0), none, some (.int 96), none], [.int 99], (Ia20, Ja20, qcR_65, qcS_33 L, 33), 2, 21) = _
  refine (q_D_br (b := true) (p := (99 : Int32) = 32) (pa := 118) (pb := 133) (L := [some (.ref 31), none, some (.int 20), some (.long 0), none, some (.int 96), some (.int 99)]) (d := ([], (Ia20, Ja20, qcR_65, qcS_33 L, 33), 2, 21)) (La := [some (.ref 31), none, some (.int 20), some (.long 0), none, some (.int 96), none]) (Lb := [some (.ref 31), none, some (.int 20), some (.long 0), none, some (.int 96), some (.int 99)]) 4 rfl rfl rfl).trans ?_
  rw [q_ck_tt, if_neg (by decide)]
  refine (q_D_by (c' := (true, 147, [some (.ref 31), none, some (.int 20), some (.long 0), none, some (.int 96), some (.int 99)], [.long 3], (Ia20, Ja20, qcR_65, qcS_33 L, 33), 2, 21)) 10 rfl).trans ?_
  refine (q_D_by (c' := (true, 90, [some (.ref 31), none, some (.int 20), some (.long 3), none, some (.int 97), none], [.ref 1010, .int 97], (Ia20, Ja20, qcR_65, qcS_33 L, 33), 2, 21)) 5 rfl).trans ?_
  refine (q_D_call (X := q_text4 [.ref 1010] (Ia20, Ja20, qcR_65, qcS_33 L, 33)) (b := true) (pc := 93) (L := [some (.ref 31), none, some (.int 20), some (.long 3), none, some (.int 97), none]) (st := [.int 97]) (ce := 2) (sl := 21) 0 (true, 90, [some (.ref 31), none, some (.int 20), some (.long 3), none, some (.int 97), none], [.ref 1010, .int 97], (Ia20, Ja20, qcR_65, qcS_33 L, 33), 2, 21) rfl rfl).trans ?_
  rw [q_ck_tt, q_tx4 rfl]
  show q_D _ _ _ (true, 93, [some (.ref 31), none, some (.int 20), some (.long 3), none, some (.int 97), none], [.int 102, .int 97], (Ia20, Ja20, qcR_65, qcS_33 L, 33), 2, 21) = _
  refine (q_D_br (b := true) (p := (97 : Int32) < 102) (pa := 96) (pb := 154) (L := [some (.ref 31), none, some (.int 20), some (.long 3), none, some (.int 97), none]) (d := ([], (Ia20, Ja20, qcR_65, qcS_33 L, 33), 2, 21)) (La := [some (.ref 31), none, some (.int 20), some (.long 3), none, some (.int 97), none]) (Lb := [none, none, none, none, none, none, none]) 1 rfl rfl rfl).trans ?_
  rw [q_ck_tt, if_pos (by decide)]
  refine (q_D_br (b := true) (p := (20 : Int32) < 21) (pa := 102) (pb := 154) (L := [some (.ref 31), none, some (.int 20), some (.long 3), none, some (.int 97), none]) (d := ([], (Ia20, Ja20, qcR_65, qcS_33 L, 33), 2, 21)) (La := [some (.ref 31), none, some (.int 20), some (.long 3), none, some (.int 97), none]) (Lb := [none, none, none, none, none, none, none]) 3 rfl rfl rfl).trans ?_
  rw [q_ck_tt, if_pos (by decide)]
  refine (q_D_by (c' := (true, 106, [some (.ref 31), none, some (.int 20), some (.long 3), none, some (.int 97), none], [.int 97, .ref 1010], (Ia20, Ja20, qcR_65, qcS_33 L, 33), 2, 21)) 2 rfl).trans ?_
  refine (q_D_call (X := q_text5 [.ref 1010, .int 97] (Ia20, Ja20, qcR_65, qcS_33 L, 33)) (b := true) (pc := 109) (L := [some (.ref 31), none, some (.int 20), some (.long 3), none, some (.int 97), none]) (st := []) (ce := 2) (sl := 21) 0 (true, 106, [some (.ref 31), none, some (.int 20), some (.long 3), none, some (.int 97), none], [.int 97, .ref 1010], (Ia20, Ja20, qcR_65, qcS_33 L, 33), 2, 21) rfl rfl).trans ?_
  rw [q_ck_tt, q_tx5 97 108 rfl (by decide) (by decide)]
  show q_D _ _ _ (true, 109, [some (.ref 31), none, some (.int 20), some (.long 3), none, some (.int 97), none], [.int 108], (Ia20, Ja20, qcR_65, qcS_33 L, 33), 2, 21) = _
  refine (q_D_br (b := true) (p := (108 : Int32) = 32) (pa := 118) (pb := 133) (L := [some (.ref 31), none, some (.int 20), some (.long 3), none, some (.int 97), some (.int 108)]) (d := ([], (Ia20, Ja20, qcR_65, qcS_33 L, 33), 2, 21)) (La := [some (.ref 31), none, some (.int 20), some (.long 3), none, some (.int 97), none]) (Lb := [some (.ref 31), none, some (.int 20), some (.long 3), none, some (.int 97), some (.int 108)]) 4 rfl rfl rfl).trans ?_
  rw [q_ck_tt, if_neg (by decide)]
  refine (q_D_by (c' := (true, 147, [some (.ref 31), none, some (.int 20), some (.long 3), none, some (.int 97), some (.int 108)], [.long 108], (Ia20, Ja20, qcR_65, qcS_33 L, 33), 2, 21)) 10 rfl).trans ?_
  refine (q_D_by (c' := (true, 90, [some (.ref 31), none, some (.int 20), some (.long 108), none, some (.int 98), none], [.ref 1010, .int 98], (Ia20, Ja20, qcR_65, qcS_33 L, 33), 2, 21)) 5 rfl).trans ?_
  refine (q_D_call (X := q_text4 [.ref 1010] (Ia20, Ja20, qcR_65, qcS_33 L, 33)) (b := true) (pc := 93) (L := [some (.ref 31), none, some (.int 20), some (.long 108), none, some (.int 98), none]) (st := [.int 98]) (ce := 2) (sl := 21) 0 (true, 90, [some (.ref 31), none, some (.int 20), some (.long 108), none, some (.int 98), none], [.ref 1010, .int 98], (Ia20, Ja20, qcR_65, qcS_33 L, 33), 2, 21) rfl rfl).trans ?_
  rw [q_ck_tt, q_tx4 rfl]
  show q_D _ _ _ (true, 93, [some (.ref 31), none, some (.int 20), some (.long 108), none, some (.int 98), none], [.int 102, .int 98], (Ia20, Ja20, qcR_65, qcS_33 L, 33), 2, 21) = _
  refine (q_D_br (b := true) (p := (98 : Int32) < 102) (pa := 96) (pb := 154) (L := [some (.ref 31), none, some (.int 20), some (.long 108), none, some (.int 98), none]) (d := ([], (Ia20, Ja20, qcR_65, qcS_33 L, 33), 2, 21)) (La := [some (.ref 31), none, some (.int 20), some (.long 108), none, some (.int 98), none]) (Lb := [none, none, none, none, none, none, none]) 1 rfl rfl rfl).trans ?_
  rw [q_ck_tt, if_pos (by decide)]
  refine (q_D_br (b := true) (p := (20 : Int32) < 21) (pa := 102) (pb := 154) (L := [some (.ref 31), none, some (.int 20), some (.long 108), none, some (.int 98), none]) (d := ([], (Ia20, Ja20, qcR_65, qcS_33 L, 33), 2, 21)) (La := [some (.ref 31), none, some (.int 20), some (.long 108), none, some (.int 98), none]) (Lb := [none, none, none, none, none, none, none]) 3 rfl rfl rfl).trans ?_
  rw [q_ck_tt, if_pos (by decide)]
  refine (q_D_by (c' := (true, 106, [some (.ref 31), none, some (.int 20), some (.long 108), none, some (.int 98), none], [.int 98, .ref 1010], (Ia20, Ja20, qcR_65, qcS_33 L, 33), 2, 21)) 2 rfl).trans ?_
  refine (q_D_call (X := q_text5 [.ref 1010, .int 98] (Ia20, Ja20, qcR_65, qcS_33 L, 33)) (b := true) (pc := 109) (L := [some (.ref 31), none, some (.int 20), some (.long 108), none, some (.int 98), none]) (st := []) (ce := 2) (sl := 21) 0 (true, 106, [some (.ref 31), none, some (.int 20), some (.long 108), none, some (.int 98), none], [.int 98, .ref 1010], (Ia20, Ja20, qcR_65, qcS_33 L, 33), 2, 21) rfl rfl).trans ?_
  rw [q_ck_tt, q_tx5 98 111 rfl (by decide) (by decide)]
  show q_D _ _ _ (true, 109, [some (.ref 31), none, some (.int 20), some (.long 108), none, some (.int 98), none], [.int 111], (Ia20, Ja20, qcR_65, qcS_33 L, 33), 2, 21) = _
  refine (q_D_br (b := true) (p := (111 : Int32) = 32) (pa := 118) (pb := 133) (L := [some (.ref 31), none, some (.int 20), some (.long 108), none, some (.int 98), some (.int 111)]) (d := ([], (Ia20, Ja20, qcR_65, qcS_33 L, 33), 2, 21)) (La := [some (.ref 31), none, some (.int 20), some (.long 108), none, some (.int 98), none]) (Lb := [some (.ref 31), none, some (.int 20), some (.long 108), none, some (.int 98), some (.int 111)]) 4 rfl rfl rfl).trans ?_
  rw [q_ck_tt, if_neg (by decide)]
  refine (q_D_by (c' := (true, 147, [some (.ref 31), none, some (.int 20), some (.long 108), none, some (.int 98), some (.int 111)], [.long 3471], (Ia20, Ja20, qcR_65, qcS_33 L, 33), 2, 21)) 10 rfl).trans ?_
  refine (q_D_by (c' := (true, 90, [some (.ref 31), none, some (.int 20), some (.long 3471), none, some (.int 99), none], [.ref 1010, .int 99], (Ia20, Ja20, qcR_65, qcS_33 L, 33), 2, 21)) 5 rfl).trans ?_
  refine (q_D_call (X := q_text4 [.ref 1010] (Ia20, Ja20, qcR_65, qcS_33 L, 33)) (b := true) (pc := 93) (L := [some (.ref 31), none, some (.int 20), some (.long 3471), none, some (.int 99), none]) (st := [.int 99]) (ce := 2) (sl := 21) 0 (true, 90, [some (.ref 31), none, some (.int 20), some (.long 3471), none, some (.int 99), none], [.ref 1010, .int 99], (Ia20, Ja20, qcR_65, qcS_33 L, 33), 2, 21) rfl rfl).trans ?_
  rw [q_ck_tt, q_tx4 rfl]
  show q_D _ _ _ (true, 93, [some (.ref 31), none, some (.int 20), some (.long 3471), none, some (.int 99), none], [.int 102, .int 99], (Ia20, Ja20, qcR_65, qcS_33 L, 33), 2, 21) = _
  refine (q_D_br (b := true) (p := (99 : Int32) < 102) (pa := 96) (pb := 154) (L := [some (.ref 31), none, some (.int 20), some (.long 3471), none, some (.int 99), none]) (d := ([], (Ia20, Ja20, qcR_65, qcS_33 L, 33), 2, 21)) (La := [some (.ref 31), none, some (.int 20), some (.long 3471), none, some (.int 99), none]) (Lb := [none, none, none, none, none, none, none]) 1 rfl rfl rfl).trans ?_
  rw [q_ck_tt, if_pos (by decide)]
  refine (q_D_br (b := true) (p := (20 : Int32) < 21) (pa := 102) (pb := 154) (L := [some (.ref 31), none, some (.int 20), some (.long 3471), none, some (.int 99), none]) (d := ([], (Ia20, Ja20, qcR_65, qcS_33 L, 33), 2, 21)) (La := [some (.ref 31), none, some (.int 20), some (.long 3471), none, some (.int 99), none]) (Lb := [none, none, none, none, none, none, none]) 3 rfl rfl rfl).trans ?_
  rw [q_ck_tt, if_pos (by decide)]
  refine (q_D_by (c' := (true, 106, [some (.ref 31), none, some (.int 20), some (.long 3471), none, some (.int 99), none], [.int 99, .ref 1010], (Ia20, Ja20, qcR_65, qcS_33 L, 33), 2, 21)) 2 rfl).trans ?_
  refine (q_D_call (X := q_text5 [.ref 1010, .int 99] (Ia20, Ja20, qcR_65, qcS_33 L, 33)) (b := true) (pc := 109) (L := [some (.ref 31), none, some (.int 20), some (.long 3471), none, some (.int 99), none]) (st := []) (ce := 2) (sl := 21) 0 (true, 106, [some (.ref 31), none, some (.int 20), some (.long 3471), none, some (.int 99), none], [.int 99, .ref 1010], (Ia20, Ja20, qcR_65, qcS_33 L, 33), 2, 21) rfl rfl).trans ?_
  rw [q_ck_tt, q_tx5 99 99 rfl (by decide) (by decide)]
  show q_D _ _ _ (true, 109, [some (.ref 31), none, some (.int 20), some (.long 3471), none, some (.int 99), none], [.int 99], (Ia20, Ja20, qcR_65, qcS_33 L, 33), 2, 21) = _
  refine (q_D_br (b := true) (p := (99 : Int32) = 32) (pa := 118) (pb := 133) (L := [some (.ref 31), none, some (.int 20), some (.long 3471), none, some (.int 99), some (.int 99)]) (d := ([], (Ia20, Ja20, qcR_65, qcS_33 L, 33), 2, 21)) (La := [some (.ref 31), none, some (.int 20), some (.long 3471), none, some (.int 99), none]) (Lb := [some (.ref 31), none, some (.int 20), some (.long 3471), none, some (.int 99), some (.int 99)]) 4 rfl rfl rfl).trans ?_
  rw [q_ck_tt, if_neg (by decide)]
  refine (q_D_by (c' := (true, 147, [some (.ref 31), none, some (.int 20), some (.long 3471), none, some (.int 99), some (.int 99)], [.long 111075], (Ia20, Ja20, qcR_65, qcS_33 L, 33), 2, 21)) 10 rfl).trans ?_
  refine (q_D_by (c' := (true, 90, [some (.ref 31), none, some (.int 20), some (.long 111075), none, some (.int 100), none], [.ref 1010, .int 100], (Ia20, Ja20, qcR_65, qcS_33 L, 33), 2, 21)) 5 rfl).trans ?_
  refine (q_D_call (X := q_text4 [.ref 1010] (Ia20, Ja20, qcR_65, qcS_33 L, 33)) (b := true) (pc := 93) (L := [some (.ref 31), none, some (.int 20), some (.long 111075), none, some (.int 100), none]) (st := [.int 100]) (ce := 2) (sl := 21) 0 (true, 90, [some (.ref 31), none, some (.int 20), some (.long 111075), none, some (.int 100), none], [.ref 1010, .int 100], (Ia20, Ja20, qcR_65, qcS_33 L, 33), 2, 21) rfl rfl).trans ?_
  rw [q_ck_tt, q_tx4 rfl]
  show q_D _ _ _ (true, 93, [some (.ref 31), none, some (.int 20), some (.long 111075), none, some (.int 100), none], [.int 102, .int 100], (Ia20, Ja20, qcR_65, qcS_33 L, 33), 2, 21) = _
  refine (q_D_br (b := true) (p := (100 : Int32) < 102) (pa := 96) (pb := 154) (L := [some (.ref 31), none, some (.int 20), some (.long 111075), none, some (.int 100), none]) (d := ([], (Ia20, Ja20, qcR_65, qcS_33 L, 33), 2, 21)) (La := [some (.ref 31), none, some (.int 20), some (.long 111075), none, some (.int 100), none]) (Lb := [none, none, none, none, none, none, none]) 1 rfl rfl rfl).trans ?_
  rw [q_ck_tt, if_pos (by decide)]
  refine (q_D_br (b := true) (p := (20 : Int32) < 21) (pa := 102) (pb := 154) (L := [some (.ref 31), none, some (.int 20), some (.long 111075), none, some (.int 100), none]) (d := ([], (Ia20, Ja20, qcR_65, qcS_33 L, 33), 2, 21)) (La := [some (.ref 31), none, some (.int 20), some (.long 111075), none, some (.int 100), none]) (Lb := [none, none, none, none, none, none, none]) 3 rfl rfl rfl).trans ?_
  rw [q_ck_tt, if_pos (by decide)]
  refine (q_D_by (c' := (true, 106, [some (.ref 31), none, some (.int 20), some (.long 111075), none, some (.int 100), none], [.int 100, .ref 1010], (Ia20, Ja20, qcR_65, qcS_33 L, 33), 2, 21)) 2 rfl).trans ?_
  refine (q_D_call (X := q_text5 [.ref 1010, .int 100] (Ia20, Ja20, qcR_65, qcS_33 L, 33)) (b := true) (pc := 109) (L := [some (.ref 31), none, some (.int 20), some (.long 111075), none, some (.int 100), none]) (st := []) (ce := 2) (sl := 21) 0 (true, 106, [some (.ref 31), none, some (.int 20), some (.long 111075), none, some (.int 100), none], [.int 100, .ref 1010], (Ia20, Ja20, qcR_65, qcS_33 L, 33), 2, 21) rfl rfl).trans ?_
  rw [q_ck_tt, q_tx5 100 107 rfl (by decide) (by decide)]
  show q_D _ _ _ (true, 109, [some (.ref 31), none, some (.int 20), some (.long 111075), none, some (.int 100), none], [.int 107], (Ia20, Ja20, qcR_65, qcS_33 L, 33), 2, 21) = _
  refine (q_D_br (b := true) (p := (107 : Int32) = 32) (pa := 118) (pb := 133) (L := [some (.ref 31), none, some (.int 20), some (.long 111075), none, some (.int 100), some (.int 107)]) (d := ([], (Ia20, Ja20, qcR_65, qcS_33 L, 33), 2, 21)) (La := [some (.ref 31), none, some (.int 20), some (.long 111075), none, some (.int 100), none]) (Lb := [some (.ref 31), none, some (.int 20), some (.long 111075), none, some (.int 100), some (.int 107)]) 4 rfl rfl rfl).trans ?_
  rw [q_ck_tt, if_neg (by decide)]
  refine (q_D_by (c' := (true, 147, [some (.ref 31), none, some (.int 20), some (.long 111075), none, some (.int 100), some (.int 107)], [.long 3554411], (Ia20, Ja20, qcR_65, qcS_33 L, 33), 2, 21)) 10 rfl).trans ?_
  refine (q_D_by (c' := (true, 90, [some (.ref 31), none, some (.int 20), some (.long 3554411), none, some (.int 101), none], [.ref 1010, .int 101], (Ia20, Ja20, qcR_65, qcS_33 L, 33), 2, 21)) 5 rfl).trans ?_
  refine (q_D_call (X := q_text4 [.ref 1010] (Ia20, Ja20, qcR_65, qcS_33 L, 33)) (b := true) (pc := 93) (L := [some (.ref 31), none, some (.int 20), some (.long 3554411), none, some (.int 101), none]) (st := [.int 101]) (ce := 2) (sl := 21) 0 (true, 90, [some (.ref 31), none, some (.int 20), some (.long 3554411), none, some (.int 101), none], [.ref 1010, .int 101], (Ia20, Ja20, qcR_65, qcS_33 L, 33), 2, 21) rfl rfl).trans ?_
  rw [q_ck_tt, q_tx4 rfl]
  show q_D _ _ _ (true, 93, [some (.ref 31), none, some (.int 20), some (.long 3554411), none, some (.int 101), none], [.int 102, .int 101], (Ia20, Ja20, qcR_65, qcS_33 L, 33), 2, 21) = _
  refine (q_D_br (b := true) (p := (101 : Int32) < 102) (pa := 96) (pb := 154) (L := [some (.ref 31), none, some (.int 20), some (.long 3554411), none, some (.int 101), none]) (d := ([], (Ia20, Ja20, qcR_65, qcS_33 L, 33), 2, 21)) (La := [some (.ref 31), none, some (.int 20), some (.long 3554411), none, some (.int 101), none]) (Lb := [none, none, none, none, none, none, none]) 1 rfl rfl rfl).trans ?_
  rw [q_ck_tt, if_pos (by decide)]
  refine (q_D_br (b := true) (p := (20 : Int32) < 21) (pa := 102) (pb := 154) (L := [some (.ref 31), none, some (.int 20), some (.long 3554411), none, some (.int 101), none]) (d := ([], (Ia20, Ja20, qcR_65, qcS_33 L, 33), 2, 21)) (La := [some (.ref 31), none, some (.int 20), some (.long 3554411), none, some (.int 101), none]) (Lb := [none, none, none, none, none, none, none]) 3 rfl rfl rfl).trans ?_
  rw [q_ck_tt, if_pos (by decide)]
  refine (q_D_by (c' := (true, 106, [some (.ref 31), none, some (.int 20), some (.long 3554411), none, some (.int 101), none], [.int 101, .ref 1010], (Ia20, Ja20, qcR_65, qcS_33 L, 33), 2, 21)) 2 rfl).trans ?_
  refine (q_D_call (X := q_text5 [.ref 1010, .int 101] (Ia20, Ja20, qcR_65, qcS_33 L, 33)) (b := true) (pc := 109) (L := [some (.ref 31), none, some (.int 20), some (.long 3554411), none, some (.int 101), none]) (st := []) (ce := 2) (sl := 21) 0 (true, 106, [some (.ref 31), none, some (.int 20), some (.long 3554411), none, some (.int 101), none], [.int 101, .ref 1010], (Ia20, Ja20, qcR_65, qcS_33 L, 33), 2, 21) rfl rfl).trans ?_
  rw [q_ck_tt, q_tx5 101 32 rfl (by decide) (by decide)]
  show q_D _ _ _ (true, 109, [some (.ref 31), none, some (.int 20), some (.long 3554411), none, some (.int 101), none], [.int 32], (Ia20, Ja20, qcR_65, qcS_33 L, 33), 2, 21) = _
  refine (q_D_br (b := true) (p := (32 : Int32) = 32) (pa := 118) (pb := 133) (L := [some (.ref 31), none, some (.int 20), some (.long 3554411), none, some (.int 101), some (.int 32)]) (d := ([], (Ia20, Ja20, qcR_65, qcS_33 L, 33), 2, 21)) (La := [some (.ref 31), none, some (.int 20), some (.long 3554411), none, some (.int 101), none]) (Lb := [some (.ref 31), none, some (.int 20), some (.long 3554411), none, some (.int 101), some (.int 32)]) 4 rfl rfl rfl).trans ?_
  rw [q_ck_tt, if_pos (by decide)]
  refine (q_D_by (c' := (true, 125, [some (.ref 31), none, some (.int 20), some (.long 3554411), none, some (.int 101), none], [], (Ia20, (q_up Ja20 32 20 3554411), qcR_65, qcS_33 L, 33), 2, 21)) 5 rfl).trans ?_
  rw [← ea21, ← ja21]
  refine (q_D_by (c' := (true, 90, [some (.ref 31), none, some (.int 21), some (.long 0), none, some (.int 102), none], [.ref 1010, .int 102], (Ia21, Ja21, qcR_65, qcS_33 L, 33), 2, 21)) 8 rfl).trans ?_
  refine (q_D_call (X := q_text4 [.ref 1010] (Ia21, Ja21, qcR_65, qcS_33 L, 33)) (b := true) (pc := 93) (L := [some (.ref 31), none, some (.int 21), some (.long 0), none, some (.int 102), none]) (st := [.int 102]) (ce := 2) (sl := 21) 0 (true, 90, [some (.ref 31), none, some (.int 21), some (.long 0), none, some (.int 102), none], [.ref 1010, .int 102], (Ia21, Ja21, qcR_65, qcS_33 L, 33), 2, 21) rfl rfl).trans ?_
  rw [q_ck_tt, q_tx4 rfl]
  show q_D _ _ _ (true, 93, [some (.ref 31), none, some (.int 21), some (.long 0), none, some (.int 102), none], [.int 102, .int 102], (Ia21, Ja21, qcR_65, qcS_33 L, 33), 2, 21) = _
  refine (q_D_br (b := true) (p := (102 : Int32) < 102) (pa := 96) (pb := 154) (L := [some (.ref 31), none, some (.int 21), some (.long 0), none, some (.int 102), none]) (d := ([], (Ia21, Ja21, qcR_65, qcS_33 L, 33), 2, 21)) (La := [some (.ref 31), none, some (.int 21), some (.long 0), none, some (.int 102), none]) (Lb := [none, none, none, none, none, none, none]) 1 rfl rfl rfl).trans ?_
  rw [q_ck_tt, if_neg (by decide)]
  exact q_D_end 1 rfl
theorem n_X10_init_34 {B : Nat → Nat → Int32} {f : Nat → Int64} (L : Nat) (I : Nat → Nat → Int32) (J : Nat → Nat → Int64) (hZ : q_Z B f qX0 34 I J) : ∃ I' J', mX10_init [.ref 34] (I, J, qcR_67, qcS_34 L, 34) = some (none, (I', J', qcR_71, qcS_36 L, 36)) ∧ q_Z B f qX0 36 I' J' := by
  refine ⟨(va_up (va_up I 35 (fun _ => 0)) 36 (fun _ => 0)), (va_up (va_up J 35 (fun _ => 0)) 36 (fun _ => 0)), ?_, (q_Z_new (q_Z_new hZ (by decide) (Or.inl (by decide)) (fun _ => rfl)) (by decide) (Or.inl (by decide)) (fun _ => rfl))⟩
  show q_D cs_X10_init oX10_init (2, 32) (true, 0, [some (.ref 34)], [], (I, J, qcR_67, qcS_34 L, 34), 0, 0) = _
  refine (q_D_by (c' := (true, 20, [some (.ref 34)], [], ((va_up (va_up I 35 (fun _ => 0)) 36 (fun _ => 0)), (va_up (va_up J 35 (fun _ => 0)) 36 (fun _ => 0)), qcR_71, qcS_36 L, 36), 2, 32)) 10 rfl).trans ?_
  exact q_D_end 1 rfl
theorem n_X3_init_42 {B : Nat → Nat → Int32} {f : Nat → Int64} (L : Nat) (I : Nat → Nat → Int32) (J : Nat → Nat → Int64) (hZ : q_Z B f qX0 42 I J) : ∃ I' J', mX3_init [.ref 42] (I, J, qcR_82, qcS_42 L, 42) = some (none, (I', J', qcR_82, qcS_42 L, 42)) ∧ q_Z B f qX0 42 I' J' := by
  refine ⟨(q_up (q_up (q_up (q_up (q_up I 42 0 0) 42 1 0) 42 2 0) 42 3 0) 42 4 0), J, ?_, (q_Z_wr (q_Z_wr (q_Z_wr (q_Z_wr (q_Z_wr hZ (by decide) rfl) (by decide) rfl) (by decide) rfl) (by decide) rfl) (by decide) rfl)⟩
  show q_D cs_X3_init oX3_init (0, 0) (true, 0, [some (.ref 42)], [], (I, J, qcR_82, qcS_42 L, 42), 0, 0) = _
  refine (q_D_by (c' := (true, 16, [some (.ref 42)], [.int 0, .ref 42], ((q_up (q_up I 42 0 0) 42 1 0), J, qcR_82, qcS_42 L, 42), 0, 0)) 10 rfl).trans ?_
  refine (q_D_by (c' := (true, 29, [some (.ref 42)], [], ((q_up (q_up (q_up (q_up (q_up I 42 0 0) 42 1 0) 42 2 0) 42 3 0) 42 4 0), J, qcR_82, qcS_42 L, 42), 0, 0)) 7 rfl).trans ?_
  exact q_D_end 1 rfl
theorem n_X1_init_37 {B : Nat → Nat → Int32} {f : Nat → Int64} (L : Nat) (I : Nat → Nat → Int32) (J : Nat → Nat → Int64) (hZ : q_Z B f qX0 37 I J) : ∃ I' J', mX1_init [.ref 37] (I, J, qcR_73, qcS_37 L, 37) = some (none, (I', J', qcR_85, qcS_43 L, 43)) ∧ q_Z B f qX0 43 I' J' := by
  obtain ⟨Ia0, Ja0, ea0, ja0, za0⟩ : ∃ Ia Ja, Ia = (va_up (va_up (va_up (va_up (va_up (q_up (q_up (q_up I 37 0 0) 37 1 0) 37 2 0) 38 (fun _ => 0)) 39 (fun _ => 0)) 40 (fun _ => 0)) 41 (fun _ => 0)) 42 (fun _ => 0)) ∧ Ja = (va_up (va_up (va_up (va_up (va_up J 38 (fun _ => 0)) 39 (fun _ => 0)) 40 (fun _ => 0)) 41 (fun _ => 0)) 42 (fun _ => 0)) ∧ q_Z B f qX0 42 Ia Ja := ⟨_, _, rfl, rfl, (q_Z_new (q_Z_new (q_Z_new (q_Z_new (q_Z_new (q_Z_wr (q_Z_wr (q_Z_wr hZ (by decide) rfl) (by decide) rfl) (by decide) rfl) (by decide) (Or.inl (by decide)) (fun _ => rfl)) (by decide) (Or.inl (by decide)) (fun _ => rfl)) (by decide) (Or.inl (by decide)) (fun _ => rfl)) (by decide) (Or.inl (by decide)) (fun _ => rfl)) (by decide) (Or.inl (by decide)) (fun _ => rfl))⟩
  obtain ⟨I1, J1, h1, z1⟩ := n_X3_init_42 L Ia0 Ja0 za0
  refine ⟨(va_up I1 43 (fun _ => 0)), (va_up J1 43 (fun _ => 0)), ?_, (q_Z_new z1 (by decide) (Or.inl (by decide)) (fun _ => rfl))⟩
  show q_D cs_X1_init oX1_init (6, 37) (true, 0, [some (.ref 37)], [], (I, J, qcR_73, qcS_37 L, 37), 0, 0) = _
  refine (q_D_by (c' := (true, 16, [some (.ref 37)], [.int 0, .ref 37], ((q_up (q_up I 37 0 0) 37 1 0), J, qcR_73, qcS_37 L, 37), 0, 0)) 10 rfl).trans ?_
  refine (q_D_by (c' := (true, 34, [some (.ref 37)], [.ref 37], ((va_up (va_up (q_up (q_up (q_up I 37 0 0) 37 1 0) 37 2 0) 38 (fun _ => 0)) 39 (fun _ => 0)), (va_up (va_up J 38 (fun _ => 0)) 39 (fun _ => 0)), qcR_77, qcS_39 L, 39), 2, 8)) 10 rfl).trans ?_
  refine (q_D_by (c' := (true, 52, [some (.ref 37)], [.ref 42, .ref 42, .ref 37], ((va_up (va_up (va_up (va_up (va_up (q_up (q_up (q_up I 37 0 0) 37 1 0) 37 2 0) 38 (fun _ => 0)) 39 (fun _ => 0)) 40 (fun _ => 0)) 41 (fun _ => 0)) 42 (fun _ => 0)), (va_up (va_up (va_up (va_up (va_up J 38 (fun _ => 0)) 39 (fun _ => 0)) 40 (fun _ => 0)) 41 (fun _ => 0)) 42 (fun _ => 0)), qcR_82, qcS_42 L, 42), 5, 21)) 10 rfl).trans ?_
  rw [← ea0, ← ja0]
  refine (q_D_call (X := mX3_init [.ref 42] (Ia0, Ja0, qcR_82, qcS_42 L, 42)) (b := true) (pc := 55) (L := [some (.ref 37)]) (st := [.ref 42, .ref 37]) (ce := 5) (sl := 21) 0 (true, 52, [some (.ref 37)], [.ref 42, .ref 42, .ref 37], (Ia0, Ja0, qcR_82, qcS_42 L, 42), 5, 21) rfl rfl).trans ?_
  rw [q_ck_tt, h1]
  show q_D _ _ _ (true, 55, [some (.ref 37)], [.ref 42, .ref 37], (I1, J1, qcR_82, qcS_42 L, 42), 5, 21) = _
  refine (q_D_by (c' := (true, 66, [some (.ref 37)], [], ((va_up I1 43 (fun _ => 0)), (va_up J1 43 (fun _ => 0)), qcR_85, qcS_43 L, 43), 6, 37)) 5 rfl).trans ?_
  exact q_D_end 1 rfl
theorem n_X8_init_44 {B : Nat → Nat → Int32} {f : Nat → Int64} (L : Nat) (I : Nat → Nat → Int32) (J : Nat → Nat → Int64) (hZ : q_Z B f qX0 44 I J) : ∃ I' J', mX8_init [.ref 44] (I, J, qcR_87, qcS_44 L, 44) = some (none, (I', J', qcR_93, qcS_47 L, 47)) ∧ q_Z B f qX0 47 I' J' := by
  refine ⟨(va_up (va_up (q_up (q_up (q_up (va_up I 45 (fun _ => 0)) 44 1 0) 44 2 0) 44 3 0) 46 (fun _ => 0)) 47 (fun _ => 0)), (va_up (va_up (va_up J 45 (fun _ => 0)) 46 (fun _ => 0)) 47 (fun _ => 0)), ?_, (q_Z_new (q_Z_new (q_Z_wr (q_Z_wr (q_Z_wr (q_Z_new hZ (by decide) (Or.inl (by decide)) (fun _ => rfl)) (by decide) rfl) (by decide) rfl) (by decide) rfl) (by decide) (Or.inl (by decide)) (fun _ => rfl)) (by decide) (Or.inl (by decide)) (fun _ => rfl))⟩
  show q_D cs_X8_init oX8_init (3, 1059) (true, 0, [some (.ref 44)], [], (I, J, qcR_87, qcS_44 L, 44), 0, 0) = _
  refine (q_D_by (c' := (true, 19, [some (.ref 44)], [.ref 44], ((q_up (va_up I 45 (fun _ => 0)) 44 1 0), (va_up J 45 (fun _ => 0)), qcR_89, qcS_45 L, 45), 1, 984)) 10 rfl).trans ?_
  refine (q_D_by (c' := (true, 37, [some (.ref 44)], [.ref 44], ((va_up (q_up (q_up (q_up (va_up I 45 (fun _ => 0)) 44 1 0) 44 2 0) 44 3 0) 46 (fun _ => 0)), (va_up (va_up J 45 (fun _ => 0)) 46 (fun _ => 0)), qcR_91, qcS_46 L, 46), 2, 1056)) 10 rfl).trans ?_
  refine (q_D_by (c' := (true, 43, [some (.ref 44)], [], ((va_up (va_up (q_up (q_up (q_up (va_up I 45 (fun _ => 0)) 44 1 0) 44 2 0) 44 3 0) 46 (fun _ => 0)) 47 (fun _ => 0)), (va_up (va_up (va_up J 45 (fun _ => 0)) 46 (fun _ => 0)) 47 (fun _ => 0)), qcR_93, qcS_47 L, 47), 3, 1059)) 3 rfl).trans ?_
  exact q_D_end 1 rfl
theorem n_X3_init_51 {B : Nat → Nat → Int32} {f : Nat → Int64} (L : Nat) (I : Nat → Nat → Int32) (J : Nat → Nat → Int64) (hZ : q_Z B f qX0 51 I J) : ∃ I' J', mX3_init [.ref 51] (I, J, qcR_100, qcS_51 L, 51) = some (none, (I', J', qcR_100, qcS_51 L, 51)) ∧ q_Z B f qX0 51 I' J' := by
  refine ⟨(q_up (q_up (q_up (q_up (q_up I 51 0 0) 51 1 0) 51 2 0) 51 3 0) 51 4 0), J, ?_, (q_Z_wr (q_Z_wr (q_Z_wr (q_Z_wr (q_Z_wr hZ (by decide) rfl) (by decide) rfl) (by decide) rfl) (by decide) rfl) (by decide) rfl)⟩
  show q_D cs_X3_init oX3_init (0, 0) (true, 0, [some (.ref 51)], [], (I, J, qcR_100, qcS_51 L, 51), 0, 0) = _
  refine (q_D_by (c' := (true, 16, [some (.ref 51)], [.int 0, .ref 51], ((q_up (q_up I 51 0 0) 51 1 0), J, qcR_100, qcS_51 L, 51), 0, 0)) 10 rfl).trans ?_
  refine (q_D_by (c' := (true, 29, [some (.ref 51)], [], ((q_up (q_up (q_up (q_up (q_up I 51 0 0) 51 1 0) 51 2 0) 51 3 0) 51 4 0), J, qcR_100, qcS_51 L, 51), 0, 0)) 7 rfl).trans ?_
  exact q_D_end 1 rfl
theorem n_X5_init_48 {B : Nat → Nat → Int32} {f : Nat → Int64} (L : Nat) (I : Nat → Nat → Int32) (J : Nat → Nat → Int64) (hZ : q_Z B f qX0 48 I J) : ∃ I' J', mX5_init [.ref 48] (I, J, qcR_95, qcS_48 L, 48) = some (none, (I', J', qcR_101, qcS_51 L, 51)) ∧ q_Z B f qX0 51 I' J' := by
  obtain ⟨I1, J1, h1, z1⟩ := n_X3_init_51 L (va_up (q_up (q_up (va_up (va_up I 49 (fun _ => 0)) 50 (fun _ => 0)) 48 2 0) 48 3 0) 51 (fun _ => 0)) (va_up (va_up (va_up J 49 (fun _ => 0)) 50 (fun _ => 0)) 51 (fun _ => 0)) (q_Z_new (q_Z_wr (q_Z_wr (q_Z_new (q_Z_new hZ (by decide) (Or.inl (by decide)) (fun _ => rfl)) (by decide) (Or.inl (by decide)) (fun _ => rfl)) (by decide) rfl) (by decide) rfl) (by decide) (Or.inl (by decide)) (fun _ => rfl))
  refine ⟨(q_up I1 48 5 0), J1, ?_, (q_Z_wr z1 (by decide) rfl)⟩
  show q_D cs_X5_init oX5_init (3, 17) (true, 0, [some (.ref 48)], [], (I, J, qcR_95, qcS_48 L, 48), 0, 0) = _
  refine (q_D_by (c' := (true, 20, [some (.ref 48)], [], ((va_up (va_up I 49 (fun _ => 0)) 50 (fun _ => 0)), (va_up (va_up J 49 (fun _ => 0)) 50 (fun _ => 0)), qcR_99, qcS_50 L, 50), 2, 12)) 10 rfl).trans ?_
  refine (q_D_by (c' := (true, 35, [some (.ref 48)], [.ref 51, .ref 51, .ref 48], ((va_up (q_up (q_up (va_up (va_up I 49 (fun _ => 0)) 50 (fun _ => 0)) 48 2 0) 48 3 0) 51 (fun _ => 0)), (va_up (va_up (va_up J 49 (fun _ => 0)) 50 (fun _ => 0)) 51 (fun _ => 0)), qcR_100, qcS_51 L, 51), 3, 17)) 9 rfl).trans ?_
  refine (q_D_call (X := mX3_init [.ref 51] ((va_up (q_up (q_up (va_up (va_up I 49 (fun _ => 0)) 50 (fun _ => 0)) 48 2 0) 48 3 0) 51 (fun _ => 0)), (va_up (va_up (va_up J 49 (fun _ => 0)) 50 (fun _ => 0)) 51 (fun _ => 0)), qcR_100, qcS_51 L, 51)) (b := true) (pc := 38) (L := [some (.ref 48)]) (st := [.ref 51, .ref 48]) (ce := 3) (sl := 17) 0 (true, 35, [some (.ref 48)], [.ref 51, .ref 51, .ref 48], ((va_up (q_up (q_up (va_up (va_up I 49 (fun _ => 0)) 50 (fun _ => 0)) 48 2 0) 48 3 0) 51 (fun _ => 0)), (va_up (va_up (va_up J 49 (fun _ => 0)) 50 (fun _ => 0)) 51 (fun _ => 0)), qcR_100, qcS_51 L, 51), 3, 17) rfl rfl).trans ?_
  rw [q_ck_tt, h1]
  show q_D _ _ _ (true, 38, [some (.ref 48)], [.ref 51, .ref 48], (I1, J1, qcR_100, qcS_51 L, 51), 3, 17) = _
  refine (q_D_by (c' := (true, 46, [some (.ref 48)], [], ((q_up I1 48 5 0), J1, qcR_101, qcS_51 L, 51), 3, 17)) 4 rfl).trans ?_
  exact q_D_end 1 rfl
theorem n_X3_init_55 {B : Nat → Nat → Int32} {f : Nat → Int64} (L : Nat) (I : Nat → Nat → Int32) (J : Nat → Nat → Int64) (hZ : q_Z B f qX0 55 I J) : ∃ I' J', mX3_init [.ref 55] (I, J, qcR_108, qcS_55 L, 55) = some (none, (I', J', qcR_108, qcS_55 L, 55)) ∧ q_Z B f qX0 55 I' J' := by
  refine ⟨(q_up (q_up (q_up (q_up (q_up I 55 0 0) 55 1 0) 55 2 0) 55 3 0) 55 4 0), J, ?_, (q_Z_wr (q_Z_wr (q_Z_wr (q_Z_wr (q_Z_wr hZ (by decide) rfl) (by decide) rfl) (by decide) rfl) (by decide) rfl) (by decide) rfl)⟩
  show q_D cs_X3_init oX3_init (0, 0) (true, 0, [some (.ref 55)], [], (I, J, qcR_108, qcS_55 L, 55), 0, 0) = _
  refine (q_D_by (c' := (true, 16, [some (.ref 55)], [.int 0, .ref 55], ((q_up (q_up I 55 0 0) 55 1 0), J, qcR_108, qcS_55 L, 55), 0, 0)) 10 rfl).trans ?_
  refine (q_D_by (c' := (true, 29, [some (.ref 55)], [], ((q_up (q_up (q_up (q_up (q_up I 55 0 0) 55 1 0) 55 2 0) 55 3 0) 55 4 0), J, qcR_108, qcS_55 L, 55), 0, 0)) 7 rfl).trans ?_
  exact q_D_end 1 rfl
theorem n_X6_init_52 {B : Nat → Nat → Int32} {f : Nat → Int64} (L : Nat) (I : Nat → Nat → Int32) (J : Nat → Nat → Int64) (hZ : q_Z B f qX0 52 I J) : ∃ I' J', mX6_init [.ref 52] (I, J, qcR_103, qcS_52 L, 52) = some (none, (I', J', qcR_109, qcS_55 L, 55)) ∧ q_Z B f qX0 55 I' J' := by
  obtain ⟨I1, J1, h1, z1⟩ := n_X3_init_55 L (va_up (q_up (va_up (va_up I 53 (fun _ => 0)) 54 (fun _ => 0)) 52 2 0) 55 (fun _ => 0)) (va_up (va_up (va_up J 53 (fun _ => 0)) 54 (fun _ => 0)) 55 (fun _ => 0)) (q_Z_new (q_Z_wr (q_Z_new (q_Z_new hZ (by decide) (Or.inl (by decide)) (fun _ => rfl)) (by decide) (Or.inl (by decide)) (fun _ => rfl)) (by decide) rfl) (by decide) (Or.inl (by decide)) (fun _ => rfl))
  refine ⟨I1, J1, ?_, z1⟩
  show q_D cs_X6_init oX6_init (3, 935) (true, 0, [some (.ref 52)], [], (I, J, qcR_103, qcS_52 L, 52), 0, 0) = _
  refine (q_D_by (c' := (true, 21, [some (.ref 52)], [], ((va_up (va_up I 53 (fun _ => 0)) 54 (fun _ => 0)), (va_up (va_up J 53 (fun _ => 0)) 54 (fun _ => 0)), qcR_107, qcS_54 L, 54), 2, 930)) 10 rfl).trans ?_
  refine (q_D_by (c' := (true, 31, [some (.ref 52)], [.ref 55, .ref 55, .ref 52], ((va_up (q_up (va_up (va_up I 53 (fun _ => 0)) 54 (fun _ => 0)) 52 2 0) 55 (fun _ => 0)), (va_up (va_up (va_up J 53 (fun _ => 0)) 54 (fun _ => 0)) 55 (fun _ => 0)), qcR_108, qcS_55 L, 55), 3, 935)) 6 rfl).trans ?_
  refine (q_D_call (X := mX3_init [.ref 55] ((va_up (q_up (va_up (va_up I 53 (fun _ => 0)) 54 (fun _ => 0)) 52 2 0) 55 (fun _ => 0)), (va_up (va_up (va_up J 53 (fun _ => 0)) 54 (fun _ => 0)) 55 (fun _ => 0)), qcR_108, qcS_55 L, 55)) (b := true) (pc := 34) (L := [some (.ref 52)]) (st := [.ref 55, .ref 52]) (ce := 3) (sl := 935) 0 (true, 31, [some (.ref 52)], [.ref 55, .ref 55, .ref 52], ((va_up (q_up (va_up (va_up I 53 (fun _ => 0)) 54 (fun _ => 0)) 52 2 0) 55 (fun _ => 0)), (va_up (va_up (va_up J 53 (fun _ => 0)) 54 (fun _ => 0)) 55 (fun _ => 0)), qcR_108, qcS_55 L, 55), 3, 935) rfl rfl).trans ?_
  rw [q_ck_tt, h1]
  show q_D _ _ _ (true, 34, [some (.ref 52)], [.ref 55, .ref 52], (I1, J1, qcR_108, qcS_55 L, 55), 3, 935) = _
  refine (q_D_by (c' := (true, 37, [some (.ref 52)], [], (I1, J1, qcR_109, qcS_55 L, 55), 3, 935)) 1 rfl).trans ?_
  exact q_D_end 1 rfl
theorem n_X7_init_56 {B : Nat → Nat → Int32} {f : Nat → Int64} (L : Nat) (I : Nat → Nat → Int32) (J : Nat → Nat → Int64) (hZ : q_Z B f qX0 56 I J) : ∃ I' J', mX7_init [.ref 56] (I, J, qcR_111, qcS_56 L, 56) = some (none, (I', J', qcR_123, qcS_62 L, 62)) ∧ q_Z B f qX0 62 I' J' := by
  obtain ⟨Ia0, Ja0, ea0, ja0, za0⟩ : ∃ Ia Ja, Ia = (q_up (va_up (va_up (va_up (va_up (va_up (va_up I 57 (fun _ => 0)) 58 (fun _ => 0)) 59 (fun _ => 0)) 60 (fun _ => 0)) 61 (fun _ => 0)) 62 (fun _ => 0)) 56 6 0) ∧ Ja = (va_up (va_up (va_up (va_up (va_up (va_up J 57 (fun _ => 0)) 58 (fun _ => 0)) 59 (fun _ => 0)) 60 (fun _ => 0)) 61 (fun _ => 0)) 62 (fun _ => 0)) ∧ q_Z B f qX0 62 Ia Ja := ⟨_, _, rfl, rfl, (q_Z_wr (q_Z_new (q_Z_new (q_Z_new (q_Z_new (q_Z_new (q_Z_new hZ (by decide) (Or.inl (by decide)) (fun _ => rfl)) (by decide) (Or.inl (by decide)) (fun _ => rfl)) (by decide) (Or.inl (by decide)) (fun _ => rfl)) (by decide) (Or.inl (by decide)) (fun _ => rfl)) (by decide) (Or.inl (by decide)) (fun _ => rfl)) (by decide) (Or.inl (by decide)) (fun _ => rfl)) (by decide) rfl)⟩
  refine ⟨(q_up Ia0 56 7 0), Ja0, ?_, (q_Z_wr za0 (by decide) rfl)⟩
  show q_D cs_X7_init oX7_init (6, 180) (true, 0, [some (.ref 56)], [], (I, J, qcR_111, qcS_56 L, 56), 0, 0) = _
  refine (q_D_by (c' := (true, 20, [some (.ref 56)], [], ((va_up (va_up I 57 (fun _ => 0)) 58 (fun _ => 0)), (va_up (va_up J 57 (fun _ => 0)) 58 (fun _ => 0)), qcR_115, qcS_58 L, 58), 2, 60)) 10 rfl).trans ?_
  refine (q_D_by (c' := (true, 39, [some (.ref 56)], [.int 30, .ref 56], ((va_up (va_up (va_up (va_up I 57 (fun _ => 0)) 58 (fun _ => 0)) 59 (fun _ => 0)) 60 (fun _ => 0)), (va_up (va_up (va_up (va_up J 57 (fun _ => 0)) 58 (fun _ => 0)) 59 (fun _ => 0)) 60 (fun _ => 0)), qcR_119, qcS_60 L, 60), 4, 120)) 10 rfl).trans ?_
  refine (q_D_by (c' := (true, 58, [some (.ref 56)], [.ref 56], ((q_up (va_up (va_up (va_up (va_up (va_up (va_up I 57 (fun _ => 0)) 58 (fun _ => 0)) 59 (fun _ => 0)) 60 (fun _ => 0)) 61 (fun _ => 0)) 62 (fun _ => 0)) 56 6 0), (va_up (va_up (va_up (va_up (va_up (va_up J 57 (fun _ => 0)) 58 (fun _ => 0)) 59 (fun _ => 0)) 60 (fun _ => 0)) 61 (fun _ => 0)) 62 (fun _ => 0)), qcR_123, qcS_62 L, 62), 6, 180)) 10 rfl).trans ?_
  rw [← ea0, ← ja0]
  refine (q_D_by (c' := (true, 62, [some (.ref 56)], [], ((q_up Ia0 56 7 0), Ja0, qcR_123, qcS_62 L, 62), 6, 180)) 2 rfl).trans ?_
  exact q_D_end 1 rfl
theorem n_X8_rowAt_44 {B : Nat → Nat → Int32} {f : Nat → Int64} (L : Nat) (I : Nat → Nat → Int32) (J : Nat → Nat → Int64) (hZ : q_Z B f (q_up qX0 1 14 (-1)) 63 I J) : ∃ I' J', mX8_rowAt [.ref 44, .int 0] (I, J, qcR_126, qcS_63 L, 63) = some (some (.int 0), (I', J', qcR_126, qcS_63 L, 63)) ∧ q_Z B f (q_up qX0 1 14 (-1)) 63 I' J' := by
  refine ⟨I, J, ?_, hZ⟩
  have h : mX8_rowAt [.ref 44, .int 0] (I, J, qcR_126, qcS_63 L, 63) = some (some (.int (((I 44 1) + 0) % 41 * 24)), (I, J, qcR_126, qcS_63 L, 63)) := q_D_end 9 rfl
  have h2 : I 44 1 = 0 := hZ.1 44 1 (by decide) (by decide)
  rw [h, h2, show ((0 : Int32) + 0) % 41 * 24 = 0 by decide]
theorem n_X3_save_42 {B : Nat → Nat → Int32} {f : Nat → Int64} (L : Nat) (I : Nat → Nat → Int32) (J : Nat → Nat → Int64) (hZ : q_Z B f (q_up qX0 1 14 (-1)) 63 I J) : ∃ I' J', mX3_save [.ref 42, .ref 45, .int 19] (I, J, qcR_126, qcS_63 L, 63) = some (none, (I', J', qcR_126, qcS_63 L, 63)) ∧ q_Z B f (q_up qX0 1 14 (-1)) 63 I' J' := by
  refine ⟨(q_up (q_up (q_up (q_up (q_up I 45 19 (I 42 0)) 45 20 (I 42 1)) 45 21 (I 42 2)) 45 22 (I 42 3)) 45 23 (I 42 4)), J, ?_, (q_Z_wr (p := 45) (k := 23) (q_Z_wr (p := 45) (k := 22) (q_Z_wr (p := 45) (k := 21) (q_Z_wr (p := 45) (k := 20) (q_Z_wr (p := 45) (k := 19) hZ (by decide) (hZ.1 42 0 (by decide) (by decide))) (by decide) (hZ.1 42 1 (by decide) (by decide))) (by decide) (hZ.1 42 2 (by decide) (by decide))) (by decide) (hZ.1 42 3 (by decide) (by decide))) (by decide) (hZ.1 42 4 (by decide) (by decide)))⟩
  show q_D cs_X3_save oX3_save (0, 0) (true, 0, [some (.ref 42), some (.ref 45), some (.int 19)], [], (I, J, qcR_126, qcS_63 L, 63), 0, 0) = _
  refine (q_D_by (c' := (true, 12, [some (.ref 42), some (.ref 45), some (.int 19)], [.ref 42, .int 20, .ref 45], ((q_up I 45 19 (I 42 0)), J, qcR_126, qcS_63 L, 63), 0, 0)) 10 rfl).trans ?_
  refine (q_D_by (c' := (true, 26, [some (.ref 42), some (.ref 45), some (.int 19)], [.ref 45], ((q_up (q_up (q_up I 45 19 (I 42 0)) 45 20 (I 42 1)) 45 21 (I 42 2)), J, qcR_126, qcS_63 L, 63), 0, 0)) 10 rfl).trans ?_
  refine (q_D_by (c' := (true, 38, [some (.ref 42), some (.ref 45), some (.int 19)], [.int 23, .ref 45], ((q_up (q_up (q_up (q_up I 45 19 (I 42 0)) 45 20 (I 42 1)) 45 21 (I 42 2)) 45 22 (I 42 3)), J, qcR_126, qcS_63 L, 63), 0, 0)) 10 rfl).trans ?_
  refine (q_D_by (c' := (true, 43, [some (.ref 42), some (.ref 45), some (.int 19)], [], ((q_up (q_up (q_up (q_up (q_up I 45 19 (I 42 0)) 45 20 (I 42 1)) 45 21 (I 42 2)) 45 22 (I 42 3)) 45 23 (I 42 4)), J, qcR_126, qcS_63 L, 63), 0, 0)) 3 rfl).trans ?_
  exact q_D_end 1 rfl
theorem n_X1_save_37 {B : Nat → Nat → Int32} {f : Nat → Int64} (L : Nat) (I : Nat → Nat → Int32) (J : Nat → Nat → Int64) (hZ : q_Z B f (q_up qX0 1 14 (-1)) 63 I J) : ∃ I' J', mX1_save [.ref 37, .ref 45, .int 0] (I, J, qcR_126, qcS_63 L, 63) = some (none, (I', J', qcR_126, qcS_63 L, 63)) ∧ q_Z B f (q_up qX0 1 14 (-1)) 63 I' J' := by
  obtain ⟨Ic1, ec1, zc1⟩ : ∃ Ic, Ic = (va_up (q_up (q_up (q_up I 45 0 (I 37 0)) 45 1 (I 37 1)) 45 2 (I 37 2)) 45 (va_cpy ((q_up (q_up (q_up I 45 0 (I 37 0)) 45 1 (I 37 1)) 45 2 (I 37 2)) 38) ((q_up (q_up (q_up I 45 0 (I 37 0)) 45 1 (I 37 1)) 45 2 (I 37 2)) 45) 0 3 4)) ∧ q_Z B f (q_up qX0 1 14 (-1)) 63 Ic J := ⟨_, rfl, (q_Z_cp (a := 38) (b := 45) (q_Z_wr (p := 45) (k := 2) (q_Z_wr (p := 45) (k := 1) (q_Z_wr (p := 45) (k := 0) hZ (by decide) (hZ.1 37 0 (by decide) (by decide))) (by decide) (hZ.1 37 1 (by decide) (by decide))) (by decide) (hZ.1 37 2 (by decide) (by decide))) (by decide) (by decide) (fun _ => rfl) (fun _ => rfl))⟩
  obtain ⟨Ic2, ec2, zc2⟩ : ∃ Ic, Ic = (va_up Ic1 45 (va_cpy (Ic1 39) (Ic1 45) 0 7 4)) ∧ q_Z B f (q_up qX0 1 14 (-1)) 63 Ic J := ⟨_, rfl, (q_Z_cp (a := 39) (b := 45) zc1 (by decide) (by decide) (fun _ => rfl) (fun _ => rfl))⟩
  obtain ⟨Ic3, ec3, zc3⟩ : ∃ Ic, Ic = (va_up Ic2 45 (va_cpy (Ic2 40) (Ic2 45) 0 11 4)) ∧ q_Z B f (q_up qX0 1 14 (-1)) 63 Ic J := ⟨_, rfl, (q_Z_cp (a := 40) (b := 45) zc2 (by decide) (by decide) (fun _ => rfl) (fun _ => rfl))⟩
  obtain ⟨Ic4, ec4, zc4⟩ : ∃ Ic, Ic = (va_up Ic3 45 (va_cpy (Ic3 41) (Ic3 45) 0 15 4)) ∧ q_Z B f (q_up qX0 1 14 (-1)) 63 Ic J := ⟨_, rfl, (q_Z_cp (a := 41) (b := 45) zc3 (by decide) (by decide) (fun _ => rfl) (fun _ => rfl))⟩
  obtain ⟨I1, J1, h1, z1⟩ := n_X3_save_42 L Ic4 J zc4
  refine ⟨I1, J1, ?_, z1⟩
  show q_D cs_X1_save oX1_save (0, 0) (true, 0, [some (.ref 37), some (.ref 45), some (.int 0)], [], (I, J, qcR_126, qcS_63 L, 63), 0, 0) = _
  refine (q_D_by (c' := (true, 12, [some (.ref 37), some (.ref 45), some (.int 0)], [.ref 37, .int 1, .ref 45], ((q_up I 45 0 (I 37 0)), J, qcR_126, qcS_63 L, 63), 0, 0)) 10 rfl).trans ?_
  refine (q_D_by (c' := (true, 26, [some (.ref 37), some (.ref 45), some (.int 0)], [.ref 37], ((q_up (q_up (q_up I 45 0 (I 37 0)) 45 1 (I 37 1)) 45 2 (I 37 2)), J, qcR_126, qcS_63 L, 63), 0, 0)) 10 rfl).trans ?_
  refine (q_D_by (c' := (true, 38, [some (.ref 37), some (.ref 45), some (.int 0)], [], ((va_up (q_up (q_up (q_up I 45 0 (I 37 0)) 45 1 (I 37 1)) 45 2 (I 37 2)) 45 (va_cpy ((q_up (q_up (q_up I 45 0 (I 37 0)) 45 1 (I 37 1)) 45 2 (I 37 2)) 38) ((q_up (q_up (q_up I 45 0 (I 37 0)) 45 1 (I 37 1)) 45 2 (I 37 2)) 45) 0 3 4)), J, qcR_126, qcS_63 L, 63), 0, 0)) 8 rfl).trans ?_
  rw [← ec1]
  refine (q_D_by (c' := (true, 50, [some (.ref 37), some (.ref 45), some (.int 0)], [.int 4, .int 7, .ref 45, .int 0, .ref 39], (Ic1, J, qcR_126, qcS_63 L, 63), 0, 0)) 10 rfl).trans ?_
  refine (q_D_by (c' := (true, 53, [some (.ref 37), some (.ref 45), some (.int 0)], [], ((va_up Ic1 45 (va_cpy (Ic1 39) (Ic1 45) 0 7 4)), J, qcR_126, qcS_63 L, 63), 0, 0)) 1 rfl).trans ?_
  rw [← ec2]
  refine (q_D_by (c' := (true, 66, [some (.ref 37), some (.ref 45), some (.int 0)], [.int 4, .int 11, .ref 45, .int 0, .ref 40], (Ic2, J, qcR_126, qcS_63 L, 63), 0, 0)) 10 rfl).trans ?_
  refine (q_D_by (c' := (true, 69, [some (.ref 37), some (.ref 45), some (.int 0)], [], ((va_up Ic2 45 (va_cpy (Ic2 40) (Ic2 45) 0 11 4)), J, qcR_126, qcS_63 L, 63), 0, 0)) 1 rfl).trans ?_
  rw [← ec3]
  refine (q_D_by (c' := (true, 82, [some (.ref 37), some (.ref 45), some (.int 0)], [.int 4, .int 15, .ref 45, .int 0, .ref 41], (Ic3, J, qcR_126, qcS_63 L, 63), 0, 0)) 10 rfl).trans ?_
  refine (q_D_by (c' := (true, 85, [some (.ref 37), some (.ref 45), some (.int 0)], [], ((va_up Ic3 45 (va_cpy (Ic3 41) (Ic3 45) 0 15 4)), J, qcR_126, qcS_63 L, 63), 0, 0)) 1 rfl).trans ?_
  rw [← ec4]
  refine (q_D_by (c' := (true, 96, [some (.ref 37), some (.ref 45), some (.int 0)], [.int 19, .ref 45, .ref 42], (Ic4, J, qcR_126, qcS_63 L, 63), 0, 0)) 8 rfl).trans ?_
  refine (q_D_call (X := mX3_save [.ref 42, .ref 45, .int 19] (Ic4, J, qcR_126, qcS_63 L, 63)) (b := true) (pc := 99) (L := [some (.ref 37), some (.ref 45), some (.int 0)]) (st := []) (ce := 0) (sl := 0) 0 (true, 96, [some (.ref 37), some (.ref 45), some (.int 0)], [.int 19, .ref 45, .ref 42], (Ic4, J, qcR_126, qcS_63 L, 63), 0, 0) rfl rfl).trans ?_
  rw [q_ck_tt, h1]
  show q_D _ _ _ (true, 99, [some (.ref 37), some (.ref 45), some (.int 0)], [], (I1, J1, qcR_126, qcS_63 L, 63), 0, 0) = _
  exact q_D_end 1 rfl
theorem n_X8_forget_44 {B : Nat → Nat → Int32} {f : Nat → Int64} (L : Nat) (I : Nat → Nat → Int32) (J : Nat → Nat → Int64) (hZ : q_Z B f (q_up qX0 1 14 (-1)) 63 I J) : ∃ I' J', mX8_forget [.ref 44, .ref 37] (I, J, qcR_126, qcS_63 L, 63) = some (none, (I', J', qcR_126, qcS_63 L, 63)) ∧ q_Z B f (q_up qX0 1 14 (-1)) 63 I' J' := by
  obtain ⟨I1, J1, h1, z1⟩ := n_X8_rowAt_44 L (q_up (q_up (q_up I 44 1 0) 44 2 0) 44 3 0) J (q_Z_wr (q_Z_wr (q_Z_wr hZ (by decide) rfl) (by decide) rfl) (by decide) rfl)
  obtain ⟨I2, J2, h2, z2⟩ := n_X1_save_37 L I1 J1 z1
  refine ⟨I2, J2, ?_, z2⟩
  show q_D cs_X8_forget oX8_forget (0, 0) (true, 0, [some (.ref 44), some (.ref 37)], [], (I, J, qcR_126, qcS_63 L, 63), 0, 0) = _
  refine (q_D_by (c' := (true, 16, [some (.ref 44), some (.ref 37)], [.ref 37], ((q_up (q_up (q_up I 44 1 0) 44 2 0) 44 3 0), J, qcR_126, qcS_63 L, 63), 0, 0)) 10 rfl).trans ?_
  refine (q_D_by (c' := (true, 22, [some (.ref 44), some (.ref 37)], [.int 0, .ref 44, .ref 45, .ref 37], ((q_up (q_up (q_up I 44 1 0) 44 2 0) 44 3 0), J, qcR_126, qcS_63 L, 63), 0, 0)) 4 rfl).trans ?_
  refine (q_D_call (X := mX8_rowAt [.ref 44, .int 0] ((q_up (q_up (q_up I 44 1 0) 44 2 0) 44 3 0), J, qcR_126, qcS_63 L, 63)) (b := true) (pc := 25) (L := [some (.ref 44), some (.ref 37)]) (st := [.ref 45, .ref 37]) (ce := 0) (sl := 0) 0 (true, 22, [some (.ref 44), some (.ref 37)], [.int 0, .ref 44, .ref 45, .ref 37], ((q_up (q_up (q_up I 44 1 0) 44 2 0) 44 3 0), J, qcR_126, qcS_63 L, 63), 0, 0) rfl rfl).trans ?_
  rw [q_ck_tt, h1]
  show q_D _ _ _ (true, 25, [some (.ref 44), some (.ref 37)], [.int 0, .ref 45, .ref 37], (I1, J1, qcR_126, qcS_63 L, 63), 0, 0) = _
  refine (q_D_call (X := mX1_save [.ref 37, .ref 45, .int 0] (I1, J1, qcR_126, qcS_63 L, 63)) (b := true) (pc := 28) (L := [some (.ref 44), some (.ref 37)]) (st := []) (ce := 0) (sl := 0) 0 (true, 25, [some (.ref 44), some (.ref 37)], [.int 0, .ref 45, .ref 37], (I1, J1, qcR_126, qcS_63 L, 63), 0, 0) rfl rfl).trans ?_
  rw [q_ck_tt, h2]
  show q_D _ _ _ (true, 28, [some (.ref 44), some (.ref 37)], [], (I2, J2, qcR_126, qcS_63 L, 63), 0, 0) = _
  exact q_D_end 1 rfl
theorem n_X11_init_1 {B : Nat → Nat → Int32} (L : Nat) (I : Nat → Nat → Int32) (J : Nat → Nat → Int64) (hZ : q_Z B qfZ qX0 1 I J) : ∃ I' J', mX11_init [.ref 1] (I, J, qcR_1, qcS_1 L, 1) = some (none, (I', J', qcR_126, qcS_63 L, 63)) ∧ q_Z B qfK (q_up qX0 1 14 (-1)) 63 I' J' := by
  obtain ⟨I1, J1, h1, z1⟩ := n_X0_init_3 L (va_up (q_up (va_up I 2 (fun _ => 0)) 1 1 0) 3 (fun _ => 0)) (va_up (va_up J 2 (fun _ => 0)) 3 (fun _ => 0)) (q_Z_new (q_Z_wr (q_Z_new hZ (by decide) (Or.inl (by decide)) (fun _ => rfl)) (by decide) rfl) (by decide) (Or.inl (by decide)) (fun _ => rfl))
  obtain ⟨I2, J2, h2, z2⟩ := n_X0_init_17 L (va_up I1 17 (fun _ => 0)) (va_up J1 17 (fun _ => 0)) (q_Z_new z1 (by decide) (Or.inl (by decide)) (fun _ => rfl))
  obtain ⟨I3, J3, h3, z3⟩ := n_X9_init_31 L (va_up I2 31 (fun _ => 0)) (va_up J2 31 (fun _ => 0)) (q_Z_new z2 (by decide) (Or.inl (by decide)) (fun _ => rfl))
  obtain ⟨I4, J4, h4, z4⟩ := n_X10_init_34 L (va_up I3 34 (fun _ => 0)) (va_up J3 34 (fun _ => 0)) (q_Z_new z3 (by decide) (Or.inl (by decide)) (fun _ => rfl))
  obtain ⟨I5, J5, h5, z5⟩ := n_X1_init_37 L (va_up I4 37 (fun _ => 0)) (va_up J4 37 (fun _ => 0)) (q_Z_new z4 (by decide) (Or.inl (by decide)) (fun _ => rfl))
  obtain ⟨I6, J6, h6, z6⟩ := n_X8_init_44 L (va_up I5 44 (fun _ => 0)) (va_up J5 44 (fun _ => 0)) (q_Z_new z5 (by decide) (Or.inl (by decide)) (fun _ => rfl))
  obtain ⟨I7, J7, h7, z7⟩ := n_X5_init_48 L (va_up I6 48 (fun _ => 0)) (va_up J6 48 (fun _ => 0)) (q_Z_new z6 (by decide) (Or.inl (by decide)) (fun _ => rfl))
  obtain ⟨I8, J8, h8, z8⟩ := n_X6_init_52 L (va_up I7 52 (fun _ => 0)) (va_up J7 52 (fun _ => 0)) (q_Z_new z7 (by decide) (Or.inl (by decide)) (fun _ => rfl))
  obtain ⟨I9, J9, h9, z9⟩ := n_X7_init_56 L (va_up I8 56 (fun _ => 0)) (va_up J8 56 (fun _ => 0)) (q_Z_new z8 (by decide) (Or.inl (by decide)) (fun _ => rfl))
  obtain ⟨I10, J10, h10, z10⟩ := n_X8_forget_44 L (q_up (q_up (q_up (q_up (va_up I9 63 (fun _ => 0)) 1 12 0) 1 13 0) 1 14 (-1)) 1 15 0) (va_up J9 63 (fun _ => 0)) (q_Z_wr (q_Z_X (q_Z_wr (q_Z_wr (q_Z_new z9 (by decide) (Or.inl (by decide)) (fun _ => rfl)) (by decide) rfl) (by decide) rfl) (by decide)) (by decide) rfl)
  refine ⟨I10, J10, ?_, z10⟩
  show q_D cs_X11_init oX11_init (62, 4784) (true, 0, [some (.ref 1)], [], (I, J, qcR_1, qcS_1 L, 1), 0, 0) = _
  refine (q_D_by (c' := (true, 19, [some (.ref 1)], [.ref 1], ((q_up (va_up I 2 (fun _ => 0)) 1 1 0), (va_up J 2 (fun _ => 0)), qcR_3, qcS_2 L, 2), 1, 1600)) 10 rfl).trans ?_
  refine (q_D_by (c' := (true, 23, [some (.ref 1)], [.ref 3, .ref 3, .ref 1], ((va_up (q_up (va_up I 2 (fun _ => 0)) 1 1 0) 3 (fun _ => 0)), (va_up (va_up J 2 (fun _ => 0)) 3 (fun _ => 0)), qcR_4, qcS_3 L, 3), 2, 1616)) 2 rfl).trans ?_
  refine (q_D_call (X := mX0_init [.ref 3] ((va_up (q_up (va_up I 2 (fun _ => 0)) 1 1 0) 3 (fun _ => 0)), (va_up (va_up J 2 (fun _ => 0)) 3 (fun _ => 0)), qcR_4, qcS_3 L, 3)) (b := true) (pc := 26) (L := [some (.ref 1)]) (st := [.ref 3, .ref 1]) (ce := 15) (sl := 2019) 0 (true, 23, [some (.ref 1)], [.ref 3, .ref 3, .ref 1], ((va_up (q_up (va_up I 2 (fun _ => 0)) 1 1 0) 3 (fun _ => 0)), (va_up (va_up J 2 (fun _ => 0)) 3 (fun _ => 0)), qcR_4, qcS_3 L, 3), 2, 1616) rfl rfl).trans ?_
  rw [q_ck_tt, h1]
  show q_D _ _ _ (true, 26, [some (.ref 1)], [.ref 3, .ref 1], (I1, J1, qcR_30, qcS_16 L, 16), 15, 2019) = _
  refine (q_D_by (c' := (true, 34, [some (.ref 1)], [.ref 17, .ref 17, .ref 1], ((va_up I1 17 (fun _ => 0)), (va_up J1 17 (fun _ => 0)), qcR_32, qcS_17 L, 17), 16, 2035)) 4 rfl).trans ?_
  refine (q_D_call (X := mX0_init [.ref 17] ((va_up I1 17 (fun _ => 0)), (va_up J1 17 (fun _ => 0)), qcR_32, qcS_17 L, 17)) (b := true) (pc := 37) (L := [some (.ref 1)]) (st := [.ref 17, .ref 1]) (ce := 29) (sl := 2438) 0 (true, 34, [some (.ref 1)], [.ref 17, .ref 17, .ref 1], ((va_up I1 17 (fun _ => 0)), (va_up J1 17 (fun _ => 0)), qcR_32, qcS_17 L, 17), 16, 2035) rfl rfl).trans ?_
  rw [q_ck_tt, h2]
  show q_D _ _ _ (true, 37, [some (.ref 1)], [.ref 17, .ref 1], (I2, J2, qcR_58, qcS_30 L, 30), 29, 2438) = _
  refine (q_D_by (c' := (true, 49, [some (.ref 1)], [.ref 17, .ref 31, .ref 31, .ref 1], ((va_up I2 31 (fun _ => 0)), (va_up J2 31 (fun _ => 0)), qcR_60, qcS_31 L, 31), 30, 2452)) 6 rfl).trans ?_
  refine (q_D_call (X := mX9_init [.ref 31, .ref 17] ((va_up I2 31 (fun _ => 0)), (va_up J2 31 (fun _ => 0)), qcR_60, qcS_31 L, 31)) (b := true) (pc := 52) (L := [some (.ref 1)]) (st := [.ref 31, .ref 1]) (ce := 32) (sl := 2473) 0 (true, 49, [some (.ref 1)], [.ref 17, .ref 31, .ref 31, .ref 1], ((va_up I2 31 (fun _ => 0)), (va_up J2 31 (fun _ => 0)), qcR_60, qcS_31 L, 31), 30, 2452) rfl rfl).trans ?_
  rw [q_ck_tt, h3]
  show q_D _ _ _ (true, 52, [some (.ref 1)], [.ref 31, .ref 1], (I3, J3, qcR_65, qcS_33 L, 33), 32, 2473) = _
  refine (q_D_by (c' := (true, 60, [some (.ref 1)], [.ref 34, .ref 34, .ref 1], ((va_up I3 34 (fun _ => 0)), (va_up J3 34 (fun _ => 0)), qcR_67, qcS_34 L, 34), 33, 2475)) 4 rfl).trans ?_
  refine (q_D_call (X := mX10_init [.ref 34] ((va_up I3 34 (fun _ => 0)), (va_up J3 34 (fun _ => 0)), qcR_67, qcS_34 L, 34)) (b := true) (pc := 63) (L := [some (.ref 1)]) (st := [.ref 34, .ref 1]) (ce := 35) (sl := 2507) 0 (true, 60, [some (.ref 1)], [.ref 34, .ref 34, .ref 1], ((va_up I3 34 (fun _ => 0)), (va_up J3 34 (fun _ => 0)), qcR_67, qcS_34 L, 34), 33, 2475) rfl rfl).trans ?_
  rw [q_ck_tt, h4]
  show q_D _ _ _ (true, 63, [some (.ref 1)], [.ref 34, .ref 1], (I4, J4, qcR_71, qcS_36 L, 36), 35, 2507) = _
  refine (q_D_by (c' := (true, 71, [some (.ref 1)], [.ref 37, .ref 37, .ref 1], ((va_up I4 37 (fun _ => 0)), (va_up J4 37 (fun _ => 0)), qcR_73, qcS_37 L, 37), 36, 2516)) 4 rfl).trans ?_
  refine (q_D_call (X := mX1_init [.ref 37] ((va_up I4 37 (fun _ => 0)), (va_up J4 37 (fun _ => 0)), qcR_73, qcS_37 L, 37)) (b := true) (pc := 74) (L := [some (.ref 1)]) (st := [.ref 37, .ref 1]) (ce := 42) (sl := 2553) 0 (true, 71, [some (.ref 1)], [.ref 37, .ref 37, .ref 1], ((va_up I4 37 (fun _ => 0)), (va_up J4 37 (fun _ => 0)), qcR_73, qcS_37 L, 37), 36, 2516) rfl rfl).trans ?_
  rw [q_ck_tt, h5]
  show q_D _ _ _ (true, 74, [some (.ref 1)], [.ref 37, .ref 1], (I5, J5, qcR_85, qcS_43 L, 43), 42, 2553) = _
  refine (q_D_by (c' := (true, 82, [some (.ref 1)], [.ref 44, .ref 44, .ref 1], ((va_up I5 44 (fun _ => 0)), (va_up J5 44 (fun _ => 0)), qcR_87, qcS_44 L, 44), 43, 2559)) 4 rfl).trans ?_
  refine (q_D_call (X := mX8_init [.ref 44] ((va_up I5 44 (fun _ => 0)), (va_up J5 44 (fun _ => 0)), qcR_87, qcS_44 L, 44)) (b := true) (pc := 85) (L := [some (.ref 1)]) (st := [.ref 44, .ref 1]) (ce := 46) (sl := 3618) 0 (true, 82, [some (.ref 1)], [.ref 44, .ref 44, .ref 1], ((va_up I5 44 (fun _ => 0)), (va_up J5 44 (fun _ => 0)), qcR_87, qcS_44 L, 44), 43, 2559) rfl rfl).trans ?_
  rw [q_ck_tt, h6]
  show q_D _ _ _ (true, 85, [some (.ref 1)], [.ref 44, .ref 1], (I6, J6, qcR_93, qcS_47 L, 47), 46, 3618) = _
  refine (q_D_by (c' := (true, 93, [some (.ref 1)], [.ref 48, .ref 48, .ref 1], ((va_up I6 48 (fun _ => 0)), (va_up J6 48 (fun _ => 0)), qcR_95, qcS_48 L, 48), 47, 3624)) 4 rfl).trans ?_
  refine (q_D_call (X := mX5_init [.ref 48] ((va_up I6 48 (fun _ => 0)), (va_up J6 48 (fun _ => 0)), qcR_95, qcS_48 L, 48)) (b := true) (pc := 96) (L := [some (.ref 1)]) (st := [.ref 48, .ref 1]) (ce := 50) (sl := 3641) 0 (true, 93, [some (.ref 1)], [.ref 48, .ref 48, .ref 1], ((va_up I6 48 (fun _ => 0)), (va_up J6 48 (fun _ => 0)), qcR_95, qcS_48 L, 48), 47, 3624) rfl rfl).trans ?_
  rw [q_ck_tt, h7]
  show q_D _ _ _ (true, 96, [some (.ref 1)], [.ref 48, .ref 1], (I7, J7, qcR_101, qcS_51 L, 51), 50, 3641) = _
  refine (q_D_by (c' := (true, 104, [some (.ref 1)], [.ref 52, .ref 52, .ref 1], ((va_up I7 52 (fun _ => 0)), (va_up J7 52 (fun _ => 0)), qcR_103, qcS_52 L, 52), 51, 3645)) 4 rfl).trans ?_
  refine (q_D_call (X := mX6_init [.ref 52] ((va_up I7 52 (fun _ => 0)), (va_up J7 52 (fun _ => 0)), qcR_103, qcS_52 L, 52)) (b := true) (pc := 107) (L := [some (.ref 1)]) (st := [.ref 52, .ref 1]) (ce := 54) (sl := 4580) 0 (true, 104, [some (.ref 1)], [.ref 52, .ref 52, .ref 1], ((va_up I7 52 (fun _ => 0)), (va_up J7 52 (fun _ => 0)), qcR_103, qcS_52 L, 52), 51, 3645) rfl rfl).trans ?_
  rw [q_ck_tt, h8]
  show q_D _ _ _ (true, 107, [some (.ref 1)], [.ref 52, .ref 1], (I8, J8, qcR_109, qcS_55 L, 55), 54, 4580) = _
  refine (q_D_by (c' := (true, 115, [some (.ref 1)], [.ref 56, .ref 56, .ref 1], ((va_up I8 56 (fun _ => 0)), (va_up J8 56 (fun _ => 0)), qcR_111, qcS_56 L, 56), 55, 4588)) 4 rfl).trans ?_
  refine (q_D_call (X := mX7_init [.ref 56] ((va_up I8 56 (fun _ => 0)), (va_up J8 56 (fun _ => 0)), qcR_111, qcS_56 L, 56)) (b := true) (pc := 118) (L := [some (.ref 1)]) (st := [.ref 56, .ref 1]) (ce := 61) (sl := 4768) 0 (true, 115, [some (.ref 1)], [.ref 56, .ref 56, .ref 1], ((va_up I8 56 (fun _ => 0)), (va_up J8 56 (fun _ => 0)), qcR_111, qcS_56 L, 56), 55, 4588) rfl rfl).trans ?_
  rw [q_ck_tt, h9]
  show q_D _ _ _ (true, 118, [some (.ref 1)], [.ref 56, .ref 1], (I9, J9, qcR_123, qcS_62 L, 62), 61, 4768) = _
  refine (q_D_by (c' := (true, 136, [some (.ref 1)], [.int 0, .ref 1], ((q_up (va_up I9 63 (fun _ => 0)) 1 12 0), (va_up J9 63 (fun _ => 0)), qcR_126, qcS_63 L, 63), 62, 4784)) 10 rfl).trans ?_
  refine (q_D_by (c' := (true, 154, [some (.ref 1)], [.ref 1, .ref 44], ((q_up (q_up (q_up (q_up (va_up I9 63 (fun _ => 0)) 1 12 0) 1 13 0) 1 14 (-1)) 1 15 0), (va_up J9 63 (fun _ => 0)), qcR_126, qcS_63 L, 63), 62, 4784)) 10 rfl).trans ?_
  refine (q_D_by (c' := (true, 157, [some (.ref 1)], [.ref 37, .ref 44], ((q_up (q_up (q_up (q_up (va_up I9 63 (fun _ => 0)) 1 12 0) 1 13 0) 1 14 (-1)) 1 15 0), (va_up J9 63 (fun _ => 0)), qcR_126, qcS_63 L, 63), 62, 4784)) 1 rfl).trans ?_
  refine (q_D_call (X := mX8_forget [.ref 44, .ref 37] ((q_up (q_up (q_up (q_up (va_up I9 63 (fun _ => 0)) 1 12 0) 1 13 0) 1 14 (-1)) 1 15 0), (va_up J9 63 (fun _ => 0)), qcR_126, qcS_63 L, 63)) (b := true) (pc := 160) (L := [some (.ref 1)]) (st := []) (ce := 62) (sl := 4784) 0 (true, 157, [some (.ref 1)], [.ref 37, .ref 44], ((q_up (q_up (q_up (q_up (va_up I9 63 (fun _ => 0)) 1 12 0) 1 13 0) 1 14 (-1)) 1 15 0), (va_up J9 63 (fun _ => 0)), qcR_126, qcS_63 L, 63), 62, 4784) rfl rfl).trans ?_
  rw [q_ck_tt, h10]
  show q_D _ _ _ (true, 160, [some (.ref 1)], [], (I10, J10, qcR_126, qcS_63 L, 63), 62, 4784) = _
  exact q_D_end 1 rfl
theorem n_X12_a {B : Nat → Nat → Int32} {f : Nat → Int64} (L : Nat) (I : Nat → Nat → Int32) (J : Nat → Nat → Int64) (hZ : q_Z B f (q_up qX0 1 14 (-1)) 64 I J) : ∃ I' J', mX12_init [.ref 64] (I, J, qcR_127, qcS_64 L, 64) = q_D cs_X12_init oX12_init (49, 8345) (true, 407, [some (.ref 64)], [.ref 64], (I', J', qcR_225, qcS_113 L, 113), 49, 8345) ∧ q_Z B f (q_up (q_up (q_up qX0 1 14 (-1)) 64 3 (-1)) 64 27 (-1)) 113 I' J' := by
  obtain ⟨Ia0, Ja0, ea0, ja0, za0⟩ : ∃ Ia Ja, Ia = (va_up (va_up (va_up (va_up (va_up (q_up (va_up I 65 (fun _ => 0)) 64 3 (-1)) 66 (fun _ => 0)) 67 (fun _ => 0)) 68 (fun _ => 0)) 69 (fun _ => 0)) 70 (fun _ => 0)) ∧ Ja = (va_up (va_up (va_up (va_up (va_up (va_up J 65 (fun _ => 0)) 66 (fun _ => 0)) 67 (fun _ => 0)) 68 (fun _ => 0)) 69 (fun _ => 0)) 70 (fun _ => 0)) ∧ q_Z B f (q_up (q_up qX0 1 14 (-1)) 64 3 (-1)) 70 Ia Ja := ⟨_, _, rfl, rfl, (q_Z_new (q_Z_new (q_Z_new (q_Z_new (q_Z_new (q_Z_X (q_Z_new hZ (by decide) (Or.inl (by decide)) (fun _ => rfl)) (by decide)) (by decide) (Or.inl (by decide)) (fun _ => rfl)) (by decide) (Or.inl (by decide)) (fun _ => rfl)) (by decide) (Or.inl (by decide)) (fun _ => rfl)) (by decide) (Or.inl (by decide)) (fun _ => rfl)) (by decide) (Or.inl (by decide)) (fun _ => rfl))⟩
  obtain ⟨Ia1, Ja1, ea1, ja1, za1⟩ : ∃ Ia Ja, Ia = (va_up (va_up (va_up (va_up (q_up (va_up (va_up (va_up Ia0 71 (fun _ => 0)) 72 (fun _ => 0)) 73 (fun _ => 0)) 64 27 (-1)) 74 (fun _ => 0)) 75 (fun _ => 0)) 76 (fun _ => 0)) 77 (fun _ => 0)) ∧ Ja = (va_up (va_up (va_up (va_up (va_up (va_up (va_up Ja0 71 (fun _ => 0)) 72 (fun _ => 0)) 73 (fun _ => 0)) 74 (fun _ => 0)) 75 (fun _ => 0)) 76 (fun _ => 0)) 77 (fun _ => 0)) ∧ q_Z B f (q_up (q_up (q_up qX0 1 14 (-1)) 64 3 (-1)) 64 27 (-1)) 77 Ia Ja := ⟨_, _, rfl, rfl, (q_Z_new (q_Z_new (q_Z_new (q_Z_new (q_Z_X (q_Z_new (q_Z_new (q_Z_new za0 (by decide) (Or.inl (by decide)) (fun _ => rfl)) (by decide) (Or.inl (by decide)) (fun _ => rfl)) (by decide) (Or.inl (by decide)) (fun _ => rfl)) (by decide)) (by decide) (Or.inl (by decide)) (fun _ => rfl)) (by decide) (Or.inl (by decide)) (fun _ => rfl)) (by decide) (Or.inl (by decide)) (fun _ => rfl)) (by decide) (Or.inl (by decide)) (fun _ => rfl))⟩
  obtain ⟨Ia2, Ja2, ea2, ja2, za2⟩ : ∃ Ia Ja, Ia = (va_up (va_up (va_up (va_up (va_up Ia1 78 (fun _ => 0)) 79 (fun _ => 0)) 80 (fun _ => 0)) 81 (fun _ => 0)) 82 (fun _ => 0)) ∧ Ja = (va_up (va_up (va_up (va_up (va_up Ja1 78 (fun _ => 0)) 79 (fun _ => 0)) 80 (fun _ => 0)) 81 (fun _ => 0)) 82 (fun _ => 0)) ∧ q_Z B f (q_up (q_up (q_up qX0 1 14 (-1)) 64 3 (-1)) 64 27 (-1)) 82 Ia Ja := ⟨_, _, rfl, rfl, (q_Z_new (q_Z_new (q_Z_new (q_Z_new (q_Z_new za1 (by decide) (Or.inl (by decide)) (fun _ => rfl)) (by decide) (Or.inl (by decide)) (fun _ => rfl)) (by decide) (Or.inl (by decide)) (fun _ => rfl)) (by decide) (Or.inl (by decide)) (fun _ => rfl)) (by decide) (Or.inl (by decide)) (fun _ => rfl))⟩
  obtain ⟨Ia3, Ja3, ea3, ja3, za3⟩ : ∃ Ia Ja, Ia = (va_up (va_up (va_up (va_up (va_up Ia2 83 (fun _ => 0)) 84 (fun _ => 0)) 85 (fun _ => 0)) 86 (fun _ => 0)) 87 (fun _ => 0)) ∧ Ja = (va_up (va_up (va_up (va_up (va_up Ja2 83 (fun _ => 0)) 84 (fun _ => 0)) 85 (fun _ => 0)) 86 (fun _ => 0)) 87 (fun _ => 0)) ∧ q_Z B f (q_up (q_up (q_up qX0 1 14 (-1)) 64 3 (-1)) 64 27 (-1)) 87 Ia Ja := ⟨_, _, rfl, rfl, (q_Z_new (q_Z_new (q_Z_new (q_Z_new (q_Z_new za2 (by decide) (Or.inl (by decide)) (fun _ => rfl)) (by decide) (Or.inl (by decide)) (fun _ => rfl)) (by decide) (Or.inl (by decide)) (fun _ => rfl)) (by decide) (Or.inl (by decide)) (fun _ => rfl)) (by decide) (Or.inl (by decide)) (fun _ => rfl))⟩
  obtain ⟨Ia4, Ja4, ea4, ja4, za4⟩ : ∃ Ia Ja, Ia = (va_up (va_up (va_up (va_up (va_up Ia3 88 (fun _ => 0)) 89 (fun _ => 0)) 90 (fun _ => 0)) 91 (fun _ => 0)) 92 (fun _ => 0)) ∧ Ja = (va_up (va_up (va_up (va_up (va_up Ja3 88 (fun _ => 0)) 89 (fun _ => 0)) 90 (fun _ => 0)) 91 (fun _ => 0)) 92 (fun _ => 0)) ∧ q_Z B f (q_up (q_up (q_up qX0 1 14 (-1)) 64 3 (-1)) 64 27 (-1)) 92 Ia Ja := ⟨_, _, rfl, rfl, (q_Z_new (q_Z_new (q_Z_new (q_Z_new (q_Z_new za3 (by decide) (Or.inl (by decide)) (fun _ => rfl)) (by decide) (Or.inl (by decide)) (fun _ => rfl)) (by decide) (Or.inl (by decide)) (fun _ => rfl)) (by decide) (Or.inl (by decide)) (fun _ => rfl)) (by decide) (Or.inl (by decide)) (fun _ => rfl))⟩
  obtain ⟨Ia5, Ja5, ea5, ja5, za5⟩ : ∃ Ia Ja, Ia = (va_up (va_up (va_up (va_up (va_up Ia4 93 (fun _ => 0)) 94 (fun _ => 0)) 95 (fun _ => 0)) 96 (fun _ => 0)) 97 (fun _ => 0)) ∧ Ja = (va_up (va_up (va_up (va_up (va_up Ja4 93 (fun _ => 0)) 94 (fun _ => 0)) 95 (fun _ => 0)) 96 (fun _ => 0)) 97 (fun _ => 0)) ∧ q_Z B f (q_up (q_up (q_up qX0 1 14 (-1)) 64 3 (-1)) 64 27 (-1)) 97 Ia Ja := ⟨_, _, rfl, rfl, (q_Z_new (q_Z_new (q_Z_new (q_Z_new (q_Z_new za4 (by decide) (Or.inl (by decide)) (fun _ => rfl)) (by decide) (Or.inl (by decide)) (fun _ => rfl)) (by decide) (Or.inl (by decide)) (fun _ => rfl)) (by decide) (Or.inl (by decide)) (fun _ => rfl)) (by decide) (Or.inl (by decide)) (fun _ => rfl))⟩
  obtain ⟨Ia6, Ja6, ea6, ja6, za6⟩ : ∃ Ia Ja, Ia = (va_up (va_up (va_up (va_up (va_up Ia5 98 (fun _ => 0)) 99 (fun _ => 0)) 100 (fun _ => 0)) 101 (fun _ => 0)) 102 (fun _ => 0)) ∧ Ja = (va_up (va_up (va_up (va_up (va_up Ja5 98 (fun _ => 0)) 99 (fun _ => 0)) 100 (fun _ => 0)) 101 (fun _ => 0)) 102 (fun _ => 0)) ∧ q_Z B f (q_up (q_up (q_up qX0 1 14 (-1)) 64 3 (-1)) 64 27 (-1)) 102 Ia Ja := ⟨_, _, rfl, rfl, (q_Z_new (q_Z_new (q_Z_new (q_Z_new (q_Z_new za5 (by decide) (Or.inl (by decide)) (fun _ => rfl)) (by decide) (Or.inl (by decide)) (fun _ => rfl)) (by decide) (Or.inl (by decide)) (fun _ => rfl)) (by decide) (Or.inl (by decide)) (fun _ => rfl)) (by decide) (Or.inl (by decide)) (fun _ => rfl))⟩
  obtain ⟨Ia7, Ja7, ea7, ja7, za7⟩ : ∃ Ia Ja, Ia = (va_up (va_up (va_up (va_up (va_up Ia6 103 (fun _ => 0)) 104 (fun _ => 0)) 105 (fun _ => 0)) 106 (fun _ => 0)) 107 (fun _ => 0)) ∧ Ja = (va_up (va_up (va_up (va_up (va_up Ja6 103 (fun _ => 0)) 104 (fun _ => 0)) 105 (fun _ => 0)) 106 (fun _ => 0)) 107 (fun _ => 0)) ∧ q_Z B f (q_up (q_up (q_up qX0 1 14 (-1)) 64 3 (-1)) 64 27 (-1)) 107 Ia Ja := ⟨_, _, rfl, rfl, (q_Z_new (q_Z_new (q_Z_new (q_Z_new (q_Z_new za6 (by decide) (Or.inl (by decide)) (fun _ => rfl)) (by decide) (Or.inl (by decide)) (fun _ => rfl)) (by decide) (Or.inl (by decide)) (fun _ => rfl)) (by decide) (Or.inl (by decide)) (fun _ => rfl)) (by decide) (Or.inl (by decide)) (fun _ => rfl))⟩
  obtain ⟨Ia8, Ja8, ea8, ja8, za8⟩ : ∃ Ia Ja, Ia = (va_up (va_up (va_up (va_up (va_up Ia7 108 (fun _ => 0)) 109 (fun _ => 0)) 110 (fun _ => 0)) 111 (fun _ => 0)) 112 (fun _ => 0)) ∧ Ja = (va_up (va_up (va_up (va_up (va_up Ja7 108 (fun _ => 0)) 109 (fun _ => 0)) 110 (fun _ => 0)) 111 (fun _ => 0)) 112 (fun _ => 0)) ∧ q_Z B f (q_up (q_up (q_up qX0 1 14 (-1)) 64 3 (-1)) 64 27 (-1)) 112 Ia Ja := ⟨_, _, rfl, rfl, (q_Z_new (q_Z_new (q_Z_new (q_Z_new (q_Z_new za7 (by decide) (Or.inl (by decide)) (fun _ => rfl)) (by decide) (Or.inl (by decide)) (fun _ => rfl)) (by decide) (Or.inl (by decide)) (fun _ => rfl)) (by decide) (Or.inl (by decide)) (fun _ => rfl)) (by decide) (Or.inl (by decide)) (fun _ => rfl))⟩
  refine ⟨(va_up Ia8 113 (fun _ => 0)), (va_up Ja8 113 (fun _ => 0)), ?_, (q_Z_new za8 (by decide) (Or.inl (by decide)) (fun _ => rfl))⟩
  show q_D cs_X12_init oX12_init (49, 8345) (true, 0, [some (.ref 64)], [], (I, J, qcR_127, qcS_64 L, 64), 0, 0) = _
  refine (q_D_by (c' := (true, 19, [some (.ref 64)], [.ref 64], ((q_up (va_up I 65 (fun _ => 0)) 64 3 (-1)), (va_up J 65 (fun _ => 0)), qcR_129, qcS_65 L, 65), 1, 1600)) 10 rfl).trans ?_
  refine (q_D_by (c' := (true, 41, [some (.ref 64)], [.ref 68, .ref 64], ((va_up (va_up (va_up (q_up (va_up I 65 (fun _ => 0)) 64 3 (-1)) 66 (fun _ => 0)) 67 (fun _ => 0)) 68 (fun _ => 0)), (va_up (va_up (va_up (va_up J 65 (fun _ => 0)) 66 (fun _ => 0)) 67 (fun _ => 0)) 68 (fun _ => 0)), qcR_134, qcS_68 L, 68), 4, 2250)) 10 rfl).trans ?_
  refine (q_D_by (c' := (true, 63, [some (.ref 64)], [.ref 64], ((va_up (va_up (va_up (va_up (va_up (q_up (va_up I 65 (fun _ => 0)) 64 3 (-1)) 66 (fun _ => 0)) 67 (fun _ => 0)) 68 (fun _ => 0)) 69 (fun _ => 0)) 70 (fun _ => 0)), (va_up (va_up (va_up (va_up (va_up (va_up J 65 (fun _ => 0)) 66 (fun _ => 0)) 67 (fun _ => 0)) 68 (fun _ => 0)) 69 (fun _ => 0)) 70 (fun _ => 0)), qcR_139, qcS_70 L, 70), 6, 2890)) 10 rfl).trans ?_
  rw [← ea0, ← ja0]
  refine (q_D_by (c' := (true, 83, [some (.ref 64)], [.ref 73, .ref 64], ((va_up (va_up (va_up Ia0 71 (fun _ => 0)) 72 (fun _ => 0)) 73 (fun _ => 0)), (va_up (va_up (va_up Ja0 71 (fun _ => 0)) 72 (fun _ => 0)) 73 (fun _ => 0)), qcR_144, qcS_73 L, 73), 9, 3118)) 10 rfl).trans ?_
  refine (q_D_by (c' := (true, 100, [some (.ref 64)], [.int 4, .ref 64], ((va_up (q_up (va_up (va_up (va_up Ia0 71 (fun _ => 0)) 72 (fun _ => 0)) 73 (fun _ => 0)) 64 27 (-1)) 74 (fun _ => 0)), (va_up (va_up (va_up (va_up Ja0 71 (fun _ => 0)) 72 (fun _ => 0)) 73 (fun _ => 0)) 74 (fun _ => 0)), qcR_147, qcS_74 L, 74), 10, 3122)) 10 rfl).trans ?_
  refine (q_D_by (c' := (true, 120, [some (.ref 64)], [], ((va_up (va_up (va_up (va_up (q_up (va_up (va_up (va_up Ia0 71 (fun _ => 0)) 72 (fun _ => 0)) 73 (fun _ => 0)) 64 27 (-1)) 74 (fun _ => 0)) 75 (fun _ => 0)) 76 (fun _ => 0)) 77 (fun _ => 0)), (va_up (va_up (va_up (va_up (va_up (va_up (va_up Ja0 71 (fun _ => 0)) 72 (fun _ => 0)) 73 (fun _ => 0)) 74 (fun _ => 0)) 75 (fun _ => 0)) 76 (fun _ => 0)) 77 (fun _ => 0)), qcR_153, qcS_77 L, 77), 13, 3154)) 10 rfl).trans ?_
  rw [← ea1, ← ja1]
  refine (q_D_by (c' := (true, 139, [some (.ref 64)], [.int 6, .ref 64], ((va_up (va_up Ia1 78 (fun _ => 0)) 79 (fun _ => 0)), (va_up (va_up Ja1 78 (fun _ => 0)) 79 (fun _ => 0)), qcR_157, qcS_79 L, 79), 15, 3184)) 10 rfl).trans ?_
  refine (q_D_by (c' := (true, 159, [some (.ref 64)], [], ((va_up (va_up (va_up (va_up (va_up Ia1 78 (fun _ => 0)) 79 (fun _ => 0)) 80 (fun _ => 0)) 81 (fun _ => 0)) 82 (fun _ => 0)), (va_up (va_up (va_up (va_up (va_up Ja1 78 (fun _ => 0)) 79 (fun _ => 0)) 80 (fun _ => 0)) 81 (fun _ => 0)) 82 (fun _ => 0)), qcR_163, qcS_82 L, 82), 18, 3230)) 10 rfl).trans ?_
  rw [← ea2, ← ja2]
  refine (q_D_by (c' := (true, 175, [some (.ref 64)], [.int 4, .ref 64], ((va_up (va_up Ia2 83 (fun _ => 0)) 84 (fun _ => 0)), (va_up (va_up Ja2 83 (fun _ => 0)) 84 (fun _ => 0)), qcR_167, qcS_84 L, 84), 20, 3238)) 10 rfl).trans ?_
  refine (q_D_by (c' := (true, 196, [some (.ref 64)], [], ((va_up (va_up (va_up (va_up (va_up Ia2 83 (fun _ => 0)) 84 (fun _ => 0)) 85 (fun _ => 0)) 86 (fun _ => 0)) 87 (fun _ => 0)), (va_up (va_up (va_up (va_up (va_up Ja2 83 (fun _ => 0)) 84 (fun _ => 0)) 85 (fun _ => 0)) 86 (fun _ => 0)) 87 (fun _ => 0)), qcR_173, qcS_87 L, 87), 23, 3290)) 10 rfl).trans ?_
  rw [← ea3, ← ja3]
  refine (q_D_by (c' := (true, 214, [some (.ref 64)], [.int 4, .ref 64], ((va_up (va_up Ia3 88 (fun _ => 0)) 89 (fun _ => 0)), (va_up (va_up Ja3 88 (fun _ => 0)) 89 (fun _ => 0)), qcR_177, qcS_89 L, 89), 25, 3302)) 10 rfl).trans ?_
  refine (q_D_by (c' := (true, 235, [some (.ref 64)], [], ((va_up (va_up (va_up (va_up (va_up Ia3 88 (fun _ => 0)) 89 (fun _ => 0)) 90 (fun _ => 0)) 91 (fun _ => 0)) 92 (fun _ => 0)), (va_up (va_up (va_up (va_up (va_up Ja3 88 (fun _ => 0)) 89 (fun _ => 0)) 90 (fun _ => 0)) 91 (fun _ => 0)) 92 (fun _ => 0)), qcR_183, qcS_92 L, 92), 28, 3366)) 10 rfl).trans ?_
  rw [← ea4, ← ja4]
  refine (q_D_by (c' := (true, 255, [some (.ref 64)], [.int 256, .ref 64], ((va_up (va_up Ia4 93 (fun _ => 0)) 94 (fun _ => 0)), (va_up (va_up Ja4 93 (fun _ => 0)) 94 (fun _ => 0)), qcR_187, qcS_94 L, 94), 30, 3496)) 10 rfl).trans ?_
  refine (q_D_by (c' := (true, 276, [some (.ref 64)], [], ((va_up (va_up (va_up (va_up (va_up Ia4 93 (fun _ => 0)) 94 (fun _ => 0)) 95 (fun _ => 0)) 96 (fun _ => 0)) 97 (fun _ => 0)), (va_up (va_up (va_up (va_up (va_up Ja4 93 (fun _ => 0)) 94 (fun _ => 0)) 95 (fun _ => 0)) 96 (fun _ => 0)) 97 (fun _ => 0)), qcR_193, qcS_97 L, 97), 33, 3784)) 10 rfl).trans ?_
  rw [← ea5, ← ja5]
  refine (q_D_by (c' := (true, 295, [some (.ref 64)], [.int 6, .ref 64], ((va_up (va_up Ia5 98 (fun _ => 0)) 99 (fun _ => 0)), (va_up (va_up Ja5 98 (fun _ => 0)) 99 (fun _ => 0)), qcR_197, qcS_99 L, 99), 35, 3806)) 10 rfl).trans ?_
  refine (q_D_by (c' := (true, 317, [some (.ref 64)], [], ((va_up (va_up (va_up (va_up (va_up Ia5 98 (fun _ => 0)) 99 (fun _ => 0)) 100 (fun _ => 0)) 101 (fun _ => 0)) 102 (fun _ => 0)), (va_up (va_up (va_up (va_up (va_up Ja5 98 (fun _ => 0)) 99 (fun _ => 0)) 100 (fun _ => 0)) 101 (fun _ => 0)) 102 (fun _ => 0)), qcR_203, qcS_102 L, 102), 38, 6436)) 10 rfl).trans ?_
  rw [← ea6, ← ja6]
  refine (q_D_by (c' := (true, 337, [some (.ref 64)], [.int 30, .ref 64], ((va_up (va_up Ia6 103 (fun _ => 0)) 104 (fun _ => 0)), (va_up (va_up Ja6 103 (fun _ => 0)) 104 (fun _ => 0)), qcR_207, qcS_104 L, 104), 40, 7906)) 10 rfl).trans ?_
  refine (q_D_by (c' := (true, 358, [some (.ref 64)], [], ((va_up (va_up (va_up (va_up (va_up Ia6 103 (fun _ => 0)) 104 (fun _ => 0)) 105 (fun _ => 0)) 106 (fun _ => 0)) 107 (fun _ => 0)), (va_up (va_up (va_up (va_up (va_up Ja6 103 (fun _ => 0)) 104 (fun _ => 0)) 105 (fun _ => 0)) 106 (fun _ => 0)) 107 (fun _ => 0)), qcR_213, qcS_107 L, 107), 43, 7996)) 10 rfl).trans ?_
  rw [← ea7, ← ja7]
  refine (q_D_by (c' := (true, 377, [some (.ref 64)], [.int 30, .ref 64], ((va_up (va_up Ia7 108 (fun _ => 0)) 109 (fun _ => 0)), (va_up (va_up Ja7 108 (fun _ => 0)) 109 (fun _ => 0)), qcR_217, qcS_109 L, 109), 45, 8056)) 10 rfl).trans ?_
  refine (q_D_by (c' := (true, 397, [some (.ref 64)], [], ((va_up (va_up (va_up (va_up (va_up Ia7 108 (fun _ => 0)) 109 (fun _ => 0)) 110 (fun _ => 0)) 111 (fun _ => 0)) 112 (fun _ => 0)), (va_up (va_up (va_up (va_up (va_up Ja7 108 (fun _ => 0)) 109 (fun _ => 0)) 110 (fun _ => 0)) 111 (fun _ => 0)) 112 (fun _ => 0)), qcR_223, qcS_112 L, 112), 48, 8150)) 10 rfl).trans ?_
  rw [← ea8, ← ja8]
  refine (q_D_by (c' := (true, 407, [some (.ref 64)], [.ref 64], ((va_up Ia8 113 (fun _ => 0)), (va_up Ja8 113 (fun _ => 0)), qcR_225, qcS_113 L, 113), 49, 8345)) 5 rfl).trans ?_
  rfl
