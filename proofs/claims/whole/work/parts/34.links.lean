/-! ===== links (by program) ===== -/
def q_ln : Instr → Nat
  | .ldc _ => 2
  | .nop => 1
  | _ => 3
def q_Vx (x : Nat × Bool × Instr × List Nat × List Value) : Prop := q_V (q_on x.1) (x.2.1 = true) q_MI 0 (q_ln x.2.2.1) x.2.2.2.1 x.2.2.2.2 [] x.2.2.1
set_option maxRecDepth 20000 in
theorem qL_0 : q_Vx (1, false, .invokespecial 3, [0, 0], []) := ⟨rfl, rfl, (tb_1 36 rfl rfl), (tb_1 29 rfl rfl), (tb_1 30 rfl rfl)⟩
set_option maxRecDepth 20000 in
theorem qL_1 : q_Vx (1, false, .putfield 9, [1, 0, 0, 0], []) := ⟨rfl, _, ⟨rfl, by decide, rfl, rfl, (tb_1 99 rfl rfl)⟩, Or.inl rfl⟩
set_option maxRecDepth 20000 in
theorem qL_2 : q_Vx (1, true, .putfield 15, [2, 0, 1, 2], []) := ⟨rfl, _, ⟨rfl, by decide, rfl, rfl, (tb_1 103 rfl rfl)⟩, Or.inr ⟨rfl, rfl, rfl⟩⟩
set_option maxRecDepth 20000 in
theorem qL_3 : q_Vx (1, true, .putfield 19, [3, 0, 2, 2], []) := ⟨rfl, _, ⟨rfl, by decide, rfl, rfl, (tb_1 105 rfl rfl)⟩, Or.inr ⟨rfl, rfl, rfl⟩⟩
set_option maxRecDepth 20000 in
theorem qL_4 : q_Vx (1, true, .putfield 23, [4, 0, 3, 2], []) := ⟨rfl, _, ⟨rfl, by decide, rfl, rfl, (tb_1 109 rfl rfl)⟩, Or.inr ⟨rfl, rfl, rfl⟩⟩
set_option maxRecDepth 20000 in
theorem qL_5 : q_Vx (1, true, .putfield 26, [5, 0, 4, 2], []) := ⟨rfl, _, ⟨rfl, by decide, rfl, rfl, (tb_1 113 rfl rfl)⟩, Or.inr ⟨rfl, rfl, rfl⟩⟩
set_option maxRecDepth 20000 in
theorem qL_6 : q_Vx (1, false, .putfield 29, [6, 0, 5, 0], []) := ⟨rfl, _, ⟨rfl, by decide, rfl, rfl, (tb_1 117 rfl rfl)⟩, Or.inl rfl⟩
set_option maxRecDepth 20000 in
theorem qL_7 : q_Vx (1, true, .putfield 32, [7, 0, 6, 2], []) := ⟨rfl, _, ⟨rfl, by decide, rfl, rfl, (tb_1 123 rfl rfl)⟩, Or.inr ⟨rfl, rfl, rfl⟩⟩
set_option maxRecDepth 20000 in
theorem qL_8 : q_Vx (1, true, .putfield 35, [8, 0, 7, 2], []) := ⟨rfl, _, ⟨rfl, by decide, rfl, rfl, (tb_1 125 rfl rfl)⟩, Or.inr ⟨rfl, rfl, rfl⟩⟩
set_option maxRecDepth 20000 in
theorem qL_9 : q_Vx (1, true, .putfield 38, [9, 0, 8, 2], []) := ⟨rfl, _, ⟨rfl, by decide, rfl, rfl, (tb_1 129 rfl rfl)⟩, Or.inr ⟨rfl, rfl, rfl⟩⟩
set_option maxRecDepth 20000 in
theorem qL_10 : q_Vx (1, true, .putfield 41, [10, 0, 9, 2], []) := ⟨rfl, _, ⟨rfl, by decide, rfl, rfl, (tb_1 133 rfl rfl)⟩, Or.inr ⟨rfl, rfl, rfl⟩⟩
set_option maxRecDepth 20000 in
theorem qL_11 : q_Vx (1, true, .putfield 44, [11, 0, 10, 2], []) := ⟨rfl, _, ⟨rfl, by decide, rfl, rfl, (tb_1 137 rfl rfl)⟩, Or.inr ⟨rfl, rfl, rfl⟩⟩
set_option maxRecDepth 20000 in
theorem qL_12 : q_Vx (1, false, .putfield 47, [12, 0, 11, 0], []) := ⟨rfl, _, ⟨rfl, by decide, rfl, rfl, (tb_1 141 rfl rfl)⟩, Or.inl rfl⟩
set_option maxRecDepth 20000 in
theorem qL_13 : q_Vx (1, false, .new 50, [13, 2, 5], []) := ⟨rfl, _, rfl, rfl, (tb_1 37 rfl rfl), (tb_1 38 rfl rfl), (tb_1 3 rfl rfl)⟩
set_option maxRecDepth 20000 in
theorem qL_14 : q_Vx (4, false, .invokespecial 3, [14, 0], []) := ⟨rfl, rfl, (tb_1 42 rfl rfl), (tb_1 29 rfl rfl), (tb_1 30 rfl rfl)⟩
set_option maxRecDepth 20000 in
theorem qL_15 : q_Vx (4, false, .putfield 9, [15, 2, 0, 0], []) := ⟨rfl, _, ⟨rfl, by decide, rfl, rfl, (tb_1 43 rfl rfl)⟩, Or.inl rfl⟩
set_option maxRecDepth 20000 in
theorem qL_16 : q_Vx (4, false, .putfield 15, [16, 2, 1, 0], []) := ⟨rfl, _, ⟨rfl, by decide, rfl, rfl, (tb_1 47 rfl rfl)⟩, Or.inl rfl⟩
set_option maxRecDepth 20000 in
theorem qL_17 : q_Vx (4, false, .putfield 18, [17, 2, 2, 0], []) := ⟨rfl, _, ⟨rfl, by decide, rfl, rfl, (tb_1 51 rfl rfl)⟩, Or.inl rfl⟩
set_option maxRecDepth 20000 in
theorem qL_18 : q_Vx (4, false, .putfield 21, [18, 2, 3, 0], []) := ⟨rfl, _, ⟨rfl, by decide, rfl, rfl, (tb_1 58 rfl rfl)⟩, Or.inl rfl⟩
set_option maxRecDepth 20000 in
theorem qL_19 : q_Vx (4, false, .putfield 24, [19, 2, 4, 0], []) := ⟨rfl, _, ⟨rfl, by decide, rfl, rfl, (tb_1 61 rfl rfl)⟩, Or.inl rfl⟩
set_option maxRecDepth 20000 in
theorem qL_20 : q_Vx (1, false, .invokespecial 52, [20, 64, 1, 3, 0, 0], []) := ⟨rfl, iX3_init, rfl, k_X3_init, rfl, rfl, Or.inr (Or.inr ⟨rfl, Or.inr ⟨_, qN_0⟩, (tb_1 40 rfl rfl), rfl, rfl, by decide, by decide, 2, _, rfl, rfl⟩)⟩
set_option maxRecDepth 20000 in
theorem qL_21 : q_Vx (1, true, .putfield 53, [21, 0, 12, 2], []) := ⟨rfl, _, ⟨rfl, by decide, rfl, rfl, (tb_1 146 rfl rfl)⟩, Or.inr ⟨rfl, rfl, rfl⟩⟩
set_option maxRecDepth 20000 in
theorem qL_22 : q_Vx (1, false, .new 57, [22, 3, 4], []) := ⟨rfl, _, rfl, rfl, (tb_1 78 rfl rfl), (tb_1 79 rfl rfl), (tb_1 4 rfl rfl)⟩
set_option maxRecDepth 20000 in
theorem qL_23 : q_Vx (5, false, .invokespecial 3, [23, 0], []) := ⟨rfl, rfl, (tb_1 83 rfl rfl), (tb_1 29 rfl rfl), (tb_1 30 rfl rfl)⟩
set_option maxRecDepth 20000 in
theorem qL_24 : q_Vx (5, true, .putfield 11, [24, 3, 0, 2], []) := ⟨rfl, _, ⟨rfl, by decide, rfl, rfl, (tb_1 84 rfl rfl)⟩, Or.inr ⟨rfl, rfl, rfl⟩⟩
set_option maxRecDepth 20000 in
theorem qL_25 : q_Vx (5, true, .putfield 15, [25, 3, 1, 2], []) := ⟨rfl, _, ⟨rfl, by decide, rfl, rfl, (tb_1 85 rfl rfl)⟩, Or.inr ⟨rfl, rfl, rfl⟩⟩
set_option maxRecDepth 20000 in
theorem qL_26 : q_Vx (5, false, .putfield 18, [26, 3, 2, 0], []) := ⟨rfl, _, ⟨rfl, by decide, rfl, rfl, (tb_1 86 rfl rfl)⟩, Or.inl rfl⟩
set_option maxRecDepth 20000 in
theorem qL_27 : q_Vx (5, false, .putfield 22, [27, 3, 3, 0], []) := ⟨rfl, _, ⟨rfl, by decide, rfl, rfl, (tb_1 87 rfl rfl)⟩, Or.inl rfl⟩
set_option maxRecDepth 20000 in
theorem qL_28 : q_Vx (1, false, .invokespecial 59, [28, 76, 1, 4, 2, 330], []) := ⟨rfl, iX4_init, rfl, k_X4_init, rfl, rfl, Or.inr (Or.inr ⟨rfl, Or.inr ⟨_, qN_1⟩, (tb_1 81 rfl rfl), rfl, rfl, by decide, by decide, 3, _, rfl, rfl⟩)⟩
set_option maxRecDepth 20000 in
theorem qL_29 : q_Vx (1, true, .putfield 60, [29, 0, 13, 2], []) := ⟨rfl, _, ⟨rfl, by decide, rfl, rfl, (tb_1 149 rfl rfl)⟩, Or.inr ⟨rfl, rfl, rfl⟩⟩
set_option maxRecDepth 20000 in
theorem qL_30 : q_Vx (1, false, .putfield 64, [30, 0, 14, 0], []) := ⟨rfl, _, ⟨rfl, by decide, rfl, rfl, (tb_1 152 rfl rfl)⟩, Or.inl rfl⟩
set_option maxRecDepth 20000 in
theorem qL_31 : q_Vx (1, false, .putfield 67, [31, 0, 15, 0], []) := ⟨rfl, _, ⟨rfl, by decide, rfl, rfl, (tb_1 156 rfl rfl)⟩, Or.inl rfl⟩
set_option maxRecDepth 20000 in
theorem qL_32 : q_Vx (1, false, .putfield 9, [32, 0, 0, 0], []) := ⟨rfl, _, ⟨rfl, by decide, rfl, rfl, (tb_1 99 rfl rfl)⟩, Or.inl rfl⟩
set_option maxRecDepth 20000 in
theorem qL_33 : q_Vx (1, false, .putfield 29, [33, 0, 5, 0], []) := ⟨rfl, _, ⟨rfl, by decide, rfl, rfl, (tb_1 117 rfl rfl)⟩, Or.inl rfl⟩
set_option maxRecDepth 20000 in
theorem qL_34 : q_Vx (1, false, .getfield 35, [34, 0, 7, 2], []) := ⟨rfl, _, ⟨rfl, by decide, rfl, rfl, (tb_1 125 rfl rfl)⟩⟩
set_option maxRecDepth 20000 in
theorem qL_35 : q_Vx (1, false, .invokestatic 70, [35, 391, 2, 0, 0, 0], []) := ⟨rfl, iJ7_fill_53178, rfl, k_J7_fill_53178, rfl, rfl, Or.inr (Or.inl ⟨rfl, Or.inl (tb_3 72 rfl rfl), (tb_3 73 rfl rfl), by decide⟩)⟩
set_option maxRecDepth 20000 in
theorem qL_36 : q_Vx (1, false, .getfield 38, [36, 0, 8, 2], []) := ⟨rfl, _, ⟨rfl, by decide, rfl, rfl, (tb_1 129 rfl rfl)⟩⟩
set_option maxRecDepth 20000 in
theorem qL_37 : q_Vx (1, false, .getfield 41, [37, 0, 9, 2], []) := ⟨rfl, _, ⟨rfl, by decide, rfl, rfl, (tb_1 133 rfl rfl)⟩⟩
set_option maxRecDepth 20000 in
theorem qL_38 : q_Vx (1, false, .getfield 44, [38, 0, 10, 2], []) := ⟨rfl, _, ⟨rfl, by decide, rfl, rfl, (tb_1 137 rfl rfl)⟩⟩
set_option maxRecDepth 20000 in
theorem qL_39 : q_Vx (1, false, .putfield 47, [39, 0, 11, 0], []) := ⟨rfl, _, ⟨rfl, by decide, rfl, rfl, (tb_1 141 rfl rfl)⟩, Or.inl rfl⟩
set_option maxRecDepth 20000 in
theorem qL_40 : q_Vx (1, false, .getfield 53, [40, 0, 12, 2], []) := ⟨rfl, _, ⟨rfl, by decide, rfl, rfl, (tb_1 146 rfl rfl)⟩⟩
set_option maxRecDepth 20000 in
theorem qL_41 : q_Vx (4, false, .putfield 9, [41, 2, 0, 0], []) := ⟨rfl, _, ⟨rfl, by decide, rfl, rfl, (tb_1 43 rfl rfl)⟩, Or.inl rfl⟩
set_option maxRecDepth 20000 in
theorem qL_42 : q_Vx (4, false, .putfield 15, [42, 2, 1, 0], []) := ⟨rfl, _, ⟨rfl, by decide, rfl, rfl, (tb_1 47 rfl rfl)⟩, Or.inl rfl⟩
set_option maxRecDepth 20000 in
theorem qL_43 : q_Vx (4, false, .putfield 18, [43, 2, 2, 0], []) := ⟨rfl, _, ⟨rfl, by decide, rfl, rfl, (tb_1 51 rfl rfl)⟩, Or.inl rfl⟩
set_option maxRecDepth 20000 in
theorem qL_44 : q_Vx (4, false, .putfield 21, [44, 2, 3, 0], []) := ⟨rfl, _, ⟨rfl, by decide, rfl, rfl, (tb_1 58 rfl rfl)⟩, Or.inl rfl⟩
set_option maxRecDepth 20000 in
theorem qL_45 : q_Vx (4, false, .putfield 24, [45, 2, 4, 0], []) := ⟨rfl, _, ⟨rfl, by decide, rfl, rfl, (tb_1 61 rfl rfl)⟩, Or.inl rfl⟩
set_option maxRecDepth 20000 in
theorem qL_46 : q_Vx (1, false, .invokevirtual 76, [46, 65, 1, 3, 0, 0], []) := ⟨rfl, iX3_mendAll, rfl, k_X3_mendAll, rfl, rfl, Or.inl ⟨rfl, (tb_3 75 rfl rfl), (tb_3 76 rfl rfl), (tb_3 77 rfl rfl), by decide, by decide, Or.inl ⟨2, _, rfl, rfl, rfl⟩⟩⟩
set_option maxRecDepth 20000 in
theorem qL_47 : q_Vx (1, false, .getfield 60, [47, 0, 13, 2], []) := ⟨rfl, _, ⟨rfl, by decide, rfl, rfl, (tb_1 149 rfl rfl)⟩⟩
set_option maxRecDepth 20000 in
theorem qL_48 : q_Vx (5, false, .putfield 18, [48, 3, 2, 0], []) := ⟨rfl, _, ⟨rfl, by decide, rfl, rfl, (tb_1 86 rfl rfl)⟩, Or.inl rfl⟩
set_option maxRecDepth 20000 in
theorem qL_49 : q_Vx (5, false, .putfield 22, [49, 3, 3, 0], []) := ⟨rfl, _, ⟨rfl, by decide, rfl, rfl, (tb_1 87 rfl rfl)⟩, Or.inl rfl⟩
set_option maxRecDepth 20000 in
theorem qL_50 : q_Vx (1, false, .invokevirtual 79, [50, 77, 1, 4, 0, 0], []) := ⟨rfl, iX4_clear, rfl, k_X4_clear, rfl, rfl, Or.inl ⟨rfl, (tb_3 79 rfl rfl), (tb_3 80 rfl rfl), (tb_3 81 rfl rfl), by decide, by decide, Or.inl ⟨3, _, rfl, rfl, rfl⟩⟩⟩
set_option maxRecDepth 20000 in
theorem qL_51 : q_Vx (1, false, .putfield 64, [51, 0, 14, 0], []) := ⟨rfl, _, ⟨rfl, by decide, rfl, rfl, (tb_1 152 rfl rfl)⟩, Or.inl rfl⟩
set_option maxRecDepth 20000 in
theorem qL_52 : q_Vx (1, false, .putfield 67, [52, 0, 15, 0], []) := ⟨rfl, _, ⟨rfl, by decide, rfl, rfl, (tb_1 156 rfl rfl)⟩, Or.inl rfl⟩
set_option maxRecDepth 20000 in
theorem qL_53 : q_Vx (1, false, .getfield 9, [53, 0, 0, 0], []) := ⟨rfl, _, ⟨rfl, by decide, rfl, rfl, (tb_1 99 rfl rfl)⟩⟩
set_option maxRecDepth 20000 in
theorem qL_54 : q_Vx (1, false, .getfield 29, [54, 0, 5, 0], []) := ⟨rfl, _, ⟨rfl, by decide, rfl, rfl, (tb_1 117 rfl rfl)⟩⟩
set_option maxRecDepth 20000 in
theorem qL_55 : q_Vx (1, false, .invokevirtual 82, [55, 12, 2, 1, 0, 0], []) := ⟨rfl, iX0_hasDevice, rfl, k_X0_hasDevice, rfl, rfl, Or.inl ⟨rfl, (tb_4 91 rfl rfl), (tb_4 20 rfl rfl), (tb_4 21 rfl rfl), by decide, by decide, Or.inl ⟨0, _, rfl, rfl, rfl⟩⟩⟩
set_option maxRecDepth 20000 in
theorem qL_56 : q_Vx (1, false, .getfield 26, [56, 0, 4, 2], []) := ⟨rfl, _, ⟨rfl, by decide, rfl, rfl, (tb_1 113 rfl rfl)⟩⟩
set_option maxRecDepth 20000 in
theorem qL_57 : q_Vx (1, false, .invokevirtual 86, [57, 14, 3, 1, 0, 0], []) := ⟨rfl, iX0_hasCell, rfl, k_X0_hasCell, rfl, rfl, Or.inl ⟨rfl, (tb_5 130 rfl rfl), (tb_4 88 rfl rfl), (tb_4 89 rfl rfl), by decide, by decide, Or.inl ⟨0, _, rfl, rfl, rfl⟩⟩⟩
set_option maxRecDepth 20000 in
theorem qL_58 : q_Vx (1, false, .invokestatic 90, [58, 178, 2, 0, 0, 0], []) := ⟨rfl, iX11_placeOf, rfl, k_X11_placeOf, rfl, rfl, Or.inr (Or.inl ⟨rfl, Or.inr ⟨_, qN_2⟩, (tb_3 154 rfl rfl), by decide⟩)⟩
set_option maxRecDepth 20000 in
theorem qL_59 : q_Vx (1, false, .getfield 47, [59, 0, 11, 0], []) := ⟨rfl, _, ⟨rfl, by decide, rfl, rfl, (tb_1 141 rfl rfl)⟩⟩
set_option maxRecDepth 20000 in
theorem qL_60 : q_Vx (1, false, .invokevirtual 94, [60, 16, 2, 1, 0, 0], []) := ⟨rfl, iX0_isReceiver, rfl, k_X0_isReceiver, rfl, rfl, Or.inl ⟨rfl, (tb_4 228 rfl rfl), (tb_3 176 rfl rfl), (tb_3 177 rfl rfl), by decide, by decide, Or.inl ⟨0, _, rfl, rfl, rfl⟩⟩⟩
set_option maxRecDepth 20000 in
theorem qL_61 : q_Vx (1, false, .invokevirtual 97, [61, 17, 2, 1, 0, 0], []) := ⟨rfl, iX0_keptSafe, rfl, k_X0_keptSafe, rfl, rfl, Or.inl ⟨rfl, (tb_5 88 rfl rfl), (tb_5 89 rfl rfl), (tb_5 90 rfl rfl), by decide, by decide, Or.inl ⟨0, _, rfl, rfl, rfl⟩⟩⟩
set_option maxRecDepth 20000 in
theorem qL_62 : q_Vx (1, false, .invokevirtual 101, [62, 19, 4, 1, 0, 0], []) := ⟨rfl, iX0_readsAt, rfl, k_X0_readsAt, rfl, rfl, Or.inl ⟨rfl, (tb_5 153 rfl rfl), (tb_4 114 rfl rfl), (tb_4 115 rfl rfl), by decide, by decide, Or.inl ⟨0, _, rfl, rfl, rfl⟩⟩⟩
set_option maxRecDepth 20000 in
theorem qL_63 : q_Vx (5, false, .getfield 18, [63, 3, 2, 0], []) := ⟨rfl, _, ⟨rfl, by decide, rfl, rfl, (tb_1 86 rfl rfl)⟩⟩
set_option maxRecDepth 20000 in
theorem qL_64 : q_Vx (5, false, .getfield 11, [64, 3, 0, 2], []) := ⟨rfl, _, ⟨rfl, by decide, rfl, rfl, (tb_1 84 rfl rfl)⟩⟩
set_option maxRecDepth 20000 in
theorem qL_65 : q_Vx (5, false, .getfield 15, [65, 3, 1, 2], []) := ⟨rfl, _, ⟨rfl, by decide, rfl, rfl, (tb_1 85 rfl rfl)⟩⟩
set_option maxRecDepth 20000 in
theorem qL_66 : q_Vx (5, false, .invokestatic 25, [66, 80, 4, 0, 0, 0], []) := ⟨rfl, iX4_named, rfl, k_X4_named, rfl, rfl, Or.inr (Or.inl ⟨rfl, Or.inl (tb_4 107 rfl rfl), (tb_4 108 rfl rfl), by decide⟩)⟩
set_option maxRecDepth 20000 in
theorem qL_67 : q_Vx (5, false, .invokestatic 29, [67, 81, 3, 0, 0, 0], []) := ⟨rfl, iX4_joined, rfl, k_X4_joined, rfl, rfl, Or.inr (Or.inl ⟨rfl, Or.inl (tb_4 110 rfl rfl), (tb_4 111 rfl rfl), by decide⟩)⟩
set_option maxRecDepth 20000 in
theorem qL_68 : q_Vx (1, false, .invokevirtual 105, [68, 79, 4, 4, 0, 0], []) := ⟨rfl, iX4_value, rfl, k_X4_value, rfl, rfl, Or.inl ⟨rfl, (tb_4 103 rfl rfl), (tb_4 104 rfl rfl), (tb_4 105 rfl rfl), by decide, by decide, Or.inl ⟨3, _, rfl, rfl, rfl⟩⟩⟩
set_option maxRecDepth 20000 in
theorem qL_69 : q_Vx (1, false, .invokevirtual 112, [69, 23, 1, 1, 0, 0], []) := ⟨rfl, iX0_firstOpen, rfl, k_X0_firstOpen, rfl, rfl, Or.inl ⟨rfl, (tb_4 207 rfl rfl), (tb_4 209 rfl rfl), (tb_s 45 rfl rfl), by decide, by decide, Or.inl ⟨0, _, rfl, rfl, rfl⟩⟩⟩
set_option maxRecDepth 20000 in
theorem qL_70 : q_Vx (14, false, .ldc_w 265, [70], [.int 1431655765]) := ⟨rfl, _, rfl, (tb_4 46 rfl rfl)⟩
set_option maxRecDepth 20000 in
theorem qL_71 : q_Vx (14, false, .ldc_w 266, [71], [.int 858993459]) := ⟨rfl, _, rfl, (tb_4 47 rfl rfl)⟩
set_option maxRecDepth 20000 in
theorem qL_72 : q_Vx (14, false, .ldc_w 267, [72], [.int 252645135]) := ⟨rfl, _, rfl, (tb_4 48 rfl rfl)⟩
set_option maxRecDepth 20000 in
theorem qL_73 : q_Vx (1, false, .invokestatic 115, [73, 389, 1, 0, 0, 0], []) := ⟨rfl, iJ6_bitCount_0f7a4, rfl, k_J6_bitCount_0f7a4, rfl, rfl, Or.inr (Or.inl ⟨rfl, Or.inl (tb_4 211 rfl rfl), (tb_4 44 rfl rfl), by decide⟩)⟩
set_option maxRecDepth 20000 in
theorem qL_74 : q_Vx (1, false, .invokevirtual 108, [74, 24, 1, 1, 0, 0], []) := ⟨rfl, iX0_firstShort, rfl, k_X0_firstShort, rfl, rfl, Or.inl ⟨rfl, (tb_4 203 rfl rfl), (tb_4 205 rfl rfl), (tb_s 44 rfl rfl), by decide, by decide, Or.inl ⟨0, _, rfl, rfl, rfl⟩⟩⟩
set_option maxRecDepth 20000 in
theorem qL_75 : q_Vx (1, false, .invokevirtual 120, [75, 22, 1, 1, 0, 0], []) := ⟨rfl, iX0_singleCount, rfl, k_X0_singleCount, rfl, rfl, Or.inl ⟨rfl, (tb_4 199 rfl rfl), (tb_4 200 rfl rfl), (tb_4 201 rfl rfl), by decide, by decide, Or.inl ⟨0, _, rfl, rfl, rfl⟩⟩⟩
set_option maxRecDepth 20000 in
theorem qL_76 : q_Vx (1, false, .invokevirtual 123, [76, 26, 2, 1, 0, 0], []) := ⟨rfl, iX0_sortOf, rfl, k_X0_sortOf, rfl, rfl, Or.inl ⟨rfl, (tb_4 216 rfl rfl), (tb_4 217 rfl rfl), (tb_4 218 rfl rfl), by decide, by decide, Or.inl ⟨0, _, rfl, rfl, rfl⟩⟩⟩
set_option maxRecDepth 20000 in
theorem qL_77 : q_Vx (1, false, .getstatic 126, [77, 1002], []) := ⟨rfl, q_stat.getD 2 default, List.mem_of_getElem? (i := 2) rfl, rfl, Or.inr ⟨_, qN_3⟩⟩
set_option maxRecDepth 20000 in
theorem qL_78 : q_Vx (1, false, .invokevirtual 129, [78, 28, 2, 1, 0, 0], []) := ⟨rfl, iX0_placeOfOpen, rfl, k_X0_placeOfOpen, rfl, rfl, Or.inl ⟨rfl, (tb_4 224 rfl rfl), (tb_4 226 rfl rfl), (tb_s 47 rfl rfl), by decide, by decide, Or.inl ⟨0, _, rfl, rfl, rfl⟩⟩⟩
set_option maxRecDepth 20000 in
theorem qL_79 : q_Vx (1, false, .invokevirtual 132, [79, 29, 2, 1, 0, 0], []) := ⟨rfl, iX0_pairOfShort, rfl, k_X0_pairOfShort, rfl, rfl, Or.inl ⟨rfl, (tb_4 229 rfl rfl), (tb_4 231 rfl rfl), (tb_s 48 rfl rfl), by decide, by decide, Or.inl ⟨0, _, rfl, rfl, rfl⟩⟩⟩
set_option maxRecDepth 20000 in
theorem qL_80 : q_Vx (1, false, .invokevirtual 135, [80, 30, 2, 1, 0, 0], []) := ⟨rfl, iX0_targetOf, rfl, k_X0_targetOf, rfl, rfl, Or.inl ⟨rfl, (tb_4 220 rfl rfl), (tb_4 222 rfl rfl), (tb_s 46 rfl rfl), by decide, by decide, Or.inl ⟨0, _, rfl, rfl, rfl⟩⟩⟩
set_option maxRecDepth 20000 in
theorem qL_81 : q_Vx (1, false, .getstatic 138, [81, 1001], []) := ⟨rfl, q_stat.getD 1 default, List.mem_of_getElem? (i := 1) rfl, rfl, Or.inr ⟨_, qN_4⟩⟩
set_option maxRecDepth 20000 in
theorem qL_82 : q_Vx (1, false, .invokevirtual 141, [82, 27, 2, 1, 0, 0], []) := ⟨rfl, iX0_isHigh, rfl, k_X0_isHigh, rfl, rfl, Or.inl ⟨rfl, (tb_4 238 rfl rfl), (tb_5 0 rfl rfl), (tb_s 49 rfl rfl), by decide, by decide, Or.inl ⟨0, _, rfl, rfl, rfl⟩⟩⟩
set_option maxRecDepth 20000 in
theorem qL_83 : q_Vx (1, false, .getfield 144, [83, 2, 0, 0], []) := ⟨rfl, _, ⟨rfl, by decide, rfl, rfl, (tb_1 46 rfl rfl)⟩⟩
set_option maxRecDepth 20000 in
theorem qL_84 : q_Vx (1, false, .getfield 147, [84, 2, 1, 0], []) := ⟨rfl, _, ⟨rfl, by decide, rfl, rfl, (tb_1 50 rfl rfl)⟩⟩
set_option maxRecDepth 20000 in
theorem qL_85 : q_Vx (1, false, .getfield 150, [85, 2, 2, 0], []) := ⟨rfl, _, ⟨rfl, by decide, rfl, rfl, (tb_1 57 rfl rfl)⟩⟩
set_option maxRecDepth 20000 in
theorem qL_86 : q_Vx (1, false, .getfield 153, [86, 2, 4, 0], []) := ⟨rfl, _, ⟨rfl, by decide, rfl, rfl, (tb_1 63 rfl rfl)⟩⟩
set_option maxRecDepth 20000 in
theorem qL_87 : q_Vx (1, false, .getfield 156, [87, 2, 3, 0], []) := ⟨rfl, _, ⟨rfl, by decide, rfl, rfl, (tb_1 60 rfl rfl)⟩⟩
set_option maxRecDepth 20000 in
theorem qL_88 : q_Vx (1, false, .invokevirtual 159, [88, 33, 3, 1, 0, 0], []) := ⟨rfl, iX0_isThere, rfl, k_X0_isThere, rfl, rfl, Or.inl ⟨rfl, (tb_4 234 rfl rfl), (tb_4 235 rfl rfl), (tb_4 236 rfl rfl), by decide, by decide, Or.inl ⟨0, _, rfl, rfl, rfl⟩⟩⟩
set_option maxRecDepth 20000 in
theorem qL_89 : q_Vx (1, false, .putfield 144, [89, 2, 0, 0], []) := ⟨rfl, _, ⟨rfl, by decide, rfl, rfl, (tb_1 46 rfl rfl)⟩, Or.inl rfl⟩
set_option maxRecDepth 20000 in
theorem qL_90 : q_Vx (1, false, .putfield 147, [90, 2, 1, 0], []) := ⟨rfl, _, ⟨rfl, by decide, rfl, rfl, (tb_1 50 rfl rfl)⟩, Or.inl rfl⟩
set_option maxRecDepth 20000 in
theorem qL_91 : q_Vx (1, false, .putfield 150, [91, 2, 2, 0], []) := ⟨rfl, _, ⟨rfl, by decide, rfl, rfl, (tb_1 57 rfl rfl)⟩, Or.inl rfl⟩
set_option maxRecDepth 20000 in
theorem qL_92 : q_Vx (1, false, .putfield 153, [92, 2, 4, 0], []) := ⟨rfl, _, ⟨rfl, by decide, rfl, rfl, (tb_1 63 rfl rfl)⟩, Or.inl rfl⟩
set_option maxRecDepth 20000 in
theorem qL_93 : q_Vx (1, false, .putfield 156, [93, 2, 3, 0], []) := ⟨rfl, _, ⟨rfl, by decide, rfl, rfl, (tb_1 60 rfl rfl)⟩, Or.inl rfl⟩
set_option maxRecDepth 20000 in
theorem qL_94 : q_Vx (2, false, .invokespecial 5, [94, 0], []) := ⟨rfl, rfl, (tb_2 70 rfl rfl), (tb_1 29 rfl rfl), (tb_1 30 rfl rfl)⟩
set_option maxRecDepth 20000 in
theorem qL_95 : q_Vx (2, false, .putfield 11, [95, 1, 0, 0], []) := ⟨rfl, _, ⟨rfl, by decide, rfl, rfl, (tb_2 73 rfl rfl)⟩, Or.inl rfl⟩
set_option maxRecDepth 20000 in
theorem qL_96 : q_Vx (2, false, .putfield 17, [96, 1, 1, 0], []) := ⟨rfl, _, ⟨rfl, by decide, rfl, rfl, (tb_2 75 rfl rfl)⟩, Or.inl rfl⟩
set_option maxRecDepth 20000 in
theorem qL_97 : q_Vx (2, false, .putfield 20, [97, 1, 2, 0], []) := ⟨rfl, _, ⟨rfl, by decide, rfl, rfl, (tb_2 77 rfl rfl)⟩, Or.inl rfl⟩
set_option maxRecDepth 20000 in
theorem qL_98 : q_Vx (2, true, .putfield 23, [98, 1, 3, 2], []) := ⟨rfl, _, ⟨rfl, by decide, rfl, rfl, (tb_2 79 rfl rfl)⟩, Or.inr ⟨rfl, rfl, rfl⟩⟩
set_option maxRecDepth 20000 in
theorem qL_99 : q_Vx (2, true, .putfield 27, [99, 1, 4, 2], []) := ⟨rfl, _, ⟨rfl, by decide, rfl, rfl, (tb_2 81 rfl rfl)⟩, Or.inr ⟨rfl, rfl, rfl⟩⟩
set_option maxRecDepth 20000 in
theorem qL_100 : q_Vx (2, true, .putfield 30, [100, 1, 5, 2], []) := ⟨rfl, _, ⟨rfl, by decide, rfl, rfl, (tb_2 83 rfl rfl)⟩, Or.inr ⟨rfl, rfl, rfl⟩⟩
set_option maxRecDepth 20000 in
theorem qL_101 : q_Vx (2, true, .putfield 33, [101, 1, 6, 2], []) := ⟨rfl, _, ⟨rfl, by decide, rfl, rfl, (tb_2 85 rfl rfl)⟩, Or.inr ⟨rfl, rfl, rfl⟩⟩
set_option maxRecDepth 20000 in
theorem qL_102 : q_Vx (2, false, .new 1, [102, 2, 5], []) := ⟨rfl, _, rfl, rfl, (tb_2 71 rfl rfl), (tb_1 38 rfl rfl), (tb_1 3 rfl rfl)⟩
set_option maxRecDepth 20000 in
theorem qL_103 : q_Vx (2, false, .invokespecial 36, [103, 64, 1, 3, 0, 0], []) := ⟨rfl, iX3_init, rfl, k_X3_init, rfl, rfl, Or.inr (Or.inr ⟨rfl, Or.inr ⟨_, qN_5⟩, (tb_1 40 rfl rfl), rfl, rfl, by decide, by decide, 2, _, rfl, rfl⟩)⟩
set_option maxRecDepth 20000 in
theorem qL_104 : q_Vx (2, true, .putfield 37, [104, 1, 7, 2], []) := ⟨rfl, _, ⟨rfl, by decide, rfl, rfl, (tb_2 87 rfl rfl)⟩, Or.inr ⟨rfl, rfl, rfl⟩⟩
set_option maxRecDepth 20000 in
theorem qL_105 : q_Vx (2, true, .putfield 41, [105, 1, 8, 2], []) := ⟨rfl, _, ⟨rfl, by decide, rfl, rfl, (tb_2 89 rfl rfl)⟩, Or.inr ⟨rfl, rfl, rfl⟩⟩
set_option maxRecDepth 20000 in
theorem qL_106 : q_Vx (2, false, .putfield 11, [106, 1, 0, 0], []) := ⟨rfl, _, ⟨rfl, by decide, rfl, rfl, (tb_2 73 rfl rfl)⟩, Or.inl rfl⟩
set_option maxRecDepth 20000 in
theorem qL_107 : q_Vx (2, false, .putfield 17, [107, 1, 1, 0], []) := ⟨rfl, _, ⟨rfl, by decide, rfl, rfl, (tb_2 75 rfl rfl)⟩, Or.inl rfl⟩
set_option maxRecDepth 20000 in
theorem qL_108 : q_Vx (2, false, .getfield 44, [108, 0, 15, 0], []) := ⟨rfl, _, ⟨rfl, by decide, rfl, rfl, (tb_1 157 rfl rfl)⟩⟩
set_option maxRecDepth 20000 in
theorem qL_109 : q_Vx (2, false, .putfield 20, [109, 1, 2, 0], []) := ⟨rfl, _, ⟨rfl, by decide, rfl, rfl, (tb_2 77 rfl rfl)⟩, Or.inl rfl⟩
set_option maxRecDepth 20000 in
theorem qL_110 : q_Vx (2, false, .getfield 27, [110, 1, 4, 2], []) := ⟨rfl, _, ⟨rfl, by decide, rfl, rfl, (tb_2 81 rfl rfl)⟩⟩
set_option maxRecDepth 20000 in
theorem qL_111 : q_Vx (2, false, .invokestatic 49, [111, 391, 2, 0, 0, 0], []) := ⟨rfl, iJ7_fill_53178, rfl, k_J7_fill_53178, rfl, rfl, Or.inr (Or.inl ⟨rfl, Or.inl (tb_3 231 rfl rfl), (tb_3 73 rfl rfl), by decide⟩)⟩
set_option maxRecDepth 20000 in
theorem qL_112 : q_Vx (2, false, .getfield 30, [112, 1, 5, 2], []) := ⟨rfl, _, ⟨rfl, by decide, rfl, rfl, (tb_2 83 rfl rfl)⟩⟩
set_option maxRecDepth 20000 in
theorem qL_113 : q_Vx (2, false, .getfield 33, [113, 1, 6, 2], []) := ⟨rfl, _, ⟨rfl, by decide, rfl, rfl, (tb_2 85 rfl rfl)⟩⟩
set_option maxRecDepth 20000 in
theorem qL_114 : q_Vx (2, false, .getfield 55, [114, 0, 0, 0], []) := ⟨rfl, _, ⟨rfl, by decide, rfl, rfl, (tb_1 100 rfl rfl)⟩⟩
set_option maxRecDepth 20000 in
theorem qL_115 : q_Vx (2, false, .getfield 23, [115, 1, 3, 2], []) := ⟨rfl, _, ⟨rfl, by decide, rfl, rfl, (tb_2 79 rfl rfl)⟩⟩
set_option maxRecDepth 20000 in
theorem qL_116 : q_Vx (2, false, .getfield 69, [116, 0, 3, 2], []) := ⟨rfl, _, ⟨rfl, by decide, rfl, rfl, (tb_1 110 rfl rfl)⟩⟩
set_option maxRecDepth 20000 in
theorem qL_117 : q_Vx (2, false, .getfield 72, [117, 0, 2, 2], []) := ⟨rfl, _, ⟨rfl, by decide, rfl, rfl, (tb_1 106 rfl rfl)⟩⟩
set_option maxRecDepth 20000 in
theorem qL_118 : q_Vx (2, false, .invokestatic 58, [118, 38, 2, 0, 0, 0], []) := ⟨rfl, iX1_restingOrder, rfl, k_X1_restingOrder, rfl, rfl, Or.inr (Or.inl ⟨rfl, Or.inl (tb_3 232 rfl rfl), (tb_3 233 rfl rfl), by decide⟩)⟩
set_option maxRecDepth 20000 in
theorem qL_119 : q_Vx (2, false, .getfield 37, [119, 1, 7, 2], []) := ⟨rfl, _, ⟨rfl, by decide, rfl, rfl, (tb_2 87 rfl rfl)⟩⟩
set_option maxRecDepth 20000 in
theorem qL_120 : q_Vx (2, false, .getfield 62, [120, 0, 12, 2], []) := ⟨rfl, _, ⟨rfl, by decide, rfl, rfl, (tb_1 147 rfl rfl)⟩⟩
set_option maxRecDepth 20000 in
theorem qL_121 : q_Vx (4, false, .getfield 9, [121, 2, 0, 0], []) := ⟨rfl, _, ⟨rfl, by decide, rfl, rfl, (tb_1 43 rfl rfl)⟩⟩
set_option maxRecDepth 20000 in
theorem qL_122 : q_Vx (4, false, .getfield 15, [122, 2, 1, 0], []) := ⟨rfl, _, ⟨rfl, by decide, rfl, rfl, (tb_1 47 rfl rfl)⟩⟩
set_option maxRecDepth 20000 in
theorem qL_123 : q_Vx (4, false, .getfield 18, [123, 2, 2, 0], []) := ⟨rfl, _, ⟨rfl, by decide, rfl, rfl, (tb_1 51 rfl rfl)⟩⟩
set_option maxRecDepth 20000 in
theorem qL_124 : q_Vx (4, false, .getfield 21, [124, 2, 3, 0], []) := ⟨rfl, _, ⟨rfl, by decide, rfl, rfl, (tb_1 58 rfl rfl)⟩⟩
set_option maxRecDepth 20000 in
theorem qL_125 : q_Vx (4, false, .getfield 24, [125, 2, 4, 0], []) := ⟨rfl, _, ⟨rfl, by decide, rfl, rfl, (tb_1 61 rfl rfl)⟩⟩
set_option maxRecDepth 20000 in
theorem qL_126 : q_Vx (2, false, .invokevirtual 65, [126, 66, 2, 3, 0, 0], []) := ⟨rfl, iX3_takeOver, rfl, k_X3_takeOver, rfl, rfl, Or.inl ⟨rfl, (tb_3 235 rfl rfl), (tb_3 236 rfl rfl), (tb_3 237 rfl rfl), by decide, by decide, Or.inl ⟨2, _, rfl, rfl, rfl⟩⟩⟩
set_option maxRecDepth 20000 in
theorem qL_127 : q_Vx (2, false, .invokevirtual 75, [127, 39, 2, 2, 0, 0], []) := ⟨rfl, iX1_hasCellsAsData, rfl, k_X1_hasCellsAsData, rfl, rfl, Or.inl ⟨rfl, (tb_4 27 rfl rfl), (tb_4 29 rfl rfl), (tb_s 31 rfl rfl), by decide, by decide, Or.inl ⟨1, _, rfl, rfl, rfl⟩⟩⟩
set_option maxRecDepth 20000 in
theorem qL_128 : q_Vx (2, false, .getfield 79, [128, 0, 4, 2], []) := ⟨rfl, _, ⟨rfl, by decide, rfl, rfl, (tb_1 114 rfl rfl)⟩⟩
set_option maxRecDepth 20000 in
theorem qL_129 : q_Vx (2, false, .invokevirtual 82, [129, 40, 3, 2, 0, 0], []) := ⟨rfl, iX1_tellsWho, rfl, k_X1_tellsWho, rfl, rfl, Or.inl ⟨rfl, (tb_4 31 rfl rfl), (tb_4 33 rfl rfl), (tb_s 32 rfl rfl), by decide, by decide, Or.inl ⟨1, _, rfl, rfl, rfl⟩⟩⟩
set_option maxRecDepth 20000 in
theorem qL_130 : q_Vx (2, false, .getfield 86, [130, 0, 5, 0], []) := ⟨rfl, _, ⟨rfl, by decide, rfl, rfl, (tb_1 120 rfl rfl)⟩⟩
set_option maxRecDepth 20000 in
theorem qL_131 : q_Vx (2, false, .getfield 89, [131, 0, 9, 2], []) := ⟨rfl, _, ⟨rfl, by decide, rfl, rfl, (tb_1 134 rfl rfl)⟩⟩
set_option maxRecDepth 20000 in
theorem qL_132 : q_Vx (2, false, .getfield 92, [132, 0, 7, 2], []) := ⟨rfl, _, ⟨rfl, by decide, rfl, rfl, (tb_1 126 rfl rfl)⟩⟩
set_option maxRecDepth 20000 in
theorem qL_133 : q_Vx (2, false, .invokestatic 95, [133, 178, 2, 0, 0, 0], []) := ⟨rfl, iX11_placeOf, rfl, k_X11_placeOf, rfl, rfl, Or.inr (Or.inl ⟨rfl, Or.inr ⟨_, qN_6⟩, (tb_3 154 rfl rfl), by decide⟩)⟩
set_option maxRecDepth 20000 in
theorem qL_134 : q_Vx (2, false, .invokevirtual 99, [134, 42, 2, 2, 0, 0], []) := ⟨rfl, iX1_driversUp, rfl, k_X1_driversUp, rfl, rfl, Or.inl ⟨rfl, (tb_4 53 rfl rfl), (tb_4 55 rfl rfl), (tb_s 33 rfl rfl), by decide, by decide, Or.inl ⟨1, _, rfl, rfl, rfl⟩⟩⟩
set_option maxRecDepth 20000 in
theorem qL_135 : q_Vx (2, false, .getfield 103, [135, 2, 2, 0], []) := ⟨rfl, _, ⟨rfl, by decide, rfl, rfl, (tb_1 55 rfl rfl)⟩⟩
set_option maxRecDepth 20000 in
theorem qL_136 : q_Vx (2, false, .getfield 17, [136, 1, 1, 0], []) := ⟨rfl, _, ⟨rfl, by decide, rfl, rfl, (tb_2 75 rfl rfl)⟩⟩
set_option maxRecDepth 20000 in
theorem qL_137 : q_Vx (2, false, .invokevirtual 106, [137, 21, 3, 1, 0, 0], []) := ⟨rfl, iX0_floatingAt, rfl, k_X0_floatingAt, rfl, rfl, Or.inl ⟨rfl, (tb_4 99 rfl rfl), (tb_4 100 rfl rfl), (tb_4 101 rfl rfl), by decide, by decide, Or.inl ⟨0, _, rfl, rfl, rfl⟩⟩⟩
set_option maxRecDepth 20000 in
theorem qL_138 : q_Vx (2, false, .invokevirtual 109, [138, 43, 2, 2, 0, 0], []) := ⟨rfl, iX1_driven, rfl, k_X1_driven, rfl, rfl, Or.inl ⟨rfl, (tb_4 97 rfl rfl), (tb_4 50 rfl rfl), (tb_4 51 rfl rfl), by decide, by decide, Or.inl ⟨1, _, rfl, rfl, rfl⟩⟩⟩
set_option maxRecDepth 20000 in
theorem qL_139 : q_Vx (4, false, .invokevirtual 52, [139, 72, 2, 3, 0, 0], []) := ⟨rfl, iX3_drives, rfl, k_X3_drives, rfl, rfl, Or.inl ⟨rfl, (tb_4 66 rfl rfl), (tb_4 59 rfl rfl), (tb_4 60 rfl rfl), by decide, by decide, Or.inl ⟨2, _, rfl, rfl, rfl⟩⟩⟩
set_option maxRecDepth 20000 in
theorem qL_140 : q_Vx (4, false, .getstatic 42, [140, 1001], []) := ⟨rfl, q_stat.getD 1 default, List.mem_of_getElem? (i := 1) rfl, rfl, Or.inl (tb_3 167 rfl rfl)⟩
set_option maxRecDepth 20000 in
theorem qL_141 : q_Vx (4, false, .getstatic 46, [141, 1002], []) := ⟨rfl, q_stat.getD 2 default, List.mem_of_getElem? (i := 2) rfl, rfl, Or.inl (tb_3 169 rfl rfl)⟩
set_option maxRecDepth 20000 in
theorem qL_142 : q_Vx (4, false, .invokestatic 49, [142, 69, 1, 0, 0, 0], []) := ⟨rfl, iX3_netsOf, rfl, k_X3_netsOf, rfl, rfl, Or.inr (Or.inl ⟨rfl, Or.inl (tb_4 71 rfl rfl), (tb_4 72 rfl rfl), by decide⟩)⟩
set_option maxRecDepth 20000 in
theorem qL_143 : q_Vx (4, false, .invokevirtual 55, [143, 70, 2, 3, 0, 0], []) := ⟨rfl, iX3_hanging, rfl, k_X3_hanging, rfl, rfl, Or.inl ⟨rfl, (tb_4 67 rfl rfl), (tb_4 68 rfl rfl), (tb_4 69 rfl rfl), by decide, by decide, Or.inl ⟨2, _, rfl, rfl, rfl⟩⟩⟩
set_option maxRecDepth 20000 in
theorem qL_144 : q_Vx (4, false, .invokevirtual 58, [144, 71, 2, 3, 0, 0], []) := ⟨rfl, iX3_pullsLow, rfl, k_X3_pullsLow, rfl, rfl, Or.inl ⟨rfl, (tb_4 74 rfl rfl), (tb_4 76 rfl rfl), (tb_s 34 rfl rfl), by decide, by decide, Or.inl ⟨2, _, rfl, rfl, rfl⟩⟩⟩
set_option maxRecDepth 20000 in
theorem qL_145 : q_Vx (2, false, .invokevirtual 112, [145, 73, 2, 3, 0, 0], []) := ⟨rfl, iX3_levels, rfl, k_X3_levels, rfl, rfl, Or.inl ⟨rfl, (tb_4 98 rfl rfl), (tb_4 63 rfl rfl), (tb_4 64 rfl rfl), by decide, by decide, Or.inl ⟨2, _, rfl, rfl, rfl⟩⟩⟩
set_option maxRecDepth 20000 in
theorem qL_146 : q_Vx (2, false, .invokevirtual 116, [146, 19, 4, 1, 0, 0], []) := ⟨rfl, iX0_readsAt, rfl, k_X0_readsAt, rfl, rfl, Or.inl ⟨rfl, (tb_4 113 rfl rfl), (tb_4 114 rfl rfl), (tb_4 115 rfl rfl), by decide, by decide, Or.inl ⟨0, _, rfl, rfl, rfl⟩⟩⟩
set_option maxRecDepth 20000 in
theorem qL_147 : q_Vx (2, false, .getfield 11, [147, 1, 0, 0], []) := ⟨rfl, _, ⟨rfl, by decide, rfl, rfl, (tb_2 73 rfl rfl)⟩⟩
set_option maxRecDepth 20000 in
theorem qL_148 : q_Vx (2, false, .invokevirtual 147, [148, 49, 3, 2, 0, 0], []) := ⟨rfl, iX1_setOrder, rfl, k_X1_setOrder, rfl, rfl, Or.inl ⟨rfl, (tb_4 132 rfl rfl), (tb_4 134 rfl rfl), (tb_s 36 rfl rfl), by decide, by decide, Or.inl ⟨1, _, rfl, rfl, rfl⟩⟩⟩
set_option maxRecDepth 20000 in
theorem qL_149 : q_Vx (2, false, .invokevirtual 120, [149, 48, 2, 2, 0, 0], []) := ⟨rfl, iX1_rest, rfl, k_X1_rest, rfl, rfl, Or.inl ⟨rfl, (tb_4 128 rfl rfl), (tb_4 130 rfl rfl), (tb_s 35 rfl rfl), by decide, by decide, Or.inl ⟨1, _, rfl, rfl, rfl⟩⟩⟩
set_option maxRecDepth 20000 in
theorem qL_150 : q_Vx (2, false, .invokevirtual 151, [150, 46, 2, 2, 0, 0], []) := ⟨rfl, iX1_reads, rfl, k_X1_reads, rfl, rfl, Or.inl ⟨rfl, (tb_4 140 rfl rfl), (tb_4 94 rfl rfl), (tb_4 95 rfl rfl), by decide, by decide, Or.inl ⟨1, _, rfl, rfl, rfl⟩⟩⟩
set_option maxRecDepth 20000 in
theorem qL_151 : q_Vx (2, false, .getfield 20, [151, 1, 2, 0], []) := ⟨rfl, _, ⟨rfl, by decide, rfl, rfl, (tb_2 77 rfl rfl)⟩⟩
set_option maxRecDepth 20000 in
theorem qL_152 : q_Vx (2, false, .getfield 154, [152, 0, 14, 0], []) := ⟨rfl, _, ⟨rfl, by decide, rfl, rfl, (tb_1 153 rfl rfl)⟩⟩
set_option maxRecDepth 20000 in
theorem qL_153 : q_Vx (2, false, .invokevirtual 157, [153, 41, 3, 2, 0, 0], []) := ⟨rfl, iX1_dataBits, rfl, k_X1_dataBits, rfl, rfl, Or.inl ⟨rfl, (tb_4 141 rfl rfl), (tb_4 24 rfl rfl), (tb_4 25 rfl rfl), by decide, by decide, Or.inl ⟨1, _, rfl, rfl, rfl⟩⟩⟩
set_option maxRecDepth 20000 in
theorem qL_154 : q_Vx (2, false, .invokevirtual 124, [154, 50, 2, 2, 0, 0], []) := ⟨rfl, iX1_capture, rfl, k_X1_capture, rfl, rfl, Or.inl ⟨rfl, (tb_4 136 rfl rfl), (tb_4 138 rfl rfl), (tb_s 37 rfl rfl), by decide, by decide, Or.inl ⟨1, _, rfl, rfl, rfl⟩⟩⟩
set_option maxRecDepth 20000 in
theorem qL_155 : q_Vx (2, false, .invokevirtual 127, [155, 52, 3, 2, 0, 0], []) := ⟨rfl, iX1_shiftData, rfl, k_X1_shiftData, rfl, rfl, Or.inl ⟨rfl, (tb_4 142 rfl rfl), (tb_4 144 rfl rfl), (tb_s 38 rfl rfl), by decide, by decide, Or.inl ⟨1, _, rfl, rfl, rfl⟩⟩⟩
set_option maxRecDepth 20000 in
theorem qL_156 : q_Vx (2, false, .invokevirtual 130, [156, 54, 2, 2, 0, 0], []) := ⟨rfl, iX1_giveData, rfl, k_X1_giveData, rfl, rfl, Or.inl ⟨rfl, (tb_4 146 rfl rfl), (tb_4 148 rfl rfl), (tb_s 39 rfl rfl), by decide, by decide, Or.inl ⟨1, _, rfl, rfl, rfl⟩⟩⟩
set_option maxRecDepth 20000 in
theorem qL_157 : q_Vx (2, false, .invokevirtual 133, [157, 51, 2, 2, 0, 0], []) := ⟨rfl, iX1_captureOrders, rfl, k_X1_captureOrders, rfl, rfl, Or.inl ⟨rfl, (tb_4 150 rfl rfl), (tb_4 152 rfl rfl), (tb_s 40 rfl rfl), by decide, by decide, Or.inl ⟨1, _, rfl, rfl, rfl⟩⟩⟩
set_option maxRecDepth 20000 in
theorem qL_158 : q_Vx (2, false, .invokevirtual 136, [158, 53, 3, 2, 0, 0], []) := ⟨rfl, iX1_shiftOrders, rfl, k_X1_shiftOrders, rfl, rfl, Or.inl ⟨rfl, (tb_4 154 rfl rfl), (tb_4 156 rfl rfl), (tb_s 41 rfl rfl), by decide, by decide, Or.inl ⟨1, _, rfl, rfl, rfl⟩⟩⟩
set_option maxRecDepth 20000 in
theorem qL_159 : q_Vx (2, false, .invokevirtual 139, [159, 55, 2, 2, 0, 0], []) := ⟨rfl, iX1_giveOrders, rfl, k_X1_giveOrders, rfl, rfl, Or.inl ⟨rfl, (tb_4 158 rfl rfl), (tb_4 160 rfl rfl), (tb_s 42 rfl rfl), by decide, by decide, Or.inl ⟨1, _, rfl, rfl, rfl⟩⟩⟩
set_option maxRecDepth 20000 in
theorem qL_160 : q_Vx (11, false, .getstatic 18, [160, 1000], []) := ⟨rfl, q_stat.getD 0 default, List.mem_of_getElem? (i := 0) rfl, rfl, Or.inl (tb_4 165 rfl rfl)⟩
set_option maxRecDepth 20000 in
theorem qL_161 : q_Vx (2, false, .invokestatic 142, [161, 163, 2, 0, 0, 0], []) := ⟨rfl, iX10_next, rfl, k_X10_next, rfl, rfl, Or.inr (Or.inl ⟨rfl, Or.inl (tb_4 162 rfl rfl), (tb_4 163 rfl rfl), by decide⟩)⟩
set_option maxRecDepth 20000 in
theorem qL_162 : q_Vx (2, false, .getfield 41, [162, 1, 8, 2], []) := ⟨rfl, _, ⟨rfl, by decide, rfl, rfl, (tb_2 89 rfl rfl)⟩⟩
set_option maxRecDepth 20000 in
theorem qL_163 : q_Vx (11, false, .getfield 9, [163, 9, 0, 2], []) := ⟨rfl, _, ⟨rfl, by decide, rfl, rfl, (tb_2 58 rfl rfl)⟩⟩
set_option maxRecDepth 20000 in
theorem qL_164 : q_Vx (11, false, .invokestatic 21, [164, 391, 2, 0, 0, 0], []) := ⟨rfl, iJ7_fill_53178, rfl, k_J7_fill_53178, rfl, rfl, Or.inr (Or.inl ⟨rfl, Or.inl (tb_4 187 rfl rfl), (tb_3 73 rfl rfl), by decide⟩)⟩
set_option maxRecDepth 20000 in
theorem qL_165 : q_Vx (11, false, .invokevirtual 27, [165, 164, 3, 10, 0, 0], []) := ⟨rfl, iX10_measure, rfl, k_X10_measure, rfl, rfl, Or.inl ⟨rfl, (tb_4 183 rfl rfl), (tb_4 185 rfl rfl), (tb_s 43 rfl rfl), by decide, by decide, Or.inl ⟨9, _, rfl, rfl, rfl⟩⟩⟩
set_option maxRecDepth 20000 in
theorem qL_166 : q_Vx (11, false, .invokestatic 31, [166, 2], []) := ⟨rfl, rfl, (tb_4 188 rfl rfl), (tb_3 66 rfl rfl), (tb_1 18 rfl rfl), (tb_3 67 rfl rfl)⟩
set_option maxRecDepth 20000 in
theorem qL_167 : q_Vx (11, false, .invokestatic 37, [167, 163, 2, 0, 0, 0], []) := ⟨rfl, iX10_next, rfl, k_X10_next, rfl, rfl, Or.inr (Or.inl ⟨rfl, Or.inl (tb_4 189 rfl rfl), (tb_4 163 rfl rfl), by decide⟩)⟩
set_option maxRecDepth 20000 in
theorem qL_168 : q_Vx (2, false, .invokevirtual 160, [168, 165, 4, 10, 0, 0], []) := ⟨rfl, iX10_lead, rfl, k_X10_lead, rfl, rfl, Or.inl ⟨rfl, (tb_4 179 rfl rfl), (tb_4 180 rfl rfl), (tb_4 181 rfl rfl), by decide, by decide, Or.inl ⟨9, _, rfl, rfl, rfl⟩⟩⟩
set_option maxRecDepth 20000 in
theorem qL_169 : q_Vx (2, false, .invokevirtual 164, [169, 47, 4, 2, 0, 0], []) := ⟨rfl, iX1_tick, rfl, k_X1_tick, rfl, rfl, Or.inl ⟨rfl, (tb_4 190 rfl rfl), (tb_4 125 rfl rfl), (tb_4 126 rfl rfl), by decide, by decide, Or.inl ⟨1, _, rfl, rfl, rfl⟩⟩⟩
set_option maxRecDepth 20000 in
theorem qL_170 : q_Vx (2, false, .invokestatic 168, [170, 1], []) := ⟨rfl, rfl, (tb_2 229 rfl rfl), (tb_2 231 rfl rfl), (tb_2 230 rfl rfl), (tb_1 16 rfl rfl)⟩
set_option maxRecDepth 20000 in
theorem qL_171 : q_Vx (2, false, .invokevirtual 174, [171, 74, 3, 3, 0, 0], []) := ⟨rfl, iX3_save, rfl, k_X3_save, rfl, rfl, Or.inl ⟨rfl, (tb_2 232 rfl rfl), (tb_2 233 rfl rfl), (tb_2 234 rfl rfl), by decide, by decide, Or.inl ⟨2, _, rfl, rfl, rfl⟩⟩⟩
set_option maxRecDepth 20000 in
theorem qL_172 : q_Vx (2, false, .invokevirtual 177, [172, 75, 3, 3, 0, 0], []) := ⟨rfl, iX3_load, rfl, k_X3_load, rfl, rfl, Or.inl ⟨rfl, (tb_5 23 rfl rfl), (tb_5 24 rfl rfl), (tb_5 25 rfl rfl), by decide, by decide, Or.inl ⟨2, _, rfl, rfl, rfl⟩⟩⟩
set_option maxRecDepth 20000 in
theorem qL_173 : q_Vx (3, false, .getstatic 7, [173, 1003], []) := ⟨rfl, q_stat.getD 3 default, List.mem_of_getElem? (i := 3) rfl, rfl, Or.inl (tb_5 105 rfl rfl)⟩
set_option maxRecDepth 20000 in
theorem qL_174 : q_Vx (3, false, .getfield 13, [174, 0, 5, 0], []) := ⟨rfl, _, ⟨rfl, by decide, rfl, rfl, (tb_1 118 rfl rfl)⟩⟩
set_option maxRecDepth 20000 in
theorem qL_175 : q_Vx (3, false, .invokestatic 19, [175, 59, 1, 0, 0, 0], []) := ⟨rfl, iX2_countSteps, rfl, k_X2_countSteps, rfl, rfl, Or.inr (Or.inl ⟨rfl, Or.inl (tb_5 102 rfl rfl), (tb_5 103 rfl rfl), by decide⟩)⟩
set_option maxRecDepth 20000 in
theorem qL_176 : q_Vx (3, false, .invokestatic 23, [176, 61, 2, 0, 0, 0], []) := ⟨rfl, iX2_counted, rfl, k_X2_counted, rfl, rfl, Or.inr (Or.inl ⟨rfl, Or.inl (tb_5 118 rfl rfl), (tb_5 119 rfl rfl), by decide⟩)⟩
set_option maxRecDepth 20000 in
theorem qL_177 : q_Vx (3, false, .invokevirtual 27, [177, 17, 2, 1, 0, 0], []) := ⟨rfl, iX0_keptSafe, rfl, k_X0_keptSafe, rfl, rfl, Or.inl ⟨rfl, (tb_5 121 rfl rfl), (tb_5 89 rfl rfl), (tb_5 90 rfl rfl), by decide, by decide, Or.inl ⟨0, _, rfl, rfl, rfl⟩⟩⟩
set_option maxRecDepth 20000 in
theorem qL_178 : q_Vx (3, false, .invokestatic 30, [178, 60, 2, 0, 0, 0], []) := ⟨rfl, iX2_stepCount, rfl, k_X2_stepCount, rfl, rfl, Or.inr (Or.inl ⟨rfl, Or.inl (tb_5 114 rfl rfl), (tb_5 100 rfl rfl), by decide⟩)⟩
set_option maxRecDepth 20000 in
theorem qL_179 : q_Vx (3, false, .invokestatic 34, [179, 62, 3, 0, 0, 0], []) := ⟨rfl, iX2_pattern, rfl, k_X2_pattern, rfl, rfl, Or.inr (Or.inl ⟨rfl, Or.inl (tb_5 115 rfl rfl), (tb_5 116 rfl rfl), by decide⟩)⟩
set_option maxRecDepth 20000 in
theorem qL_180 : q_Vx (4, false, .invokestatic 27, [180, 389, 1, 0, 0, 0], []) := ⟨rfl, iJ6_bitCount_0f7a4, rfl, k_J6_bitCount_0f7a4, rfl, rfl, Or.inr (Or.inl ⟨rfl, Or.inl (tb_5 10 rfl rfl), (tb_4 44 rfl rfl), by decide⟩)⟩
set_option maxRecDepth 20000 in
theorem qL_181 : q_Vx (4, false, .invokestatic 33, [181, 2], []) := ⟨rfl, rfl, (tb_3 163 rfl rfl), (tb_3 66 rfl rfl), (tb_1 18 rfl rfl), (tb_3 67 rfl rfl)⟩
set_option maxRecDepth 20000 in
theorem qL_182 : q_Vx (4, false, .invokestatic 39, [182, 3], []) := ⟨rfl, rfl, (tb_3 164 rfl rfl), (tb_3 165 rfl rfl), (tb_1 18 rfl rfl), (tb_3 166 rfl rfl)⟩
set_option maxRecDepth 20000 in
theorem qL_183 : q_Vx (6, false, .invokespecial 3, [183, 0], []) := ⟨rfl, rfl, (tb_2 140 rfl rfl), (tb_1 29 rfl rfl), (tb_1 30 rfl rfl)⟩
set_option maxRecDepth 20000 in
theorem qL_184 : q_Vx (6, true, .putfield 11, [184, 4, 0, 2], []) := ⟨rfl, _, ⟨rfl, by decide, rfl, rfl, (tb_2 143 rfl rfl)⟩, Or.inr ⟨rfl, rfl, rfl⟩⟩
set_option maxRecDepth 20000 in
theorem qL_185 : q_Vx (6, true, .putfield 17, [185, 4, 1, 2], []) := ⟨rfl, _, ⟨rfl, by decide, rfl, rfl, (tb_2 144 rfl rfl)⟩, Or.inr ⟨rfl, rfl, rfl⟩⟩
set_option maxRecDepth 20000 in
theorem qL_186 : q_Vx (6, false, .putfield 20, [186, 4, 2, 0], []) := ⟨rfl, _, ⟨rfl, by decide, rfl, rfl, (tb_2 145 rfl rfl)⟩, Or.inl rfl⟩
set_option maxRecDepth 20000 in
theorem qL_187 : q_Vx (6, false, .putfield 24, [187, 4, 3, 0], []) := ⟨rfl, _, ⟨rfl, by decide, rfl, rfl, (tb_2 146 rfl rfl)⟩, Or.inl rfl⟩
set_option maxRecDepth 20000 in
theorem qL_188 : q_Vx (6, false, .new 27, [188, 2, 5], []) := ⟨rfl, _, rfl, rfl, (tb_2 141 rfl rfl), (tb_1 38 rfl rfl), (tb_1 3 rfl rfl)⟩
set_option maxRecDepth 20000 in
theorem qL_189 : q_Vx (6, false, .invokespecial 29, [189, 64, 1, 3, 0, 0], []) := ⟨rfl, iX3_init, rfl, k_X3_init, rfl, rfl, Or.inr (Or.inr ⟨rfl, Or.inr ⟨_, qN_7⟩, (tb_1 40 rfl rfl), rfl, rfl, by decide, by decide, 2, _, rfl, rfl⟩)⟩
set_option maxRecDepth 20000 in
theorem qL_190 : q_Vx (6, true, .putfield 30, [190, 4, 4, 2], []) := ⟨rfl, _, ⟨rfl, by decide, rfl, rfl, (tb_2 147 rfl rfl)⟩, Or.inr ⟨rfl, rfl, rfl⟩⟩
set_option maxRecDepth 20000 in
theorem qL_191 : q_Vx (6, false, .putfield 34, [191, 4, 5, 0], []) := ⟨rfl, _, ⟨rfl, by decide, rfl, rfl, (tb_2 148 rfl rfl)⟩, Or.inl rfl⟩
set_option maxRecDepth 20000 in
theorem qL_192 : q_Vx (6, false, .invokestatic 37, [192, 60, 2, 0, 0, 0], []) := ⟨rfl, iX2_stepCount, rfl, k_X2_stepCount, rfl, rfl, Or.inr (Or.inl ⟨rfl, Or.inl (tb_5 144 rfl rfl), (tb_5 100 rfl rfl), by decide⟩)⟩
set_option maxRecDepth 20000 in
theorem qL_193 : q_Vx (6, false, .invokestatic 41, [193, 2], []) := ⟨rfl, rfl, (tb_5 145 rfl rfl), (tb_3 66 rfl rfl), (tb_1 18 rfl rfl), (tb_3 67 rfl rfl)⟩
set_option maxRecDepth 20000 in
theorem qL_194 : q_Vx (6, false, .putfield 20, [194, 4, 2, 0], []) := ⟨rfl, _, ⟨rfl, by decide, rfl, rfl, (tb_2 145 rfl rfl)⟩, Or.inl rfl⟩
set_option maxRecDepth 20000 in
theorem qL_195 : q_Vx (6, false, .getfield 47, [195, 0, 11, 0], []) := ⟨rfl, _, ⟨rfl, by decide, rfl, rfl, (tb_1 142 rfl rfl)⟩⟩
set_option maxRecDepth 20000 in
theorem qL_196 : q_Vx (6, false, .putfield 24, [196, 4, 3, 0], []) := ⟨rfl, _, ⟨rfl, by decide, rfl, rfl, (tb_2 146 rfl rfl)⟩, Or.inl rfl⟩
set_option maxRecDepth 20000 in
theorem qL_197 : q_Vx (6, false, .getfield 20, [197, 4, 2, 0], []) := ⟨rfl, _, ⟨rfl, by decide, rfl, rfl, (tb_2 145 rfl rfl)⟩⟩
set_option maxRecDepth 20000 in
theorem qL_198 : q_Vx (6, false, .getfield 11, [198, 4, 0, 2], []) := ⟨rfl, _, ⟨rfl, by decide, rfl, rfl, (tb_2 143 rfl rfl)⟩⟩
set_option maxRecDepth 20000 in
theorem qL_199 : q_Vx (6, false, .invokestatic 52, [199, 62, 3, 0, 0, 0], []) := ⟨rfl, iX2_pattern, rfl, k_X2_pattern, rfl, rfl, Or.inr (Or.inl ⟨rfl, Or.inl (tb_5 146 rfl rfl), (tb_5 116 rfl rfl), by decide⟩)⟩
set_option maxRecDepth 20000 in
theorem qL_200 : q_Vx (6, false, .getfield 17, [200, 4, 1, 2], []) := ⟨rfl, _, ⟨rfl, by decide, rfl, rfl, (tb_2 144 rfl rfl)⟩⟩
set_option maxRecDepth 20000 in
theorem qL_201 : q_Vx (6, false, .invokevirtual 56, [201, 73, 2, 3, 0, 0], []) := ⟨rfl, iX3_levels, rfl, k_X3_levels, rfl, rfl, Or.inl ⟨rfl, (tb_5 147 rfl rfl), (tb_4 63 rfl rfl), (tb_4 64 rfl rfl), by decide, by decide, Or.inl ⟨2, _, rfl, rfl, rfl⟩⟩⟩
set_option maxRecDepth 20000 in
theorem qL_202 : q_Vx (6, false, .getfield 60, [202, 2, 2, 0], []) := ⟨rfl, _, ⟨rfl, by decide, rfl, rfl, (tb_1 52 rfl rfl)⟩⟩
set_option maxRecDepth 20000 in
theorem qL_203 : q_Vx (6, false, .invokevirtual 63, [203, 19, 4, 1, 0, 0], []) := ⟨rfl, iX0_readsAt, rfl, k_X0_readsAt, rfl, rfl, Or.inl ⟨rfl, (tb_5 148 rfl rfl), (tb_4 114 rfl rfl), (tb_4 115 rfl rfl), by decide, by decide, Or.inl ⟨0, _, rfl, rfl, rfl⟩⟩⟩
set_option maxRecDepth 20000 in
theorem qL_204 : q_Vx (6, false, .getfield 24, [204, 4, 3, 0], []) := ⟨rfl, _, ⟨rfl, by decide, rfl, rfl, (tb_2 146 rfl rfl)⟩⟩
set_option maxRecDepth 20000 in
theorem qL_205 : q_Vx (6, false, .invokevirtual 67, [205, 20, 2, 1, 0, 0], []) := ⟨rfl, iX0_receiversAt, rfl, k_X0_receiversAt, rfl, rfl, Or.inl ⟨rfl, (tb_5 149 rfl rfl), (tb_5 150 rfl rfl), (tb_5 151 rfl rfl), by decide, by decide, Or.inl ⟨0, _, rfl, rfl, rfl⟩⟩⟩
set_option maxRecDepth 20000 in
theorem qL_206 : q_Vx (6, false, .invokestatic 70, [206, 389, 1, 0, 0, 0], []) := ⟨rfl, iJ6_bitCount_0f7a4, rfl, k_J6_bitCount_0f7a4, rfl, rfl, Or.inr (Or.inl ⟨rfl, Or.inl (tb_5 170 rfl rfl), (tb_4 44 rfl rfl), by decide⟩)⟩
set_option maxRecDepth 20000 in
theorem qL_207 : q_Vx (6, false, .invokevirtual 75, [207, 86, 3, 5, 0, 0], []) := ⟨rfl, iX5_across, rfl, k_X5_across, rfl, rfl, Or.inl ⟨rfl, (tb_5 158 rfl rfl), (tb_5 160 rfl rfl), (tb_s 52 rfl rfl), by decide, by decide, Or.inl ⟨4, _, rfl, rfl, rfl⟩⟩⟩
set_option maxRecDepth 20000 in
theorem qL_208 : q_Vx (6, false, .invokevirtual 79, [208, 85, 2, 5, 0, 0], []) := ⟨rfl, iX5_answerAt, rfl, k_X5_answerAt, rfl, rfl, Or.inl ⟨rfl, (tb_5 179 rfl rfl), (tb_5 155 rfl rfl), (tb_5 156 rfl rfl), by decide, by decide, Or.inl ⟨4, _, rfl, rfl, rfl⟩⟩⟩
set_option maxRecDepth 20000 in
theorem qL_209 : q_Vx (6, false, .getfield 89, [209, 0, 5, 0], []) := ⟨rfl, _, ⟨rfl, by decide, rfl, rfl, (tb_1 119 rfl rfl)⟩⟩
set_option maxRecDepth 20000 in
theorem qL_210 : q_Vx (6, false, .invokevirtual 82, [210, 88, 3, 5, 0, 0], []) := ⟨rfl, iX5_isToldToSome, rfl, k_X5_isToldToSome, rfl, rfl, Or.inl ⟨rfl, (tb_5 180 rfl rfl), (tb_5 182 rfl rfl), (tb_s 53 rfl rfl), by decide, by decide, Or.inl ⟨4, _, rfl, rfl, rfl⟩⟩⟩
set_option maxRecDepth 20000 in
theorem qL_211 : q_Vx (6, false, .getfield 86, [211, 0, 10, 2], []) := ⟨rfl, _, ⟨rfl, by decide, rfl, rfl, (tb_1 138 rfl rfl)⟩⟩
set_option maxRecDepth 20000 in
theorem qL_212 : q_Vx (6, false, .invokevirtual 92, [212, 70, 2, 3, 0, 0], []) := ⟨rfl, iX3_hanging, rfl, k_X3_hanging, rfl, rfl, Or.inl ⟨rfl, (tb_5 192 rfl rfl), (tb_4 68 rfl rfl), (tb_4 69 rfl rfl), by decide, by decide, Or.inl ⟨2, _, rfl, rfl, rfl⟩⟩⟩
set_option maxRecDepth 20000 in
theorem qL_213 : q_Vx (6, false, .getfield 95, [213, 0, 8, 2], []) := ⟨rfl, _, ⟨rfl, by decide, rfl, rfl, (tb_1 131 rfl rfl)⟩⟩
set_option maxRecDepth 20000 in
theorem qL_214 : q_Vx (6, false, .invokevirtual 102, [214, 89, 3, 5, 0, 0], []) := ⟨rfl, iX5_isAnswerAmong, rfl, k_X5_isAnswerAmong, rfl, rfl, Or.inl ⟨rfl, (tb_5 197 rfl rfl), (tb_5 199 rfl rfl), (tb_s 55 rfl rfl), by decide, by decide, Or.inl ⟨4, _, rfl, rfl, rfl⟩⟩⟩
set_option maxRecDepth 20000 in
theorem qL_215 : q_Vx (6, false, .invokevirtual 98, [215, 91, 3, 5, 0, 0], []) := ⟨rfl, iX5_shareAnswer, rfl, k_X5_shareAnswer, rfl, rfl, Or.inl ⟨rfl, (tb_5 193 rfl rfl), (tb_5 195 rfl rfl), (tb_s 54 rfl rfl), by decide, by decide, Or.inl ⟨4, _, rfl, rfl, rfl⟩⟩⟩
set_option maxRecDepth 20000 in
theorem qL_216 : q_Vx (6, false, .invokevirtual 105, [216, 93, 2, 5, 0, 0], []) := ⟨rfl, iX5_commonAnswer, rfl, k_X5_commonAnswer, rfl, rfl, Or.inl ⟨rfl, (tb_5 209 rfl rfl), (tb_5 211 rfl rfl), (tb_s 56 rfl rfl), by decide, by decide, Or.inl ⟨4, _, rfl, rfl, rfl⟩⟩⟩
set_option maxRecDepth 20000 in
theorem qL_217 : q_Vx (6, false, .invokevirtual 108, [217, 22, 1, 1, 0, 0], []) := ⟨rfl, iX0_singleCount, rfl, k_X0_singleCount, rfl, rfl, Or.inl ⟨rfl, (tb_6 68 rfl rfl), (tb_4 200 rfl rfl), (tb_4 201 rfl rfl), by decide, by decide, Or.inl ⟨0, _, rfl, rfl, rfl⟩⟩⟩
set_option maxRecDepth 20000 in
theorem qL_218 : q_Vx (6, false, .invokevirtual 112, [218, 33, 3, 1, 0, 0], []) := ⟨rfl, iX0_isThere, rfl, k_X0_isThere, rfl, rfl, Or.inl ⟨rfl, (tb_6 69 rfl rfl), (tb_4 235 rfl rfl), (tb_4 236 rfl rfl), by decide, by decide, Or.inl ⟨0, _, rfl, rfl, rfl⟩⟩⟩
set_option maxRecDepth 20000 in
theorem qL_219 : q_Vx (6, false, .getfield 30, [219, 4, 4, 2], []) := ⟨rfl, _, ⟨rfl, by decide, rfl, rfl, (tb_2 147 rfl rfl)⟩⟩
set_option maxRecDepth 20000 in
theorem qL_220 : q_Vx (6, false, .invokevirtual 116, [220, 66, 2, 3, 0, 0], []) := ⟨rfl, iX3_takeOver, rfl, k_X3_takeOver, rfl, rfl, Or.inl ⟨rfl, (tb_6 70 rfl rfl), (tb_3 236 rfl rfl), (tb_3 237 rfl rfl), by decide, by decide, Or.inl ⟨2, _, rfl, rfl, rfl⟩⟩⟩
set_option maxRecDepth 20000 in
theorem qL_221 : q_Vx (6, false, .invokevirtual 120, [221, 35, 3, 1, 0, 0], []) := ⟨rfl, iX0_turnSingle, rfl, k_X0_turnSingle, rfl, rfl, Or.inl ⟨rfl, (tb_6 71 rfl rfl), (tb_5 3 rfl rfl), (tb_5 4 rfl rfl), by decide, by decide, Or.inl ⟨0, _, rfl, rfl, rfl⟩⟩⟩
set_option maxRecDepth 20000 in
theorem qL_222 : q_Vx (6, false, .invokevirtual 124, [222, 83, 5, 5, 0, 0], []) := ⟨rfl, iX5_look, rfl, k_X5_look, rfl, rfl, Or.inl ⟨rfl, (tb_6 72 rfl rfl), (tb_5 141 rfl rfl), (tb_5 142 rfl rfl), by decide, by decide, Or.inl ⟨4, _, rfl, rfl, rfl⟩⟩⟩
set_option maxRecDepth 20000 in
theorem qL_223 : q_Vx (6, false, .invokevirtual 128, [223, 84, 1, 5, 0, 0], []) := ⟨rfl, iX5_goodCount, rfl, k_X5_goodCount, rfl, rfl, Or.inl ⟨rfl, (tb_6 73 rfl rfl), (tb_5 167 rfl rfl), (tb_5 168 rfl rfl), by decide, by decide, Or.inl ⟨4, _, rfl, rfl, rfl⟩⟩⟩
set_option maxRecDepth 20000 in
theorem qL_224 : q_Vx (6, false, .getfield 34, [224, 4, 5, 0], []) := ⟨rfl, _, ⟨rfl, by decide, rfl, rfl, (tb_2 148 rfl rfl)⟩⟩
set_option maxRecDepth 20000 in
theorem qL_225 : q_Vx (6, false, .putfield 34, [225, 4, 5, 0], []) := ⟨rfl, _, ⟨rfl, by decide, rfl, rfl, (tb_2 148 rfl rfl)⟩, Or.inl rfl⟩
set_option maxRecDepth 20000 in
theorem qL_226 : q_Vx (6, false, .invokevirtual 131, [226, 18, 2, 1, 0, 0], []) := ⟨rfl, iX0_unsafeAt, rfl, k_X0_unsafeAt, rfl, rfl, Or.inl ⟨rfl, (tb_6 82 rfl rfl), (tb_5 85 rfl rfl), (tb_5 86 rfl rfl), by decide, by decide, Or.inl ⟨0, _, rfl, rfl, rfl⟩⟩⟩
set_option maxRecDepth 20000 in
theorem qL_227 : q_Vx (7, false, .invokespecial 3, [227, 0], []) := ⟨rfl, rfl, (tb_2 168 rfl rfl), (tb_1 29 rfl rfl), (tb_1 30 rfl rfl)⟩
set_option maxRecDepth 20000 in
theorem qL_228 : q_Vx (7, true, .putfield 13, [228, 5, 0, 2], []) := ⟨rfl, _, ⟨rfl, by decide, rfl, rfl, (tb_2 171 rfl rfl)⟩, Or.inr ⟨rfl, rfl, rfl⟩⟩
set_option maxRecDepth 20000 in
theorem qL_229 : q_Vx (7, true, .putfield 17, [229, 5, 1, 2], []) := ⟨rfl, _, ⟨rfl, by decide, rfl, rfl, (tb_2 172 rfl rfl)⟩, Or.inr ⟨rfl, rfl, rfl⟩⟩
set_option maxRecDepth 20000 in
theorem qL_230 : q_Vx (7, false, .putfield 20, [230, 5, 2, 3], []) := ⟨rfl, _, ⟨rfl, by decide, rfl, rfl, (tb_2 173 rfl rfl)⟩, Or.inl rfl⟩
set_option maxRecDepth 20000 in
theorem qL_231 : q_Vx (7, false, .new 24, [231, 2, 5], []) := ⟨rfl, _, rfl, rfl, (tb_2 169 rfl rfl), (tb_1 38 rfl rfl), (tb_1 3 rfl rfl)⟩
set_option maxRecDepth 20000 in
theorem qL_232 : q_Vx (7, false, .invokespecial 26, [232, 64, 1, 3, 0, 0], []) := ⟨rfl, iX3_init, rfl, k_X3_init, rfl, rfl, Or.inr (Or.inr ⟨rfl, Or.inr ⟨_, qN_8⟩, (tb_1 40 rfl rfl), rfl, rfl, by decide, by decide, 2, _, rfl, rfl⟩)⟩
set_option maxRecDepth 20000 in
theorem qL_233 : q_Vx (7, true, .putfield 27, [233, 5, 3, 2], []) := ⟨rfl, _, ⟨rfl, by decide, rfl, rfl, (tb_2 174 rfl rfl)⟩, Or.inr ⟨rfl, rfl, rfl⟩⟩
set_option maxRecDepth 20000 in
theorem qL_234 : q_Vx (7, false, .putfield 20, [234, 5, 2, 3], []) := ⟨rfl, _, ⟨rfl, by decide, rfl, rfl, (tb_2 173 rfl rfl)⟩, Or.inl rfl⟩
set_option maxRecDepth 20000 in
theorem qL_235 : q_Vx (7, false, .getfield 20, [235, 5, 2, 3], []) := ⟨rfl, _, ⟨rfl, by decide, rfl, rfl, (tb_2 173 rfl rfl)⟩⟩
set_option maxRecDepth 20000 in
theorem qL_236 : q_Vx (7, false, .invokevirtual 31, [236, 22, 1, 1, 0, 0], []) := ⟨rfl, iX0_singleCount, rfl, k_X0_singleCount, rfl, rfl, Or.inl ⟨rfl, (tb_6 9 rfl rfl), (tb_4 200 rfl rfl), (tb_4 201 rfl rfl), by decide, by decide, Or.inl ⟨0, _, rfl, rfl, rfl⟩⟩⟩
set_option maxRecDepth 20000 in
theorem qL_237 : q_Vx (7, false, .invokestatic 37, [237, 2], []) := ⟨rfl, rfl, (tb_6 10 rfl rfl), (tb_3 66 rfl rfl), (tb_1 18 rfl rfl), (tb_3 67 rfl rfl)⟩
set_option maxRecDepth 20000 in
theorem qL_238 : q_Vx (7, false, .getfield 43, [238, 0, 11, 0], []) := ⟨rfl, _, ⟨rfl, by decide, rfl, rfl, (tb_1 143 rfl rfl)⟩⟩
set_option maxRecDepth 20000 in
theorem qL_239 : q_Vx (7, false, .invokevirtual 47, [239, 21, 3, 1, 0, 0], []) := ⟨rfl, iX0_floatingAt, rfl, k_X0_floatingAt, rfl, rfl, Or.inl ⟨rfl, (tb_6 11 rfl rfl), (tb_4 100 rfl rfl), (tb_4 101 rfl rfl), by decide, by decide, Or.inl ⟨0, _, rfl, rfl, rfl⟩⟩⟩
set_option maxRecDepth 20000 in
theorem qL_240 : q_Vx (7, false, .invokestatic 72, [240, 60, 2, 0, 0, 0], []) := ⟨rfl, iX2_stepCount, rfl, k_X2_stepCount, rfl, rfl, Or.inr (Or.inl ⟨rfl, Or.inl (tb_6 16 rfl rfl), (tb_5 100 rfl rfl), by decide⟩)⟩
set_option maxRecDepth 20000 in
theorem qL_241 : q_Vx (7, false, .getfield 17, [241, 5, 1, 2], []) := ⟨rfl, _, ⟨rfl, by decide, rfl, rfl, (tb_2 172 rfl rfl)⟩⟩
set_option maxRecDepth 20000 in
theorem qL_242 : q_Vx (7, false, .invokestatic 76, [242, 62, 3, 0, 0, 0], []) := ⟨rfl, iX2_pattern, rfl, k_X2_pattern, rfl, rfl, Or.inr (Or.inl ⟨rfl, Or.inl (tb_6 17 rfl rfl), (tb_5 116 rfl rfl), by decide⟩)⟩
set_option maxRecDepth 20000 in
theorem qL_243 : q_Vx (7, false, .invokevirtual 50, [243, 100, 2, 6, 0, 0], []) := ⟨rfl, iX6_tellPatterns, rfl, k_X6_tellPatterns, rfl, rfl, Or.inl ⟨rfl, (tb_6 12 rfl rfl), (tb_6 14 rfl rfl), (tb_s 59 rfl rfl), by decide, by decide, Or.inl ⟨5, _, rfl, rfl, rfl⟩⟩⟩
set_option maxRecDepth 20000 in
theorem qL_244 : q_Vx (7, false, .getfield 27, [244, 5, 3, 2], []) := ⟨rfl, _, ⟨rfl, by decide, rfl, rfl, (tb_2 174 rfl rfl)⟩⟩
set_option maxRecDepth 20000 in
theorem qL_245 : q_Vx (7, false, .invokevirtual 54, [245, 65, 1, 3, 0, 0], []) := ⟨rfl, iX3_mendAll, rfl, k_X3_mendAll, rfl, rfl, Or.inl ⟨rfl, (tb_6 18 rfl rfl), (tb_3 76 rfl rfl), (tb_3 77 rfl rfl), by decide, by decide, Or.inl ⟨2, _, rfl, rfl, rfl⟩⟩⟩
set_option maxRecDepth 20000 in
theorem qL_246 : q_Vx (7, false, .invokevirtual 57, [246, 35, 3, 1, 0, 0], []) := ⟨rfl, iX0_turnSingle, rfl, k_X0_turnSingle, rfl, rfl, Or.inl ⟨rfl, (tb_6 19 rfl rfl), (tb_5 3 rfl rfl), (tb_5 4 rfl rfl), by decide, by decide, Or.inl ⟨0, _, rfl, rfl, rfl⟩⟩⟩
set_option maxRecDepth 20000 in
theorem qL_247 : q_Vx (7, false, .invokevirtual 61, [247, 73, 2, 3, 0, 0], []) := ⟨rfl, iX3_levels, rfl, k_X3_levels, rfl, rfl, Or.inl ⟨rfl, (tb_6 20 rfl rfl), (tb_4 63 rfl rfl), (tb_4 64 rfl rfl), by decide, by decide, Or.inl ⟨2, _, rfl, rfl, rfl⟩⟩⟩
set_option maxRecDepth 20000 in
theorem qL_248 : q_Vx (7, false, .getfield 65, [248, 2, 2, 0], []) := ⟨rfl, _, ⟨rfl, by decide, rfl, rfl, (tb_1 53 rfl rfl)⟩⟩
set_option maxRecDepth 20000 in
theorem qL_249 : q_Vx (7, false, .invokevirtual 68, [249, 19, 4, 1, 0, 0], []) := ⟨rfl, iX0_readsAt, rfl, k_X0_readsAt, rfl, rfl, Or.inl ⟨rfl, (tb_6 21 rfl rfl), (tb_4 114 rfl rfl), (tb_4 115 rfl rfl), by decide, by decide, Or.inl ⟨0, _, rfl, rfl, rfl⟩⟩⟩
set_option maxRecDepth 20000 in
theorem qL_250 : q_Vx (7, false, .getfield 13, [250, 5, 0, 2], []) := ⟨rfl, _, ⟨rfl, by decide, rfl, rfl, (tb_2 171 rfl rfl)⟩⟩
set_option maxRecDepth 20000 in
theorem qL_251 : q_Vx (7, false, .invokevirtual 80, [251, 101, 4, 6, 0, 0], []) := ⟨rfl, iX6_columnOf, rfl, k_X6_columnOf, rfl, rfl, Or.inl ⟨rfl, (tb_6 26 rfl rfl), (tb_6 27 rfl rfl), (tb_6 28 rfl rfl), by decide, by decide, Or.inl ⟨5, _, rfl, rfl, rfl⟩⟩⟩
set_option maxRecDepth 20000 in
theorem qL_252 : q_Vx (7, false, .invokevirtual 83, [252, 102, 3, 6, 0, 0], []) := ⟨rfl, iX6_readsIn, rfl, k_X6_readsIn, rfl, rfl, Or.inl ⟨rfl, (tb_6 30 rfl rfl), (tb_6 31 rfl rfl), (tb_6 32 rfl rfl), by decide, by decide, Or.inl ⟨5, _, rfl, rfl, rfl⟩⟩⟩
set_option maxRecDepth 20000 in
theorem qL_253 : q_Vx (7, false, .invokevirtual 86, [253, 103, 5, 6, 0, 0], []) := ⟨rfl, iX6_parts, rfl, k_X6_parts, rfl, rfl, Or.inl ⟨rfl, (tb_6 42 rfl rfl), (tb_6 23 rfl rfl), (tb_6 24 rfl rfl), by decide, by decide, Or.inl ⟨5, _, rfl, rfl, rfl⟩⟩⟩
set_option maxRecDepth 20000 in
theorem qL_254 : q_Vx (7, false, .invokevirtual 90, [254, 106, 5, 6, 0, 0], []) := ⟨rfl, iX6_partsFromAll, rfl, k_X6_partsFromAll, rfl, rfl, Or.inl ⟨rfl, (tb_6 47 rfl rfl), (tb_6 49 rfl rfl), (tb_s 60 rfl rfl), by decide, by decide, Or.inl ⟨5, _, rfl, rfl, rfl⟩⟩⟩
set_option maxRecDepth 20000 in
theorem qL_255 : q_Vx (7, false, .invokevirtual 93, [255, 104, 3, 6, 0, 0], []) := ⟨rfl, iX6_countFromNone, rfl, k_X6_countFromNone, rfl, rfl, Or.inl ⟨rfl, (tb_6 59 rfl rfl), (tb_6 39 rfl rfl), (tb_6 40 rfl rfl), by decide, by decide, Or.inl ⟨5, _, rfl, rfl, rfl⟩⟩⟩
set_option maxRecDepth 20000 in
theorem qL_256 : q_Vx (8, false, .invokespecial 3, [256, 0], []) := ⟨rfl, rfl, (tb_2 189 rfl rfl), (tb_1 29 rfl rfl), (tb_1 30 rfl rfl)⟩
set_option maxRecDepth 20000 in
theorem qL_257 : q_Vx (8, true, .putfield 11, [257, 6, 0, 2], []) := ⟨rfl, _, ⟨rfl, by decide, rfl, rfl, (tb_2 190 rfl rfl)⟩, Or.inr ⟨rfl, rfl, rfl⟩⟩
set_option maxRecDepth 20000 in
theorem qL_258 : q_Vx (8, true, .putfield 15, [258, 6, 1, 2], []) := ⟨rfl, _, ⟨rfl, by decide, rfl, rfl, (tb_2 191 rfl rfl)⟩, Or.inr ⟨rfl, rfl, rfl⟩⟩
set_option maxRecDepth 20000 in
theorem qL_259 : q_Vx (8, true, .putfield 18, [259, 6, 2, 2], []) := ⟨rfl, _, ⟨rfl, by decide, rfl, rfl, (tb_2 192 rfl rfl)⟩, Or.inr ⟨rfl, rfl, rfl⟩⟩
set_option maxRecDepth 20000 in
theorem qL_260 : q_Vx (8, true, .putfield 21, [260, 6, 3, 2], []) := ⟨rfl, _, ⟨rfl, by decide, rfl, rfl, (tb_2 193 rfl rfl)⟩, Or.inr ⟨rfl, rfl, rfl⟩⟩
set_option maxRecDepth 20000 in
theorem qL_261 : q_Vx (8, true, .putfield 24, [261, 6, 4, 2], []) := ⟨rfl, _, ⟨rfl, by decide, rfl, rfl, (tb_2 194 rfl rfl)⟩, Or.inr ⟨rfl, rfl, rfl⟩⟩
set_option maxRecDepth 20000 in
theorem qL_262 : q_Vx (8, true, .putfield 27, [262, 6, 5, 2], []) := ⟨rfl, _, ⟨rfl, by decide, rfl, rfl, (tb_2 195 rfl rfl)⟩, Or.inr ⟨rfl, rfl, rfl⟩⟩
set_option maxRecDepth 20000 in
theorem qL_263 : q_Vx (8, false, .putfield 30, [263, 6, 6, 0], []) := ⟨rfl, _, ⟨rfl, by decide, rfl, rfl, (tb_2 196 rfl rfl)⟩, Or.inl rfl⟩
set_option maxRecDepth 20000 in
theorem qL_264 : q_Vx (8, false, .putfield 34, [264, 6, 7, 0], []) := ⟨rfl, _, ⟨rfl, by decide, rfl, rfl, (tb_2 198 rfl rfl)⟩, Or.inl rfl⟩
set_option maxRecDepth 20000 in
theorem qL_265 : q_Vx (8, false, .putfield 30, [265, 6, 6, 0], []) := ⟨rfl, _, ⟨rfl, by decide, rfl, rfl, (tb_2 196 rfl rfl)⟩, Or.inl rfl⟩
set_option maxRecDepth 20000 in
theorem qL_266 : q_Vx (8, false, .getfield 30, [266, 6, 6, 0], []) := ⟨rfl, _, ⟨rfl, by decide, rfl, rfl, (tb_2 196 rfl rfl)⟩⟩
set_option maxRecDepth 20000 in
theorem qL_267 : q_Vx (8, false, .getfield 11, [267, 6, 0, 2], []) := ⟨rfl, _, ⟨rfl, by decide, rfl, rfl, (tb_2 190 rfl rfl)⟩⟩
set_option maxRecDepth 20000 in
theorem qL_268 : q_Vx (8, false, .getfield 15, [268, 6, 1, 2], []) := ⟨rfl, _, ⟨rfl, by decide, rfl, rfl, (tb_2 191 rfl rfl)⟩⟩
set_option maxRecDepth 20000 in
theorem qL_269 : q_Vx (8, false, .getfield 18, [269, 6, 2, 2], []) := ⟨rfl, _, ⟨rfl, by decide, rfl, rfl, (tb_2 192 rfl rfl)⟩⟩
set_option maxRecDepth 20000 in
theorem qL_270 : q_Vx (8, false, .getfield 21, [270, 6, 3, 2], []) := ⟨rfl, _, ⟨rfl, by decide, rfl, rfl, (tb_2 193 rfl rfl)⟩⟩
set_option maxRecDepth 20000 in
theorem qL_271 : q_Vx (8, false, .getfield 24, [271, 6, 4, 2], []) := ⟨rfl, _, ⟨rfl, by decide, rfl, rfl, (tb_2 194 rfl rfl)⟩⟩
set_option maxRecDepth 20000 in
theorem qL_272 : q_Vx (8, false, .getfield 27, [272, 6, 5, 2], []) := ⟨rfl, _, ⟨rfl, by decide, rfl, rfl, (tb_2 195 rfl rfl)⟩⟩
set_option maxRecDepth 20000 in
theorem qL_273 : q_Vx (8, false, .invokevirtual 37, [273, 22, 1, 1, 0, 0], []) := ⟨rfl, iX0_singleCount, rfl, k_X0_singleCount, rfl, rfl, Or.inl ⟨rfl, (tb_6 140 rfl rfl), (tb_4 200 rfl rfl), (tb_4 201 rfl rfl), by decide, by decide, Or.inl ⟨0, _, rfl, rfl, rfl⟩⟩⟩
set_option maxRecDepth 20000 in
theorem qL_274 : q_Vx (8, false, .invokevirtual 43, [274, 112, 3, 7, 0, 0], []) := ⟨rfl, iX7_countsAt, rfl, k_X7_countsAt, rfl, rfl, Or.inl ⟨rfl, (tb_6 141 rfl rfl), (tb_6 143 rfl rfl), (tb_s 61 rfl rfl), by decide, by decide, Or.inl ⟨6, _, rfl, rfl, rfl⟩⟩⟩
set_option maxRecDepth 20000 in
theorem qL_275 : q_Vx (8, false, .invokevirtual 51, [275, 101, 4, 6, 0, 0], []) := ⟨rfl, iX6_columnOf, rfl, k_X6_columnOf, rfl, rfl, Or.inl ⟨rfl, (tb_6 149 rfl rfl), (tb_6 27 rfl rfl), (tb_6 28 rfl rfl), by decide, by decide, Or.inl ⟨5, _, rfl, rfl, rfl⟩⟩⟩
set_option maxRecDepth 20000 in
theorem qL_276 : q_Vx (8, false, .invokevirtual 57, [276, 102, 3, 6, 0, 0], []) := ⟨rfl, iX6_readsIn, rfl, k_X6_readsIn, rfl, rfl, Or.inl ⟨rfl, (tb_6 150 rfl rfl), (tb_6 31 rfl rfl), (tb_6 32 rfl rfl), by decide, by decide, Or.inl ⟨5, _, rfl, rfl, rfl⟩⟩⟩
set_option maxRecDepth 20000 in
theorem qL_277 : q_Vx (8, false, .invokevirtual 47, [277, 114, 4, 7, 0, 0], []) := ⟨rfl, iX7_fittingOne, rfl, k_X7_fittingOne, rfl, rfl, Or.inl ⟨rfl, (tb_6 145 rfl rfl), (tb_6 147 rfl rfl), (tb_s 62 rfl rfl), by decide, by decide, Or.inl ⟨6, _, rfl, rfl, rfl⟩⟩⟩
set_option maxRecDepth 20000 in
theorem qL_278 : q_Vx (8, false, .invokevirtual 61, [278, 113, 4, 7, 0, 0], []) := ⟨rfl, iX7_fitting, rfl, k_X7_fitting, rfl, rfl, Or.inl ⟨rfl, (tb_6 165 rfl rfl), (tb_6 137 rfl rfl), (tb_6 138 rfl rfl), by decide, by decide, Or.inl ⟨6, _, rfl, rfl, rfl⟩⟩⟩
set_option maxRecDepth 20000 in
theorem qL_279 : q_Vx (8, false, .invokestatic 64, [279, 60, 2, 0, 0, 0], []) := ⟨rfl, iX2_stepCount, rfl, k_X2_stepCount, rfl, rfl, Or.inr (Or.inl ⟨rfl, Or.inl (tb_6 174 rfl rfl), (tb_5 100 rfl rfl), by decide⟩)⟩
set_option maxRecDepth 20000 in
theorem qL_280 : q_Vx (8, false, .invokestatic 74, [280, 3], []) := ⟨rfl, rfl, (tb_6 178 rfl rfl), (tb_3 165 rfl rfl), (tb_1 18 rfl rfl), (tb_3 166 rfl rfl)⟩
set_option maxRecDepth 20000 in
theorem qL_281 : q_Vx (8, false, .invokestatic 70, [281, 117, 4, 0, 0, 0], []) := ⟨rfl, iX7_mostAlike, rfl, k_X7_mostAlike, rfl, rfl, Or.inr (Or.inl ⟨rfl, Or.inl (tb_6 175 rfl rfl), (tb_6 176 rfl rfl), by decide⟩)⟩
set_option maxRecDepth 20000 in
theorem qL_282 : q_Vx (8, false, .getfield 34, [282, 6, 7, 0], []) := ⟨rfl, _, ⟨rfl, by decide, rfl, rfl, (tb_2 198 rfl rfl)⟩⟩
set_option maxRecDepth 20000 in
theorem qL_283 : q_Vx (8, false, .putfield 34, [283, 6, 7, 0], []) := ⟨rfl, _, ⟨rfl, by decide, rfl, rfl, (tb_2 198 rfl rfl)⟩, Or.inl rfl⟩
set_option maxRecDepth 20000 in
theorem qL_284 : q_Vx (9, false, .invokespecial 3, [284, 0], []) := ⟨rfl, rfl, (tb_2 114 rfl rfl), (tb_1 29 rfl rfl), (tb_1 30 rfl rfl)⟩
set_option maxRecDepth 20000 in
theorem qL_285 : q_Vx (9, true, .putfield 11, [285, 7, 0, 2], []) := ⟨rfl, _, ⟨rfl, by decide, rfl, rfl, (tb_2 115 rfl rfl)⟩, Or.inr ⟨rfl, rfl, rfl⟩⟩
set_option maxRecDepth 20000 in
theorem qL_286 : q_Vx (9, false, .putfield 15, [286, 7, 1, 0], []) := ⟨rfl, _, ⟨rfl, by decide, rfl, rfl, (tb_2 116 rfl rfl)⟩, Or.inl rfl⟩
set_option maxRecDepth 20000 in
theorem qL_287 : q_Vx (9, false, .putfield 19, [287, 7, 2, 0], []) := ⟨rfl, _, ⟨rfl, by decide, rfl, rfl, (tb_2 117 rfl rfl)⟩, Or.inl rfl⟩
set_option maxRecDepth 20000 in
theorem qL_288 : q_Vx (9, false, .putfield 22, [288, 7, 3, 0], []) := ⟨rfl, _, ⟨rfl, by decide, rfl, rfl, (tb_2 118 rfl rfl)⟩, Or.inl rfl⟩
set_option maxRecDepth 20000 in
theorem qL_289 : q_Vx (9, true, .putfield 25, [289, 7, 4, 2], []) := ⟨rfl, _, ⟨rfl, by decide, rfl, rfl, (tb_2 119 rfl rfl)⟩, Or.inr ⟨rfl, rfl, rfl⟩⟩
set_option maxRecDepth 20000 in
theorem qL_290 : q_Vx (9, true, .putfield 28, [290, 7, 5, 2], []) := ⟨rfl, _, ⟨rfl, by decide, rfl, rfl, (tb_2 120 rfl rfl)⟩, Or.inr ⟨rfl, rfl, rfl⟩⟩
set_option maxRecDepth 20000 in
theorem qL_291 : q_Vx (9, false, .getfield 15, [291, 7, 1, 0], []) := ⟨rfl, _, ⟨rfl, by decide, rfl, rfl, (tb_2 116 rfl rfl)⟩⟩
set_option maxRecDepth 20000 in
theorem qL_292 : q_Vx (9, false, .putfield 15, [292, 7, 1, 0], []) := ⟨rfl, _, ⟨rfl, by decide, rfl, rfl, (tb_2 116 rfl rfl)⟩, Or.inl rfl⟩
set_option maxRecDepth 20000 in
theorem qL_293 : q_Vx (9, false, .putfield 19, [293, 7, 2, 0], []) := ⟨rfl, _, ⟨rfl, by decide, rfl, rfl, (tb_2 117 rfl rfl)⟩, Or.inl rfl⟩
set_option maxRecDepth 20000 in
theorem qL_294 : q_Vx (9, false, .putfield 22, [294, 7, 3, 0], []) := ⟨rfl, _, ⟨rfl, by decide, rfl, rfl, (tb_2 118 rfl rfl)⟩, Or.inl rfl⟩
set_option maxRecDepth 20000 in
theorem qL_295 : q_Vx (9, false, .getfield 11, [295, 7, 0, 2], []) := ⟨rfl, _, ⟨rfl, by decide, rfl, rfl, (tb_2 115 rfl rfl)⟩⟩
set_option maxRecDepth 20000 in
theorem qL_296 : q_Vx (9, false, .invokevirtual 32, [296, 119, 2, 8, 0, 0], []) := ⟨rfl, iX8_rowAt, rfl, k_X8_rowAt, rfl, rfl, Or.inl ⟨rfl, (tb_2 221 rfl rfl), (tb_2 223 rfl rfl), (tb_s 0 rfl rfl), by decide, by decide, Or.inl ⟨7, _, rfl, rfl, rfl⟩⟩⟩
set_option maxRecDepth 20000 in
theorem qL_297 : q_Vx (9, false, .invokevirtual 36, [297, 57, 3, 2, 0, 0], []) := ⟨rfl, iX1_save, rfl, k_X1_save, rfl, rfl, Or.inl ⟨rfl, (tb_2 225 rfl rfl), (tb_2 226 rfl rfl), (tb_2 227 rfl rfl), by decide, by decide, Or.inl ⟨1, _, rfl, rfl, rfl⟩⟩⟩
set_option maxRecDepth 20000 in
theorem qL_298 : q_Vx (9, false, .getfield 19, [298, 7, 2, 0], []) := ⟨rfl, _, ⟨rfl, by decide, rfl, rfl, (tb_2 117 rfl rfl)⟩⟩
set_option maxRecDepth 20000 in
theorem qL_299 : q_Vx (9, false, .invokevirtual 40, [299, 58, 3, 2, 0, 0], []) := ⟨rfl, iX1_load, rfl, k_X1_load, rfl, rfl, Or.inl ⟨rfl, (tb_5 19 rfl rfl), (tb_5 20 rfl rfl), (tb_5 21 rfl rfl), by decide, by decide, Or.inl ⟨1, _, rfl, rfl, rfl⟩⟩⟩
set_option maxRecDepth 20000 in
theorem qL_300 : q_Vx (9, false, .getfield 22, [300, 7, 3, 0], []) := ⟨rfl, _, ⟨rfl, by decide, rfl, rfl, (tb_2 118 rfl rfl)⟩⟩
set_option maxRecDepth 20000 in
theorem qL_301 : q_Vx (9, false, .getfield 28, [301, 7, 5, 2], []) := ⟨rfl, _, ⟨rfl, by decide, rfl, rfl, (tb_2 120 rfl rfl)⟩⟩
set_option maxRecDepth 20000 in
theorem qL_302 : q_Vx (9, false, .getfield 25, [302, 7, 4, 2], []) := ⟨rfl, _, ⟨rfl, by decide, rfl, rfl, (tb_2 119 rfl rfl)⟩⟩
set_option maxRecDepth 20000 in
theorem qL_303 : q_Vx (10, false, .invokespecial 3, [303, 0], []) := ⟨rfl, rfl, (tb_1 197 rfl rfl), (tb_1 29 rfl rfl), (tb_1 30 rfl rfl)⟩
set_option maxRecDepth 20000 in
theorem qL_304 : q_Vx (10, true, .putfield 11, [304, 8, 0, 2], []) := ⟨rfl, _, ⟨rfl, by decide, rfl, rfl, (tb_2 8 rfl rfl)⟩, Or.inr ⟨rfl, rfl, rfl⟩⟩
set_option maxRecDepth 20000 in
theorem qL_305 : q_Vx (10, false, .putfield 15, [305, 8, 1, 2], []) := ⟨rfl, _, ⟨rfl, by decide, rfl, rfl, (tb_2 9 rfl rfl)⟩, Or.inl rfl⟩
set_option maxRecDepth 20000 in
theorem qL_306 : q_Vx (10, false, .putfield 19, [306, 8, 2, 0], []) := ⟨rfl, _, ⟨rfl, by decide, rfl, rfl, (tb_2 10 rfl rfl)⟩, Or.inl rfl⟩
set_option maxRecDepth 20000 in
theorem qL_307 : q_Vx (10, false, .putfield 23, [307, 8, 3, 0], []) := ⟨rfl, _, ⟨rfl, by decide, rfl, rfl, (tb_2 11 rfl rfl)⟩, Or.inl rfl⟩
set_option maxRecDepth 20000 in
theorem qL_308 : q_Vx (10, false, .putfield 26, [308, 8, 4, 0], []) := ⟨rfl, _, ⟨rfl, by decide, rfl, rfl, (tb_2 12 rfl rfl)⟩, Or.inl rfl⟩
set_option maxRecDepth 20000 in
theorem qL_309 : q_Vx (10, false, .putfield 29, [309, 8, 5, 0], []) := ⟨rfl, _, ⟨rfl, by decide, rfl, rfl, (tb_2 13 rfl rfl)⟩, Or.inl rfl⟩
set_option maxRecDepth 20000 in
theorem qL_310 : q_Vx (10, false, .putfield 32, [310, 8, 6, 0], []) := ⟨rfl, _, ⟨rfl, by decide, rfl, rfl, (tb_2 14 rfl rfl)⟩, Or.inl rfl⟩
set_option maxRecDepth 20000 in
theorem qL_311 : q_Vx (10, false, .putfield 35, [311, 8, 7, 1], []) := ⟨rfl, _, ⟨rfl, by decide, rfl, rfl, (tb_2 15 rfl rfl)⟩, Or.inl rfl⟩
set_option maxRecDepth 20000 in
theorem qL_312 : q_Vx (10, false, .putfield 39, [312, 8, 9, 3], []) := ⟨rfl, _, ⟨rfl, by decide, rfl, rfl, (tb_2 17 rfl rfl)⟩, Or.inl rfl⟩
set_option maxRecDepth 20000 in
theorem qL_313 : q_Vx (10, false, .putfield 43, [313, 8, 10, 3], []) := ⟨rfl, _, ⟨rfl, by decide, rfl, rfl, (tb_2 18 rfl rfl)⟩, Or.inl rfl⟩
set_option maxRecDepth 20000 in
theorem qL_314 : q_Vx (10, false, .putfield 46, [314, 8, 11, 3], []) := ⟨rfl, _, ⟨rfl, by decide, rfl, rfl, (tb_2 19 rfl rfl)⟩, Or.inl rfl⟩
set_option maxRecDepth 20000 in
theorem qL_315 : q_Vx (10, false, .putfield 49, [315, 8, 12, 0], []) := ⟨rfl, _, ⟨rfl, by decide, rfl, rfl, (tb_2 20 rfl rfl)⟩, Or.inl rfl⟩
set_option maxRecDepth 20000 in
theorem qL_316 : q_Vx (10, false, .putfield 52, [316, 8, 13, 0], []) := ⟨rfl, _, ⟨rfl, by decide, rfl, rfl, (tb_2 21 rfl rfl)⟩, Or.inl rfl⟩
set_option maxRecDepth 20000 in
theorem qL_317 : q_Vx (10, false, .putfield 55, [317, 8, 8, 2], []) := ⟨rfl, _, ⟨rfl, by decide, rfl, rfl, (tb_2 16 rfl rfl)⟩, Or.inl rfl⟩
set_option maxRecDepth 20000 in
theorem qL_318 : q_Vx (10, false, .ldc 59, [318], [.ref 1010]) := ⟨rfl, Or.inr ⟨rfl, rfl, rfl⟩⟩
set_option maxRecDepth 20000 in
theorem qL_319 : q_Vx (10, false, .invokevirtual 61, [319, 4, 1, 40, 0, 0], []) := ⟨rfl, iT4, rfl, k_T4, rfl, rfl, Or.inl ⟨rfl, (tb_1 199 rfl rfl), (tb_1 200 rfl rfl), (tb_1 201 rfl rfl), by decide, by decide, Or.inr ⟨rfl, rfl⟩⟩⟩
set_option maxRecDepth 20000 in
theorem qL_320 : q_Vx (10, false, .invokevirtual 66, [320, 5, 2, 40, 0, 0], []) := ⟨rfl, iT5, rfl, k_T5, rfl, rfl, Or.inl ⟨rfl, (tb_1 209 rfl rfl), (tb_1 210 rfl rfl), (tb_1 211 rfl rfl), by decide, by decide, Or.inr ⟨rfl, rfl⟩⟩⟩
set_option maxRecDepth 20000 in
theorem qL_321 : q_Vx (10, false, .getfield 11, [321, 8, 0, 2], []) := ⟨rfl, _, ⟨rfl, by decide, rfl, rfl, (tb_2 8 rfl rfl)⟩⟩
set_option maxRecDepth 20000 in
theorem qL_322 : q_Vx (10, false, .ldc2_w 70, [322], [.long 32]) := ⟨rfl, _, rfl, (tb_2 7 rfl rfl)⟩
set_option maxRecDepth 20000 in
theorem qL_323 : q_Vx (10, false, .putfield 15, [323, 8, 1, 2], []) := ⟨rfl, _, ⟨rfl, by decide, rfl, rfl, (tb_2 9 rfl rfl)⟩, Or.inl rfl⟩
set_option maxRecDepth 20000 in
theorem qL_324 : q_Vx (10, false, .invokestatic 72, [324, 2], []) := ⟨rfl, rfl, (tb_3 65 rfl rfl), (tb_3 66 rfl rfl), (tb_1 18 rfl rfl), (tb_3 67 rfl rfl)⟩
set_option maxRecDepth 20000 in
theorem qL_325 : q_Vx (10, false, .putfield 19, [325, 8, 2, 0], []) := ⟨rfl, _, ⟨rfl, by decide, rfl, rfl, (tb_2 10 rfl rfl)⟩, Or.inl rfl⟩
set_option maxRecDepth 20000 in
theorem qL_326 : q_Vx (10, false, .putfield 55, [326, 8, 8, 2], []) := ⟨rfl, _, ⟨rfl, by decide, rfl, rfl, (tb_2 16 rfl rfl)⟩, Or.inl rfl⟩
set_option maxRecDepth 20000 in
theorem qL_327 : q_Vx (10, false, .getfield 55, [327, 8, 8, 2], []) := ⟨rfl, _, ⟨rfl, by decide, rfl, rfl, (tb_2 16 rfl rfl)⟩⟩
set_option maxRecDepth 20000 in
theorem qL_328 : q_Vx (10, false, .invokevirtual 78, [328, 11, 1, 1, 0, 0], []) := ⟨rfl, iX0_clear, rfl, k_X0_clear, rfl, rfl, Or.inl ⟨rfl, (tb_3 68 rfl rfl), (tb_3 69 rfl rfl), (tb_3 70 rfl rfl), by decide, by decide, Or.inl ⟨0, _, rfl, rfl, rfl⟩⟩⟩
set_option maxRecDepth 20000 in
theorem qL_329 : q_Vx (10, false, .putfield 23, [329, 8, 3, 0], []) := ⟨rfl, _, ⟨rfl, by decide, rfl, rfl, (tb_2 11 rfl rfl)⟩, Or.inl rfl⟩
set_option maxRecDepth 20000 in
theorem qL_330 : q_Vx (10, false, .putfield 39, [330, 8, 9, 3], []) := ⟨rfl, _, ⟨rfl, by decide, rfl, rfl, (tb_2 17 rfl rfl)⟩, Or.inl rfl⟩
set_option maxRecDepth 20000 in
theorem qL_331 : q_Vx (10, false, .putfield 43, [331, 8, 10, 3], []) := ⟨rfl, _, ⟨rfl, by decide, rfl, rfl, (tb_2 18 rfl rfl)⟩, Or.inl rfl⟩
set_option maxRecDepth 20000 in
theorem qL_332 : q_Vx (10, false, .putfield 46, [332, 8, 11, 3], []) := ⟨rfl, _, ⟨rfl, by decide, rfl, rfl, (tb_2 19 rfl rfl)⟩, Or.inl rfl⟩
set_option maxRecDepth 20000 in
theorem qL_333 : q_Vx (10, false, .putfield 49, [333, 8, 12, 0], []) := ⟨rfl, _, ⟨rfl, by decide, rfl, rfl, (tb_2 20 rfl rfl)⟩, Or.inl rfl⟩
set_option maxRecDepth 20000 in
theorem qL_334 : q_Vx (10, false, .putfield 52, [334, 8, 13, 0], []) := ⟨rfl, _, ⟨rfl, by decide, rfl, rfl, (tb_2 21 rfl rfl)⟩, Or.inl rfl⟩
set_option maxRecDepth 20000 in
theorem qL_335 : q_Vx (10, false, .getfield 23, [335, 8, 3, 0], []) := ⟨rfl, _, ⟨rfl, by decide, rfl, rfl, (tb_2 11 rfl rfl)⟩⟩
set_option maxRecDepth 20000 in
theorem qL_336 : q_Vx (10, false, .getfield 19, [336, 8, 2, 0], []) := ⟨rfl, _, ⟨rfl, by decide, rfl, rfl, (tb_2 10 rfl rfl)⟩⟩
set_option maxRecDepth 20000 in
theorem qL_337 : q_Vx (10, false, .getfield 15, [337, 8, 1, 2], []) := ⟨rfl, _, ⟨rfl, by decide, rfl, rfl, (tb_2 9 rfl rfl)⟩⟩
set_option maxRecDepth 20000 in
theorem qL_338 : q_Vx (10, false, .putfield 26, [338, 8, 4, 0], []) := ⟨rfl, _, ⟨rfl, by decide, rfl, rfl, (tb_2 12 rfl rfl)⟩, Or.inl rfl⟩
set_option maxRecDepth 20000 in
theorem qL_339 : q_Vx (10, false, .getfield 26, [339, 8, 4, 0], []) := ⟨rfl, _, ⟨rfl, by decide, rfl, rfl, (tb_2 12 rfl rfl)⟩⟩
set_option maxRecDepth 20000 in
theorem qL_340 : q_Vx (10, false, .putfield 29, [340, 8, 5, 0], []) := ⟨rfl, _, ⟨rfl, by decide, rfl, rfl, (tb_2 13 rfl rfl)⟩, Or.inl rfl⟩
set_option maxRecDepth 20000 in
theorem qL_341 : q_Vx (10, false, .putfield 35, [341, 8, 7, 1], []) := ⟨rfl, _, ⟨rfl, by decide, rfl, rfl, (tb_2 15 rfl rfl)⟩, Or.inl rfl⟩
set_option maxRecDepth 20000 in
theorem qL_342 : q_Vx (10, false, .getfield 35, [342, 8, 7, 1], []) := ⟨rfl, _, ⟨rfl, by decide, rfl, rfl, (tb_2 15 rfl rfl)⟩⟩
set_option maxRecDepth 20000 in
theorem qL_343 : q_Vx (10, false, .getfield 29, [343, 8, 5, 0], []) := ⟨rfl, _, ⟨rfl, by decide, rfl, rfl, (tb_2 13 rfl rfl)⟩⟩
set_option maxRecDepth 20000 in
theorem qL_344 : q_Vx (10, false, .getfield 11, [344, 8, 0, 2], []) := ⟨rfl, _, ⟨rfl, by decide, rfl, rfl, (tb_2 8 rfl rfl)⟩⟩
set_option maxRecDepth 20000 in
theorem qL_345 : q_Vx (10, false, .putfield 32, [345, 8, 6, 0], []) := ⟨rfl, _, ⟨rfl, by decide, rfl, rfl, (tb_2 14 rfl rfl)⟩, Or.inl rfl⟩
set_option maxRecDepth 20000 in
theorem qL_346 : q_Vx (10, false, .invokevirtual 90, [346, 134, 1, 9, 0, 0], []) := ⟨rfl, iX9_takeWord, rfl, k_X9_takeWord, rfl, rfl, Or.inl ⟨rfl, (tb_3 87 rfl rfl), (tb_3 89 rfl rfl), (tb_s 3 rfl rfl), by decide, by decide, Or.inl ⟨8, _, rfl, rfl, rfl⟩⟩⟩
set_option maxRecDepth 20000 in
theorem qL_347 : q_Vx (10, false, .getfield 32, [347, 8, 6, 0], []) := ⟨rfl, _, ⟨rfl, by decide, rfl, rfl, (tb_2 14 rfl rfl)⟩⟩
set_option maxRecDepth 20000 in
theorem qL_348 : q_Vx (10, false, .invokevirtual 93, [348, 135, 1, 9, 0, 0], []) := ⟨rfl, iX9_takeNumber, rfl, k_X9_takeNumber, rfl, rfl, Or.inl ⟨rfl, (tb_3 91 rfl rfl), (tb_3 93 rfl rfl), (tb_s 4 rfl rfl), by decide, by decide, Or.inl ⟨8, _, rfl, rfl, rfl⟩⟩⟩
set_option maxRecDepth 20000 in
theorem qL_349 : q_Vx (10, false, .invokestatic 96, [349, 132, 1, 0, 0, 0], []) := ⟨rfl, iX9_isSignByte, rfl, k_X9_isSignByte, rfl, rfl, Or.inr (Or.inl ⟨rfl, Or.inl (tb_3 95 rfl rfl), (tb_3 96 rfl rfl), by decide⟩)⟩
set_option maxRecDepth 20000 in
theorem qL_350 : q_Vx (10, false, .invokevirtual 83, [350, 133, 1, 9, 0, 0], []) := ⟨rfl, iX9_advance, rfl, k_X9_advance, rfl, rfl, Or.inl ⟨rfl, (tb_3 83 rfl rfl), (tb_3 85 rfl rfl), (tb_s 2 rfl rfl), by decide, by decide, Or.inl ⟨8, _, rfl, rfl, rfl⟩⟩⟩
set_option maxRecDepth 20000 in
theorem qL_351 : q_Vx (10, false, .invokevirtual 103, [351, 131, 2, 9, 0, 0], []) := ⟨rfl, iX9_refuse, rfl, k_X9_refuse, rfl, rfl, Or.inl ⟨rfl, (tb_3 102 rfl rfl), (tb_3 104 rfl rfl), (tb_s 6 rfl rfl), by decide, by decide, Or.inl ⟨8, _, rfl, rfl, rfl⟩⟩⟩
set_option maxRecDepth 20000 in
theorem qL_352 : q_Vx (10, false, .getfield 140, [352, 0, 0, 0], []) := ⟨rfl, _, ⟨rfl, by decide, rfl, rfl, (tb_1 102 rfl rfl)⟩⟩
set_option maxRecDepth 20000 in
theorem qL_353 : q_Vx (10, false, .getfield 143, [353, 0, 1, 2], []) := ⟨rfl, _, ⟨rfl, by decide, rfl, rfl, (tb_1 104 rfl rfl)⟩⟩
set_option maxRecDepth 20000 in
theorem qL_354 : q_Vx (10, false, .invokestatic 136, [354, 142, 3, 0, 0, 0], []) := ⟨rfl, iX9_indexOf, rfl, k_X9_indexOf, rfl, rfl, Or.inr (Or.inl ⟨rfl, Or.inl (tb_3 114 rfl rfl), (tb_3 115 rfl rfl), by decide⟩)⟩
set_option maxRecDepth 20000 in
theorem qL_355 : q_Vx (10, false, .invokevirtual 146, [355, 143, 3, 9, 0, 0], []) := ⟨rfl, iX9_atNewName, rfl, k_X9_atNewName, rfl, rfl, Or.inl ⟨rfl, (tb_3 110 rfl rfl), (tb_3 112 rfl rfl), (tb_s 8 rfl rfl), by decide, by decide, Or.inl ⟨8, _, rfl, rfl, rfl⟩⟩⟩
set_option maxRecDepth 20000 in
theorem qL_356 : q_Vx (10, false, .getfield 150, [356, 0, 3, 2], []) := ⟨rfl, _, ⟨rfl, by decide, rfl, rfl, (tb_1 112 rfl rfl)⟩⟩
set_option maxRecDepth 20000 in
theorem qL_357 : q_Vx (10, false, .invokevirtual 100, [357, 136, 2, 9, 0, 0], []) := ⟨rfl, iX9_atKey, rfl, k_X9_atKey, rfl, rfl, Or.inl ⟨rfl, (tb_3 121 rfl rfl), (tb_3 123 rfl rfl), (tb_s 10 rfl rfl), by decide, by decide, Or.inl ⟨8, _, rfl, rfl, rfl⟩⟩⟩
set_option maxRecDepth 20000 in
theorem qL_358 : q_Vx (10, false, .invokevirtual 154, [358, 138, 2, 9, 0, 0], []) := ⟨rfl, iX9_takeKey, rfl, k_X9_takeKey, rfl, rfl, Or.inl ⟨rfl, (tb_3 117 rfl rfl), (tb_3 119 rfl rfl), (tb_s 9 rfl rfl), by decide, by decide, Or.inl ⟨8, _, rfl, rfl, rfl⟩⟩⟩
set_option maxRecDepth 20000 in
theorem qL_359 : q_Vx (10, false, .invokevirtual 157, [359, 140, 3, 9, 0, 0], []) := ⟨rfl, iX9_atNumber, rfl, k_X9_atNumber, rfl, rfl, Or.inl ⟨rfl, (tb_3 125 rfl rfl), (tb_3 127 rfl rfl), (tb_s 11 rfl rfl), by decide, by decide, Or.inl ⟨8, _, rfl, rfl, rfl⟩⟩⟩
set_option maxRecDepth 20000 in
theorem qL_360 : q_Vx (10, false, .getfield 161, [360, 0, 2, 2], []) := ⟨rfl, _, ⟨rfl, by decide, rfl, rfl, (tb_1 108 rfl rfl)⟩⟩
set_option maxRecDepth 20000 in
theorem qL_361 : q_Vx (10, false, .getfield 164, [361, 0, 4, 2], []) := ⟨rfl, _, ⟨rfl, by decide, rfl, rfl, (tb_1 116 rfl rfl)⟩⟩
set_option maxRecDepth 20000 in
theorem qL_362 : q_Vx (10, false, .putfield 140, [362, 0, 0, 0], []) := ⟨rfl, _, ⟨rfl, by decide, rfl, rfl, (tb_1 102 rfl rfl)⟩, Or.inl rfl⟩
set_option maxRecDepth 20000 in
theorem qL_363 : q_Vx (10, false, .invokevirtual 109, [363, 145, 1, 9, 0, 0], []) := ⟨rfl, iX9_deviceLine, rfl, k_X9_deviceLine, rfl, rfl, Or.inl ⟨rfl, (tb_3 106 rfl rfl), (tb_3 108 rfl rfl), (tb_s 7 rfl rfl), by decide, by decide, Or.inl ⟨8, _, rfl, rfl, rfl⟩⟩⟩
set_option maxRecDepth 20000 in
theorem qL_364 : q_Vx (10, false, .invokevirtual 106, [364, 137, 2, 9, 0, 0], []) := ⟨rfl, iX9_atSign, rfl, k_X9_atSign, rfl, rfl, Or.inl ⟨rfl, (tb_3 133 rfl rfl), (tb_3 135 rfl rfl), (tb_s 13 rfl rfl), by decide, by decide, Or.inl ⟨8, _, rfl, rfl, rfl⟩⟩⟩
set_option maxRecDepth 20000 in
theorem qL_365 : q_Vx (10, false, .invokevirtual 112, [365, 139, 2, 9, 0, 0], []) := ⟨rfl, iX9_takeSign, rfl, k_X9_takeSign, rfl, rfl, Or.inl ⟨rfl, (tb_3 129 rfl rfl), (tb_3 131 rfl rfl), (tb_s 12 rfl rfl), by decide, by decide, Or.inl ⟨8, _, rfl, rfl, rfl⟩⟩⟩
set_option maxRecDepth 20000 in
theorem qL_366 : q_Vx (10, false, .getfield 167, [366, 0, 5, 0], []) := ⟨rfl, _, ⟨rfl, by decide, rfl, rfl, (tb_1 121 rfl rfl)⟩⟩
set_option maxRecDepth 20000 in
theorem qL_367 : q_Vx (10, false, .getfield 170, [367, 0, 6, 2], []) := ⟨rfl, _, ⟨rfl, by decide, rfl, rfl, (tb_1 124 rfl rfl)⟩⟩
set_option maxRecDepth 20000 in
theorem qL_368 : q_Vx (10, false, .getfield 173, [368, 0, 7, 2], []) := ⟨rfl, _, ⟨rfl, by decide, rfl, rfl, (tb_1 128 rfl rfl)⟩⟩
set_option maxRecDepth 20000 in
theorem qL_369 : q_Vx (10, false, .invokevirtual 189, [369, 144, 3, 9, 0, 0], []) := ⟨rfl, iX9_atOldName, rfl, k_X9_atOldName, rfl, rfl, Or.inl ⟨rfl, (tb_3 149 rfl rfl), (tb_3 151 rfl rfl), (tb_s 17 rfl rfl), by decide, by decide, Or.inl ⟨8, _, rfl, rfl, rfl⟩⟩⟩
set_option maxRecDepth 20000 in
theorem qL_370 : q_Vx (10, false, .invokestatic 193, [370, 178, 2, 0, 0, 0], []) := ⟨rfl, iX11_placeOf, rfl, k_X11_placeOf, rfl, rfl, Or.inr (Or.inl ⟨rfl, Or.inr ⟨_, qN_9⟩, (tb_3 154 rfl rfl), by decide⟩)⟩
set_option maxRecDepth 20000 in
theorem qL_371 : q_Vx (10, false, .invokevirtual 196, [371, 147, 1, 9, 0, 0], []) := ⟨rfl, iX9_atCell, rfl, k_X9_atCell, rfl, rfl, Or.inl ⟨rfl, (tb_3 145 rfl rfl), (tb_3 147 rfl rfl), (tb_s 16 rfl rfl), by decide, by decide, Or.inl ⟨8, _, rfl, rfl, rfl⟩⟩⟩
set_option maxRecDepth 20000 in
theorem qL_372 : q_Vx (10, false, .getfield 199, [372, 0, 10, 2], []) := ⟨rfl, _, ⟨rfl, by decide, rfl, rfl, (tb_1 140 rfl rfl)⟩⟩
set_option maxRecDepth 20000 in
theorem qL_373 : q_Vx (10, false, .invokevirtual 176, [373, 148, 3, 9, 0, 0], []) := ⟨rfl, iX9_cellOfNet, rfl, k_X9_cellOfNet, rfl, rfl, Or.inl ⟨rfl, (tb_3 141 rfl rfl), (tb_3 143 rfl rfl), (tb_s 15 rfl rfl), by decide, by decide, Or.inl ⟨8, _, rfl, rfl, rfl⟩⟩⟩
set_option maxRecDepth 20000 in
theorem qL_374 : q_Vx (10, false, .getfield 180, [374, 0, 8, 2], []) := ⟨rfl, _, ⟨rfl, by decide, rfl, rfl, (tb_1 132 rfl rfl)⟩⟩
set_option maxRecDepth 20000 in
theorem qL_375 : q_Vx (10, false, .getfield 183, [375, 0, 11, 0], []) := ⟨rfl, _, ⟨rfl, by decide, rfl, rfl, (tb_1 145 rfl rfl)⟩⟩
set_option maxRecDepth 20000 in
theorem qL_376 : q_Vx (10, false, .putfield 183, [376, 0, 11, 0], []) := ⟨rfl, _, ⟨rfl, by decide, rfl, rfl, (tb_1 145 rfl rfl)⟩, Or.inl rfl⟩
set_option maxRecDepth 20000 in
theorem qL_377 : q_Vx (10, false, .putfield 167, [377, 0, 5, 0], []) := ⟨rfl, _, ⟨rfl, by decide, rfl, rfl, (tb_1 121 rfl rfl)⟩, Or.inl rfl⟩
set_option maxRecDepth 20000 in
theorem qL_378 : q_Vx (10, false, .getfield 186, [378, 0, 9, 2], []) := ⟨rfl, _, ⟨rfl, by decide, rfl, rfl, (tb_1 136 rfl rfl)⟩⟩
set_option maxRecDepth 20000 in
theorem qL_379 : q_Vx (10, false, .invokevirtual 115, [379, 146, 1, 9, 0, 0], []) := ⟨rfl, iX9_netLine, rfl, k_X9_netLine, rfl, rfl, Or.inl ⟨rfl, (tb_3 137 rfl rfl), (tb_3 139 rfl rfl), (tb_s 14 rfl rfl), by decide, by decide, Or.inl ⟨8, _, rfl, rfl, rfl⟩⟩⟩
set_option maxRecDepth 20000 in
theorem qL_380 : q_Vx (10, false, .invokestatic 202, [380, 68, 2, 0, 0, 0], []) := ⟨rfl, iX3_pairOf, rfl, k_X3_pairOf, rfl, rfl, Or.inr (Or.inl ⟨rfl, Or.inl (tb_3 160 rfl rfl), (tb_3 161 rfl rfl), by decide⟩)⟩
set_option maxRecDepth 20000 in
theorem qL_381 : q_Vx (10, false, .getfield 207, [381, 0, 12, 2], []) := ⟨rfl, _, ⟨rfl, by decide, rfl, rfl, (tb_1 148 rfl rfl)⟩⟩
set_option maxRecDepth 20000 in
theorem qL_382 : q_Vx (10, false, .getfield 211, [382, 2, 3, 0], []) := ⟨rfl, _, ⟨rfl, by decide, rfl, rfl, (tb_1 59 rfl rfl)⟩⟩
set_option maxRecDepth 20000 in
theorem qL_383 : q_Vx (10, false, .getfield 214, [383, 2, 4, 0], []) := ⟨rfl, _, ⟨rfl, by decide, rfl, rfl, (tb_1 62 rfl rfl)⟩⟩
set_option maxRecDepth 20000 in
theorem qL_384 : q_Vx (10, false, .putfield 211, [384, 2, 3, 0], []) := ⟨rfl, _, ⟨rfl, by decide, rfl, rfl, (tb_1 59 rfl rfl)⟩, Or.inl rfl⟩
set_option maxRecDepth 20000 in
theorem qL_385 : q_Vx (10, false, .putfield 214, [385, 2, 4, 0], []) := ⟨rfl, _, ⟨rfl, by decide, rfl, rfl, (tb_1 62 rfl rfl)⟩, Or.inl rfl⟩
set_option maxRecDepth 20000 in
theorem qL_386 : q_Vx (10, false, .invokevirtual 118, [386, 149, 1, 9, 0, 0], []) := ⟨rfl, iX9_shortLine, rfl, k_X9_shortLine, rfl, rfl, Or.inl ⟨rfl, (tb_3 156 rfl rfl), (tb_3 158 rfl rfl), (tb_s 18 rfl rfl), by decide, by decide, Or.inl ⟨8, _, rfl, rfl, rfl⟩⟩⟩
set_option maxRecDepth 20000 in
theorem qL_387 : q_Vx (10, false, .getfield 217, [387, 2, 2, 0], []) := ⟨rfl, _, ⟨rfl, by decide, rfl, rfl, (tb_1 56 rfl rfl)⟩⟩
set_option maxRecDepth 20000 in
theorem qL_388 : q_Vx (10, false, .invokevirtual 220, [388, 16, 2, 1, 0, 0], []) := ⟨rfl, iX0_isReceiver, rfl, k_X0_isReceiver, rfl, rfl, Or.inl ⟨rfl, (tb_3 175 rfl rfl), (tb_3 176 rfl rfl), (tb_3 177 rfl rfl), by decide, by decide, Or.inl ⟨0, _, rfl, rfl, rfl⟩⟩⟩
set_option maxRecDepth 20000 in
theorem qL_389 : q_Vx (10, false, .putfield 217, [389, 2, 2, 0], []) := ⟨rfl, _, ⟨rfl, by decide, rfl, rfl, (tb_1 56 rfl rfl)⟩, Or.inl rfl⟩
set_option maxRecDepth 20000 in
theorem qL_390 : q_Vx (10, false, .invokevirtual 121, [390, 150, 1, 9, 0, 0], []) := ⟨rfl, iX9_openLine, rfl, k_X9_openLine, rfl, rfl, Or.inl ⟨rfl, (tb_3 171 rfl rfl), (tb_3 173 rfl rfl), (tb_s 19 rfl rfl), by decide, by decide, Or.inl ⟨8, _, rfl, rfl, rfl⟩⟩⟩
set_option maxRecDepth 20000 in
theorem qL_391 : q_Vx (10, false, .getfield 223, [391, 2, 0, 0], []) := ⟨rfl, _, ⟨rfl, by decide, rfl, rfl, (tb_1 45 rfl rfl)⟩⟩
set_option maxRecDepth 20000 in
theorem qL_392 : q_Vx (10, false, .putfield 223, [392, 2, 0, 0], []) := ⟨rfl, _, ⟨rfl, by decide, rfl, rfl, (tb_1 45 rfl rfl)⟩, Or.inl rfl⟩
set_option maxRecDepth 20000 in
theorem qL_393 : q_Vx (10, false, .getfield 226, [393, 2, 1, 0], []) := ⟨rfl, _, ⟨rfl, by decide, rfl, rfl, (tb_1 49 rfl rfl)⟩⟩
set_option maxRecDepth 20000 in
theorem qL_394 : q_Vx (10, false, .putfield 226, [394, 2, 1, 0], []) := ⟨rfl, _, ⟨rfl, by decide, rfl, rfl, (tb_1 49 rfl rfl)⟩, Or.inl rfl⟩
set_option maxRecDepth 20000 in
theorem qL_395 : q_Vx (10, false, .invokevirtual 124, [395, 151, 1, 9, 0, 0], []) := ⟨rfl, iX9_stuckLine, rfl, k_X9_stuckLine, rfl, rfl, Or.inl ⟨rfl, (tb_3 179 rfl rfl), (tb_3 181 rfl rfl), (tb_s 20 rfl rfl), by decide, by decide, Or.inl ⟨8, _, rfl, rfl, rfl⟩⟩⟩
set_option maxRecDepth 20000 in
theorem qL_396 : q_Vx (10, false, .getfield 39, [396, 8, 9, 3], []) := ⟨rfl, _, ⟨rfl, by decide, rfl, rfl, (tb_2 17 rfl rfl)⟩⟩
set_option maxRecDepth 20000 in
theorem qL_397 : q_Vx (10, false, .getfield 241, [397, 0, 13, 2], []) := ⟨rfl, _, ⟨rfl, by decide, rfl, rfl, (tb_1 150 rfl rfl)⟩⟩
set_option maxRecDepth 20000 in
theorem qL_398 : q_Vx (10, false, .getfield 266, [398, 3, 3, 0], []) := ⟨rfl, _, ⟨rfl, by decide, rfl, rfl, (tb_1 88 rfl rfl)⟩⟩
set_option maxRecDepth 20000 in
theorem qL_399 : q_Vx (10, false, .putfield 266, [399, 3, 3, 0], []) := ⟨rfl, _, ⟨rfl, by decide, rfl, rfl, (tb_1 88 rfl rfl)⟩, Or.inl rfl⟩
set_option maxRecDepth 20000 in
theorem qL_400 : q_Vx (10, false, .invokevirtual 235, [400, 155, 2, 9, 0, 0], []) := ⟨rfl, iX9_either, rfl, k_X9_either, rfl, rfl, Or.inl ⟨rfl, (tb_3 187 rfl rfl), (tb_3 189 rfl rfl), (tb_s 22 rfl rfl), by decide, by decide, Or.inl ⟨8, _, rfl, rfl, rfl⟩⟩⟩
set_option maxRecDepth 20000 in
theorem qL_401 : q_Vx (10, false, .invokevirtual 247, [401, 78, 2, 4, 0, 0], []) := ⟨rfl, iX4_put, rfl, k_X4_put, rfl, rfl, Or.inl ⟨rfl, (tb_3 215 rfl rfl), (tb_3 216 rfl rfl), (tb_3 217 rfl rfl), by decide, by decide, Or.inl ⟨3, _, rfl, rfl, rfl⟩⟩⟩
set_option maxRecDepth 20000 in
theorem qL_402 : q_Vx (10, false, .invokevirtual 263, [402, 161, 2, 9, 0, 0], []) := ⟨rfl, iX9_unit, rfl, k_X9_unit, rfl, rfl, Or.inl ⟨rfl, (tb_3 211 rfl rfl), (tb_3 213 rfl rfl), (tb_s 28 rfl rfl), by decide, by decide, Or.inl ⟨8, _, rfl, rfl, rfl⟩⟩⟩
set_option maxRecDepth 20000 in
theorem qL_403 : q_Vx (10, false, .invokevirtual 260, [403, 160, 2, 9, 0, 0], []) := ⟨rfl, iX9_term, rfl, k_X9_term, rfl, rfl, Or.inl ⟨rfl, (tb_3 207 rfl rfl), (tb_3 209 rfl rfl), (tb_s 27 rfl rfl), by decide, by decide, Or.inl ⟨8, _, rfl, rfl, rfl⟩⟩⟩
set_option maxRecDepth 20000 in
theorem qL_404 : q_Vx (10, false, .invokevirtual 257, [404, 159, 2, 9, 0, 0], []) := ⟨rfl, iX9_sum, rfl, k_X9_sum, rfl, rfl, Or.inl ⟨rfl, (tb_3 203 rfl rfl), (tb_3 205 rfl rfl), (tb_s 26 rfl rfl), by decide, by decide, Or.inl ⟨8, _, rfl, rfl, rfl⟩⟩⟩
set_option maxRecDepth 20000 in
theorem qL_405 : q_Vx (10, false, .invokevirtual 254, [405, 158, 2, 9, 0, 0], []) := ⟨rfl, iX9_relation, rfl, k_X9_relation, rfl, rfl, Or.inl ⟨rfl, (tb_3 199 rfl rfl), (tb_3 201 rfl rfl), (tb_s 25 rfl rfl), by decide, by decide, Or.inl ⟨8, _, rfl, rfl, rfl⟩⟩⟩
set_option maxRecDepth 20000 in
theorem qL_406 : q_Vx (10, false, .invokevirtual 251, [406, 157, 2, 9, 0, 0], []) := ⟨rfl, iX9_one, rfl, k_X9_one, rfl, rfl, Or.inl ⟨rfl, (tb_3 195 rfl rfl), (tb_3 197 rfl rfl), (tb_s 24 rfl rfl), by decide, by decide, Or.inl ⟨8, _, rfl, rfl, rfl⟩⟩⟩
set_option maxRecDepth 20000 in
theorem qL_407 : q_Vx (10, false, .invokevirtual 238, [407, 156, 2, 9, 0, 0], []) := ⟨rfl, iX9_both, rfl, k_X9_both, rfl, rfl, Or.inl ⟨rfl, (tb_3 191 rfl rfl), (tb_3 193 rfl rfl), (tb_s 23 rfl rfl), by decide, by decide, Or.inl ⟨8, _, rfl, rfl, rfl⟩⟩⟩
set_option maxRecDepth 20000 in
theorem qL_408 : q_Vx (10, false, .invokevirtual 127, [408, 154, 1, 9, 0, 0], []) := ⟨rfl, iX9_floatsLine, rfl, k_X9_floatsLine, rfl, rfl, Or.inl ⟨rfl, (tb_3 183 rfl rfl), (tb_3 185 rfl rfl), (tb_s 21 rfl rfl), by decide, by decide, Or.inl ⟨8, _, rfl, rfl, rfl⟩⟩⟩
set_option maxRecDepth 20000 in
theorem qL_409 : q_Vx (10, false, .getfield 43, [409, 8, 10, 3], []) := ⟨rfl, _, ⟨rfl, by decide, rfl, rfl, (tb_2 18 rfl rfl)⟩⟩
set_option maxRecDepth 20000 in
theorem qL_410 : q_Vx (10, false, .putfield 229, [410, 0, 14, 0], []) := ⟨rfl, _, ⟨rfl, by decide, rfl, rfl, (tb_1 154 rfl rfl)⟩, Or.inl rfl⟩
set_option maxRecDepth 20000 in
theorem qL_411 : q_Vx (10, false, .invokevirtual 130, [411, 152, 1, 9, 0, 0], []) := ⟨rfl, iX9_noiseLine, rfl, k_X9_noiseLine, rfl, rfl, Or.inl ⟨rfl, (tb_3 219 rfl rfl), (tb_3 221 rfl rfl), (tb_s 29 rfl rfl), by decide, by decide, Or.inl ⟨8, _, rfl, rfl, rfl⟩⟩⟩
set_option maxRecDepth 20000 in
theorem qL_412 : q_Vx (10, false, .getfield 46, [412, 8, 11, 3], []) := ⟨rfl, _, ⟨rfl, by decide, rfl, rfl, (tb_2 19 rfl rfl)⟩⟩
set_option maxRecDepth 20000 in
theorem qL_413 : q_Vx (10, false, .putfield 232, [413, 0, 15, 0], []) := ⟨rfl, _, ⟨rfl, by decide, rfl, rfl, (tb_1 158 rfl rfl)⟩, Or.inl rfl⟩
set_option maxRecDepth 20000 in
theorem qL_414 : q_Vx (10, false, .invokevirtual 133, [414, 153, 1, 9, 0, 0], []) := ⟨rfl, iX9_drawLine, rfl, k_X9_drawLine, rfl, rfl, Or.inl ⟨rfl, (tb_3 223 rfl rfl), (tb_3 225 rfl rfl), (tb_s 30 rfl rfl), by decide, by decide, Or.inl ⟨8, _, rfl, rfl, rfl⟩⟩⟩
set_option maxRecDepth 20000 in
theorem qL_415 : q_Vx (10, false, .invokevirtual 86, [415, 141, 1, 9, 0, 0], []) := ⟨rfl, iX9_line, rfl, k_X9_line, rfl, rfl, Or.inl ⟨rfl, (tb_3 98 rfl rfl), (tb_3 100 rfl rfl), (tb_s 5 rfl rfl), by decide, by decide, Or.inl ⟨8, _, rfl, rfl, rfl⟩⟩⟩
set_option maxRecDepth 20000 in
theorem qL_416 : q_Vx (10, false, .getfield 49, [416, 8, 12, 0], []) := ⟨rfl, _, ⟨rfl, by decide, rfl, rfl, (tb_2 20 rfl rfl)⟩⟩
set_option maxRecDepth 20000 in
theorem qL_417 : q_Vx (11, false, .invokespecial 3, [417, 0], []) := ⟨rfl, rfl, (tb_2 57 rfl rfl), (tb_1 29 rfl rfl), (tb_1 30 rfl rfl)⟩
set_option maxRecDepth 20000 in
theorem qL_418 : q_Vx (11, true, .putfield 9, [418, 9, 0, 2], []) := ⟨rfl, _, ⟨rfl, by decide, rfl, rfl, (tb_2 58 rfl rfl)⟩, Or.inr ⟨rfl, rfl, rfl⟩⟩
set_option maxRecDepth 20000 in
theorem qL_419 : q_Vx (11, true, .putfield 15, [419, 9, 1, 2], []) := ⟨rfl, _, ⟨rfl, by decide, rfl, rfl, (tb_2 59 rfl rfl)⟩, Or.inr ⟨rfl, rfl, rfl⟩⟩
set_option maxRecDepth 20000 in
theorem qL_420 : q_Vx (11, false, .getfield 15, [420, 9, 1, 2], []) := ⟨rfl, _, ⟨rfl, by decide, rfl, rfl, (tb_2 59 rfl rfl)⟩⟩
set_option maxRecDepth 20000 in
theorem qL_421 : q_Vx (11, false, .invokevirtual 40, [421, 167, 3, 10, 0, 0], []) := ⟨rfl, iX10_waysThrough, rfl, k_X10_waysThrough, rfl, rfl, Or.inl ⟨rfl, (tb_5 56 rfl rfl), (tb_5 58 rfl rfl), (tb_s 50 rfl rfl), by decide, by decide, Or.inl ⟨9, _, rfl, rfl, rfl⟩⟩⟩
set_option maxRecDepth 20000 in
theorem qL_422 : q_Vx (0, false, .invokespecial 1, [422, 0], []) := ⟨rfl, rfl, (tb_1 28 rfl rfl), (tb_1 29 rfl rfl), (tb_1 30 rfl rfl)⟩
set_option maxRecDepth 20000 in
theorem qL_423 : q_Vx (0, true, .putfield 9, [423, 10, 0, 2], []) := ⟨rfl, _, ⟨rfl, by decide, rfl, rfl, (tb_2 236 rfl rfl)⟩, Or.inr ⟨rfl, rfl, rfl⟩⟩
set_option maxRecDepth 20000 in
theorem qL_424 : q_Vx (0, false, .putfield 13, [424, 10, 1, 0], []) := ⟨rfl, _, ⟨rfl, by decide, rfl, rfl, (tb_2 237 rfl rfl)⟩, Or.inl rfl⟩
set_option maxRecDepth 20000 in
theorem qL_425 : q_Vx (0, false, .new 17, [425, 0, 16], []) := ⟨rfl, _, rfl, rfl, (tb_1 31 rfl rfl), (tb_1 32 rfl rfl), (tb_1 2 rfl rfl)⟩
set_option maxRecDepth 20000 in
theorem qL_426 : q_Vx (0, false, .invokespecial 19, [426, 10, 1, 1, 13, 403], []) := ⟨rfl, iX0_init, rfl, k_X0_init, rfl, rfl, Or.inr (Or.inr ⟨rfl, Or.inr ⟨_, qN_10⟩, (tb_1 34 rfl rfl), rfl, rfl, by decide, by decide, 0, _, rfl, rfl⟩)⟩
set_option maxRecDepth 20000 in
theorem qL_427 : q_Vx (0, false, .putfield 20, [427, 10, 2, 2], []) := ⟨rfl, _, ⟨rfl, by decide, rfl, rfl, (tb_2 238 rfl rfl)⟩, Or.inl rfl⟩
set_option maxRecDepth 20000 in
theorem qL_428 : q_Vx (0, false, .putfield 24, [428, 10, 3, 2], []) := ⟨rfl, _, ⟨rfl, by decide, rfl, rfl, (tb_2 239 rfl rfl)⟩, Or.inl rfl⟩
set_option maxRecDepth 20000 in
theorem qL_429 : q_Vx (0, false, .new 27, [429, 8, 14], []) := ⟨rfl, _, rfl, rfl, (tb_1 192 rfl rfl), (tb_1 193 rfl rfl), (tb_1 5 rfl rfl)⟩
set_option maxRecDepth 20000 in
theorem qL_430 : q_Vx (0, false, .getfield 24, [430, 10, 3, 2], []) := ⟨rfl, _, ⟨rfl, by decide, rfl, rfl, (tb_2 239 rfl rfl)⟩⟩
set_option maxRecDepth 20000 in
theorem qL_431 : q_Vx (0, false, .invokespecial 29, [431, 129, 2, 9, 2, 21], []) := ⟨rfl, iX9_init, rfl, k_X9_init, rfl, rfl, Or.inr (Or.inr ⟨rfl, Or.inl (tb_1 194 rfl rfl), (tb_1 195 rfl rfl), rfl, rfl, by decide, by decide, 8, _, rfl, rfl⟩)⟩
set_option maxRecDepth 20000 in
theorem qL_432 : q_Vx (0, true, .putfield 32, [432, 10, 4, 2], []) := ⟨rfl, _, ⟨rfl, by decide, rfl, rfl, (tb_3 0 rfl rfl)⟩, Or.inr ⟨rfl, rfl, rfl⟩⟩
set_option maxRecDepth 20000 in
theorem qL_433 : q_Vx (0, false, .new 36, [433, 9, 2], []) := ⟨rfl, _, rfl, rfl, (tb_2 52 rfl rfl), (tb_2 53 rfl rfl), (tb_1 10 rfl rfl)⟩
set_option maxRecDepth 20000 in
theorem qL_434 : q_Vx (0, false, .invokespecial 38, [434, 162, 1, 10, 2, 32], []) := ⟨rfl, iX10_init, rfl, k_X10_init, rfl, rfl, Or.inr (Or.inr ⟨rfl, Or.inr ⟨_, qN_11⟩, (tb_2 55 rfl rfl), rfl, rfl, by decide, by decide, 9, _, rfl, rfl⟩)⟩
set_option maxRecDepth 20000 in
theorem qL_435 : q_Vx (0, true, .putfield 39, [435, 10, 5, 2], []) := ⟨rfl, _, ⟨rfl, by decide, rfl, rfl, (tb_3 1 rfl rfl)⟩, Or.inr ⟨rfl, rfl, rfl⟩⟩
set_option maxRecDepth 20000 in
theorem qL_436 : q_Vx (0, false, .new 43, [436, 1, 9], []) := ⟨rfl, _, rfl, rfl, (tb_2 65 rfl rfl), (tb_2 66 rfl rfl), (tb_1 11 rfl rfl)⟩
set_option maxRecDepth 20000 in
theorem qL_437 : q_Vx (0, false, .invokespecial 45, [437, 36, 1, 2, 6, 37], []) := ⟨rfl, iX1_init, rfl, k_X1_init, rfl, rfl, Or.inr (Or.inr ⟨rfl, Or.inr ⟨_, qN_12⟩, (tb_2 68 rfl rfl), rfl, rfl, by decide, by decide, 1, _, rfl, rfl⟩)⟩
set_option maxRecDepth 20000 in
theorem qL_438 : q_Vx (0, true, .putfield 46, [438, 10, 6, 2], []) := ⟨rfl, _, ⟨rfl, by decide, rfl, rfl, (tb_3 2 rfl rfl)⟩, Or.inr ⟨rfl, rfl, rfl⟩⟩
set_option maxRecDepth 20000 in
theorem qL_439 : q_Vx (0, false, .new 50, [439, 7, 6], []) := ⟨rfl, _, rfl, rfl, (tb_2 109 rfl rfl), (tb_2 110 rfl rfl), (tb_1 12 rfl rfl)⟩
set_option maxRecDepth 20000 in
theorem qL_440 : q_Vx (0, false, .invokespecial 52, [440, 118, 1, 8, 3, 1059], []) := ⟨rfl, iX8_init, rfl, k_X8_init, rfl, rfl, Or.inr (Or.inr ⟨rfl, Or.inr ⟨_, qN_13⟩, (tb_2 112 rfl rfl), rfl, rfl, by decide, by decide, 7, _, rfl, rfl⟩)⟩
set_option maxRecDepth 20000 in
theorem qL_441 : q_Vx (0, true, .putfield 53, [441, 10, 7, 2], []) := ⟨rfl, _, ⟨rfl, by decide, rfl, rfl, (tb_3 3 rfl rfl)⟩, Or.inr ⟨rfl, rfl, rfl⟩⟩
set_option maxRecDepth 20000 in
theorem qL_442 : q_Vx (0, false, .new 57, [442, 4, 6], []) := ⟨rfl, _, rfl, rfl, (tb_2 135 rfl rfl), (tb_2 136 rfl rfl), (tb_1 13 rfl rfl)⟩
set_option maxRecDepth 20000 in
theorem qL_443 : q_Vx (0, false, .invokespecial 59, [443, 82, 1, 5, 3, 17], []) := ⟨rfl, iX5_init, rfl, k_X5_init, rfl, rfl, Or.inr (Or.inr ⟨rfl, Or.inr ⟨_, qN_14⟩, (tb_2 138 rfl rfl), rfl, rfl, by decide, by decide, 4, _, rfl, rfl⟩)⟩
set_option maxRecDepth 20000 in
theorem qL_444 : q_Vx (0, true, .putfield 60, [444, 10, 8, 2], []) := ⟨rfl, _, ⟨rfl, by decide, rfl, rfl, (tb_3 4 rfl rfl)⟩, Or.inr ⟨rfl, rfl, rfl⟩⟩
set_option maxRecDepth 20000 in
theorem qL_445 : q_Vx (0, false, .new 64, [445, 5, 4], []) := ⟨rfl, _, rfl, rfl, (tb_2 163 rfl rfl), (tb_2 164 rfl rfl), (tb_1 14 rfl rfl)⟩
set_option maxRecDepth 20000 in
theorem qL_446 : q_Vx (0, false, .invokespecial 66, [446, 97, 1, 6, 3, 935], []) := ⟨rfl, iX6_init, rfl, k_X6_init, rfl, rfl, Or.inr (Or.inr ⟨rfl, Or.inr ⟨_, qN_15⟩, (tb_2 166 rfl rfl), rfl, rfl, by decide, by decide, 5, _, rfl, rfl⟩)⟩
set_option maxRecDepth 20000 in
theorem qL_447 : q_Vx (0, true, .putfield 67, [447, 10, 9, 2], []) := ⟨rfl, _, ⟨rfl, by decide, rfl, rfl, (tb_3 5 rfl rfl)⟩, Or.inr ⟨rfl, rfl, rfl⟩⟩
set_option maxRecDepth 20000 in
theorem qL_448 : q_Vx (0, false, .new 71, [448, 6, 8], []) := ⟨rfl, _, rfl, rfl, (tb_2 184 rfl rfl), (tb_2 185 rfl rfl), (tb_1 15 rfl rfl)⟩
set_option maxRecDepth 20000 in
theorem qL_449 : q_Vx (0, false, .invokespecial 73, [449, 108, 1, 7, 6, 180], []) := ⟨rfl, iX7_init, rfl, k_X7_init, rfl, rfl, Or.inr (Or.inr ⟨rfl, Or.inr ⟨_, qN_16⟩, (tb_2 187 rfl rfl), rfl, rfl, by decide, by decide, 6, _, rfl, rfl⟩)⟩
set_option maxRecDepth 20000 in
theorem qL_450 : q_Vx (0, true, .putfield 74, [450, 10, 10, 2], []) := ⟨rfl, _, ⟨rfl, by decide, rfl, rfl, (tb_3 6 rfl rfl)⟩, Or.inr ⟨rfl, rfl, rfl⟩⟩
set_option maxRecDepth 20000 in
theorem qL_451 : q_Vx (0, true, .putfield 78, [451, 10, 11, 2], []) := ⟨rfl, _, ⟨rfl, by decide, rfl, rfl, (tb_3 7 rfl rfl)⟩, Or.inr ⟨rfl, rfl, rfl⟩⟩
set_option maxRecDepth 20000 in
theorem qL_452 : q_Vx (0, false, .putfield 82, [452, 10, 12, 0], []) := ⟨rfl, _, ⟨rfl, by decide, rfl, rfl, (tb_3 8 rfl rfl)⟩, Or.inl rfl⟩
set_option maxRecDepth 20000 in
theorem qL_453 : q_Vx (0, false, .putfield 85, [453, 10, 13, 0], []) := ⟨rfl, _, ⟨rfl, by decide, rfl, rfl, (tb_3 9 rfl rfl)⟩, Or.inl rfl⟩
set_option maxRecDepth 20000 in
theorem qL_454 : q_Vx (0, false, .putfield 88, [454, 10, 14, 0], []) := ⟨rfl, _, ⟨rfl, by decide, rfl, rfl, (tb_3 10 rfl rfl)⟩, Or.inl rfl⟩
set_option maxRecDepth 20000 in
theorem qL_455 : q_Vx (0, false, .putfield 91, [455, 10, 15, 0], []) := ⟨rfl, _, ⟨rfl, by decide, rfl, rfl, (tb_3 11 rfl rfl)⟩, Or.inl rfl⟩
set_option maxRecDepth 20000 in
theorem qL_456 : q_Vx (0, false, .getfield 53, [456, 10, 7, 2], []) := ⟨rfl, _, ⟨rfl, by decide, rfl, rfl, (tb_3 3 rfl rfl)⟩⟩
set_option maxRecDepth 20000 in
theorem qL_457 : q_Vx (0, false, .getfield 46, [457, 10, 6, 2], []) := ⟨rfl, _, ⟨rfl, by decide, rfl, rfl, (tb_3 2 rfl rfl)⟩⟩
set_option maxRecDepth 20000 in
theorem qL_458 : q_Vx (0, false, .invokevirtual 94, [458, 120, 2, 8, 0, 0], []) := ⟨rfl, iX8_forget, rfl, k_X8_forget, rfl, rfl, Or.inl ⟨rfl, (tb_2 217 rfl rfl), (tb_2 218 rfl rfl), (tb_2 219 rfl rfl), by decide, by decide, Or.inl ⟨7, _, rfl, rfl, rfl⟩⟩⟩
set_option maxRecDepth 20000 in
theorem qL_459 : q_Vx (0, false, .getfield 13, [459, 10, 1, 0], []) := ⟨rfl, _, ⟨rfl, by decide, rfl, rfl, (tb_2 237 rfl rfl)⟩⟩
set_option maxRecDepth 20000 in
theorem qL_460 : q_Vx (0, false, .getfield 9, [460, 10, 0, 2], []) := ⟨rfl, _, ⟨rfl, by decide, rfl, rfl, (tb_2 236 rfl rfl)⟩⟩
set_option maxRecDepth 20000 in
theorem qL_461 : q_Vx (0, false, .putfield 13, [461, 10, 1, 0], []) := ⟨rfl, _, ⟨rfl, by decide, rfl, rfl, (tb_2 237 rfl rfl)⟩, Or.inl rfl⟩
set_option maxRecDepth 20000 in
theorem qL_462 : q_Vx (0, false, .invokevirtual 98, [462, 171, 2, 11, 0, 0], []) := ⟨rfl, iX11_putFour, rfl, k_X11_putFour, rfl, rfl, Or.inl ⟨rfl, (tb_3 49 rfl rfl), (tb_3 51 rfl rfl), (tb_s 1 rfl rfl), by decide, by decide, Or.inl ⟨10, _, rfl, rfl, rfl⟩⟩⟩
set_option maxRecDepth 20000 in
theorem qL_463 : q_Vx (0, false, .getfield 32, [463, 10, 4, 2], []) := ⟨rfl, _, ⟨rfl, by decide, rfl, rfl, (tb_3 0 rfl rfl)⟩⟩
set_option maxRecDepth 20000 in
theorem qL_464 : q_Vx (0, false, .getfield 24, [464, 10, 3, 2], []) := ⟨rfl, _, ⟨rfl, by decide, rfl, rfl, (tb_2 239 rfl rfl)⟩⟩
set_option maxRecDepth 20000 in
theorem qL_465 : q_Vx (0, false, .invokevirtual 102, [465, 130, 4, 9, 0, 0], []) := ⟨rfl, iX9_readBoard, rfl, k_X9_readBoard, rfl, rfl, Or.inl ⟨rfl, (tb_3 61 rfl rfl), (tb_3 62 rfl rfl), (tb_3 63 rfl rfl), by decide, by decide, Or.inl ⟨8, _, rfl, rfl, rfl⟩⟩⟩
set_option maxRecDepth 20000 in
theorem qL_466 : q_Vx (0, false, .putfield 85, [466, 10, 13, 0], []) := ⟨rfl, _, ⟨rfl, by decide, rfl, rfl, (tb_3 9 rfl rfl)⟩, Or.inl rfl⟩
set_option maxRecDepth 20000 in
theorem qL_467 : q_Vx (0, false, .getfield 85, [467, 10, 13, 0], []) := ⟨rfl, _, ⟨rfl, by decide, rfl, rfl, (tb_3 9 rfl rfl)⟩⟩
set_option maxRecDepth 20000 in
theorem qL_468 : q_Vx (0, false, .getfield 106, [468, 8, 13, 0], []) := ⟨rfl, _, ⟨rfl, by decide, rfl, rfl, (tb_2 22 rfl rfl)⟩⟩
set_option maxRecDepth 20000 in
theorem qL_469 : q_Vx (0, false, .putfield 88, [469, 10, 14, 0], []) := ⟨rfl, _, ⟨rfl, by decide, rfl, rfl, (tb_3 10 rfl rfl)⟩, Or.inl rfl⟩
set_option maxRecDepth 20000 in
theorem qL_470 : q_Vx (0, false, .getfield 20, [470, 10, 2, 2], []) := ⟨rfl, _, ⟨rfl, by decide, rfl, rfl, (tb_2 238 rfl rfl)⟩⟩
set_option maxRecDepth 20000 in
theorem qL_471 : q_Vx (0, false, .putfield 20, [471, 10, 2, 2], []) := ⟨rfl, _, ⟨rfl, by decide, rfl, rfl, (tb_2 238 rfl rfl)⟩, Or.inl rfl⟩
set_option maxRecDepth 20000 in
theorem qL_472 : q_Vx (0, false, .putfield 24, [472, 10, 3, 2], []) := ⟨rfl, _, ⟨rfl, by decide, rfl, rfl, (tb_2 239 rfl rfl)⟩, Or.inl rfl⟩
set_option maxRecDepth 20000 in
theorem qL_473 : q_Vx (0, false, .getfield 46, [473, 10, 6, 2], []) := ⟨rfl, _, ⟨rfl, by decide, rfl, rfl, (tb_3 2 rfl rfl)⟩⟩
set_option maxRecDepth 20000 in
theorem qL_474 : q_Vx (0, false, .invokevirtual 109, [474, 37, 2, 2, 0, 0], []) := ⟨rfl, iX1_begin, rfl, k_X1_begin, rfl, rfl, Or.inl ⟨rfl, (tb_3 227 rfl rfl), (tb_3 228 rfl rfl), (tb_3 229 rfl rfl), by decide, by decide, Or.inl ⟨1, _, rfl, rfl, rfl⟩⟩⟩
set_option maxRecDepth 20000 in
theorem qL_475 : q_Vx (0, false, .getfield 53, [475, 10, 7, 2], []) := ⟨rfl, _, ⟨rfl, by decide, rfl, rfl, (tb_3 3 rfl rfl)⟩⟩
set_option maxRecDepth 20000 in
theorem qL_476 : q_Vx (0, false, .invokevirtual 112, [476, 126, 1, 8, 0, 0], []) := ⟨rfl, iX8_emptyBoxes, rfl, k_X8_emptyBoxes, rfl, rfl, Or.inl ⟨rfl, (tb_3 239 rfl rfl), (tb_4 0 rfl rfl), (tb_4 1 rfl rfl), by decide, by decide, Or.inl ⟨7, _, rfl, rfl, rfl⟩⟩⟩
set_option maxRecDepth 20000 in
theorem qL_477 : q_Vx (0, false, .getfield 74, [477, 10, 10, 2], []) := ⟨rfl, _, ⟨rfl, by decide, rfl, rfl, (tb_3 6 rfl rfl)⟩⟩
set_option maxRecDepth 20000 in
theorem qL_478 : q_Vx (0, false, .invokevirtual 115, [478, 109, 1, 7, 0, 0], []) := ⟨rfl, iX7_forget, rfl, k_X7_forget, rfl, rfl, Or.inl ⟨rfl, (tb_4 3 rfl rfl), (tb_4 4 rfl rfl), (tb_4 5 rfl rfl), by decide, by decide, Or.inl ⟨6, _, rfl, rfl, rfl⟩⟩⟩
set_option maxRecDepth 20000 in
theorem qL_479 : q_Vx (0, false, .getfield 67, [479, 10, 9, 2], []) := ⟨rfl, _, ⟨rfl, by decide, rfl, rfl, (tb_3 5 rfl rfl)⟩⟩
set_option maxRecDepth 20000 in
theorem qL_480 : q_Vx (0, false, .invokevirtual 117, [480, 98, 1, 6, 0, 0], []) := ⟨rfl, iX6_forget, rfl, k_X6_forget, rfl, rfl, Or.inl ⟨rfl, (tb_4 7 rfl rfl), (tb_4 8 rfl rfl), (tb_4 9 rfl rfl), by decide, by decide, Or.inl ⟨5, _, rfl, rfl, rfl⟩⟩⟩
set_option maxRecDepth 20000 in
theorem qL_481 : q_Vx (0, false, .putfield 82, [481, 10, 12, 0], []) := ⟨rfl, _, ⟨rfl, by decide, rfl, rfl, (tb_3 8 rfl rfl)⟩, Or.inl rfl⟩
set_option maxRecDepth 20000 in
theorem qL_482 : q_Vx (0, false, .getfield 118, [482, 0, 0, 0], []) := ⟨rfl, _, ⟨rfl, by decide, rfl, rfl, (tb_1 101 rfl rfl)⟩⟩
set_option maxRecDepth 20000 in
theorem qL_483 : q_Vx (0, false, .getfield 88, [483, 10, 14, 0], []) := ⟨rfl, _, ⟨rfl, by decide, rfl, rfl, (tb_3 10 rfl rfl)⟩⟩
set_option maxRecDepth 20000 in
theorem qL_484 : q_Vx (0, false, .invokevirtual 121, [484, 12, 2, 1, 0, 0], []) := ⟨rfl, iX0_hasDevice, rfl, k_X0_hasDevice, rfl, rfl, Or.inl ⟨rfl, (tb_4 19 rfl rfl), (tb_4 20 rfl rfl), (tb_4 21 rfl rfl), by decide, by decide, Or.inl ⟨0, _, rfl, rfl, rfl⟩⟩⟩
set_option maxRecDepth 20000 in
theorem qL_485 : q_Vx (0, false, .getfield 125, [485, 0, 2, 2], []) := ⟨rfl, _, ⟨rfl, by decide, rfl, rfl, (tb_1 107 rfl rfl)⟩⟩
set_option maxRecDepth 20000 in
theorem qL_486 : q_Vx (0, false, .getfield 128, [486, 0, 3, 2], []) := ⟨rfl, _, ⟨rfl, by decide, rfl, rfl, (tb_1 111 rfl rfl)⟩⟩
set_option maxRecDepth 20000 in
theorem qL_487 : q_Vx (0, false, .getfield 131, [487, 0, 4, 2], []) := ⟨rfl, _, ⟨rfl, by decide, rfl, rfl, (tb_1 115 rfl rfl)⟩⟩
set_option maxRecDepth 20000 in
theorem qL_488 : q_Vx (0, false, .getfield 134, [488, 1, 3, 2], []) := ⟨rfl, _, ⟨rfl, by decide, rfl, rfl, (tb_2 80 rfl rfl)⟩⟩
set_option maxRecDepth 20000 in
theorem qL_489 : q_Vx (0, false, .getfield 137, [489, 1, 4, 2], []) := ⟨rfl, _, ⟨rfl, by decide, rfl, rfl, (tb_2 82 rfl rfl)⟩⟩
set_option maxRecDepth 20000 in
theorem qL_490 : q_Vx (0, false, .getfield 140, [490, 1, 5, 2], []) := ⟨rfl, _, ⟨rfl, by decide, rfl, rfl, (tb_2 84 rfl rfl)⟩⟩
set_option maxRecDepth 20000 in
theorem qL_491 : q_Vx (0, false, .invokevirtual 143, [491, 41, 3, 2, 0, 0], []) := ⟨rfl, iX1_dataBits, rfl, k_X1_dataBits, rfl, rfl, Or.inl ⟨rfl, (tb_4 23 rfl rfl), (tb_4 24 rfl rfl), (tb_4 25 rfl rfl), by decide, by decide, Or.inl ⟨1, _, rfl, rfl, rfl⟩⟩⟩
set_option maxRecDepth 20000 in
theorem qL_492 : q_Vx (0, false, .getfield 147, [492, 1, 6, 2], []) := ⟨rfl, _, ⟨rfl, by decide, rfl, rfl, (tb_2 86 rfl rfl)⟩⟩
set_option maxRecDepth 20000 in
theorem qL_493 : q_Vx (0, false, .invokevirtual 150, [493, 13, 2, 1, 0, 0], []) := ⟨rfl, iX0_hasNet, rfl, k_X0_hasNet, rfl, rfl, Or.inl ⟨rfl, (tb_4 39 rfl rfl), (tb_4 40 rfl rfl), (tb_4 41 rfl rfl), by decide, by decide, Or.inl ⟨0, _, rfl, rfl, rfl⟩⟩⟩
set_option maxRecDepth 20000 in
theorem qL_494 : q_Vx (0, false, .getfield 153, [494, 1, 7, 2], []) := ⟨rfl, _, ⟨rfl, by decide, rfl, rfl, (tb_2 88 rfl rfl)⟩⟩
set_option maxRecDepth 20000 in
theorem qL_495 : q_Vx (0, false, .getfield 157, [495, 0, 7, 2], []) := ⟨rfl, _, ⟨rfl, by decide, rfl, rfl, (tb_1 127 rfl rfl)⟩⟩
set_option maxRecDepth 20000 in
theorem qL_496 : q_Vx (0, false, .invokestatic 160, [496, 389, 1, 0, 0, 0], []) := ⟨rfl, iJ6_bitCount_0f7a4, rfl, k_J6_bitCount_0f7a4, rfl, rfl, Or.inr (Or.inl ⟨rfl, Or.inl (tb_4 43 rfl rfl), (tb_4 44 rfl rfl), by decide⟩)⟩
set_option maxRecDepth 20000 in
theorem qL_497 : q_Vx (0, false, .getfield 166, [497, 0, 8, 2], []) := ⟨rfl, _, ⟨rfl, by decide, rfl, rfl, (tb_1 130 rfl rfl)⟩⟩
set_option maxRecDepth 20000 in
theorem qL_498 : q_Vx (0, false, .getfield 169, [498, 0, 9, 2], []) := ⟨rfl, _, ⟨rfl, by decide, rfl, rfl, (tb_1 135 rfl rfl)⟩⟩
set_option maxRecDepth 20000 in
theorem qL_499 : q_Vx (0, false, .getfield 172, [499, 2, 0, 0], []) := ⟨rfl, _, ⟨rfl, by decide, rfl, rfl, (tb_1 44 rfl rfl)⟩⟩
set_option maxRecDepth 20000 in
theorem qL_500 : q_Vx (0, false, .getfield 177, [500, 2, 1, 0], []) := ⟨rfl, _, ⟨rfl, by decide, rfl, rfl, (tb_1 48 rfl rfl)⟩⟩
set_option maxRecDepth 20000 in
theorem qL_501 : q_Vx (0, false, .invokevirtual 180, [501, 43, 2, 2, 0, 0], []) := ⟨rfl, iX1_driven, rfl, k_X1_driven, rfl, rfl, Or.inl ⟨rfl, (tb_4 49 rfl rfl), (tb_4 50 rfl rfl), (tb_4 51 rfl rfl), by decide, by decide, Or.inl ⟨1, _, rfl, rfl, rfl⟩⟩⟩
set_option maxRecDepth 20000 in
theorem qL_502 : q_Vx (0, false, .invokevirtual 184, [502, 72, 2, 3, 0, 0], []) := ⟨rfl, iX3_drives, rfl, k_X3_drives, rfl, rfl, Or.inl ⟨rfl, (tb_4 58 rfl rfl), (tb_4 59 rfl rfl), (tb_4 60 rfl rfl), by decide, by decide, Or.inl ⟨2, _, rfl, rfl, rfl⟩⟩⟩
set_option maxRecDepth 20000 in
theorem qL_503 : q_Vx (0, false, .invokevirtual 187, [503, 73, 2, 3, 0, 0], []) := ⟨rfl, iX3_levels, rfl, k_X3_levels, rfl, rfl, Or.inl ⟨rfl, (tb_4 62 rfl rfl), (tb_4 63 rfl rfl), (tb_4 64 rfl rfl), by decide, by decide, Or.inl ⟨2, _, rfl, rfl, rfl⟩⟩⟩
set_option maxRecDepth 20000 in
theorem qL_504 : q_Vx (0, false, .invokevirtual 190, [504, 44, 2, 2, 0, 0], []) := ⟨rfl, iX1_fighting, rfl, k_X1_fighting, rfl, rfl, Or.inl ⟨rfl, (tb_4 78 rfl rfl), (tb_4 79 rfl rfl), (tb_4 80 rfl rfl), by decide, by decide, Or.inl ⟨1, _, rfl, rfl, rfl⟩⟩⟩
set_option maxRecDepth 20000 in
theorem qL_505 : q_Vx (0, false, .invokevirtual 193, [505, 70, 2, 3, 0, 0], []) := ⟨rfl, iX3_hanging, rfl, k_X3_hanging, rfl, rfl, Or.inl ⟨rfl, (tb_4 82 rfl rfl), (tb_4 68 rfl rfl), (tb_4 69 rfl rfl), by decide, by decide, Or.inl ⟨2, _, rfl, rfl, rfl⟩⟩⟩
set_option maxRecDepth 20000 in
theorem qL_506 : q_Vx (0, false, .invokevirtual 196, [506, 14, 3, 1, 0, 0], []) := ⟨rfl, iX0_hasCell, rfl, k_X0_hasCell, rfl, rfl, Or.inl ⟨rfl, (tb_4 87 rfl rfl), (tb_4 88 rfl rfl), (tb_4 89 rfl rfl), by decide, by decide, Or.inl ⟨0, _, rfl, rfl, rfl⟩⟩⟩
set_option maxRecDepth 20000 in
theorem qL_507 : q_Vx (0, false, .invokestatic 200, [507, 178, 2, 0, 0, 0], []) := ⟨rfl, iX11_placeOf, rfl, k_X11_placeOf, rfl, rfl, Or.inr (Or.inl ⟨rfl, Or.inl (tb_4 92 rfl rfl), (tb_3 154 rfl rfl), by decide⟩)⟩
set_option maxRecDepth 20000 in
theorem qL_508 : q_Vx (0, false, .getfield 204, [508, 0, 10, 2], []) := ⟨rfl, _, ⟨rfl, by decide, rfl, rfl, (tb_1 139 rfl rfl)⟩⟩
set_option maxRecDepth 20000 in
theorem qL_509 : q_Vx (0, false, .getfield 207, [509, 0, 11, 0], []) := ⟨rfl, _, ⟨rfl, by decide, rfl, rfl, (tb_1 144 rfl rfl)⟩⟩
set_option maxRecDepth 20000 in
theorem qL_510 : q_Vx (0, false, .getfield 210, [510, 2, 2, 0], []) := ⟨rfl, _, ⟨rfl, by decide, rfl, rfl, (tb_1 54 rfl rfl)⟩⟩
set_option maxRecDepth 20000 in
theorem qL_511 : q_Vx (0, false, .invokevirtual 213, [511, 46, 2, 2, 0, 0], []) := ⟨rfl, iX1_reads, rfl, k_X1_reads, rfl, rfl, Or.inl ⟨rfl, (tb_4 93 rfl rfl), (tb_4 94 rfl rfl), (tb_4 95 rfl rfl), by decide, by decide, Or.inl ⟨1, _, rfl, rfl, rfl⟩⟩⟩
set_option maxRecDepth 20000 in
theorem qL_512 : q_Vx (0, false, .invokestatic 216, [512, 180, 1, 0, 0, 0], []) := ⟨rfl, iX11_isBit, rfl, k_X11_isBit, rfl, rfl, Or.inr (Or.inl ⟨rfl, Or.inl (tb_4 121 rfl rfl), (tb_4 122 rfl rfl), by decide⟩)⟩
set_option maxRecDepth 20000 in
theorem qL_513 : q_Vx (0, false, .getfield 219, [513, 1, 1, 0], []) := ⟨rfl, _, ⟨rfl, by decide, rfl, rfl, (tb_2 76 rfl rfl)⟩⟩
set_option maxRecDepth 20000 in
theorem qL_514 : q_Vx (0, false, .invokevirtual 222, [514, 47, 4, 2, 0, 0], []) := ⟨rfl, iX1_tick, rfl, k_X1_tick, rfl, rfl, Or.inl ⟨rfl, (tb_4 124 rfl rfl), (tb_4 125 rfl rfl), (tb_4 126 rfl rfl), by decide, by decide, Or.inl ⟨1, _, rfl, rfl, rfl⟩⟩⟩
set_option maxRecDepth 20000 in
theorem qL_515 : q_Vx (0, false, .invokevirtual 226, [515, 121, 2, 8, 0, 0], []) := ⟨rfl, iX8_keep, rfl, k_X8_keep, rfl, rfl, Or.inl ⟨rfl, (tb_4 167 rfl rfl), (tb_4 168 rfl rfl), (tb_4 169 rfl rfl), by decide, by decide, Or.inl ⟨7, _, rfl, rfl, rfl⟩⟩⟩
set_option maxRecDepth 20000 in
theorem qL_516 : q_Vx (0, false, .getfield 39, [516, 10, 5, 2], []) := ⟨rfl, _, ⟨rfl, by decide, rfl, rfl, (tb_3 1 rfl rfl)⟩⟩
set_option maxRecDepth 20000 in
theorem qL_517 : q_Vx (0, false, .invokevirtual 229, [517, 56, 6, 2, 0, 0], []) := ⟨rfl, iX1_sweep, rfl, k_X1_sweep, rfl, rfl, Or.inl ⟨rfl, (tb_4 175 rfl rfl), (tb_4 176 rfl rfl), (tb_4 177 rfl rfl), by decide, by decide, Or.inl ⟨1, _, rfl, rfl, rfl⟩⟩⟩
set_option maxRecDepth 20000 in
theorem qL_518 : q_Vx (0, false, .invokevirtual 233, [518, 25, 2, 1, 0, 0], []) := ⟨rfl, iX0_hasSingle, rfl, k_X0_hasSingle, rfl, rfl, Or.inl ⟨rfl, (tb_4 195 rfl rfl), (tb_4 196 rfl rfl), (tb_4 197 rfl rfl), by decide, by decide, Or.inl ⟨0, _, rfl, rfl, rfl⟩⟩⟩
set_option maxRecDepth 20000 in
theorem qL_519 : q_Vx (0, false, .invokevirtual 236, [519, 34, 3, 1, 0, 0], []) := ⟨rfl, iX0_isBarred, rfl, k_X0_isBarred, rfl, rfl, Or.inl ⟨rfl, (tb_4 212 rfl rfl), (tb_4 213 rfl rfl), (tb_4 214 rfl rfl), by decide, by decide, Or.inl ⟨0, _, rfl, rfl, rfl⟩⟩⟩
set_option maxRecDepth 20000 in
theorem qL_520 : q_Vx (0, false, .invokevirtual 240, [520, 35, 3, 1, 0, 0], []) := ⟨rfl, iX0_turnSingle, rfl, k_X0_turnSingle, rfl, rfl, Or.inl ⟨rfl, (tb_5 2 rfl rfl), (tb_5 3 rfl rfl), (tb_5 4 rfl rfl), by decide, by decide, Or.inl ⟨0, _, rfl, rfl, rfl⟩⟩⟩
set_option maxRecDepth 20000 in
theorem qL_521 : q_Vx (0, false, .invokevirtual 244, [521, 67, 1, 3, 0, 0], []) := ⟨rfl, iX3_count, rfl, k_X3_count, rfl, rfl, Or.inl ⟨rfl, (tb_5 6 rfl rfl), (tb_5 7 rfl rfl), (tb_5 8 rfl rfl), by decide, by decide, Or.inl ⟨2, _, rfl, rfl, rfl⟩⟩⟩
set_option maxRecDepth 20000 in
theorem qL_522 : q_Vx (0, false, .invokevirtual 248, [522, 122, 2, 8, 0, 0], []) := ⟨rfl, iX8_goBack, rfl, k_X8_goBack, rfl, rfl, Or.inl ⟨rfl, (tb_5 15 rfl rfl), (tb_5 16 rfl rfl), (tb_5 17 rfl rfl), by decide, by decide, Or.inl ⟨7, _, rfl, rfl, rfl⟩⟩⟩
set_option maxRecDepth 20000 in
theorem qL_523 : q_Vx (0, false, .invokevirtual 252, [523, 123, 2, 8, 0, 0], []) := ⟨rfl, iX8_goOn, rfl, k_X8_goOn, rfl, rfl, Or.inl ⟨rfl, (tb_5 31 rfl rfl), (tb_5 32 rfl rfl), (tb_5 33 rfl rfl), by decide, by decide, Or.inl ⟨7, _, rfl, rfl, rfl⟩⟩⟩
set_option maxRecDepth 20000 in
theorem qL_524 : q_Vx (0, false, .getfield 255, [524, 1, 0, 0], []) := ⟨rfl, _, ⟨rfl, by decide, rfl, rfl, (tb_2 74 rfl rfl)⟩⟩
set_option maxRecDepth 20000 in
theorem qL_525 : q_Vx (0, false, .invokestatic 258, [525, 163, 2, 0, 0, 0], []) := ⟨rfl, iX10_next, rfl, k_X10_next, rfl, rfl, Or.inr (Or.inl ⟨rfl, Or.inl (tb_5 39 rfl rfl), (tb_4 163 rfl rfl), by decide⟩)⟩
set_option maxRecDepth 20000 in
theorem qL_526 : q_Vx (0, false, .invokestatic 261, [526, 187, 1, 0, 0, 0], []) := ⟨rfl, iX11_isState, rfl, k_X11_isState, rfl, rfl, Or.inr (Or.inl ⟨rfl, Or.inl (tb_5 44 rfl rfl), (tb_5 45 rfl rfl), by decide⟩)⟩
set_option maxRecDepth 20000 in
theorem qL_527 : q_Vx (0, false, .getfield 78, [527, 10, 11, 2], []) := ⟨rfl, _, ⟨rfl, by decide, rfl, rfl, (tb_3 7 rfl rfl)⟩⟩
set_option maxRecDepth 20000 in
theorem qL_528 : q_Vx (0, false, .invokevirtual 264, [528, 165, 4, 10, 0, 0], []) := ⟨rfl, iX10_lead, rfl, k_X10_lead, rfl, rfl, Or.inl ⟨rfl, (tb_5 47 rfl rfl), (tb_4 180 rfl rfl), (tb_4 181 rfl rfl), by decide, by decide, Or.inl ⟨9, _, rfl, rfl, rfl⟩⟩⟩
set_option maxRecDepth 20000 in
theorem qL_529 : q_Vx (0, false, .getfield 82, [529, 10, 12, 0], []) := ⟨rfl, _, ⟨rfl, by decide, rfl, rfl, (tb_3 8 rfl rfl)⟩⟩
set_option maxRecDepth 20000 in
theorem qL_530 : q_Vx (0, false, .invokevirtual 268, [530, 166, 3, 10, 0, 0], []) := ⟨rfl, iX10_countWays, rfl, k_X10_countWays, rfl, rfl, Or.inl ⟨rfl, (tb_5 52 rfl rfl), (tb_5 53 rfl rfl), (tb_5 54 rfl rfl), by decide, by decide, Or.inl ⟨9, _, rfl, rfl, rfl⟩⟩⟩
set_option maxRecDepth 20000 in
theorem qL_531 : q_Vx (0, false, .invokevirtual 271, [531, 168, 2, 10, 0, 0], []) := ⟨rfl, iX10_farthestFrom, rfl, k_X10_farthestFrom, rfl, rfl, Or.inl ⟨rfl, (tb_5 64 rfl rfl), (tb_5 65 rfl rfl), (tb_5 66 rfl rfl), by decide, by decide, Or.inl ⟨9, _, rfl, rfl, rfl⟩⟩⟩
set_option maxRecDepth 20000 in
theorem qL_532 : q_Vx (0, false, .invokevirtual 274, [532, 18, 2, 1, 0, 0], []) := ⟨rfl, iX0_unsafeAt, rfl, k_X0_unsafeAt, rfl, rfl, Or.inl ⟨rfl, (tb_5 84 rfl rfl), (tb_5 85 rfl rfl), (tb_5 86 rfl rfl), by decide, by decide, Or.inl ⟨0, _, rfl, rfl, rfl⟩⟩⟩
set_option maxRecDepth 20000 in
theorem qL_533 : q_Vx (0, false, .invokestatic 277, [533, 194, 1, 0, 0, 0], []) := ⟨rfl, iX11_isKind, rfl, k_X11_isKind, rfl, rfl, Or.inr (Or.inl ⟨rfl, Or.inl (tb_5 96 rfl rfl), (tb_5 97 rfl rfl), by decide⟩)⟩
set_option maxRecDepth 20000 in
theorem qL_534 : q_Vx (0, false, .invokestatic 280, [534, 60, 2, 0, 0, 0], []) := ⟨rfl, iX2_stepCount, rfl, k_X2_stepCount, rfl, rfl, Or.inr (Or.inl ⟨rfl, Or.inl (tb_5 99 rfl rfl), (tb_5 100 rfl rfl), by decide⟩)⟩
set_option maxRecDepth 20000 in
theorem qL_535 : q_Vx (0, false, .invokestatic 285, [535, 63, 3, 0, 0, 0], []) := ⟨rfl, iX2_stepsOf, rfl, k_X2_stepsOf, rfl, rfl, Or.inr (Or.inl ⟨rfl, Or.inl (tb_5 111 rfl rfl), (tb_5 112 rfl rfl), by decide⟩)⟩
set_option maxRecDepth 20000 in
theorem qL_536 : q_Vx (0, false, .getfield 60, [536, 10, 8, 2], []) := ⟨rfl, _, ⟨rfl, by decide, rfl, rfl, (tb_3 4 rfl rfl)⟩⟩
set_option maxRecDepth 20000 in
theorem qL_537 : q_Vx (0, false, .invokevirtual 288, [537, 45, 2, 2, 0, 0], []) := ⟨rfl, iX1_floating, rfl, k_X1_floating, rfl, rfl, Or.inl ⟨rfl, (tb_5 136 rfl rfl), (tb_5 137 rfl rfl), (tb_5 138 rfl rfl), by decide, by decide, Or.inl ⟨1, _, rfl, rfl, rfl⟩⟩⟩
set_option maxRecDepth 20000 in
theorem qL_538 : q_Vx (0, false, .invokevirtual 291, [538, 83, 5, 5, 0, 0], []) := ⟨rfl, iX5_look, rfl, k_X5_look, rfl, rfl, Or.inl ⟨rfl, (tb_5 140 rfl rfl), (tb_5 141 rfl rfl), (tb_5 142 rfl rfl), by decide, by decide, Or.inl ⟨4, _, rfl, rfl, rfl⟩⟩⟩
set_option maxRecDepth 20000 in
theorem qL_539 : q_Vx (0, false, .invokevirtual 295, [539, 15, 3, 1, 0, 0], []) := ⟨rfl, iX0_hasReceiver, rfl, k_X0_hasReceiver, rfl, rfl, Or.inl ⟨rfl, (tb_5 126 rfl rfl), (tb_5 127 rfl rfl), (tb_5 128 rfl rfl), by decide, by decide, Or.inl ⟨0, _, rfl, rfl, rfl⟩⟩⟩
set_option maxRecDepth 20000 in
theorem qL_540 : q_Vx (0, false, .invokevirtual 298, [540, 197, 2, 11, 0, 0], []) := ⟨rfl, iX11_judged, rfl, k_X11_judged, rfl, rfl, Or.inl ⟨rfl, (tb_5 132 rfl rfl), (tb_5 134 rfl rfl), (tb_s 51 rfl rfl), by decide, by decide, Or.inl ⟨10, _, rfl, rfl, rfl⟩⟩⟩
set_option maxRecDepth 20000 in
theorem qL_541 : q_Vx (0, false, .invokevirtual 302, [541, 85, 2, 5, 0, 0], []) := ⟨rfl, iX5_answerAt, rfl, k_X5_answerAt, rfl, rfl, Or.inl ⟨rfl, (tb_5 154 rfl rfl), (tb_5 155 rfl rfl), (tb_5 156 rfl rfl), by decide, by decide, Or.inl ⟨4, _, rfl, rfl, rfl⟩⟩⟩
set_option maxRecDepth 20000 in
theorem qL_542 : q_Vx (0, false, .invokevirtual 305, [542, 84, 1, 5, 0, 0], []) := ⟨rfl, iX5_goodCount, rfl, k_X5_goodCount, rfl, rfl, Or.inl ⟨rfl, (tb_5 166 rfl rfl), (tb_5 167 rfl rfl), (tb_5 168 rfl rfl), by decide, by decide, Or.inl ⟨4, _, rfl, rfl, rfl⟩⟩⟩
set_option maxRecDepth 20000 in
theorem qL_543 : q_Vx (0, false, .invokevirtual 308, [543, 87, 3, 5, 0, 0], []) := ⟨rfl, iX5_aliasedNets, rfl, k_X5_aliasedNets, rfl, rfl, Or.inl ⟨rfl, (tb_5 175 rfl rfl), (tb_5 176 rfl rfl), (tb_5 177 rfl rfl), by decide, by decide, Or.inl ⟨4, _, rfl, rfl, rfl⟩⟩⟩
set_option maxRecDepth 20000 in
theorem qL_544 : q_Vx (0, false, .invokevirtual 312, [544, 90, 4, 5, 0, 0], []) := ⟨rfl, iX5_confoundedWith, rfl, k_X5_confoundedWith, rfl, rfl, Or.inl ⟨rfl, (tb_5 188 rfl rfl), (tb_5 189 rfl rfl), (tb_5 190 rfl rfl), by decide, by decide, Or.inl ⟨4, _, rfl, rfl, rfl⟩⟩⟩
set_option maxRecDepth 20000 in
theorem qL_545 : q_Vx (0, false, .invokevirtual 316, [545, 92, 3, 5, 0, 0], []) := ⟨rfl, iX5_verdictOf, rfl, k_X5_verdictOf, rfl, rfl, Or.inl ⟨rfl, (tb_5 205 rfl rfl), (tb_5 206 rfl rfl), (tb_5 207 rfl rfl), by decide, by decide, Or.inl ⟨4, _, rfl, rfl, rfl⟩⟩⟩
set_option maxRecDepth 20000 in
theorem qL_546 : q_Vx (0, false, .invokevirtual 319, [546, 22, 1, 1, 0, 0], []) := ⟨rfl, iX0_singleCount, rfl, k_X0_singleCount, rfl, rfl, Or.inl ⟨rfl, (tb_5 217 rfl rfl), (tb_4 200 rfl rfl), (tb_4 201 rfl rfl), by decide, by decide, Or.inl ⟨0, _, rfl, rfl, rfl⟩⟩⟩
set_option maxRecDepth 20000 in
theorem qL_547 : q_Vx (0, false, .invokevirtual 322, [547, 26, 2, 1, 0, 0], []) := ⟨rfl, iX0_sortOf, rfl, k_X0_sortOf, rfl, rfl, Or.inl ⟨rfl, (tb_5 222 rfl rfl), (tb_4 217 rfl rfl), (tb_4 218 rfl rfl), by decide, by decide, Or.inl ⟨0, _, rfl, rfl, rfl⟩⟩⟩
set_option maxRecDepth 20000 in
theorem qL_548 : q_Vx (0, false, .invokevirtual 325, [548, 31, 2, 1, 0, 0], []) := ⟨rfl, iX0_firstOf, rfl, k_X0_firstOf, rfl, rfl, Or.inl ⟨rfl, (tb_5 223 rfl rfl), (tb_5 224 rfl rfl), (tb_5 225 rfl rfl), by decide, by decide, Or.inl ⟨0, _, rfl, rfl, rfl⟩⟩⟩
set_option maxRecDepth 20000 in
theorem qL_549 : q_Vx (0, false, .invokevirtual 328, [549, 32, 2, 1, 0, 0], []) := ⟨rfl, iX0_secondOf, rfl, k_X0_secondOf, rfl, rfl, Or.inl ⟨rfl, (tb_5 228 rfl rfl), (tb_5 229 rfl rfl), (tb_5 230 rfl rfl), by decide, by decide, Or.inl ⟨0, _, rfl, rfl, rfl⟩⟩⟩
set_option maxRecDepth 20000 in
theorem qL_550 : q_Vx (0, false, .invokevirtual 331, [550, 33, 3, 1, 0, 0], []) := ⟨rfl, iX0_isThere, rfl, k_X0_isThere, rfl, rfl, Or.inl ⟨rfl, (tb_5 232 rfl rfl), (tb_4 235 rfl rfl), (tb_4 236 rfl rfl), by decide, by decide, Or.inl ⟨0, _, rfl, rfl, rfl⟩⟩⟩
set_option maxRecDepth 20000 in
theorem qL_551 : q_Vx (0, false, .invokevirtual 334, [551, 207, 2, 11, 0, 0], []) := ⟨rfl, iX11_isSingleOrNone, rfl, k_X11_isSingleOrNone, rfl, rfl, Or.inl ⟨rfl, (tb_5 237 rfl rfl), (tb_5 239 rfl rfl), (tb_s 57 rfl rfl), by decide, by decide, Or.inl ⟨10, _, rfl, rfl, rfl⟩⟩⟩
set_option maxRecDepth 20000 in
theorem qL_552 : q_Vx (0, false, .invokevirtual 345, [552, 99, 2, 6, 0, 0], []) := ⟨rfl, iX6_prepare, rfl, k_X6_prepare, rfl, rfl, Or.inl ⟨rfl, (tb_6 5 rfl rfl), (tb_6 6 rfl rfl), (tb_6 7 rfl rfl), by decide, by decide, Or.inl ⟨5, _, rfl, rfl, rfl⟩⟩⟩
set_option maxRecDepth 20000 in
theorem qL_553 : q_Vx (0, false, .invokevirtual 337, [553, 206, 1, 11, 0, 0], []) := ⟨rfl, iX11_prepared, rfl, k_X11_prepared, rfl, rfl, Or.inl ⟨rfl, (tb_6 1 rfl rfl), (tb_6 3 rfl rfl), (tb_s 58 rfl rfl), by decide, by decide, Or.inl ⟨10, _, rfl, rfl, rfl⟩⟩⟩
set_option maxRecDepth 20000 in
theorem qL_554 : q_Vx (0, false, .invokevirtual 341, [554, 103, 5, 6, 0, 0], []) := ⟨rfl, iX6_parts, rfl, k_X6_parts, rfl, rfl, Or.inl ⟨rfl, (tb_6 22 rfl rfl), (tb_6 23 rfl rfl), (tb_6 24 rfl rfl), by decide, by decide, Or.inl ⟨5, _, rfl, rfl, rfl⟩⟩⟩
set_option maxRecDepth 20000 in
theorem qL_555 : q_Vx (0, false, .invokevirtual 348, [555, 104, 3, 6, 0, 0], []) := ⟨rfl, iX6_countFromNone, rfl, k_X6_countFromNone, rfl, rfl, Or.inl ⟨rfl, (tb_6 38 rfl rfl), (tb_6 39 rfl rfl), (tb_6 40 rfl rfl), by decide, by decide, Or.inl ⟨5, _, rfl, rfl, rfl⟩⟩⟩
set_option maxRecDepth 20000 in
theorem qL_556 : q_Vx (0, false, .invokevirtual 351, [556, 105, 3, 6, 0, 0], []) := ⟨rfl, iX6_countFromAll, rfl, k_X6_countFromAll, rfl, rfl, Or.inl ⟨rfl, (tb_6 43 rfl rfl), (tb_6 44 rfl rfl), (tb_6 45 rfl rfl), by decide, by decide, Or.inl ⟨5, _, rfl, rfl, rfl⟩⟩⟩
set_option maxRecDepth 20000 in
theorem qL_557 : q_Vx (0, false, .invokevirtual 354, [557, 107, 2, 6, 0, 0], []) := ⟨rfl, iX6_leastKind, rfl, k_X6_leastKind, rfl, rfl, Or.inl ⟨rfl, (tb_6 55 rfl rfl), (tb_6 56 rfl rfl), (tb_6 57 rfl rfl), by decide, by decide, Or.inl ⟨5, _, rfl, rfl, rfl⟩⟩⟩
set_option maxRecDepth 20000 in
theorem qL_558 : q_Vx (0, false, .invokevirtual 357, [558, 95, 4, 5, 0, 0], []) := ⟨rfl, iX5_bestMended, rfl, k_X5_bestMended, rfl, rfl, Or.inl ⟨rfl, (tb_6 64 rfl rfl), (tb_6 65 rfl rfl), (tb_6 66 rfl rfl), by decide, by decide, Or.inl ⟨4, _, rfl, rfl, rfl⟩⟩⟩
set_option maxRecDepth 20000 in
theorem qL_559 : q_Vx (0, false, .getfield 360, [559, 4, 5, 0], []) := ⟨rfl, _, ⟨rfl, by decide, rfl, rfl, (tb_2 149 rfl rfl)⟩⟩
set_option maxRecDepth 20000 in
theorem qL_560 : q_Vx (0, false, .invokevirtual 363, [560, 96, 4, 5, 0, 0], []) := ⟨rfl, iX5_safestPattern, rfl, k_X5_safestPattern, rfl, rfl, Or.inl ⟨rfl, (tb_6 78 rfl rfl), (tb_6 79 rfl rfl), (tb_6 80 rfl rfl), by decide, by decide, Or.inl ⟨4, _, rfl, rfl, rfl⟩⟩⟩
set_option maxRecDepth 20000 in
theorem qL_561 : q_Vx (0, false, .invokevirtual 366, [561, 94, 2, 5, 0, 0], []) := ⟨rfl, iX5_worstNet, rfl, k_X5_worstNet, rfl, rfl, Or.inl ⟨rfl, (tb_6 91 rfl rfl), (tb_6 92 rfl rfl), (tb_6 93 rfl rfl), by decide, by decide, Or.inl ⟨4, _, rfl, rfl, rfl⟩⟩⟩
set_option maxRecDepth 20000 in
theorem qL_562 : q_Vx (0, false, .getfield 369, [562, 0, 14, 0], []) := ⟨rfl, _, ⟨rfl, by decide, rfl, rfl, (tb_1 155 rfl rfl)⟩⟩
set_option maxRecDepth 20000 in
theorem qL_563 : q_Vx (0, false, .invokestatic 375, [563, 3], []) := ⟨rfl, rfl, (tb_6 106 rfl rfl), (tb_3 165 rfl rfl), (tb_1 18 rfl rfl), (tb_3 166 rfl rfl)⟩
set_option maxRecDepth 20000 in
theorem qL_564 : q_Vx (0, false, .invokestatic 372, [564, 216, 2, 0, 0, 0], []) := ⟨rfl, iX11_commonDivisor, rfl, k_X11_commonDivisor, rfl, rfl, Or.inr (Or.inl ⟨rfl, Or.inl (tb_6 103 rfl rfl), (tb_6 104 rfl rfl), by decide⟩)⟩
set_option maxRecDepth 20000 in
theorem qL_565 : q_Vx (0, false, .getfield 91, [565, 10, 15, 0], []) := ⟨rfl, _, ⟨rfl, by decide, rfl, rfl, (tb_3 11 rfl rfl)⟩⟩
set_option maxRecDepth 20000 in
theorem qL_566 : q_Vx (0, false, .invokevirtual 380, [566, 110, 6, 7, 0, 0], []) := ⟨rfl, iX7_write, rfl, k_X7_write, rfl, rfl, Or.inl ⟨rfl, (tb_6 115 rfl rfl), (tb_6 116 rfl rfl), (tb_6 117 rfl rfl), by decide, by decide, Or.inl ⟨6, _, rfl, rfl, rfl⟩⟩⟩
set_option maxRecDepth 20000 in
theorem qL_567 : q_Vx (0, false, .invokevirtual 384, [567, 111, 3, 7, 0, 0], []) := ⟨rfl, iX7_strike, rfl, k_X7_strike, rfl, rfl, Or.inl ⟨rfl, (tb_6 123 rfl rfl), (tb_6 124 rfl rfl), (tb_6 125 rfl rfl), by decide, by decide, Or.inl ⟨6, _, rfl, rfl, rfl⟩⟩⟩
set_option maxRecDepth 20000 in
theorem qL_568 : q_Vx (0, false, .ldc_w 387, [568], [.int 100000]) := ⟨rfl, _, rfl, (tb_6 131 rfl rfl)⟩
set_option maxRecDepth 20000 in
theorem qL_569 : q_Vx (0, false, .putfield 91, [569, 10, 15, 0], []) := ⟨rfl, _, ⟨rfl, by decide, rfl, rfl, (tb_3 11 rfl rfl)⟩, Or.inl rfl⟩
set_option maxRecDepth 20000 in
theorem qL_570 : q_Vx (0, false, .invokevirtual 388, [570, 113, 4, 7, 0, 0], []) := ⟨rfl, iX7_fitting, rfl, k_X7_fitting, rfl, rfl, Or.inl ⟨rfl, (tb_6 136 rfl rfl), (tb_6 137 rfl rfl), (tb_6 138 rfl rfl), by decide, by decide, Or.inl ⟨6, _, rfl, rfl, rfl⟩⟩⟩
set_option maxRecDepth 20000 in
theorem qL_571 : q_Vx (15, false, .ldc2_w 314, [571], [.long 6148914691236517205]) := ⟨rfl, _, rfl, (tb_6 154 rfl rfl)⟩
set_option maxRecDepth 20000 in
theorem qL_572 : q_Vx (15, false, .ldc2_w 316, [572], [.long 3689348814741910323]) := ⟨rfl, _, rfl, (tb_6 155 rfl rfl)⟩
set_option maxRecDepth 20000 in
theorem qL_573 : q_Vx (15, false, .ldc2_w 318, [573], [.long 1085102592571150095]) := ⟨rfl, _, rfl, (tb_6 156 rfl rfl)⟩
set_option maxRecDepth 20000 in
theorem qL_574 : q_Vx (0, false, .invokestatic 392, [574, 390, 1, 0, 0, 0], []) := ⟨rfl, iJ13_bitCount_95d88, rfl, k_J13_bitCount_95d88, rfl, rfl, Or.inr (Or.inl ⟨rfl, Or.inl (tb_6 151 rfl rfl), (tb_6 152 rfl rfl), by decide⟩)⟩
set_option maxRecDepth 20000 in
theorem qL_575 : q_Vx (0, false, .invokevirtual 397, [575, 115, 5, 7, 0, 0], []) := ⟨rfl, iX7_fittingAt, rfl, k_X7_fittingAt, rfl, rfl, Or.inl ⟨rfl, (tb_6 161 rfl rfl), (tb_6 162 rfl rfl), (tb_6 163 rfl rfl), by decide, by decide, Or.inl ⟨6, _, rfl, rfl, rfl⟩⟩⟩
set_option maxRecDepth 20000 in
theorem qL_576 : q_Vx (0, false, .invokevirtual 401, [576, 116, 5, 7, 0, 0], []) := ⟨rfl, iX7_bestStep, rfl, k_X7_bestStep, rfl, rfl, Or.inl ⟨rfl, (tb_6 170 rfl rfl), (tb_6 171 rfl rfl), (tb_6 172 rfl rfl), by decide, by decide, Or.inl ⟨6, _, rfl, rfl, rfl⟩⟩⟩
set_option maxRecDepth 20000 in
theorem qL_577 : q_Vx (0, false, .getfield 404, [577, 6, 7, 0], []) := ⟨rfl, _, ⟨rfl, by decide, rfl, rfl, (tb_2 199 rfl rfl)⟩⟩
set_option maxRecDepth 20000 in
theorem qL_578 : q_Vx (0, false, .invokevirtual 407, [578, 127, 3, 8, 0, 0], []) := ⟨rfl, iX8_putInBox, rfl, k_X8_putInBox, rfl, rfl, Or.inl ⟨rfl, (tb_6 183 rfl rfl), (tb_6 184 rfl rfl), (tb_6 185 rfl rfl), by decide, by decide, Or.inl ⟨7, _, rfl, rfl, rfl⟩⟩⟩
set_option maxRecDepth 20000 in
theorem qL_579 : q_Vx (0, false, .invokevirtual 411, [579, 128, 3, 8, 0, 0], []) := ⟨rfl, iX8_takeFromBox, rfl, k_X8_takeFromBox, rfl, rfl, Or.inl ⟨rfl, (tb_6 191 rfl rfl), (tb_6 192 rfl rfl), (tb_6 193 rfl rfl), by decide, by decide, Or.inl ⟨7, _, rfl, rfl, rfl⟩⟩⟩
set_option maxRecDepth 20000 in
theorem qL_580 : q_Vx (0, false, .getfield 414, [580, 0, 5, 0], []) := ⟨rfl, _, ⟨rfl, by decide, rfl, rfl, (tb_1 122 rfl rfl)⟩⟩
set_option maxRecDepth 20000 in
theorem qL_581 : q_Vx (0, false, .getfield 417, [581, 1, 2, 0], []) := ⟨rfl, _, ⟨rfl, by decide, rfl, rfl, (tb_2 78 rfl rfl)⟩⟩
set_option maxRecDepth 20000 in
theorem qL_582 : q_Vx (0, false, .invokevirtual 420, [582, 124, 1, 8, 0, 0], []) := ⟨rfl, iX8_undoable, rfl, k_X8_undoable, rfl, rfl, Or.inl ⟨rfl, (tb_6 199 rfl rfl), (tb_6 200 rfl rfl), (tb_6 201 rfl rfl), by decide, by decide, Or.inl ⟨7, _, rfl, rfl, rfl⟩⟩⟩
set_option maxRecDepth 20000 in
theorem qL_583 : q_Vx (0, false, .invokevirtual 423, [583, 125, 1, 8, 0, 0], []) := ⟨rfl, iX8_redoable, rfl, k_X8_redoable, rfl, rfl, Or.inl ⟨rfl, (tb_6 203 rfl rfl), (tb_6 204 rfl rfl), (tb_6 205 rfl rfl), by decide, by decide, Or.inl ⟨7, _, rfl, rfl, rfl⟩⟩⟩
set_option maxRecDepth 20000 in
theorem qL_584 : q_Vx (0, false, .getfield 426, [584, 6, 6, 0], []) := ⟨rfl, _, ⟨rfl, by decide, rfl, rfl, (tb_2 197 rfl rfl)⟩⟩
set_option maxRecDepth 20000 in
theorem qL_585 : q_Vx (0, false, .getfield 428, [585, 0, 13, 2], []) := ⟨rfl, _, ⟨rfl, by decide, rfl, rfl, (tb_1 151 rfl rfl)⟩⟩
set_option maxRecDepth 20000 in
theorem qL_586 : q_Vx (0, false, .getfield 432, [586, 3, 3, 0], []) := ⟨rfl, _, ⟨rfl, by decide, rfl, rfl, (tb_1 89 rfl rfl)⟩⟩
set_option maxRecDepth 20000 in
theorem qL_587 : q_Vx (13, false, .invokespecial 1, [587, 0], []) := ⟨rfl, rfl, (tb_6 212 rfl rfl), (tb_1 29 rfl rfl), (tb_1 30 rfl rfl)⟩
set_option maxRecDepth 20000 in
theorem qL_588 : q_Vx (13, true, .putfield 7, [588, 11, 0, 2], []) := ⟨rfl, _, ⟨rfl, by decide, rfl, rfl, (tb_6 228 rfl rfl)⟩, Or.inr ⟨rfl, rfl, rfl⟩⟩
set_option maxRecDepth 20000 in
theorem qL_589 : q_Vx (13, false, .putfield 13, [589, 11, 3, 0], []) := ⟨rfl, _, ⟨rfl, by decide, rfl, rfl, (tb_6 231 rfl rfl)⟩, Or.inl rfl⟩
set_option maxRecDepth 20000 in
theorem qL_590 : q_Vx (13, true, .putfield 17, [590, 11, 10, 2], []) := ⟨rfl, _, ⟨rfl, by decide, rfl, rfl, (tb_6 238 rfl rfl)⟩, Or.inr ⟨rfl, rfl, rfl⟩⟩
set_option maxRecDepth 20000 in
theorem qL_591 : q_Vx (13, true, .putfield 21, [591, 11, 11, 2], []) := ⟨rfl, _, ⟨rfl, by decide, rfl, rfl, (tb_6 239 rfl rfl)⟩, Or.inr ⟨rfl, rfl, rfl⟩⟩
set_option maxRecDepth 20000 in
theorem qL_592 : q_Vx (13, true, .putfield 24, [592, 11, 12, 2], []) := ⟨rfl, _, ⟨rfl, by decide, rfl, rfl, (tb_7 0 rfl rfl)⟩, Or.inr ⟨rfl, rfl, rfl⟩⟩
set_option maxRecDepth 20000 in
theorem qL_593 : q_Vx (13, true, .putfield 27, [593, 11, 13, 2], []) := ⟨rfl, _, ⟨rfl, by decide, rfl, rfl, (tb_7 1 rfl rfl)⟩, Or.inr ⟨rfl, rfl, rfl⟩⟩
set_option maxRecDepth 20000 in
theorem qL_594 : q_Vx (13, true, .putfield 30, [594, 11, 14, 2], []) := ⟨rfl, _, ⟨rfl, by decide, rfl, rfl, (tb_7 2 rfl rfl)⟩, Or.inr ⟨rfl, rfl, rfl⟩⟩
set_option maxRecDepth 20000 in
theorem qL_595 : q_Vx (13, true, .putfield 33, [595, 11, 15, 2], []) := ⟨rfl, _, ⟨rfl, by decide, rfl, rfl, (tb_7 3 rfl rfl)⟩, Or.inr ⟨rfl, rfl, rfl⟩⟩
set_option maxRecDepth 20000 in
theorem qL_596 : q_Vx (13, true, .putfield 36, [596, 11, 16, 2], []) := ⟨rfl, _, ⟨rfl, by decide, rfl, rfl, (tb_7 4 rfl rfl)⟩, Or.inr ⟨rfl, rfl, rfl⟩⟩
set_option maxRecDepth 20000 in
theorem qL_597 : q_Vx (13, true, .putfield 39, [597, 11, 26, 2], []) := ⟨rfl, _, ⟨rfl, by decide, rfl, rfl, (tb_7 14 rfl rfl)⟩, Or.inr ⟨rfl, rfl, rfl⟩⟩
set_option maxRecDepth 20000 in
theorem qL_598 : q_Vx (13, false, .putfield 42, [598, 11, 27, 0], []) := ⟨rfl, _, ⟨rfl, by decide, rfl, rfl, (tb_7 15 rfl rfl)⟩, Or.inl rfl⟩
set_option maxRecDepth 20000 in
theorem qL_599 : q_Vx (13, true, .putfield 45, [599, 11, 28, 2], []) := ⟨rfl, _, ⟨rfl, by decide, rfl, rfl, (tb_7 16 rfl rfl)⟩, Or.inr ⟨rfl, rfl, rfl⟩⟩
set_option maxRecDepth 20000 in
theorem qL_600 : q_Vx (13, true, .putfield 48, [600, 11, 29, 2], []) := ⟨rfl, _, ⟨rfl, by decide, rfl, rfl, (tb_7 17 rfl rfl)⟩, Or.inr ⟨rfl, rfl, rfl⟩⟩
set_option maxRecDepth 20000 in
theorem qL_601 : q_Vx (13, true, .putfield 51, [601, 11, 30, 2], []) := ⟨rfl, _, ⟨rfl, by decide, rfl, rfl, (tb_7 18 rfl rfl)⟩, Or.inr ⟨rfl, rfl, rfl⟩⟩
set_option maxRecDepth 20000 in
theorem qL_602 : q_Vx (13, true, .putfield 54, [602, 11, 31, 2], []) := ⟨rfl, _, ⟨rfl, by decide, rfl, rfl, (tb_7 19 rfl rfl)⟩, Or.inr ⟨rfl, rfl, rfl⟩⟩
set_option maxRecDepth 20000 in
theorem qL_603 : q_Vx (13, true, .putfield 57, [603, 11, 32, 2], []) := ⟨rfl, _, ⟨rfl, by decide, rfl, rfl, (tb_7 20 rfl rfl)⟩, Or.inr ⟨rfl, rfl, rfl⟩⟩
set_option maxRecDepth 20000 in
theorem qL_604 : q_Vx (13, true, .putfield 60, [604, 11, 33, 2], []) := ⟨rfl, _, ⟨rfl, by decide, rfl, rfl, (tb_7 21 rfl rfl)⟩, Or.inr ⟨rfl, rfl, rfl⟩⟩
set_option maxRecDepth 20000 in
theorem qL_605 : q_Vx (13, true, .putfield 63, [605, 11, 34, 2], []) := ⟨rfl, _, ⟨rfl, by decide, rfl, rfl, (tb_7 22 rfl rfl)⟩, Or.inr ⟨rfl, rfl, rfl⟩⟩
set_option maxRecDepth 20000 in
theorem qL_606 : q_Vx (13, true, .putfield 66, [606, 11, 35, 2], []) := ⟨rfl, _, ⟨rfl, by decide, rfl, rfl, (tb_7 23 rfl rfl)⟩, Or.inr ⟨rfl, rfl, rfl⟩⟩
set_option maxRecDepth 20000 in
theorem qL_607 : q_Vx (13, true, .putfield 69, [607, 11, 36, 2], []) := ⟨rfl, _, ⟨rfl, by decide, rfl, rfl, (tb_7 24 rfl rfl)⟩, Or.inr ⟨rfl, rfl, rfl⟩⟩
set_option maxRecDepth 20000 in
theorem qL_608 : q_Vx (13, true, .putfield 72, [608, 11, 37, 2], []) := ⟨rfl, _, ⟨rfl, by decide, rfl, rfl, (tb_7 25 rfl rfl)⟩, Or.inr ⟨rfl, rfl, rfl⟩⟩
set_option maxRecDepth 20000 in
theorem qL_609 : q_Vx (13, true, .putfield 75, [609, 11, 38, 2], []) := ⟨rfl, _, ⟨rfl, by decide, rfl, rfl, (tb_7 26 rfl rfl)⟩, Or.inr ⟨rfl, rfl, rfl⟩⟩
set_option maxRecDepth 20000 in
theorem qL_610 : q_Vx (13, true, .putfield 78, [610, 11, 39, 2], []) := ⟨rfl, _, ⟨rfl, by decide, rfl, rfl, (tb_7 27 rfl rfl)⟩, Or.inr ⟨rfl, rfl, rfl⟩⟩
set_option maxRecDepth 20000 in
theorem qL_611 : q_Vx (13, true, .putfield 81, [611, 11, 40, 2], []) := ⟨rfl, _, ⟨rfl, by decide, rfl, rfl, (tb_7 28 rfl rfl)⟩, Or.inr ⟨rfl, rfl, rfl⟩⟩
set_option maxRecDepth 20000 in
theorem qL_612 : q_Vx (13, true, .putfield 84, [612, 11, 41, 2], []) := ⟨rfl, _, ⟨rfl, by decide, rfl, rfl, (tb_7 29 rfl rfl)⟩, Or.inr ⟨rfl, rfl, rfl⟩⟩
set_option maxRecDepth 20000 in
theorem qL_613 : q_Vx (13, true, .putfield 87, [613, 11, 42, 2], []) := ⟨rfl, _, ⟨rfl, by decide, rfl, rfl, (tb_7 30 rfl rfl)⟩, Or.inr ⟨rfl, rfl, rfl⟩⟩
set_option maxRecDepth 20000 in
theorem qL_614 : q_Vx (13, true, .putfield 90, [614, 11, 43, 2], []) := ⟨rfl, _, ⟨rfl, by decide, rfl, rfl, (tb_7 31 rfl rfl)⟩, Or.inr ⟨rfl, rfl, rfl⟩⟩
set_option maxRecDepth 20000 in
theorem qL_615 : q_Vx (13, true, .putfield 93, [615, 11, 44, 2], []) := ⟨rfl, _, ⟨rfl, by decide, rfl, rfl, (tb_7 32 rfl rfl)⟩, Or.inr ⟨rfl, rfl, rfl⟩⟩
set_option maxRecDepth 20000 in
theorem qL_616 : q_Vx (13, true, .putfield 96, [616, 11, 45, 2], []) := ⟨rfl, _, ⟨rfl, by decide, rfl, rfl, (tb_7 33 rfl rfl)⟩, Or.inr ⟨rfl, rfl, rfl⟩⟩
set_option maxRecDepth 20000 in
theorem qL_617 : q_Vx (13, true, .putfield 99, [617, 11, 56, 2], []) := ⟨rfl, _, ⟨rfl, by decide, rfl, rfl, (tb_7 44 rfl rfl)⟩, Or.inr ⟨rfl, rfl, rfl⟩⟩
set_option maxRecDepth 20000 in
theorem qL_618 : q_Vx (13, true, .putfield 102, [618, 11, 58, 2], []) := ⟨rfl, _, ⟨rfl, by decide, rfl, rfl, (tb_7 46 rfl rfl)⟩, Or.inr ⟨rfl, rfl, rfl⟩⟩
set_option maxRecDepth 20000 in
theorem qL_619 : q_Vx (13, true, .putfield 105, [619, 11, 59, 2], []) := ⟨rfl, _, ⟨rfl, by decide, rfl, rfl, (tb_7 47 rfl rfl)⟩, Or.inr ⟨rfl, rfl, rfl⟩⟩
set_option maxRecDepth 20000 in
theorem qL_620 : q_Vx (13, true, .putfield 108, [620, 11, 60, 2], []) := ⟨rfl, _, ⟨rfl, by decide, rfl, rfl, (tb_7 48 rfl rfl)⟩, Or.inr ⟨rfl, rfl, rfl⟩⟩
set_option maxRecDepth 20000 in
theorem qL_621 : q_Vx (13, true, .putfield 111, [621, 11, 61, 2], []) := ⟨rfl, _, ⟨rfl, by decide, rfl, rfl, (tb_7 49 rfl rfl)⟩, Or.inr ⟨rfl, rfl, rfl⟩⟩
set_option maxRecDepth 20000 in
theorem qL_622 : q_Vx (13, true, .putfield 114, [622, 11, 63, 2], []) := ⟨rfl, _, ⟨rfl, by decide, rfl, rfl, (tb_7 51 rfl rfl)⟩, Or.inr ⟨rfl, rfl, rfl⟩⟩
set_option maxRecDepth 20000 in
theorem qL_623 : q_Vx (13, true, .putfield 117, [623, 11, 64, 2], []) := ⟨rfl, _, ⟨rfl, by decide, rfl, rfl, (tb_7 52 rfl rfl)⟩, Or.inr ⟨rfl, rfl, rfl⟩⟩
set_option maxRecDepth 20000 in
theorem qL_624 : q_Vx (13, true, .putfield 120, [624, 11, 65, 2], []) := ⟨rfl, _, ⟨rfl, by decide, rfl, rfl, (tb_7 53 rfl rfl)⟩, Or.inr ⟨rfl, rfl, rfl⟩⟩
set_option maxRecDepth 20000 in
theorem qL_625 : q_Vx (13, true, .putfield 123, [625, 11, 66, 2], []) := ⟨rfl, _, ⟨rfl, by decide, rfl, rfl, (tb_7 54 rfl rfl)⟩, Or.inr ⟨rfl, rfl, rfl⟩⟩
set_option maxRecDepth 20000 in
theorem qL_626 : q_Vx (13, true, .putfield 126, [626, 11, 67, 2], []) := ⟨rfl, _, ⟨rfl, by decide, rfl, rfl, (tb_7 55 rfl rfl)⟩, Or.inr ⟨rfl, rfl, rfl⟩⟩
set_option maxRecDepth 20000 in
theorem qL_627 : q_Vx (13, true, .putfield 129, [627, 11, 70, 2], []) := ⟨rfl, _, ⟨rfl, by decide, rfl, rfl, (tb_7 58 rfl rfl)⟩, Or.inr ⟨rfl, rfl, rfl⟩⟩
set_option maxRecDepth 20000 in
theorem qL_628 : q_Vx (13, true, .putfield 132, [628, 11, 71, 2], []) := ⟨rfl, _, ⟨rfl, by decide, rfl, rfl, (tb_7 59 rfl rfl)⟩, Or.inr ⟨rfl, rfl, rfl⟩⟩
set_option maxRecDepth 20000 in
theorem qL_629 : q_Vx (13, true, .putfield 135, [629, 11, 72, 2], []) := ⟨rfl, _, ⟨rfl, by decide, rfl, rfl, (tb_7 60 rfl rfl)⟩, Or.inr ⟨rfl, rfl, rfl⟩⟩
set_option maxRecDepth 20000 in
theorem qL_630 : q_Vx (13, true, .putfield 138, [630, 11, 73, 2], []) := ⟨rfl, _, ⟨rfl, by decide, rfl, rfl, (tb_7 61 rfl rfl)⟩, Or.inr ⟨rfl, rfl, rfl⟩⟩
set_option maxRecDepth 20000 in
theorem qL_631 : q_Vx (13, true, .putfield 141, [631, 11, 74, 2], []) := ⟨rfl, _, ⟨rfl, by decide, rfl, rfl, (tb_7 62 rfl rfl)⟩, Or.inr ⟨rfl, rfl, rfl⟩⟩
set_option maxRecDepth 20000 in
theorem qL_632 : q_Vx (13, true, .putfield 144, [632, 11, 75, 2], []) := ⟨rfl, _, ⟨rfl, by decide, rfl, rfl, (tb_7 63 rfl rfl)⟩, Or.inr ⟨rfl, rfl, rfl⟩⟩
set_option maxRecDepth 20000 in
theorem qL_633 : q_Vx (13, true, .putfield 147, [633, 11, 76, 2], []) := ⟨rfl, _, ⟨rfl, by decide, rfl, rfl, (tb_7 64 rfl rfl)⟩, Or.inr ⟨rfl, rfl, rfl⟩⟩
set_option maxRecDepth 20000 in
theorem qL_634 : q_Vx (13, true, .putfield 150, [634, 11, 77, 2], []) := ⟨rfl, _, ⟨rfl, by decide, rfl, rfl, (tb_7 65 rfl rfl)⟩, Or.inr ⟨rfl, rfl, rfl⟩⟩
set_option maxRecDepth 20000 in
theorem qL_635 : q_Vx (13, true, .putfield 153, [635, 11, 78, 2], []) := ⟨rfl, _, ⟨rfl, by decide, rfl, rfl, (tb_7 66 rfl rfl)⟩, Or.inr ⟨rfl, rfl, rfl⟩⟩
set_option maxRecDepth 20000 in
theorem qL_636 : q_Vx (13, true, .putfield 157, [636, 11, 81, 2], []) := ⟨rfl, _, ⟨rfl, by decide, rfl, rfl, (tb_7 69 rfl rfl)⟩, Or.inr ⟨rfl, rfl, rfl⟩⟩
set_option maxRecDepth 20000 in
theorem qL_637 : q_Vx (13, true, .putfield 160, [637, 11, 82, 2], []) := ⟨rfl, _, ⟨rfl, by decide, rfl, rfl, (tb_7 70 rfl rfl)⟩, Or.inr ⟨rfl, rfl, rfl⟩⟩
set_option maxRecDepth 20000 in
theorem qL_638 : q_Vx (13, true, .putfield 163, [638, 11, 83, 2], []) := ⟨rfl, _, ⟨rfl, by decide, rfl, rfl, (tb_7 71 rfl rfl)⟩, Or.inr ⟨rfl, rfl, rfl⟩⟩
set_option maxRecDepth 20000 in
theorem qL_639 : q_Vx (13, false, .getfield 108, [639, 11, 60, 2], []) := ⟨rfl, _, ⟨rfl, by decide, rfl, rfl, (tb_7 48 rfl rfl)⟩⟩
set_option maxRecDepth 20000 in
theorem qL_640 : q_Vx (13, false, .invokestatic 464, [640, 286, 2, 0, 0, 0], []) := ⟨rfl, iX12_nextState, rfl, k_X12_nextState, rfl, rfl, Or.inr (Or.inl ⟨rfl, Or.inl (tb_6 217 rfl rfl), (tb_6 218 rfl rfl), by decide⟩)⟩
set_option maxRecDepth 20000 in
theorem qL_641 : q_Vx (13, false, .invokevirtual 166, [641, 287, 1, 12, 0, 0], []) := ⟨rfl, iX12_layWalks, rfl, k_X12_layWalks, rfl, rfl, Or.inl ⟨rfl, (tb_6 213 rfl rfl), (tb_6 215 rfl rfl), (tb_s 63 rfl rfl), by decide, by decide, Or.inl ⟨11, _, rfl, rfl, rfl⟩⟩⟩
set_option maxRecDepth 20000 in
theorem qL_642 : q_Vx (13, false, .getfield 102, [642, 11, 58, 2], []) := ⟨rfl, _, ⟨rfl, by decide, rfl, rfl, (tb_7 46 rfl rfl)⟩⟩
set_option maxRecDepth 20000 in
theorem qL_643 : q_Vx (13, false, .getfield 430, [643, 11, 53, 0], []) := ⟨rfl, _, ⟨rfl, by decide, rfl, rfl, (tb_7 41 rfl rfl)⟩⟩
set_option maxRecDepth 20000 in
theorem qL_644 : q_Vx (13, false, .getfield 421, [644, 11, 50, 0], []) := ⟨rfl, _, ⟨rfl, by decide, rfl, rfl, (tb_7 38 rfl rfl)⟩⟩
set_option maxRecDepth 20000 in
theorem qL_645 : q_Vx (13, false, .getfield 75, [645, 11, 38, 2], []) := ⟨rfl, _, ⟨rfl, by decide, rfl, rfl, (tb_7 26 rfl rfl)⟩⟩
set_option maxRecDepth 20000 in
theorem qL_646 : q_Vx (13, false, .getfield 72, [646, 11, 37, 2], []) := ⟨rfl, _, ⟨rfl, by decide, rfl, rfl, (tb_7 25 rfl rfl)⟩⟩
set_option maxRecDepth 20000 in
theorem qL_647 : q_Vx (13, false, .invokevirtual 461, [647, 282, 2, 12, 0, 0], []) := ⟨rfl, iX12_restOrder, rfl, k_X12_restOrder, rfl, rfl, Or.inl ⟨rfl, (tb_6 224 rfl rfl), (tb_6 226 rfl rfl), (tb_s 65 rfl rfl), by decide, by decide, Or.inl ⟨11, _, rfl, rfl, rfl⟩⟩⟩
set_option maxRecDepth 20000 in
theorem qL_648 : q_Vx (13, false, .getfield 93, [648, 11, 44, 2], []) := ⟨rfl, _, ⟨rfl, by decide, rfl, rfl, (tb_7 32 rfl rfl)⟩⟩
set_option maxRecDepth 20000 in
theorem qL_649 : q_Vx (13, false, .getfield 424, [649, 11, 51, 0], []) := ⟨rfl, _, ⟨rfl, by decide, rfl, rfl, (tb_7 39 rfl rfl)⟩⟩
set_option maxRecDepth 20000 in
theorem qL_650 : q_Vx (13, false, .getfield 90, [650, 11, 43, 2], []) := ⟨rfl, _, ⟨rfl, by decide, rfl, rfl, (tb_7 31 rfl rfl)⟩⟩
set_option maxRecDepth 20000 in
theorem qL_651 : q_Vx (13, false, .getfield 96, [651, 11, 45, 2], []) := ⟨rfl, _, ⟨rfl, by decide, rfl, rfl, (tb_7 33 rfl rfl)⟩⟩
set_option maxRecDepth 20000 in
theorem qL_652 : q_Vx (13, false, .invokevirtual 169, [652, 283, 1, 12, 0, 0], []) := ⟨rfl, iX12_layTold, rfl, k_X12_layTold, rfl, rfl, Or.inl ⟨rfl, (tb_6 220 rfl rfl), (tb_6 222 rfl rfl), (tb_s 64 rfl rfl), by decide, by decide, Or.inl ⟨11, _, rfl, rfl, rfl⟩⟩⟩
set_option maxRecDepth 20000 in
theorem qL_653 : q_Vx (13, false, .getfield 172, [653, 11, 1, 0], []) := ⟨rfl, _, ⟨rfl, by decide, rfl, rfl, (tb_6 229 rfl rfl)⟩⟩
set_option maxRecDepth 20000 in
theorem qL_654 : q_Vx (13, false, .getfield 7, [654, 11, 0, 2], []) := ⟨rfl, _, ⟨rfl, by decide, rfl, rfl, (tb_6 228 rfl rfl)⟩⟩
set_option maxRecDepth 20000 in
theorem qL_655 : q_Vx (13, false, .putfield 172, [655, 11, 1, 0], []) := ⟨rfl, _, ⟨rfl, by decide, rfl, rfl, (tb_6 229 rfl rfl)⟩, Or.inl rfl⟩
set_option maxRecDepth 20000 in
theorem qL_656 : q_Vx (13, false, .invokevirtual 175, [656, 229, 2, 12, 0, 0], []) := ⟨rfl, iX12_four, rfl, k_X12_four, rfl, rfl, Or.inl ⟨rfl, (tb_8 5 rfl rfl), (tb_8 7 rfl rfl), (tb_s 66 rfl rfl), by decide, by decide, Or.inl ⟨11, _, rfl, rfl, rfl⟩⟩⟩
set_option maxRecDepth 20000 in
theorem qL_657 : q_Vx (13, false, .getfield 179, [657, 11, 4, 0], []) := ⟨rfl, _, ⟨rfl, by decide, rfl, rfl, (tb_6 232 rfl rfl)⟩⟩
set_option maxRecDepth 20000 in
theorem qL_658 : q_Vx (13, false, .getfield 182, [658, 11, 5, 0], []) := ⟨rfl, _, ⟨rfl, by decide, rfl, rfl, (tb_6 233 rfl rfl)⟩⟩
set_option maxRecDepth 20000 in
theorem qL_659 : q_Vx (13, false, .invokevirtual 185, [659, 231, 2, 12, 0, 0], []) := ⟨rfl, iX12_here, rfl, k_X12_here, rfl, rfl, Or.inl ⟨rfl, (tb_8 25 rfl rfl), (tb_8 27 rfl rfl), (tb_s 69 rfl rfl), by decide, by decide, Or.inl ⟨11, _, rfl, rfl, rfl⟩⟩⟩
set_option maxRecDepth 20000 in
theorem qL_660 : q_Vx (13, false, .putfield 179, [660, 11, 4, 0], []) := ⟨rfl, _, ⟨rfl, by decide, rfl, rfl, (tb_6 232 rfl rfl)⟩, Or.inl rfl⟩
set_option maxRecDepth 20000 in
theorem qL_661 : q_Vx (13, false, .putfield 189, [661, 11, 7, 0], []) := ⟨rfl, _, ⟨rfl, by decide, rfl, rfl, (tb_6 235 rfl rfl)⟩, Or.inl rfl⟩
set_option maxRecDepth 20000 in
theorem qL_662 : q_Vx (13, false, .putfield 192, [662, 11, 9, 1], []) := ⟨rfl, _, ⟨rfl, by decide, rfl, rfl, (tb_6 237 rfl rfl)⟩, Or.inl rfl⟩
set_option maxRecDepth 20000 in
theorem qL_663 : q_Vx (13, false, .putfield 196, [663, 11, 8, 0], []) := ⟨rfl, _, ⟨rfl, by decide, rfl, rfl, (tb_6 236 rfl rfl)⟩, Or.inl rfl⟩
set_option maxRecDepth 20000 in
theorem qL_664 : q_Vx (13, false, .putfield 199, [664, 11, 6, 0], []) := ⟨rfl, _, ⟨rfl, by decide, rfl, rfl, (tb_6 234 rfl rfl)⟩, Or.inl rfl⟩
set_option maxRecDepth 20000 in
theorem qL_665 : q_Vx (13, false, .invokestatic 202, [665, 232, 1, 0, 0, 0], []) := ⟨rfl, iX12_isLetter, rfl, k_X12_isLetter, rfl, rfl, Or.inr (Or.inl ⟨rfl, Or.inl (tb_8 29 rfl rfl), (tb_8 30 rfl rfl), by decide⟩)⟩
set_option maxRecDepth 20000 in
theorem qL_666 : q_Vx (13, false, .getfield 192, [666, 11, 9, 1], []) := ⟨rfl, _, ⟨rfl, by decide, rfl, rfl, (tb_6 237 rfl rfl)⟩⟩
set_option maxRecDepth 20000 in
theorem qL_667 : q_Vx (13, false, .invokestatic 206, [667, 233, 1, 0, 0, 0], []) := ⟨rfl, iX12_isDigit, rfl, k_X12_isDigit, rfl, rfl, Or.inr (Or.inl ⟨rfl, Or.inl (tb_8 32 rfl rfl), (tb_8 33 rfl rfl), by decide⟩)⟩
set_option maxRecDepth 20000 in
theorem qL_668 : q_Vx (13, false, .getfield 196, [668, 11, 8, 0], []) := ⟨rfl, _, ⟨rfl, by decide, rfl, rfl, (tb_6 236 rfl rfl)⟩⟩
set_option maxRecDepth 20000 in
theorem qL_669 : q_Vx (13, false, .invokestatic 209, [669, 234, 1, 0, 0, 0], []) := ⟨rfl, iX12_isSign, rfl, k_X12_isSign, rfl, rfl, Or.inr (Or.inl ⟨rfl, Or.inl (tb_8 35 rfl rfl), (tb_8 36 rfl rfl), by decide⟩)⟩
set_option maxRecDepth 20000 in
theorem qL_670 : q_Vx (13, false, .getfield 199, [670, 11, 6, 0], []) := ⟨rfl, _, ⟨rfl, by decide, rfl, rfl, (tb_6 234 rfl rfl)⟩⟩
set_option maxRecDepth 20000 in
theorem qL_671 : q_Vx (13, false, .getfield 212, [671, 11, 2, 0], []) := ⟨rfl, _, ⟨rfl, by decide, rfl, rfl, (tb_6 230 rfl rfl)⟩⟩
set_option maxRecDepth 20000 in
theorem qL_672 : q_Vx (13, false, .putfield 212, [672, 11, 2, 0], []) := ⟨rfl, _, ⟨rfl, by decide, rfl, rfl, (tb_6 230 rfl rfl)⟩, Or.inl rfl⟩
set_option maxRecDepth 20000 in
theorem qL_673 : q_Vx (13, false, .getfield 189, [673, 11, 7, 0], []) := ⟨rfl, _, ⟨rfl, by decide, rfl, rfl, (tb_6 235 rfl rfl)⟩⟩
set_option maxRecDepth 20000 in
theorem qL_674 : q_Vx (13, false, .putfield 13, [674, 11, 3, 0], []) := ⟨rfl, _, ⟨rfl, by decide, rfl, rfl, (tb_6 231 rfl rfl)⟩, Or.inl rfl⟩
set_option maxRecDepth 20000 in
theorem qL_675 : q_Vx (13, false, .ldc2_w 215, [675], [.long 110386941092709]) := ⟨rfl, _, rfl, (tb_8 42 rfl rfl)⟩
set_option maxRecDepth 20000 in
theorem qL_676 : q_Vx (13, false, .ldc2_w 217, [676], [.long 26994]) := ⟨rfl, _, rfl, (tb_8 63 rfl rfl)⟩
set_option maxRecDepth 20000 in
theorem qL_677 : q_Vx (13, false, .ldc2_w 219, [677], [.long 26980]) := ⟨rfl, _, rfl, (tb_8 64 rfl rfl)⟩
set_option maxRecDepth 20000 in
theorem qL_678 : q_Vx (13, false, .ldc2_w 221, [678], [.long 426903366771]) := ⟨rfl, _, rfl, (tb_8 65 rfl rfl)⟩
set_option maxRecDepth 20000 in
theorem qL_679 : q_Vx (13, false, .ldc2_w 223, [679], [.long 7234932]) := ⟨rfl, _, rfl, (tb_8 66 rfl rfl)⟩
set_option maxRecDepth 20000 in
theorem qL_680 : q_Vx (13, false, .ldc2_w 225, [680], [.long 1718775661]) := ⟨rfl, _, rfl, (tb_8 67 rfl rfl)⟩
set_option maxRecDepth 20000 in
theorem qL_681 : q_Vx (13, false, .ldc2_w 227, [681], [.long 6385252]) := ⟨rfl, _, rfl, (tb_8 68 rfl rfl)⟩
set_option maxRecDepth 20000 in
theorem qL_682 : q_Vx (13, false, .ldc2_w 229, [682], [.long 29807]) := ⟨rfl, _, rfl, (tb_8 69 rfl rfl)⟩
set_option maxRecDepth 20000 in
theorem qL_683 : q_Vx (13, false, .ldc2_w 231, [683], [.long 1935763045]) := ⟨rfl, _, rfl, (tb_8 70 rfl rfl)⟩
set_option maxRecDepth 20000 in
theorem qL_684 : q_Vx (13, false, .ldc2_w 233, [684], [.long 495673373300]) := ⟨rfl, _, rfl, (tb_8 71 rfl rfl)⟩
set_option maxRecDepth 20000 in
theorem qL_685 : q_Vx (13, false, .ldc2_w 235, [685], [.long 7106423]) := ⟨rfl, _, rfl, (tb_8 72 rfl rfl)⟩
set_option maxRecDepth 20000 in
theorem qL_686 : q_Vx (13, false, .ldc2_w 237, [686], [.long 1751738216]) := ⟨rfl, _, rfl, (tb_8 73 rfl rfl)⟩
set_option maxRecDepth 20000 in
theorem qL_687 : q_Vx (13, false, .ldc2_w 239, [687], [.long 1869636974]) := ⟨rfl, _, rfl, (tb_8 74 rfl rfl)⟩
set_option maxRecDepth 20000 in
theorem qL_688 : q_Vx (13, false, .ldc2_w 241, [688], [.long 495875089259]) := ⟨rfl, _, rfl, (tb_8 75 rfl rfl)⟩
set_option maxRecDepth 20000 in
theorem qL_689 : q_Vx (13, false, .ldc2_w 243, [689], [.long 112615911158899]) := ⟨rfl, _, rfl, (tb_8 76 rfl rfl)⟩
set_option maxRecDepth 20000 in
theorem qL_690 : q_Vx (13, false, .ldc2_w 245, [690], [.long 474315584357]) := ⟨rfl, _, rfl, (tb_8 77 rfl rfl)⟩
set_option maxRecDepth 20000 in
theorem qL_691 : q_Vx (13, false, .ldc2_w 247, [691], [.long 1685217655]) := ⟨rfl, _, rfl, (tb_8 78 rfl rfl)⟩
set_option maxRecDepth 20000 in
theorem qL_692 : q_Vx (13, false, .ldc2_w 249, [692], [.long 1667591276]) := ⟨rfl, _, rfl, (tb_8 79 rfl rfl)⟩
set_option maxRecDepth 20000 in
theorem qL_693 : q_Vx (13, false, .ldc2_w 251, [693], [.long 427021001579]) := ⟨rfl, _, rfl, (tb_8 80 rfl rfl)⟩
set_option maxRecDepth 20000 in
theorem qL_694 : q_Vx (13, false, .ldc2_w 253, [694], [.long 28530]) := ⟨rfl, _, rfl, (tb_8 81 rfl rfl)⟩
set_option maxRecDepth 20000 in
theorem qL_695 : q_Vx (13, false, .ldc2_w 255, [695], [.long 7237492]) := ⟨rfl, _, rfl, (tb_8 82 rfl rfl)⟩
set_option maxRecDepth 20000 in
theorem qL_696 : q_Vx (13, false, .invokevirtual 257, [696, 238, 1, 12, 0, 0], []) := ⟨rfl, iX12_isOwn, rfl, k_X12_isOwn, rfl, rfl, Or.inl ⟨rfl, (tb_8 59 rfl rfl), (tb_8 61 rfl rfl), (tb_s 75 rfl rfl), by decide, by decide, Or.inl ⟨11, _, rfl, rfl, rfl⟩⟩⟩
set_option maxRecDepth 20000 in
theorem qL_697 : q_Vx (13, false, .invokevirtual 261, [697, 237, 2, 12, 0, 0], []) := ⟨rfl, iX12_isWord, rfl, k_X12_isWord, rfl, rfl, Or.inl ⟨rfl, (tb_8 43 rfl rfl), (tb_8 45 rfl rfl), (tb_s 71 rfl rfl), by decide, by decide, Or.inl ⟨11, _, rfl, rfl, rfl⟩⟩⟩
set_option maxRecDepth 20000 in
theorem qL_698 : q_Vx (13, false, .invokevirtual 265, [698, 236, 2, 12, 0, 0], []) := ⟨rfl, iX12_wrong, rfl, k_X12_wrong, rfl, rfl, Or.inl ⟨rfl, (tb_8 83 rfl rfl), (tb_8 85 rfl rfl), (tb_s 76 rfl rfl), by decide, by decide, Or.inl ⟨11, _, rfl, rfl, rfl⟩⟩⟩
set_option maxRecDepth 20000 in
theorem qL_699 : q_Vx (13, false, .invokevirtual 268, [699, 235, 1, 12, 0, 0], []) := ⟨rfl, iX12_token, rfl, k_X12_token, rfl, rfl, Or.inl ⟨rfl, (tb_8 21 rfl rfl), (tb_8 23 rfl rfl), (tb_s 68 rfl rfl), by decide, by decide, Or.inl ⟨11, _, rfl, rfl, rfl⟩⟩⟩
set_option maxRecDepth 20000 in
theorem qL_700 : q_Vx (13, false, .invokevirtual 271, [700, 241, 3, 12, 0, 0], []) := ⟨rfl, iX12_numberHere, rfl, k_X12_numberHere, rfl, rfl, Or.inl ⟨rfl, (tb_8 103 rfl rfl), (tb_8 105 rfl rfl), (tb_s 81 rfl rfl), by decide, by decide, Or.inl ⟨11, _, rfl, rfl, rfl⟩⟩⟩
set_option maxRecDepth 20000 in
theorem qL_701 : q_Vx (13, false, .invokevirtual 275, [701, 240, 2, 12, 0, 0], []) := ⟨rfl, iX12_want, rfl, k_X12_want, rfl, rfl, Or.inl ⟨rfl, (tb_8 95 rfl rfl), (tb_8 97 rfl rfl), (tb_s 79 rfl rfl), by decide, by decide, Or.inl ⟨11, _, rfl, rfl, rfl⟩⟩⟩
set_option maxRecDepth 20000 in
theorem qL_702 : q_Vx (13, false, .invokevirtual 279, [702, 242, 3, 12, 0, 0], []) := ⟨rfl, iX12_toldNumber, rfl, k_X12_toldNumber, rfl, rfl, Or.inl ⟨rfl, (tb_8 99 rfl rfl), (tb_8 101 rfl rfl), (tb_s 80 rfl rfl), by decide, by decide, Or.inl ⟨11, _, rfl, rfl, rfl⟩⟩⟩
set_option maxRecDepth 20000 in
theorem qL_703 : q_Vx (13, false, .getfield 17, [703, 11, 10, 2], []) := ⟨rfl, _, ⟨rfl, by decide, rfl, rfl, (tb_6 238 rfl rfl)⟩⟩
set_option maxRecDepth 20000 in
theorem qL_704 : q_Vx (13, false, .invokevirtual 282, [704, 239, 1, 12, 0, 0], []) := ⟨rfl, iX12_isName, rfl, k_X12_isName, rfl, rfl, Or.inl ⟨rfl, (tb_8 55 rfl rfl), (tb_8 57 rfl rfl), (tb_s 74 rfl rfl), by decide, by decide, Or.inl ⟨11, _, rfl, rfl, rfl⟩⟩⟩
set_option maxRecDepth 20000 in
theorem qL_705 : q_Vx (13, false, .invokevirtual 285, [705, 244, 3, 12, 0, 0], []) := ⟨rfl, iX12_find, rfl, k_X12_find, rfl, rfl, Or.inl ⟨rfl, (tb_8 87 rfl rfl), (tb_8 89 rfl rfl), (tb_s 77 rfl rfl), by decide, by decide, Or.inl ⟨11, _, rfl, rfl, rfl⟩⟩⟩
set_option maxRecDepth 20000 in
theorem qL_706 : q_Vx (13, false, .getfield 21, [706, 11, 11, 2], []) := ⟨rfl, _, ⟨rfl, by decide, rfl, rfl, (tb_6 239 rfl rfl)⟩⟩
set_option maxRecDepth 20000 in
theorem qL_707 : q_Vx (13, false, .getfield 288, [707, 11, 17, 0], []) := ⟨rfl, _, ⟨rfl, by decide, rfl, rfl, (tb_7 5 rfl rfl)⟩⟩
set_option maxRecDepth 20000 in
theorem qL_708 : q_Vx (13, false, .getfield 24, [708, 11, 12, 2], []) := ⟨rfl, _, ⟨rfl, by decide, rfl, rfl, (tb_7 0 rfl rfl)⟩⟩
set_option maxRecDepth 20000 in
theorem qL_709 : q_Vx (13, false, .putfield 288, [709, 11, 17, 0], []) := ⟨rfl, _, ⟨rfl, by decide, rfl, rfl, (tb_7 5 rfl rfl)⟩, Or.inl rfl⟩
set_option maxRecDepth 20000 in
theorem qL_710 : q_Vx (13, false, .getfield 291, [710, 11, 19, 0], []) := ⟨rfl, _, ⟨rfl, by decide, rfl, rfl, (tb_7 7 rfl rfl)⟩⟩
set_option maxRecDepth 20000 in
theorem qL_711 : q_Vx (13, false, .getfield 33, [711, 11, 15, 2], []) := ⟨rfl, _, ⟨rfl, by decide, rfl, rfl, (tb_7 3 rfl rfl)⟩⟩
set_option maxRecDepth 20000 in
theorem qL_712 : q_Vx (13, false, .invokestatic 294, [712, 248, 1, 0, 0, 0], []) := ⟨rfl, iX12_tight, rfl, k_X12_tight, rfl, rfl, Or.inr (Or.inl ⟨rfl, Or.inl (tb_8 150 rfl rfl), (tb_8 151 rfl rfl), by decide⟩)⟩
set_option maxRecDepth 20000 in
theorem qL_713 : q_Vx (13, false, .putfield 291, [713, 11, 19, 0], []) := ⟨rfl, _, ⟨rfl, by decide, rfl, rfl, (tb_7 7 rfl rfl)⟩, Or.inl rfl⟩
set_option maxRecDepth 20000 in
theorem qL_714 : q_Vx (13, false, .invokevirtual 297, [714, 247, 3, 12, 0, 0], []) := ⟨rfl, iX12_add, rfl, k_X12_add, rfl, rfl, Or.inl ⟨rfl, (tb_8 169 rfl rfl), (tb_8 171 rfl rfl), (tb_s 96 rfl rfl), by decide, by decide, Or.inl ⟨11, _, rfl, rfl, rfl⟩⟩⟩
set_option maxRecDepth 20000 in
theorem qL_715 : q_Vx (13, false, .getfield 301, [715, 11, 23, 0], []) := ⟨rfl, _, ⟨rfl, by decide, rfl, rfl, (tb_7 11 rfl rfl)⟩⟩
set_option maxRecDepth 20000 in
theorem qL_716 : q_Vx (13, false, .putfield 301, [716, 11, 23, 0], []) := ⟨rfl, _, ⟨rfl, by decide, rfl, rfl, (tb_7 11 rfl rfl)⟩, Or.inl rfl⟩
set_option maxRecDepth 20000 in
theorem qL_717 : q_Vx (13, false, .getfield 304, [717, 11, 20, 0], []) := ⟨rfl, _, ⟨rfl, by decide, rfl, rfl, (tb_7 8 rfl rfl)⟩⟩
set_option maxRecDepth 20000 in
theorem qL_718 : q_Vx (13, false, .getfield 307, [718, 11, 22, 0], []) := ⟨rfl, _, ⟨rfl, by decide, rfl, rfl, (tb_7 10 rfl rfl)⟩⟩
set_option maxRecDepth 20000 in
theorem qL_719 : q_Vx (13, false, .putfield 304, [719, 11, 20, 0], []) := ⟨rfl, _, ⟨rfl, by decide, rfl, rfl, (tb_7 8 rfl rfl)⟩, Or.inl rfl⟩
set_option maxRecDepth 20000 in
theorem qL_720 : q_Vx (13, false, .putfield 307, [720, 11, 22, 0], []) := ⟨rfl, _, ⟨rfl, by decide, rfl, rfl, (tb_7 10 rfl rfl)⟩, Or.inl rfl⟩
set_option maxRecDepth 20000 in
theorem qL_721 : q_Vx (13, false, .invokevirtual 310, [721, 251, 1, 12, 0, 0], []) := ⟨rfl, iX12_mayNot, rfl, k_X12_mayNot, rfl, rfl, Or.inl ⟨rfl, (tb_8 146 rfl rfl), (tb_8 148 rfl rfl), (tb_s 91 rfl rfl), by decide, by decide, Or.inl ⟨11, _, rfl, rfl, rfl⟩⟩⟩
set_option maxRecDepth 20000 in
theorem qL_722 : q_Vx (13, false, .invokevirtual 313, [722, 255, 2, 12, 0, 0], []) := ⟨rfl, iX12_openUp, rfl, k_X12_openUp, rfl, rfl, Or.inl ⟨rfl, (tb_8 153 rfl rfl), (tb_8 155 rfl rfl), (tb_s 92 rfl rfl), by decide, by decide, Or.inl ⟨11, _, rfl, rfl, rfl⟩⟩⟩
set_option maxRecDepth 20000 in
theorem qL_723 : q_Vx (13, false, .invokevirtual 316, [723, 253, 1, 12, 0, 0], []) := ⟨rfl, iX12_isFull, rfl, k_X12_isFull, rfl, rfl, Or.inl ⟨rfl, (tb_8 157 rfl rfl), (tb_8 159 rfl rfl), (tb_s 93 rfl rfl), by decide, by decide, Or.inl ⟨11, _, rfl, rfl, rfl⟩⟩⟩
set_option maxRecDepth 20000 in
theorem qL_724 : q_Vx (13, false, .invokevirtual 319, [724, 254, 1, 12, 0, 0], []) := ⟨rfl, iX12_countUnit, rfl, k_X12_countUnit, rfl, rfl, Or.inl ⟨rfl, (tb_8 161 rfl rfl), (tb_8 163 rfl rfl), (tb_s 94 rfl rfl), by decide, by decide, Or.inl ⟨11, _, rfl, rfl, rfl⟩⟩⟩
set_option maxRecDepth 20000 in
theorem qL_725 : q_Vx (13, false, .invokevirtual 322, [725, 252, 1, 12, 0, 0], []) := ⟨rfl, iX12_asked, rfl, k_X12_asked, rfl, rfl, Or.inl ⟨rfl, (tb_8 165 rfl rfl), (tb_8 167 rfl rfl), (tb_s 95 rfl rfl), by decide, by decide, Or.inl ⟨11, _, rfl, rfl, rfl⟩⟩⟩
set_option maxRecDepth 20000 in
theorem qL_726 : q_Vx (13, false, .putfield 326, [726, 11, 24, 3], []) := ⟨rfl, _, ⟨rfl, by decide, rfl, rfl, (tb_7 12 rfl rfl)⟩, Or.inl rfl⟩
set_option maxRecDepth 20000 in
theorem qL_727 : q_Vx (13, false, .invokevirtual 330, [727, 256, 1, 12, 0, 0], []) := ⟨rfl, iX12_unit, rfl, k_X12_unit, rfl, rfl, Or.inl ⟨rfl, (tb_8 142 rfl rfl), (tb_8 144 rfl rfl), (tb_s 90 rfl rfl), by decide, by decide, Or.inl ⟨11, _, rfl, rfl, rfl⟩⟩⟩
set_option maxRecDepth 20000 in
theorem qL_728 : q_Vx (13, false, .invokevirtual 333, [728, 257, 1, 12, 0, 0], []) := ⟨rfl, iX12_sign, rfl, k_X12_sign, rfl, rfl, Or.inl ⟨rfl, (tb_8 173 rfl rfl), (tb_8 175 rfl rfl), (tb_s 97 rfl rfl), by decide, by decide, Or.inl ⟨11, _, rfl, rfl, rfl⟩⟩⟩
set_option maxRecDepth 20000 in
theorem qL_729 : q_Vx (13, false, .invokevirtual 336, [729, 258, 1, 12, 0, 0], []) := ⟨rfl, iX12_hasBracket, rfl, k_X12_hasBracket, rfl, rfl, Or.inl ⟨rfl, (tb_8 177 rfl rfl), (tb_8 179 rfl rfl), (tb_s 98 rfl rfl), by decide, by decide, Or.inl ⟨11, _, rfl, rfl, rfl⟩⟩⟩
set_option maxRecDepth 20000 in
theorem qL_730 : q_Vx (13, false, .invokevirtual 339, [730, 249, 2, 12, 0, 0], []) := ⟨rfl, iX12_close, rfl, k_X12_close, rfl, rfl, Or.inl ⟨rfl, (tb_8 181 rfl rfl), (tb_8 183 rfl rfl), (tb_s 99 rfl rfl), by decide, by decide, Or.inl ⟨11, _, rfl, rfl, rfl⟩⟩⟩
set_option maxRecDepth 20000 in
theorem qL_731 : q_Vx (13, false, .invokevirtual 342, [731, 250, 1, 12, 0, 0], []) := ⟨rfl, iX12_hasRelation, rfl, k_X12_hasRelation, rfl, rfl, Or.inl ⟨rfl, (tb_8 185 rfl rfl), (tb_8 187 rfl rfl), (tb_s 100 rfl rfl), by decide, by decide, Or.inl ⟨11, _, rfl, rfl, rfl⟩⟩⟩
set_option maxRecDepth 20000 in
theorem qL_732 : q_Vx (13, false, .invokestatic 345, [732, 260, 1, 0, 0, 0], []) := ⟨rfl, iX12_truth, rfl, k_X12_truth, rfl, rfl, Or.inr (Or.inl ⟨rfl, Or.inl (tb_8 215 rfl rfl), (tb_8 216 rfl rfl), by decide⟩)⟩
set_option maxRecDepth 20000 in
theorem qL_733 : q_Vx (13, false, .getfield 42, [733, 11, 27, 0], []) := ⟨rfl, _, ⟨rfl, by decide, rfl, rfl, (tb_7 15 rfl rfl)⟩⟩
set_option maxRecDepth 20000 in
theorem qL_734 : q_Vx (13, false, .getfield 349, [734, 11, 25, 3], []) := ⟨rfl, _, ⟨rfl, by decide, rfl, rfl, (tb_7 13 rfl rfl)⟩⟩
set_option maxRecDepth 20000 in
theorem qL_735 : q_Vx (13, false, .getfield 39, [735, 11, 26, 2], []) := ⟨rfl, _, ⟨rfl, by decide, rfl, rfl, (tb_7 14 rfl rfl)⟩⟩
set_option maxRecDepth 20000 in
theorem qL_736 : q_Vx (13, false, .getfield 81, [736, 11, 40, 2], []) := ⟨rfl, _, ⟨rfl, by decide, rfl, rfl, (tb_7 28 rfl rfl)⟩⟩
set_option maxRecDepth 20000 in
theorem qL_737 : q_Vx (13, false, .getfield 352, [737, 11, 18, 0], []) := ⟨rfl, _, ⟨rfl, by decide, rfl, rfl, (tb_7 6 rfl rfl)⟩⟩
set_option maxRecDepth 20000 in
theorem qL_738 : q_Vx (13, false, .getfield 27, [738, 11, 13, 2], []) := ⟨rfl, _, ⟨rfl, by decide, rfl, rfl, (tb_7 1 rfl rfl)⟩⟩
set_option maxRecDepth 20000 in
theorem qL_739 : q_Vx (13, false, .getfield 36, [739, 11, 16, 2], []) := ⟨rfl, _, ⟨rfl, by decide, rfl, rfl, (tb_7 4 rfl rfl)⟩⟩
set_option maxRecDepth 20000 in
theorem qL_740 : q_Vx (13, false, .getfield 30, [740, 11, 14, 2], []) := ⟨rfl, _, ⟨rfl, by decide, rfl, rfl, (tb_7 2 rfl rfl)⟩⟩
set_option maxRecDepth 20000 in
theorem qL_741 : q_Vx (13, false, .invokestatic 355, [741, 261, 3, 0, 0, 0], []) := ⟨rfl, iX12_done, rfl, k_X12_done, rfl, rfl, Or.inr (Or.inl ⟨rfl, Or.inl (tb_9 52 rfl rfl), (tb_9 53 rfl rfl), by decide⟩)⟩
set_option maxRecDepth 20000 in
theorem qL_742 : q_Vx (13, false, .getfield 359, [742, 11, 46, 0], []) := ⟨rfl, _, ⟨rfl, by decide, rfl, rfl, (tb_7 34 rfl rfl)⟩⟩
set_option maxRecDepth 20000 in
theorem qL_743 : q_Vx (13, false, .invokevirtual 362, [743, 245, 3, 12, 0, 0], []) := ⟨rfl, iX12_newName, rfl, k_X12_newName, rfl, rfl, Or.inl ⟨rfl, (tb_8 51 rfl rfl), (tb_8 53 rfl rfl), (tb_s 73 rfl rfl), by decide, by decide, Or.inl ⟨11, _, rfl, rfl, rfl⟩⟩⟩
set_option maxRecDepth 20000 in
theorem qL_744 : q_Vx (13, false, .getfield 45, [744, 11, 28, 2], []) := ⟨rfl, _, ⟨rfl, by decide, rfl, rfl, (tb_7 16 rfl rfl)⟩⟩
set_option maxRecDepth 20000 in
theorem qL_745 : q_Vx (13, false, .invokevirtual 365, [745, 243, 4, 12, 0, 0], []) := ⟨rfl, iX12_toldBy, rfl, k_X12_toldBy, rfl, rfl, Or.inl ⟨rfl, (tb_8 91 rfl rfl), (tb_8 93 rfl rfl), (tb_s 78 rfl rfl), by decide, by decide, Or.inl ⟨11, _, rfl, rfl, rfl⟩⟩⟩
set_option maxRecDepth 20000 in
theorem qL_746 : q_Vx (13, false, .getfield 48, [746, 11, 29, 2], []) := ⟨rfl, _, ⟨rfl, by decide, rfl, rfl, (tb_7 17 rfl rfl)⟩⟩
set_option maxRecDepth 20000 in
theorem qL_747 : q_Vx (13, false, .getfield 51, [747, 11, 30, 2], []) := ⟨rfl, _, ⟨rfl, by decide, rfl, rfl, (tb_7 18 rfl rfl)⟩⟩
set_option maxRecDepth 20000 in
theorem qL_748 : q_Vx (13, false, .getfield 54, [748, 11, 31, 2], []) := ⟨rfl, _, ⟨rfl, by decide, rfl, rfl, (tb_7 19 rfl rfl)⟩⟩
set_option maxRecDepth 20000 in
theorem qL_749 : q_Vx (13, false, .getfield 66, [749, 11, 35, 2], []) := ⟨rfl, _, ⟨rfl, by decide, rfl, rfl, (tb_7 23 rfl rfl)⟩⟩
set_option maxRecDepth 20000 in
theorem qL_750 : q_Vx (13, false, .putfield 359, [750, 11, 46, 0], []) := ⟨rfl, _, ⟨rfl, by decide, rfl, rfl, (tb_7 34 rfl rfl)⟩, Or.inl rfl⟩
set_option maxRecDepth 20000 in
theorem qL_751 : q_Vx (13, false, .invokevirtual 369, [751, 246, 3, 12, 0, 0], []) := ⟨rfl, iX12_oldName, rfl, k_X12_oldName, rfl, rfl, Or.inl ⟨rfl, (tb_8 119 rfl rfl), (tb_8 121 rfl rfl), (tb_s 85 rfl rfl), by decide, by decide, Or.inl ⟨11, _, rfl, rfl, rfl⟩⟩⟩
set_option maxRecDepth 20000 in
theorem qL_752 : q_Vx (13, false, .invokevirtual 372, [752, 267, 1, 12, 0, 0], []) := ⟨rfl, iX12_readCell, rfl, k_X12_readCell, rfl, rfl, Or.inl ⟨rfl, (tb_8 115 rfl rfl), (tb_8 117 rfl rfl), (tb_s 84 rfl rfl), by decide, by decide, Or.inl ⟨11, _, rfl, rfl, rfl⟩⟩⟩
set_option maxRecDepth 20000 in
theorem qL_753 : q_Vx (13, false, .getfield 375, [753, 11, 47, 0], []) := ⟨rfl, _, ⟨rfl, by decide, rfl, rfl, (tb_7 35 rfl rfl)⟩⟩
set_option maxRecDepth 20000 in
theorem qL_754 : q_Vx (13, false, .getfield 57, [754, 11, 32, 2], []) := ⟨rfl, _, ⟨rfl, by decide, rfl, rfl, (tb_7 20 rfl rfl)⟩⟩
set_option maxRecDepth 20000 in
theorem qL_755 : q_Vx (13, false, .invokevirtual 378, [755, 268, 2, 12, 0, 0], []) := ⟨rfl, iX12_readOwnCell, rfl, k_X12_readOwnCell, rfl, rfl, Or.inl ⟨rfl, (tb_8 111 rfl rfl), (tb_8 113 rfl rfl), (tb_s 83 rfl rfl), by decide, by decide, Or.inl ⟨11, _, rfl, rfl, rfl⟩⟩⟩
set_option maxRecDepth 20000 in
theorem qL_756 : q_Vx (13, false, .getfield 60, [756, 11, 33, 2], []) := ⟨rfl, _, ⟨rfl, by decide, rfl, rfl, (tb_7 21 rfl rfl)⟩⟩
set_option maxRecDepth 20000 in
theorem qL_757 : q_Vx (13, false, .getfield 63, [757, 11, 34, 2], []) := ⟨rfl, _, ⟨rfl, by decide, rfl, rfl, (tb_7 22 rfl rfl)⟩⟩
set_option maxRecDepth 20000 in
theorem qL_758 : q_Vx (13, false, .putfield 375, [758, 11, 47, 0], []) := ⟨rfl, _, ⟨rfl, by decide, rfl, rfl, (tb_7 35 rfl rfl)⟩, Or.inl rfl⟩
set_option maxRecDepth 20000 in
theorem qL_759 : q_Vx (13, false, .getfield 69, [759, 11, 36, 2], []) := ⟨rfl, _, ⟨rfl, by decide, rfl, rfl, (tb_7 24 rfl rfl)⟩⟩
set_option maxRecDepth 20000 in
theorem qL_760 : q_Vx (13, false, .invokestatic 381, [760, 263, 2, 0, 0, 0], []) := ⟨rfl, iX12_has, rfl, k_X12_has, rfl, rfl, Or.inr (Or.inl ⟨rfl, Or.inl (tb_8 131 rfl rfl), (tb_8 132 rfl rfl), by decide⟩)⟩
set_option maxRecDepth 20000 in
theorem qL_761 : q_Vx (13, false, .invokevirtual 385, [761, 266, 1, 12, 0, 0], []) := ⟨rfl, iX12_readDevice, rfl, k_X12_readDevice, rfl, rfl, Or.inl ⟨rfl, (tb_8 47 rfl rfl), (tb_8 49 rfl rfl), (tb_s 72 rfl rfl), by decide, by decide, Or.inl ⟨11, _, rfl, rfl, rfl⟩⟩⟩
set_option maxRecDepth 20000 in
theorem qL_762 : q_Vx (13, false, .invokevirtual 388, [762, 269, 1, 12, 0, 0], []) := ⟨rfl, iX12_readNet, rfl, k_X12_readNet, rfl, rfl, Or.inl ⟨rfl, (tb_8 107 rfl rfl), (tb_8 109 rfl rfl), (tb_s 82 rfl rfl), by decide, by decide, Or.inl ⟨11, _, rfl, rfl, rfl⟩⟩⟩
set_option maxRecDepth 20000 in
theorem qL_763 : q_Vx (13, false, .invokevirtual 391, [763, 270, 1, 12, 0, 0], []) := ⟨rfl, iX12_readShort, rfl, k_X12_readShort, rfl, rfl, Or.inl ⟨rfl, (tb_8 123 rfl rfl), (tb_8 125 rfl rfl), (tb_s 86 rfl rfl), by decide, by decide, Or.inl ⟨11, _, rfl, rfl, rfl⟩⟩⟩
set_option maxRecDepth 20000 in
theorem qL_764 : q_Vx (13, false, .invokevirtual 394, [764, 271, 1, 12, 0, 0], []) := ⟨rfl, iX12_readOpen, rfl, k_X12_readOpen, rfl, rfl, Or.inl ⟨rfl, (tb_8 127 rfl rfl), (tb_8 129 rfl rfl), (tb_s 87 rfl rfl), by decide, by decide, Or.inl ⟨11, _, rfl, rfl, rfl⟩⟩⟩
set_option maxRecDepth 20000 in
theorem qL_765 : q_Vx (13, false, .invokevirtual 397, [765, 272, 1, 12, 0, 0], []) := ⟨rfl, iX12_readStuck, rfl, k_X12_readStuck, rfl, rfl, Or.inl ⟨rfl, (tb_8 134 rfl rfl), (tb_8 136 rfl rfl), (tb_s 88 rfl rfl), by decide, by decide, Or.inl ⟨11, _, rfl, rfl, rfl⟩⟩⟩
set_option maxRecDepth 20000 in
theorem qL_766 : q_Vx (13, false, .getfield 326, [766, 11, 24, 3], []) := ⟨rfl, _, ⟨rfl, by decide, rfl, rfl, (tb_7 12 rfl rfl)⟩⟩
set_option maxRecDepth 20000 in
theorem qL_767 : q_Vx (13, false, .invokevirtual 400, [767, 259, 1, 12, 0, 0], []) := ⟨rfl, iX12_formula, rfl, k_X12_formula, rfl, rfl, Or.inl ⟨rfl, (tb_8 138 rfl rfl), (tb_8 140 rfl rfl), (tb_s 89 rfl rfl), by decide, by decide, Or.inl ⟨11, _, rfl, rfl, rfl⟩⟩⟩
set_option maxRecDepth 20000 in
theorem qL_768 : q_Vx (13, false, .getfield 403, [768, 11, 54, 3], []) := ⟨rfl, _, ⟨rfl, by decide, rfl, rfl, (tb_7 42 rfl rfl)⟩⟩
set_option maxRecDepth 20000 in
theorem qL_769 : q_Vx (13, false, .putfield 403, [769, 11, 54, 3], []) := ⟨rfl, _, ⟨rfl, by decide, rfl, rfl, (tb_7 42 rfl rfl)⟩, Or.inl rfl⟩
set_option maxRecDepth 20000 in
theorem qL_770 : q_Vx (13, false, .putfield 406, [770, 11, 48, 0], []) := ⟨rfl, _, ⟨rfl, by decide, rfl, rfl, (tb_7 36 rfl rfl)⟩, Or.inl rfl⟩
set_option maxRecDepth 20000 in
theorem qL_771 : q_Vx (13, false, .getfield 409, [771, 11, 55, 3], []) := ⟨rfl, _, ⟨rfl, by decide, rfl, rfl, (tb_7 43 rfl rfl)⟩⟩
set_option maxRecDepth 20000 in
theorem qL_772 : q_Vx (13, false, .putfield 409, [772, 11, 55, 3], []) := ⟨rfl, _, ⟨rfl, by decide, rfl, rfl, (tb_7 43 rfl rfl)⟩, Or.inl rfl⟩
set_option maxRecDepth 20000 in
theorem qL_773 : q_Vx (13, false, .putfield 412, [773, 11, 49, 0], []) := ⟨rfl, _, ⟨rfl, by decide, rfl, rfl, (tb_7 37 rfl rfl)⟩, Or.inl rfl⟩
set_option maxRecDepth 20000 in
theorem qL_774 : q_Vx (13, false, .putfield 182, [774, 11, 5, 0], []) := ⟨rfl, _, ⟨rfl, by decide, rfl, rfl, (tb_6 233 rfl rfl)⟩, Or.inl rfl⟩
set_option maxRecDepth 20000 in
theorem qL_775 : q_Vx (13, false, .invokevirtual 415, [775, 273, 1, 12, 0, 0], []) := ⟨rfl, iX12_readLine, rfl, k_X12_readLine, rfl, rfl, Or.inl ⟨rfl, (tb_8 38 rfl rfl), (tb_8 40 rfl rfl), (tb_s 70 rfl rfl), by decide, by decide, Or.inl ⟨11, _, rfl, rfl, rfl⟩⟩⟩
set_option maxRecDepth 20000 in
theorem qL_776 : q_Vx (13, false, .invokevirtual 418, [776, 274, 1, 12, 0, 0], []) := ⟨rfl, iX12_readAll, rfl, k_X12_readAll, rfl, rfl, Or.inl ⟨rfl, (tb_8 17 rfl rfl), (tb_8 19 rfl rfl), (tb_s 67 rfl rfl), by decide, by decide, Or.inl ⟨11, _, rfl, rfl, rfl⟩⟩⟩
set_option maxRecDepth 20000 in
theorem qL_777 : q_Vx (13, false, .putfield 421, [777, 11, 50, 0], []) := ⟨rfl, _, ⟨rfl, by decide, rfl, rfl, (tb_7 38 rfl rfl)⟩, Or.inl rfl⟩
set_option maxRecDepth 20000 in
theorem qL_778 : q_Vx (13, false, .putfield 424, [778, 11, 51, 0], []) := ⟨rfl, _, ⟨rfl, by decide, rfl, rfl, (tb_7 39 rfl rfl)⟩, Or.inl rfl⟩
set_option maxRecDepth 20000 in
theorem qL_779 : q_Vx (13, false, .getfield 406, [779, 11, 48, 0], []) := ⟨rfl, _, ⟨rfl, by decide, rfl, rfl, (tb_7 36 rfl rfl)⟩⟩
set_option maxRecDepth 20000 in
theorem qL_780 : q_Vx (13, false, .putfield 427, [780, 11, 52, 0], []) := ⟨rfl, _, ⟨rfl, by decide, rfl, rfl, (tb_7 40 rfl rfl)⟩, Or.inl rfl⟩
set_option maxRecDepth 20000 in
theorem qL_781 : q_Vx (13, false, .getfield 412, [781, 11, 49, 0], []) := ⟨rfl, _, ⟨rfl, by decide, rfl, rfl, (tb_7 37 rfl rfl)⟩⟩
set_option maxRecDepth 20000 in
theorem qL_782 : q_Vx (13, false, .putfield 430, [782, 11, 53, 0], []) := ⟨rfl, _, ⟨rfl, by decide, rfl, rfl, (tb_7 41 rfl rfl)⟩, Or.inl rfl⟩
set_option maxRecDepth 20000 in
theorem qL_783 : q_Vx (13, false, .putfield 433, [783, 11, 21, 0], []) := ⟨rfl, _, ⟨rfl, by decide, rfl, rfl, (tb_7 9 rfl rfl)⟩, Or.inl rfl⟩
set_option maxRecDepth 20000 in
theorem qL_784 : q_Vx (13, false, .putfield 349, [784, 11, 25, 3], []) := ⟨rfl, _, ⟨rfl, by decide, rfl, rfl, (tb_7 13 rfl rfl)⟩, Or.inl rfl⟩
set_option maxRecDepth 20000 in
theorem qL_785 : q_Vx (13, false, .putfield 352, [785, 11, 18, 0], []) := ⟨rfl, _, ⟨rfl, by decide, rfl, rfl, (tb_7 6 rfl rfl)⟩, Or.inl rfl⟩
set_option maxRecDepth 20000 in
theorem qL_786 : q_Vx (13, false, .getfield 78, [786, 11, 39, 2], []) := ⟨rfl, _, ⟨rfl, by decide, rfl, rfl, (tb_7 27 rfl rfl)⟩⟩
set_option maxRecDepth 20000 in
theorem qL_787 : q_Vx (13, false, .getfield 84, [787, 11, 41, 2], []) := ⟨rfl, _, ⟨rfl, by decide, rfl, rfl, (tb_7 29 rfl rfl)⟩⟩
set_option maxRecDepth 20000 in
theorem qL_788 : q_Vx (13, false, .getfield 87, [788, 11, 42, 2], []) := ⟨rfl, _, ⟨rfl, by decide, rfl, rfl, (tb_7 30 rfl rfl)⟩⟩
set_option maxRecDepth 20000 in
theorem qL_789 : q_Vx (13, false, .putfield 458, [789, 11, 57, 0], []) := ⟨rfl, _, ⟨rfl, by decide, rfl, rfl, (tb_7 45 rfl rfl)⟩, Or.inl rfl⟩
set_option maxRecDepth 20000 in
theorem qL_790 : q_Vx (13, false, .getfield 99, [790, 11, 56, 2], []) := ⟨rfl, _, ⟨rfl, by decide, rfl, rfl, (tb_7 44 rfl rfl)⟩⟩
set_option maxRecDepth 20000 in
theorem qL_791 : q_Vx (13, false, .getfield 458, [791, 11, 57, 0], []) := ⟨rfl, _, ⟨rfl, by decide, rfl, rfl, (tb_7 45 rfl rfl)⟩⟩
set_option maxRecDepth 20000 in
theorem qL_792 : q_Vx (13, false, .invokevirtual 436, [792, 280, 1, 12, 0, 0], []) := ⟨rfl, iX12_layReceivers, rfl, k_X12_layReceivers, rfl, rfl, Or.inl ⟨rfl, (tb_8 189 rfl rfl), (tb_8 191 rfl rfl), (tb_s 101 rfl rfl), by decide, by decide, Or.inl ⟨11, _, rfl, rfl, rfl⟩⟩⟩
set_option maxRecDepth 20000 in
theorem qL_793 : q_Vx (13, false, .putfield 439, [793, 11, 68, 0], []) := ⟨rfl, _, ⟨rfl, by decide, rfl, rfl, (tb_7 56 rfl rfl)⟩, Or.inl rfl⟩
set_option maxRecDepth 20000 in
theorem qL_794 : q_Vx (13, false, .putfield 442, [794, 11, 69, 0], []) := ⟨rfl, _, ⟨rfl, by decide, rfl, rfl, (tb_7 57 rfl rfl)⟩, Or.inl rfl⟩
set_option maxRecDepth 20000 in
theorem qL_795 : q_Vx (13, false, .putfield 445, [795, 11, 79, 0], []) := ⟨rfl, _, ⟨rfl, by decide, rfl, rfl, (tb_7 67 rfl rfl)⟩, Or.inl rfl⟩
set_option maxRecDepth 20000 in
theorem qL_796 : q_Vx (13, false, .putfield 448, [796, 11, 62, 0], []) := ⟨rfl, _, ⟨rfl, by decide, rfl, rfl, (tb_7 50 rfl rfl)⟩, Or.inl rfl⟩
set_option maxRecDepth 20000 in
theorem qL_797 : q_Vx (13, false, .getfield 160, [797, 11, 82, 2], []) := ⟨rfl, _, ⟨rfl, by decide, rfl, rfl, (tb_7 70 rfl rfl)⟩⟩
set_option maxRecDepth 20000 in
theorem qL_798 : q_Vx (13, false, .getfield 13, [798, 11, 3, 0], []) := ⟨rfl, _, ⟨rfl, by decide, rfl, rfl, (tb_6 231 rfl rfl)⟩⟩
set_option maxRecDepth 20000 in
theorem qL_799 : q_Vx (13, false, .invokestatic 451, [799, 264, 3, 0, 0, 0], []) := ⟨rfl, iX12_isIn, rfl, k_X12_isIn, rfl, rfl, Or.inr (Or.inl ⟨rfl, Or.inl (tb_8 204 rfl rfl), (tb_8 205 rfl rfl), by decide⟩)⟩
set_option maxRecDepth 20000 in
theorem qL_800 : q_Vx (13, false, .invokevirtual 455, [800, 277, 2, 12, 0, 0], []) := ⟨rfl, iX12_isDevice, rfl, k_X12_isDevice, rfl, rfl, Or.inl ⟨rfl, (tb_9 95 rfl rfl), (tb_9 97 rfl rfl), (tb_s 123 rfl rfl), by decide, by decide, Or.inl ⟨11, _, rfl, rfl, rfl⟩⟩⟩
set_option maxRecDepth 20000 in
theorem qL_801 : q_Vx (13, false, .getfield 105, [801, 11, 59, 2], []) := ⟨rfl, _, ⟨rfl, by decide, rfl, rfl, (tb_7 47 rfl rfl)⟩⟩
set_option maxRecDepth 20000 in
theorem qL_802 : q_Vx (13, false, .invokestatic 467, [802, 288, 1, 0, 0, 0], []) := ⟨rfl, iX12_isState, rfl, k_X12_isState, rfl, rfl, Or.inr (Or.inl ⟨rfl, Or.inl (tb_8 201 rfl rfl), (tb_8 202 rfl rfl), by decide⟩)⟩
set_option maxRecDepth 20000 in
theorem qL_803 : q_Vx (13, false, .getfield 111, [803, 11, 61, 2], []) := ⟨rfl, _, ⟨rfl, by decide, rfl, rfl, (tb_7 49 rfl rfl)⟩⟩
set_option maxRecDepth 20000 in
theorem qL_804 : q_Vx (13, false, .getfield 448, [804, 11, 62, 0], []) := ⟨rfl, _, ⟨rfl, by decide, rfl, rfl, (tb_7 50 rfl rfl)⟩⟩
set_option maxRecDepth 20000 in
theorem qL_805 : q_Vx (13, false, .invokevirtual 470, [805, 289, 3, 12, 0, 0], []) := ⟨rfl, iX12_stepTo, rfl, k_X12_stepTo, rfl, rfl, Or.inl ⟨rfl, (tb_8 207 rfl rfl), (tb_8 209 rfl rfl), (tb_s 102 rfl rfl), by decide, by decide, Or.inl ⟨11, _, rfl, rfl, rfl⟩⟩⟩
set_option maxRecDepth 20000 in
theorem qL_806 : q_Vx (13, false, .getfield 114, [806, 11, 63, 2], []) := ⟨rfl, _, ⟨rfl, by decide, rfl, rfl, (tb_7 51 rfl rfl)⟩⟩
set_option maxRecDepth 20000 in
theorem qL_807 : q_Vx (13, false, .getfield 117, [807, 11, 64, 2], []) := ⟨rfl, _, ⟨rfl, by decide, rfl, rfl, (tb_7 52 rfl rfl)⟩⟩
set_option maxRecDepth 20000 in
theorem qL_808 : q_Vx (13, false, .invokestatic 473, [808, 294, 2, 0, 0, 0], []) := ⟨rfl, iX12_two, rfl, k_X12_two, rfl, rfl, Or.inr (Or.inl ⟨rfl, Or.inl (tb_9 33 rfl rfl), (tb_9 34 rfl rfl), by decide⟩)⟩
set_option maxRecDepth 20000 in
theorem qL_809 : q_Vx (13, false, .invokevirtual 476, [809, 295, 3, 12, 0, 0], []) := ⟨rfl, iX12_shortOf, rfl, k_X12_shortOf, rfl, rfl, Or.inl ⟨rfl, (tb_9 29 rfl rfl), (tb_9 31 rfl rfl), (tb_s 112 rfl rfl), by decide, by decide, Or.inl ⟨11, _, rfl, rfl, rfl⟩⟩⟩
set_option maxRecDepth 20000 in
theorem qL_810 : q_Vx (13, false, .getfield 120, [810, 11, 65, 2], []) := ⟨rfl, _, ⟨rfl, by decide, rfl, rfl, (tb_7 53 rfl rfl)⟩⟩
set_option maxRecDepth 20000 in
theorem qL_811 : q_Vx (13, false, .invokevirtual 479, [811, 296, 2, 12, 0, 0], []) := ⟨rfl, iX12_togetherWith, rfl, k_X12_togetherWith, rfl, rfl, Or.inl ⟨rfl, (tb_9 25 rfl rfl), (tb_9 27 rfl rfl), (tb_s 111 rfl rfl), by decide, by decide, Or.inl ⟨11, _, rfl, rfl, rfl⟩⟩⟩
set_option maxRecDepth 20000 in
theorem qL_812 : q_Vx (13, false, .invokevirtual 482, [812, 297, 2, 12, 0, 0], []) := ⟨rfl, iX12_isLow, rfl, k_X12_isLow, rfl, rfl, Or.inl ⟨rfl, (tb_9 36 rfl rfl), (tb_9 38 rfl rfl), (tb_s 113 rfl rfl), by decide, by decide, Or.inl ⟨11, _, rfl, rfl, rfl⟩⟩⟩
set_option maxRecDepth 20000 in
theorem qL_813 : q_Vx (13, false, .getfield 123, [813, 11, 66, 2], []) := ⟨rfl, _, ⟨rfl, by decide, rfl, rfl, (tb_7 54 rfl rfl)⟩⟩
set_option maxRecDepth 20000 in
theorem qL_814 : q_Vx (13, false, .invokestatic 485, [814, 262, 2, 0, 0, 0], []) := ⟨rfl, iX12_greater, rfl, k_X12_greater, rfl, rfl, Or.inr (Or.inl ⟨rfl, Or.inl (tb_9 18 rfl rfl), (tb_9 19 rfl rfl), by decide⟩)⟩
set_option maxRecDepth 20000 in
theorem qL_815 : q_Vx (13, false, .invokevirtual 488, [815, 300, 3, 12, 0, 0], []) := ⟨rfl, iX12_isDriverOf, rfl, k_X12_isDriverOf, rfl, rfl, Or.inl ⟨rfl, (tb_9 10 rfl rfl), (tb_9 12 rfl rfl), (tb_s 108 rfl rfl), by decide, by decide, Or.inl ⟨11, _, rfl, rfl, rfl⟩⟩⟩
set_option maxRecDepth 20000 in
theorem qL_816 : q_Vx (13, false, .invokevirtual 491, [816, 299, 2, 12, 0, 0], []) := ⟨rfl, iX12_driverHas, rfl, k_X12_driverHas, rfl, rfl, Or.inl ⟨rfl, (tb_9 14 rfl rfl), (tb_9 16 rfl rfl), (tb_s 109 rfl rfl), by decide, by decide, Or.inl ⟨11, _, rfl, rfl, rfl⟩⟩⟩
set_option maxRecDepth 20000 in
theorem qL_817 : q_Vx (13, false, .invokevirtual 494, [817, 298, 1, 12, 0, 0], []) := ⟨rfl, iX12_layLevels, rfl, k_X12_layLevels, rfl, rfl, Or.inl ⟨rfl, (tb_9 21 rfl rfl), (tb_9 23 rfl rfl), (tb_s 110 rfl rfl), by decide, by decide, Or.inl ⟨11, _, rfl, rfl, rfl⟩⟩⟩
set_option maxRecDepth 20000 in
theorem qL_818 : q_Vx (13, false, .invokevirtual 497, [818, 265, 4, 12, 0, 0], []) := ⟨rfl, iX12_floatsAt, rfl, k_X12_floatsAt, rfl, rfl, Or.inl ⟨rfl, (tb_9 48 rfl rfl), (tb_9 50 rfl rfl), (tb_s 116 rfl rfl), by decide, by decide, Or.inl ⟨11, _, rfl, rfl, rfl⟩⟩⟩
set_option maxRecDepth 20000 in
theorem qL_819 : q_Vx (13, false, .invokevirtual 500, [819, 302, 3, 12, 0, 0], []) := ⟨rfl, iX12_readsAt, rfl, k_X12_readsAt, rfl, rfl, Or.inl ⟨rfl, (tb_9 44 rfl rfl), (tb_9 46 rfl rfl), (tb_s 115 rfl rfl), by decide, by decide, Or.inl ⟨11, _, rfl, rfl, rfl⟩⟩⟩
set_option maxRecDepth 20000 in
theorem qL_820 : q_Vx (13, false, .invokevirtual 503, [820, 301, 1, 12, 0, 0], []) := ⟨rfl, iX12_layDriven, rfl, k_X12_layDriven, rfl, rfl, Or.inl ⟨rfl, (tb_9 6 rfl rfl), (tb_9 8 rfl rfl), (tb_s 107 rfl rfl), by decide, by decide, Or.inl ⟨11, _, rfl, rfl, rfl⟩⟩⟩
set_option maxRecDepth 20000 in
theorem qL_821 : q_Vx (13, false, .invokevirtual 506, [821, 306, 2, 12, 0, 0], []) := ⟨rfl, iX12_captured, rfl, k_X12_captured, rfl, rfl, Or.inl ⟨rfl, (tb_9 40 rfl rfl), (tb_9 42 rfl rfl), (tb_s 114 rfl rfl), by decide, by decide, Or.inl ⟨11, _, rfl, rfl, rfl⟩⟩⟩
set_option maxRecDepth 20000 in
theorem qL_822 : q_Vx (13, false, .getfield 427, [822, 11, 52, 0], []) := ⟨rfl, _, ⟨rfl, by decide, rfl, rfl, (tb_7 40 rfl rfl)⟩⟩
set_option maxRecDepth 20000 in
theorem qL_823 : q_Vx (13, false, .invokevirtual 509, [823, 304, 2, 12, 0, 0], []) := ⟨rfl, iX12_dataBits, rfl, k_X12_dataBits, rfl, rfl, Or.inl ⟨rfl, (tb_9 55 rfl rfl), (tb_9 57 rfl rfl), (tb_s 117 rfl rfl), by decide, by decide, Or.inl ⟨11, _, rfl, rfl, rfl⟩⟩⟩
set_option maxRecDepth 20000 in
theorem qL_824 : q_Vx (13, false, .invokevirtual 512, [824, 307, 1, 12, 0, 0], []) := ⟨rfl, iX12_captures, rfl, k_X12_captures, rfl, rfl, Or.inl ⟨rfl, (tb_9 2 rfl rfl), (tb_9 4 rfl rfl), (tb_s 106 rfl rfl), by decide, by decide, Or.inl ⟨11, _, rfl, rfl, rfl⟩⟩⟩
set_option maxRecDepth 20000 in
theorem qL_825 : q_Vx (13, false, .invokevirtual 515, [825, 308, 3, 12, 0, 0], []) := ⟨rfl, iX12_shifts, rfl, k_X12_shifts, rfl, rfl, Or.inl ⟨rfl, (tb_9 59 rfl rfl), (tb_9 61 rfl rfl), (tb_s 118 rfl rfl), by decide, by decide, Or.inl ⟨11, _, rfl, rfl, rfl⟩⟩⟩
set_option maxRecDepth 20000 in
theorem qL_826 : q_Vx (13, false, .invokevirtual 519, [826, 305, 3, 12, 0, 0], []) := ⟨rfl, iX12_setOrder, rfl, k_X12_setOrder, rfl, rfl, Or.inl ⟨rfl, (tb_9 63 rfl rfl), (tb_9 65 rfl rfl), (tb_s 119 rfl rfl), by decide, by decide, Or.inl ⟨11, _, rfl, rfl, rfl⟩⟩⟩
set_option maxRecDepth 20000 in
theorem qL_827 : q_Vx (13, false, .invokevirtual 522, [827, 309, 3, 12, 0, 0], []) := ⟨rfl, iX12_goClock, rfl, k_X12_goClock, rfl, rfl, Or.inl ⟨rfl, (tb_8 238 rfl rfl), (tb_9 0 rfl rfl), (tb_s 105 rfl rfl), by decide, by decide, Or.inl ⟨11, _, rfl, rfl, rfl⟩⟩⟩
set_option maxRecDepth 20000 in
theorem qL_828 : q_Vx (13, false, .getfield 439, [828, 11, 68, 0], []) := ⟨rfl, _, ⟨rfl, by decide, rfl, rfl, (tb_7 56 rfl rfl)⟩⟩
set_option maxRecDepth 20000 in
theorem qL_829 : q_Vx (13, false, .getfield 126, [829, 11, 67, 2], []) := ⟨rfl, _, ⟨rfl, by decide, rfl, rfl, (tb_7 55 rfl rfl)⟩⟩
set_option maxRecDepth 20000 in
theorem qL_830 : q_Vx (13, false, .invokevirtual 525, [830, 284, 1, 12, 0, 0], []) := ⟨rfl, iX12_fill, rfl, k_X12_fill, rfl, rfl, Or.inl ⟨rfl, (tb_8 234 rfl rfl), (tb_8 236 rfl rfl), (tb_s 104 rfl rfl), by decide, by decide, Or.inl ⟨11, _, rfl, rfl, rfl⟩⟩⟩
set_option maxRecDepth 20000 in
theorem qL_831 : q_Vx (13, false, .invokevirtual 528, [831, 311, 1, 12, 0, 0], []) := ⟨rfl, iX12_act, rfl, k_X12_act, rfl, rfl, Or.inl ⟨rfl, (tb_8 230 rfl rfl), (tb_8 232 rfl rfl), (tb_s 103 rfl rfl), by decide, by decide, Or.inl ⟨11, _, rfl, rfl, rfl⟩⟩⟩
set_option maxRecDepth 20000 in
theorem qL_832 : q_Vx (13, false, .invokevirtual 531, [832, 285, 1, 12, 0, 0], []) := ⟨rfl, iX12_keepAir, rfl, k_X12_keepAir, rfl, rfl, Or.inl ⟨rfl, (tb_9 67 rfl rfl), (tb_9 69 rfl rfl), (tb_s 120 rfl rfl), by decide, by decide, Or.inl ⟨11, _, rfl, rfl, rfl⟩⟩⟩
set_option maxRecDepth 20000 in
theorem qL_833 : q_Vx (13, false, .invokevirtual 534, [833, 310, 2, 12, 0, 0], []) := ⟨rfl, iX12_walkTo, rfl, k_X12_walkTo, rfl, rfl, Or.inl ⟨rfl, (tb_9 75 rfl rfl), (tb_9 77 rfl rfl), (tb_s 121 rfl rfl), by decide, by decide, Or.inl ⟨11, _, rfl, rfl, rfl⟩⟩⟩
set_option maxRecDepth 20000 in
theorem qL_834 : q_Vx (13, false, .getfield 442, [834, 11, 69, 0], []) := ⟨rfl, _, ⟨rfl, by decide, rfl, rfl, (tb_7 57 rfl rfl)⟩⟩
set_option maxRecDepth 20000 in
theorem qL_835 : q_Vx (13, false, .invokevirtual 537, [835, 312, 2, 12, 0, 0], []) := ⟨rfl, iX12_exchangeAt, rfl, k_X12_exchangeAt, rfl, rfl, Or.inl ⟨rfl, (tb_9 83 rfl rfl), (tb_9 85 rfl rfl), (tb_s 122 rfl rfl), by decide, by decide, Or.inl ⟨11, _, rfl, rfl, rfl⟩⟩⟩
set_option maxRecDepth 20000 in
theorem qL_836 : q_Vx (13, false, .invokevirtual 540, [836, 278, 2, 12, 0, 0], []) := ⟨rfl, iX12_isNet, rfl, k_X12_isNet, rfl, rfl, Or.inl ⟨rfl, (tb_9 103 rfl rfl), (tb_9 105 rfl rfl), (tb_s 124 rfl rfl), by decide, by decide, Or.inl ⟨11, _, rfl, rfl, rfl⟩⟩⟩
set_option maxRecDepth 20000 in
theorem qL_837 : q_Vx (13, false, .invokevirtual 543, [837, 318, 3, 12, 0, 0], []) := ⟨rfl, iX12_manyOf, rfl, k_X12_manyOf, rfl, rfl, Or.inl ⟨rfl, (tb_9 107 rfl rfl), (tb_9 109 rfl rfl), (tb_s 125 rfl rfl), by decide, by decide, Or.inl ⟨11, _, rfl, rfl, rfl⟩⟩⟩
set_option maxRecDepth 20000 in
theorem qL_838 : q_Vx (13, false, .invokevirtual 546, [838, 303, 2, 12, 0, 0], []) := ⟨rfl, iX12_isFighting, rfl, k_X12_isFighting, rfl, rfl, Or.inl ⟨rfl, (tb_9 111 rfl rfl), (tb_9 113 rfl rfl), (tb_s 126 rfl rfl), by decide, by decide, Or.inl ⟨11, _, rfl, rfl, rfl⟩⟩⟩
set_option maxRecDepth 20000 in
theorem qL_839 : q_Vx (13, false, .invokevirtual 549, [839, 279, 3, 12, 0, 0], []) := ⟨rfl, iX12_isCell, rfl, k_X12_isCell, rfl, rfl, Or.inl ⟨rfl, (tb_9 119 rfl rfl), (tb_9 121 rfl rfl), (tb_s 127 rfl rfl), by decide, by decide, Or.inl ⟨11, _, rfl, rfl, rfl⟩⟩⟩
set_option maxRecDepth 20000 in
theorem qL_840 : q_Vx (13, false, .invokevirtual 552, [840, 326, 2, 12, 0, 0], []) := ⟨rfl, iX12_hasAllOnes, rfl, k_X12_hasAllOnes, rfl, rfl, Or.inl ⟨rfl, (tb_9 154 rfl rfl), (tb_9 156 rfl rfl), (tb_s 130 rfl rfl), by decide, by decide, Or.inl ⟨11, _, rfl, rfl, rfl⟩⟩⟩
set_option maxRecDepth 20000 in
theorem qL_841 : q_Vx (13, false, .invokevirtual 555, [841, 325, 1, 12, 0, 0], []) := ⟨rfl, iX12_countSteps, rfl, k_X12_countSteps, rfl, rfl, Or.inl ⟨rfl, (tb_9 150 rfl rfl), (tb_9 152 rfl rfl), (tb_s 129 rfl rfl), by decide, by decide, Or.inl ⟨11, _, rfl, rfl, rfl⟩⟩⟩
set_option maxRecDepth 20000 in
theorem qL_842 : q_Vx (13, false, .invokestatic 558, [842, 327, 1, 0, 0, 0], []) := ⟨rfl, iX12_isKind, rfl, k_X12_isKind, rfl, rfl, Or.inr (Or.inl ⟨rfl, Or.inl (tb_9 143 rfl rfl), (tb_9 144 rfl rfl), by decide⟩)⟩
set_option maxRecDepth 20000 in
theorem qL_843 : q_Vx (13, false, .invokevirtual 561, [843, 328, 2, 12, 0, 0], []) := ⟨rfl, iX12_stepsOf, rfl, k_X12_stepsOf, rfl, rfl, Or.inl ⟨rfl, (tb_9 146 rfl rfl), (tb_9 148 rfl rfl), (tb_s 128 rfl rfl), by decide, by decide, Or.inl ⟨11, _, rfl, rfl, rfl⟩⟩⟩
set_option maxRecDepth 20000 in
theorem qL_844 : q_Vx (13, false, .invokevirtual 564, [844, 330, 4, 12, 0, 0], []) := ⟨rfl, iX12_bitOf, rfl, k_X12_bitOf, rfl, rfl, Or.inl ⟨rfl, (tb_9 166 rfl rfl), (tb_9 168 rfl rfl), (tb_s 132 rfl rfl), by decide, by decide, Or.inl ⟨11, _, rfl, rfl, rfl⟩⟩⟩
set_option maxRecDepth 20000 in
theorem qL_845 : q_Vx (13, false, .invokevirtual 567, [845, 331, 3, 12, 0, 0], []) := ⟨rfl, iX12_wanted, rfl, k_X12_wanted, rfl, rfl, Or.inl ⟨rfl, (tb_9 162 rfl rfl), (tb_9 164 rfl rfl), (tb_s 131 rfl rfl), by decide, by decide, Or.inl ⟨11, _, rfl, rfl, rfl⟩⟩⟩
set_option maxRecDepth 20000 in
theorem qL_846 : q_Vx (13, false, .getfield 132, [846, 11, 71, 2], []) := ⟨rfl, _, ⟨rfl, by decide, rfl, rfl, (tb_7 59 rfl rfl)⟩⟩
set_option maxRecDepth 20000 in
theorem qL_847 : q_Vx (13, false, .getfield 129, [847, 11, 70, 2], []) := ⟨rfl, _, ⟨rfl, by decide, rfl, rfl, (tb_7 58 rfl rfl)⟩⟩
set_option maxRecDepth 20000 in
theorem qL_848 : q_Vx (13, false, .invokevirtual 570, [848, 333, 3, 12, 0, 0], []) := ⟨rfl, iX12_layAnswers, rfl, k_X12_layAnswers, rfl, rfl, Or.inl ⟨rfl, (tb_9 182 rfl rfl), (tb_9 184 rfl rfl), (tb_s 135 rfl rfl), by decide, by decide, Or.inl ⟨11, _, rfl, rfl, rfl⟩⟩⟩
set_option maxRecDepth 20000 in
theorem qL_849 : q_Vx (13, false, .invokevirtual 573, [849, 335, 2, 12, 0, 0], []) := ⟨rfl, iX12_netAt, rfl, k_X12_netAt, rfl, rfl, Or.inl ⟨rfl, (tb_9 198 rfl rfl), (tb_9 200 rfl rfl), (tb_s 138 rfl rfl), by decide, by decide, Or.inl ⟨11, _, rfl, rfl, rfl⟩⟩⟩
set_option maxRecDepth 20000 in
theorem qL_850 : q_Vx (13, false, .invokevirtual 576, [850, 336, 2, 12, 0, 0], []) := ⟨rfl, iX12_isGood, rfl, k_X12_isGood, rfl, rfl, Or.inl ⟨rfl, (tb_9 194 rfl rfl), (tb_9 196 rfl rfl), (tb_s 137 rfl rfl), by decide, by decide, Or.inl ⟨11, _, rfl, rfl, rfl⟩⟩⟩
set_option maxRecDepth 20000 in
theorem qL_851 : q_Vx (13, false, .invokevirtual 579, [851, 281, 2, 12, 0, 0], []) := ⟨rfl, iX12_placeOf, rfl, k_X12_placeOf, rfl, rfl, Or.inl ⟨rfl, (tb_9 174 rfl rfl), (tb_9 176 rfl rfl), (tb_s 133 rfl rfl), by decide, by decide, Or.inl ⟨11, _, rfl, rfl, rfl⟩⟩⟩
set_option maxRecDepth 20000 in
theorem qL_852 : q_Vx (13, false, .invokevirtual 582, [852, 334, 2, 12, 0, 0], []) := ⟨rfl, iX12_layNow, rfl, k_X12_layNow, rfl, rfl, Or.inl ⟨rfl, (tb_9 178 rfl rfl), (tb_9 180 rfl rfl), (tb_s 134 rfl rfl), by decide, by decide, Or.inl ⟨11, _, rfl, rfl, rfl⟩⟩⟩
set_option maxRecDepth 20000 in
theorem qL_853 : q_Vx (13, false, .invokevirtual 585, [853, 338, 1, 12, 0, 0], []) := ⟨rfl, iX12_goodMany, rfl, k_X12_goodMany, rfl, rfl, Or.inl ⟨rfl, (tb_9 190 rfl rfl), (tb_9 192 rfl rfl), (tb_s 136 rfl rfl), by decide, by decide, Or.inl ⟨11, _, rfl, rfl, rfl⟩⟩⟩
set_option maxRecDepth 20000 in
theorem qL_854 : q_Vx (13, false, .invokevirtual 588, [854, 337, 2, 12, 0, 0], []) := ⟨rfl, iX12_isOpen, rfl, k_X12_isOpen, rfl, rfl, Or.inl ⟨rfl, (tb_9 206 rfl rfl), (tb_9 208 rfl rfl), (tb_s 139 rfl rfl), by decide, by decide, Or.inl ⟨11, _, rfl, rfl, rfl⟩⟩⟩
set_option maxRecDepth 20000 in
theorem qL_855 : q_Vx (13, false, .invokevirtual 591, [855, 345, 1, 12, 0, 0], []) := ⟨rfl, iX12_shortFrom, rfl, k_X12_shortFrom, rfl, rfl, Or.inl ⟨rfl, (tb_9 226 rfl rfl), (tb_9 228 rfl rfl), (tb_s 141 rfl rfl), by decide, by decide, Or.inl ⟨11, _, rfl, rfl, rfl⟩⟩⟩
set_option maxRecDepth 20000 in
theorem qL_856 : q_Vx (13, false, .invokevirtual 594, [856, 346, 1, 12, 0, 0], []) := ⟨rfl, iX12_singleMany, rfl, k_X12_singleMany, rfl, rfl, Or.inl ⟨rfl, (tb_9 222 rfl rfl), (tb_9 224 rfl rfl), (tb_s 140 rfl rfl), by decide, by decide, Or.inl ⟨11, _, rfl, rfl, rfl⟩⟩⟩
set_option maxRecDepth 20000 in
theorem qL_857 : q_Vx (13, false, .invokevirtual 597, [857, 344, 1, 12, 0, 0], []) := ⟨rfl, iX12_openFrom, rfl, k_X12_openFrom, rfl, rfl, Or.inl ⟨rfl, (tb_10 6 rfl rfl), (tb_10 8 rfl rfl), (tb_s 145 rfl rfl), by decide, by decide, Or.inl ⟨11, _, rfl, rfl, rfl⟩⟩⟩
set_option maxRecDepth 20000 in
theorem qL_858 : q_Vx (13, false, .invokevirtual 600, [858, 351, 2, 12, 0, 0], []) := ⟨rfl, iX12_receiverOf, rfl, k_X12_receiverOf, rfl, rfl, Or.inl ⟨rfl, (tb_10 10 rfl rfl), (tb_10 12 rfl rfl), (tb_s 146 rfl rfl), by decide, by decide, Or.inl ⟨11, _, rfl, rfl, rfl⟩⟩⟩
set_option maxRecDepth 20000 in
theorem qL_859 : q_Vx (13, false, .invokevirtual 603, [859, 349, 2, 12, 0, 0], []) := ⟨rfl, iX12_pairOf, rfl, k_X12_pairOf, rfl, rfl, Or.inl ⟨rfl, (tb_10 14 rfl rfl), (tb_10 16 rfl rfl), (tb_s 147 rfl rfl), by decide, by decide, Or.inl ⟨11, _, rfl, rfl, rfl⟩⟩⟩
set_option maxRecDepth 20000 in
theorem qL_860 : q_Vx (13, false, .invokevirtual 606, [860, 350, 2, 12, 0, 0], []) := ⟨rfl, iX12_shortKind, rfl, k_X12_shortKind, rfl, rfl, Or.inl ⟨rfl, (tb_10 18 rfl rfl), (tb_10 20 rfl rfl), (tb_s 148 rfl rfl), by decide, by decide, Or.inl ⟨11, _, rfl, rfl, rfl⟩⟩⟩
set_option maxRecDepth 20000 in
theorem qL_861 : q_Vx (13, false, .invokevirtual 609, [861, 352, 2, 12, 0, 0], []) := ⟨rfl, iX12_isThere, rfl, k_X12_isThere, rfl, rfl, Or.inl ⟨rfl, (tb_10 2 rfl rfl), (tb_10 4 rfl rfl), (tb_s 144 rfl rfl), by decide, by decide, Or.inl ⟨11, _, rfl, rfl, rfl⟩⟩⟩
set_option maxRecDepth 20000 in
theorem qL_862 : q_Vx (13, false, .invokevirtual 612, [862, 348, 2, 12, 0, 0], []) := ⟨rfl, iX12_isSingle, rfl, k_X12_isSingle, rfl, rfl, Or.inl ⟨rfl, (tb_9 234 rfl rfl), (tb_9 236 rfl rfl), (tb_s 142 rfl rfl), by decide, by decide, Or.inl ⟨11, _, rfl, rfl, rfl⟩⟩⟩
set_option maxRecDepth 20000 in
theorem qL_863 : q_Vx (13, false, .invokevirtual 615, [863, 354, 2, 12, 0, 0], []) := ⟨rfl, iX12_isBarred, rfl, k_X12_isBarred, rfl, rfl, Or.inl ⟨rfl, (tb_9 238 rfl rfl), (tb_10 0 rfl rfl), (tb_s 143 rfl rfl), by decide, by decide, Or.inl ⟨11, _, rfl, rfl, rfl⟩⟩⟩
set_option maxRecDepth 20000 in
theorem qL_864 : q_Vx (13, false, .invokevirtual 618, [864, 353, 2, 12, 0, 0], []) := ⟨rfl, iX12_turn, rfl, k_X12_turn, rfl, rfl, Or.inl ⟨rfl, (tb_10 22 rfl rfl), (tb_10 24 rfl rfl), (tb_s 149 rfl rfl), by decide, by decide, Or.inl ⟨11, _, rfl, rfl, rfl⟩⟩⟩
set_option maxRecDepth 20000 in
theorem qL_865 : q_Vx (13, false, .invokevirtual 621, [865, 355, 1, 12, 0, 0], []) := ⟨rfl, iX12_faultMany, rfl, k_X12_faultMany, rfl, rfl, Or.inl ⟨rfl, (tb_10 26 rfl rfl), (tb_10 28 rfl rfl), (tb_s 150 rfl rfl), by decide, by decide, Or.inl ⟨11, _, rfl, rfl, rfl⟩⟩⟩
set_option maxRecDepth 20000 in
theorem qL_866 : q_Vx (13, false, .invokevirtual 624, [866, 358, 3, 12, 0, 0], []) := ⟨rfl, iX12_layWhole, rfl, k_X12_layWhole, rfl, rfl, Or.inl ⟨rfl, (tb_10 42 rfl rfl), (tb_10 44 rfl rfl), (tb_s 152 rfl rfl), by decide, by decide, Or.inl ⟨11, _, rfl, rfl, rfl⟩⟩⟩
set_option maxRecDepth 20000 in
theorem qL_867 : q_Vx (13, false, .getfield 135, [867, 11, 72, 2], []) := ⟨rfl, _, ⟨rfl, by decide, rfl, rfl, (tb_7 60 rfl rfl)⟩⟩
set_option maxRecDepth 20000 in
theorem qL_868 : q_Vx (13, false, .invokevirtual 627, [868, 359, 2, 12, 0, 0], []) := ⟨rfl, iX12_layTable, rfl, k_X12_layTable, rfl, rfl, Or.inl ⟨rfl, (tb_10 38 rfl rfl), (tb_10 40 rfl rfl), (tb_s 151 rfl rfl), by decide, by decide, Or.inl ⟨11, _, rfl, rfl, rfl⟩⟩⟩
set_option maxRecDepth 20000 in
theorem qL_869 : q_Vx (13, false, .invokevirtual 630, [869, 360, 3, 12, 0, 0], []) := ⟨rfl, iX12_areApart, rfl, k_X12_areApart, rfl, rfl, Or.inl ⟨rfl, (tb_10 46 rfl rfl), (tb_10 48 rfl rfl), (tb_s 153 rfl rfl), by decide, by decide, Or.inl ⟨11, _, rfl, rfl, rfl⟩⟩⟩
set_option maxRecDepth 20000 in
theorem qL_870 : q_Vx (13, false, .invokevirtual 633, [870, 362, 3, 12, 0, 0], []) := ⟨rfl, iX12_told, rfl, k_X12_told, rfl, rfl, Or.inl ⟨rfl, (tb_10 58 rfl rfl), (tb_10 51 rfl rfl), (tb_10 52 rfl rfl), by decide, by decide, Or.inl ⟨11, _, rfl, rfl, rfl⟩⟩⟩
set_option maxRecDepth 20000 in
theorem qL_871 : q_Vx (13, false, .invokevirtual 636, [871, 365, 2, 12, 0, 0], []) := ⟨rfl, iX12_readBy, rfl, k_X12_readBy, rfl, rfl, Or.inl ⟨rfl, (tb_10 67 rfl rfl), (tb_10 69 rfl rfl), (tb_s 154 rfl rfl), by decide, by decide, Or.inl ⟨11, _, rfl, rfl, rfl⟩⟩⟩
set_option maxRecDepth 20000 in
theorem qL_872 : q_Vx (13, false, .putfield 42, [872, 11, 27, 0], []) := ⟨rfl, _, ⟨rfl, by decide, rfl, rfl, (tb_7 15 rfl rfl)⟩, Or.inl rfl⟩
set_option maxRecDepth 20000 in
theorem qL_873 : q_Vx (13, false, .invokestatic 639, [873, 370, 2, 0, 0, 0], []) := ⟨rfl, iX12_power, rfl, k_X12_power, rfl, rfl, Or.inr (Or.inl ⟨rfl, Or.inl (tb_10 87 rfl rfl), (tb_10 88 rfl rfl), by decide⟩)⟩
set_option maxRecDepth 20000 in
theorem qL_874 : q_Vx (13, false, .invokestatic 642, [874, 371, 2, 0, 0, 0], []) := ⟨rfl, iX12_divisor, rfl, k_X12_divisor, rfl, rfl, Or.inr (Or.inl ⟨rfl, Or.inl (tb_10 90 rfl rfl), (tb_10 91 rfl rfl), by decide⟩)⟩
set_option maxRecDepth 20000 in
theorem qL_875 : q_Vx (13, false, .getfield 445, [875, 11, 79, 0], []) := ⟨rfl, _, ⟨rfl, by decide, rfl, rfl, (tb_7 67 rfl rfl)⟩⟩
set_option maxRecDepth 20000 in
theorem qL_876 : q_Vx (13, false, .getfield 138, [876, 11, 73, 2], []) := ⟨rfl, _, ⟨rfl, by decide, rfl, rfl, (tb_7 61 rfl rfl)⟩⟩
set_option maxRecDepth 20000 in
theorem qL_877 : q_Vx (13, false, .getfield 141, [877, 11, 74, 2], []) := ⟨rfl, _, ⟨rfl, by decide, rfl, rfl, (tb_7 62 rfl rfl)⟩⟩
set_option maxRecDepth 20000 in
theorem qL_878 : q_Vx (13, false, .getfield 144, [878, 11, 75, 2], []) := ⟨rfl, _, ⟨rfl, by decide, rfl, rfl, (tb_7 63 rfl rfl)⟩⟩
set_option maxRecDepth 20000 in
theorem qL_879 : q_Vx (13, false, .getfield 153, [879, 11, 78, 2], []) := ⟨rfl, _, ⟨rfl, by decide, rfl, rfl, (tb_7 66 rfl rfl)⟩⟩
set_option maxRecDepth 20000 in
theorem qL_880 : q_Vx (13, false, .getfield 147, [880, 11, 76, 2], []) := ⟨rfl, _, ⟨rfl, by decide, rfl, rfl, (tb_7 64 rfl rfl)⟩⟩
set_option maxRecDepth 20000 in
theorem qL_881 : q_Vx (13, false, .getfield 645, [881, 11, 80, 0], []) := ⟨rfl, _, ⟨rfl, by decide, rfl, rfl, (tb_7 68 rfl rfl)⟩⟩
set_option maxRecDepth 20000 in
theorem qL_882 : q_Vx (13, false, .getfield 150, [882, 11, 77, 2], []) := ⟨rfl, _, ⟨rfl, by decide, rfl, rfl, (tb_7 65 rfl rfl)⟩⟩
set_option maxRecDepth 20000 in
theorem qL_883 : q_Vx (13, false, .ldc_w 648, [883], [.int 100000]) := ⟨rfl, _, rfl, (tb_10 109 rfl rfl)⟩
set_option maxRecDepth 20000 in
theorem qL_884 : q_Vx (13, false, .putfield 645, [884, 11, 80, 0], []) := ⟨rfl, _, ⟨rfl, by decide, rfl, rfl, (tb_7 68 rfl rfl)⟩, Or.inl rfl⟩
set_option maxRecDepth 20000 in
theorem qL_885 : q_Vx (13, false, .getfield 157, [885, 11, 81, 2], []) := ⟨rfl, _, ⟨rfl, by decide, rfl, rfl, (tb_7 69 rfl rfl)⟩⟩
set_option maxRecDepth 20000 in
theorem qL_886 : q_Vx (13, false, .invokevirtual 649, [886, 377, 3, 12, 0, 0], []) := ⟨rfl, iX12_doesCount, rfl, k_X12_doesCount, rfl, rfl, Or.inl ⟨rfl, (tb_10 118 rfl rfl), (tb_10 120 rfl rfl), (tb_s 156 rfl rfl), by decide, by decide, Or.inl ⟨11, _, rfl, rfl, rfl⟩⟩⟩
set_option maxRecDepth 20000 in
theorem qL_887 : q_Vx (13, false, .invokevirtual 652, [887, 378, 2, 12, 0, 0], []) := ⟨rfl, iX12_layFits, rfl, k_X12_layFits, rfl, rfl, Or.inl ⟨rfl, (tb_10 114 rfl rfl), (tb_10 116 rfl rfl), (tb_s 155 rfl rfl), by decide, by decide, Or.inl ⟨11, _, rfl, rfl, rfl⟩⟩⟩
set_option maxRecDepth 20000 in
theorem qL_888 : q_Vx (13, false, .invokevirtual 655, [888, 381, 4, 12, 0, 0], []) := ⟨rfl, iX12_readAlike, rfl, k_X12_readAlike, rfl, rfl, Or.inl ⟨rfl, (tb_10 134 rfl rfl), (tb_10 136 rfl rfl), (tb_s 158 rfl rfl), by decide, by decide, Or.inl ⟨11, _, rfl, rfl, rfl⟩⟩⟩
set_option maxRecDepth 20000 in
theorem qL_889 : q_Vx (13, false, .invokevirtual 658, [889, 382, 2, 12, 0, 0], []) := ⟨rfl, iX12_leftBy, rfl, k_X12_leftBy, rfl, rfl, Or.inl ⟨rfl, (tb_10 130 rfl rfl), (tb_10 132 rfl rfl), (tb_s 157 rfl rfl), by decide, by decide, Or.inl ⟨11, _, rfl, rfl, rfl⟩⟩⟩
set_option maxRecDepth 20000 in
theorem qL_890 : q_Vx (13, false, .invokestatic 661, [890, 384, 1, 0, 0, 0], []) := ⟨rfl, iX12_isBox, rfl, k_X12_isBox, rfl, rfl, Or.inr (Or.inl ⟨rfl, Or.inl (tb_10 142 rfl rfl), (tb_10 143 rfl rfl), by decide⟩)⟩
set_option maxRecDepth 20000 in
theorem qL_891 : q_Vx (13, false, .getfield 163, [891, 11, 83, 2], []) := ⟨rfl, _, ⟨rfl, by decide, rfl, rfl, (tb_7 71 rfl rfl)⟩⟩
set_option maxRecDepth 20000 in
theorem qL_892 : q_Vx (13, false, .invokevirtual 664, [892, 387, 1, 12, 0, 0], []) := ⟨rfl, iX12_faultsNow, rfl, k_X12_faultsNow, rfl, rfl, Or.inl ⟨rfl, (tb_10 153 rfl rfl), (tb_10 155 rfl rfl), (tb_s 159 rfl rfl), by decide, by decide, Or.inl ⟨11, _, rfl, rfl, rfl⟩⟩⟩
set_option maxRecDepth 20000 in
theorem qL_893 : q_Vx (13, false, .getfield 433, [893, 11, 21, 0], []) := ⟨rfl, _, ⟨rfl, by decide, rfl, rfl, (tb_7 9 rfl rfl)⟩⟩
set_option maxRecDepth 20000 in
theorem qL_894 : q_Vx (12, false, .new 7, [894, 10, 16], []) := ⟨rfl, _, rfl, rfl, (tb_1 23 rfl rfl), (tb_1 24 rfl rfl), (tb_1 1 rfl rfl)⟩
set_option maxRecDepth 20000 in
theorem qL_895 : q_Vx (12, false, .invokespecial 9, [895, 169, 1, 11, 62, 4784], []) := ⟨rfl, iX11_init, rfl, k_X11_init, rfl, rfl, Or.inr (Or.inr ⟨rfl, Or.inl (tb_1 25 rfl rfl), (tb_1 26 rfl rfl), rfl, rfl, by decide, by decide, 10, _, rfl, rfl⟩)⟩
set_option maxRecDepth 20000 in
theorem qL_896 : q_Vx (12, false, .new 10, [896, 11, 84], []) := ⟨rfl, _, rfl, rfl, (tb_6 207 rfl rfl), (tb_6 208 rfl rfl), (tb_1 17 rfl rfl)⟩
set_option maxRecDepth 20000 in
theorem qL_897 : q_Vx (12, false, .invokespecial 12, [897, 227, 1, 12, 49, 8345], []) := ⟨rfl, iX12_init, rfl, k_X12_init, rfl, rfl, Or.inr (Or.inr ⟨rfl, Or.inl (tb_6 209 rfl rfl), (tb_6 210 rfl rfl), rfl, rfl, by decide, by decide, 11, _, rfl, rfl⟩)⟩
set_option maxRecDepth 20000 in
theorem qL_898 : q_Vx (12, false, .invokevirtual 13, [898, 170, 6, 11, 0, 0], []) := ⟨rfl, iX11_feed, rfl, k_X11_feed, rfl, rfl, Or.inl ⟨rfl, (tb_3 45 rfl rfl), (tb_3 46 rfl rfl), (tb_3 47 rfl rfl), by decide, by decide, Or.inl ⟨10, _, rfl, rfl, rfl⟩⟩⟩
set_option maxRecDepth 20000 in
theorem qL_899 : q_Vx (12, false, .invokevirtual 17, [899, 228, 6, 12, 0, 0], []) := ⟨rfl, iX12_feed, rfl, k_X12_feed, rfl, rfl, Or.inl ⟨rfl, (tb_8 1 rfl rfl), (tb_8 2 rfl rfl), (tb_8 3 rfl rfl), by decide, by decide, Or.inl ⟨11, _, rfl, rfl, rfl⟩⟩⟩
set_option maxRecDepth 20000 in
theorem qL_900 : q_Vx (12, false, .invokevirtual 18, [900, 172, 2, 11, 0, 0], []) := ⟨rfl, iX11_end, rfl, k_X11_end, rfl, rfl, Or.inl ⟨rfl, (tb_3 53 rfl rfl), (tb_3 54 rfl rfl), (tb_3 55 rfl rfl), by decide, by decide, Or.inl ⟨10, _, rfl, rfl, rfl⟩⟩⟩
set_option maxRecDepth 20000 in
theorem qL_901 : q_Vx (12, false, .invokevirtual 22, [901, 230, 2, 12, 0, 0], []) := ⟨rfl, iX12_end, rfl, k_X12_end, rfl, rfl, Or.inl ⟨rfl, (tb_8 9 rfl rfl), (tb_8 10 rfl rfl), (tb_8 11 rfl rfl), by decide, by decide, Or.inl ⟨11, _, rfl, rfl, rfl⟩⟩⟩
set_option maxRecDepth 20000 in
theorem qL_902 : q_Vx (12, false, .invokevirtual 23, [902, 173, 1, 11, 0, 0], []) := ⟨rfl, iX11_board, rfl, k_X11_board, rfl, rfl, Or.inl ⟨rfl, (tb_3 57 rfl rfl), (tb_3 58 rfl rfl), (tb_3 59 rfl rfl), by decide, by decide, Or.inl ⟨10, _, rfl, rfl, rfl⟩⟩⟩
set_option maxRecDepth 20000 in
theorem qL_903 : q_Vx (12, false, .invokevirtual 27, [903, 275, 1, 12, 0, 0], []) := ⟨rfl, iX12_board, rfl, k_X12_board, rfl, rfl, Or.inl ⟨rfl, (tb_8 13 rfl rfl), (tb_8 14 rfl rfl), (tb_8 15 rfl rfl), by decide, by decide, Or.inl ⟨11, _, rfl, rfl, rfl⟩⟩⟩
set_option maxRecDepth 20000 in
theorem qL_904 : q_Vx (12, false, .invokevirtual 28, [904, 174, 2, 11, 0, 0], []) := ⟨rfl, iX11_fault, rfl, k_X11_fault, rfl, rfl, Or.inl ⟨rfl, (tb_4 11 rfl rfl), (tb_4 12 rfl rfl), (tb_4 13 rfl rfl), by decide, by decide, Or.inl ⟨10, _, rfl, rfl, rfl⟩⟩⟩
set_option maxRecDepth 20000 in
theorem qL_905 : q_Vx (12, false, .invokevirtual 31, [905, 276, 2, 12, 0, 0], []) := ⟨rfl, iX12_fault, rfl, k_X12_fault, rfl, rfl, Or.inl ⟨rfl, (tb_8 193 rfl rfl), (tb_8 194 rfl rfl), (tb_8 195 rfl rfl), by decide, by decide, Or.inl ⟨11, _, rfl, rfl, rfl⟩⟩⟩
set_option maxRecDepth 20000 in
theorem qL_906 : q_Vx (12, false, .invokevirtual 32, [906, 175, 3, 11, 0, 0], []) := ⟨rfl, iX11_device, rfl, k_X11_device, rfl, rfl, Or.inl ⟨rfl, (tb_4 15 rfl rfl), (tb_4 16 rfl rfl), (tb_4 17 rfl rfl), by decide, by decide, Or.inl ⟨10, _, rfl, rfl, rfl⟩⟩⟩
set_option maxRecDepth 20000 in
theorem qL_907 : q_Vx (12, false, .invokevirtual 36, [907, 317, 3, 12, 0, 0], []) := ⟨rfl, iX12_device, rfl, k_X12_device, rfl, rfl, Or.inl ⟨rfl, (tb_9 91 rfl rfl), (tb_9 92 rfl rfl), (tb_9 93 rfl rfl), by decide, by decide, Or.inl ⟨11, _, rfl, rfl, rfl⟩⟩⟩
set_option maxRecDepth 20000 in
theorem qL_908 : q_Vx (12, false, .invokevirtual 37, [908, 176, 3, 11, 0, 0], []) := ⟨rfl, iX11_net, rfl, k_X11_net, rfl, rfl, Or.inl ⟨rfl, (tb_4 35 rfl rfl), (tb_4 36 rfl rfl), (tb_4 37 rfl rfl), by decide, by decide, Or.inl ⟨10, _, rfl, rfl, rfl⟩⟩⟩
set_option maxRecDepth 20000 in
theorem qL_909 : q_Vx (12, false, .invokevirtual 40, [909, 319, 3, 12, 0, 0], []) := ⟨rfl, iX12_net, rfl, k_X12_net, rfl, rfl, Or.inl ⟨rfl, (tb_9 99 rfl rfl), (tb_9 100 rfl rfl), (tb_9 101 rfl rfl), by decide, by decide, Or.inl ⟨11, _, rfl, rfl, rfl⟩⟩⟩
set_option maxRecDepth 20000 in
theorem qL_910 : q_Vx (12, false, .invokevirtual 41, [910, 177, 4, 11, 0, 0], []) := ⟨rfl, iX11_cell, rfl, k_X11_cell, rfl, rfl, Or.inl ⟨rfl, (tb_4 83 rfl rfl), (tb_4 84 rfl rfl), (tb_4 85 rfl rfl), by decide, by decide, Or.inl ⟨10, _, rfl, rfl, rfl⟩⟩⟩
set_option maxRecDepth 20000 in
theorem qL_911 : q_Vx (12, false, .invokevirtual 45, [911, 320, 4, 12, 0, 0], []) := ⟨rfl, iX12_cell, rfl, k_X12_cell, rfl, rfl, Or.inl ⟨rfl, (tb_9 115 rfl rfl), (tb_9 116 rfl rfl), (tb_9 117 rfl rfl), by decide, by decide, Or.inl ⟨11, _, rfl, rfl, rfl⟩⟩⟩
set_option maxRecDepth 20000 in
theorem qL_912 : q_Vx (12, false, .invokevirtual 46, [912, 179, 3, 11, 0, 0], []) := ⟨rfl, iX11_clock, rfl, k_X11_clock, rfl, rfl, Or.inl ⟨rfl, (tb_4 117 rfl rfl), (tb_4 118 rfl rfl), (tb_4 119 rfl rfl), by decide, by decide, Or.inl ⟨10, _, rfl, rfl, rfl⟩⟩⟩
set_option maxRecDepth 20000 in
theorem qL_913 : q_Vx (12, false, .invokevirtual 49, [913, 313, 3, 12, 0, 0], []) := ⟨rfl, iX12_clock, rfl, k_X12_clock, rfl, rfl, Or.inl ⟨rfl, (tb_8 226 rfl rfl), (tb_8 227 rfl rfl), (tb_8 228 rfl rfl), by decide, by decide, Or.inl ⟨11, _, rfl, rfl, rfl⟩⟩⟩
set_option maxRecDepth 20000 in
theorem qL_914 : q_Vx (12, false, .invokevirtual 50, [914, 181, 4, 11, 0, 0], []) := ⟨rfl, iX11_scan, rfl, k_X11_scan, rfl, rfl, Or.inl ⟨rfl, (tb_4 171 rfl rfl), (tb_4 172 rfl rfl), (tb_4 173 rfl rfl), by decide, by decide, Or.inl ⟨10, _, rfl, rfl, rfl⟩⟩⟩
set_option maxRecDepth 20000 in
theorem qL_915 : q_Vx (12, false, .invokevirtual 53, [915, 314, 4, 12, 0, 0], []) := ⟨rfl, iX12_scan, rfl, k_X12_scan, rfl, rfl, Or.inl ⟨rfl, (tb_9 71 rfl rfl), (tb_9 72 rfl rfl), (tb_9 73 rfl rfl), by decide, by decide, Or.inl ⟨11, _, rfl, rfl, rfl⟩⟩⟩
set_option maxRecDepth 20000 in
theorem qL_916 : q_Vx (12, false, .invokevirtual 54, [916, 182, 2, 11, 0, 0], []) := ⟨rfl, iX11_harm, rfl, k_X11_harm, rfl, rfl, Or.inl ⟨rfl, (tb_4 191 rfl rfl), (tb_4 192 rfl rfl), (tb_4 193 rfl rfl), by decide, by decide, Or.inl ⟨10, _, rfl, rfl, rfl⟩⟩⟩
set_option maxRecDepth 20000 in
theorem qL_917 : q_Vx (12, false, .invokevirtual 57, [917, 356, 2, 12, 0, 0], []) := ⟨rfl, iX12_harm, rfl, k_X12_harm, rfl, rfl, Or.inl ⟨rfl, (tb_9 230 rfl rfl), (tb_9 231 rfl rfl), (tb_9 232 rfl rfl), by decide, by decide, Or.inl ⟨11, _, rfl, rfl, rfl⟩⟩⟩
set_option maxRecDepth 20000 in
theorem qL_918 : q_Vx (12, false, .invokevirtual 58, [918, 183, 1, 11, 0, 0], []) := ⟨rfl, iX11_undo, rfl, k_X11_undo, rfl, rfl, Or.inl ⟨rfl, (tb_5 11 rfl rfl), (tb_5 12 rfl rfl), (tb_5 13 rfl rfl), by decide, by decide, Or.inl ⟨10, _, rfl, rfl, rfl⟩⟩⟩
set_option maxRecDepth 20000 in
theorem qL_919 : q_Vx (12, false, .invokevirtual 62, [919, 315, 1, 12, 0, 0], []) := ⟨rfl, iX12_undo, rfl, k_X12_undo, rfl, rfl, Or.inl ⟨rfl, (tb_9 79 rfl rfl), (tb_9 80 rfl rfl), (tb_9 81 rfl rfl), by decide, by decide, Or.inl ⟨11, _, rfl, rfl, rfl⟩⟩⟩
set_option maxRecDepth 20000 in
theorem qL_920 : q_Vx (12, false, .invokevirtual 63, [920, 184, 1, 11, 0, 0], []) := ⟨rfl, iX11_redo, rfl, k_X11_redo, rfl, rfl, Or.inl ⟨rfl, (tb_5 27 rfl rfl), (tb_5 28 rfl rfl), (tb_5 29 rfl rfl), by decide, by decide, Or.inl ⟨10, _, rfl, rfl, rfl⟩⟩⟩
set_option maxRecDepth 20000 in
theorem qL_921 : q_Vx (12, false, .invokevirtual 66, [921, 316, 1, 12, 0, 0], []) := ⟨rfl, iX12_redo, rfl, k_X12_redo, rfl, rfl, Or.inl ⟨rfl, (tb_9 87 rfl rfl), (tb_9 88 rfl rfl), (tb_9 89 rfl rfl), by decide, by decide, Or.inl ⟨11, _, rfl, rfl, rfl⟩⟩⟩
set_option maxRecDepth 20000 in
theorem qL_922 : q_Vx (12, false, .invokevirtual 67, [922, 185, 3, 11, 0, 0], []) := ⟨rfl, iX11_goes, rfl, k_X11_goes, rfl, rfl, Or.inl ⟨rfl, (tb_5 35 rfl rfl), (tb_5 36 rfl rfl), (tb_5 37 rfl rfl), by decide, by decide, Or.inl ⟨10, _, rfl, rfl, rfl⟩⟩⟩
set_option maxRecDepth 20000 in
theorem qL_923 : q_Vx (12, false, .invokevirtual 70, [923, 293, 3, 12, 0, 0], []) := ⟨rfl, iX12_goes, rfl, k_X12_goes, rfl, rfl, Or.inl ⟨rfl, (tb_8 222 rfl rfl), (tb_8 223 rfl rfl), (tb_8 224 rfl rfl), by decide, by decide, Or.inl ⟨11, _, rfl, rfl, rfl⟩⟩⟩
set_option maxRecDepth 20000 in
theorem qL_924 : q_Vx (12, false, .invokevirtual 71, [924, 186, 3, 11, 0, 0], []) := ⟨rfl, iX11_walk, rfl, k_X11_walk, rfl, rfl, Or.inl ⟨rfl, (tb_5 40 rfl rfl), (tb_5 41 rfl rfl), (tb_5 42 rfl rfl), by decide, by decide, Or.inl ⟨10, _, rfl, rfl, rfl⟩⟩⟩
set_option maxRecDepth 20000 in
theorem qL_925 : q_Vx (12, false, .invokevirtual 74, [925, 290, 3, 12, 0, 0], []) := ⟨rfl, iX12_walk, rfl, k_X12_walk, rfl, rfl, Or.inl ⟨rfl, (tb_8 197 rfl rfl), (tb_8 198 rfl rfl), (tb_8 199 rfl rfl), by decide, by decide, Or.inl ⟨11, _, rfl, rfl, rfl⟩⟩⟩
set_option maxRecDepth 20000 in
theorem qL_926 : q_Vx (12, false, .invokevirtual 75, [926, 188, 3, 11, 0, 0], []) := ⟨rfl, iX11_walks, rfl, k_X11_walks, rfl, rfl, Or.inl ⟨rfl, (tb_5 48 rfl rfl), (tb_5 49 rfl rfl), (tb_5 50 rfl rfl), by decide, by decide, Or.inl ⟨10, _, rfl, rfl, rfl⟩⟩⟩
set_option maxRecDepth 20000 in
theorem qL_927 : q_Vx (12, false, .invokevirtual 78, [927, 291, 3, 12, 0, 0], []) := ⟨rfl, iX12_walks, rfl, k_X12_walks, rfl, rfl, Or.inl ⟨rfl, (tb_8 211 rfl rfl), (tb_8 212 rfl rfl), (tb_8 213 rfl rfl), by decide, by decide, Or.inl ⟨11, _, rfl, rfl, rfl⟩⟩⟩
set_option maxRecDepth 20000 in
theorem qL_928 : q_Vx (12, false, .invokevirtual 79, [928, 189, 2, 11, 0, 0], []) := ⟨rfl, iX11_farthest, rfl, k_X11_farthest, rfl, rfl, Or.inl ⟨rfl, (tb_5 60 rfl rfl), (tb_5 61 rfl rfl), (tb_5 62 rfl rfl), by decide, by decide, Or.inl ⟨10, _, rfl, rfl, rfl⟩⟩⟩
set_option maxRecDepth 20000 in
theorem qL_929 : q_Vx (12, false, .invokevirtual 82, [929, 292, 2, 12, 0, 0], []) := ⟨rfl, iX12_farthest, rfl, k_X12_farthest, rfl, rfl, Or.inl ⟨rfl, (tb_8 218 rfl rfl), (tb_8 219 rfl rfl), (tb_8 220 rfl rfl), by decide, by decide, Or.inl ⟨11, _, rfl, rfl, rfl⟩⟩⟩
set_option maxRecDepth 20000 in
theorem qL_930 : q_Vx (12, false, .invokevirtual 83, [930, 190, 2, 11, 0, 0], []) := ⟨rfl, iX11_length, rfl, k_X11_length, rfl, rfl, Or.inl ⟨rfl, (tb_5 68 rfl rfl), (tb_5 69 rfl rfl), (tb_5 70 rfl rfl), by decide, by decide, Or.inl ⟨10, _, rfl, rfl, rfl⟩⟩⟩
set_option maxRecDepth 20000 in
theorem qL_931 : q_Vx (12, false, .invokevirtual 86, [931, 321, 2, 12, 0, 0], []) := ⟨rfl, iX12_length, rfl, k_X12_length, rfl, rfl, Or.inl ⟨rfl, (tb_9 123 rfl rfl), (tb_9 124 rfl rfl), (tb_9 125 rfl rfl), by decide, by decide, Or.inl ⟨11, _, rfl, rfl, rfl⟩⟩⟩
set_option maxRecDepth 20000 in
theorem qL_932 : q_Vx (12, false, .invokevirtual 87, [932, 191, 2, 11, 0, 0], []) := ⟨rfl, iX11_found, rfl, k_X11_found, rfl, rfl, Or.inl ⟨rfl, (tb_5 72 rfl rfl), (tb_5 73 rfl rfl), (tb_5 74 rfl rfl), by decide, by decide, Or.inl ⟨10, _, rfl, rfl, rfl⟩⟩⟩
set_option maxRecDepth 20000 in
theorem qL_933 : q_Vx (12, false, .invokevirtual 90, [933, 322, 2, 12, 0, 0], []) := ⟨rfl, iX12_found, rfl, k_X12_found, rfl, rfl, Or.inl ⟨rfl, (tb_9 127 rfl rfl), (tb_9 128 rfl rfl), (tb_9 129 rfl rfl), by decide, by decide, Or.inl ⟨11, _, rfl, rfl, rfl⟩⟩⟩
set_option maxRecDepth 20000 in
theorem qL_934 : q_Vx (12, false, .invokevirtual 91, [934, 192, 1, 11, 0, 0], []) := ⟨rfl, iX11_fights, rfl, k_X11_fights, rfl, rfl, Or.inl ⟨rfl, (tb_5 76 rfl rfl), (tb_5 77 rfl rfl), (tb_5 78 rfl rfl), by decide, by decide, Or.inl ⟨10, _, rfl, rfl, rfl⟩⟩⟩
set_option maxRecDepth 20000 in
theorem qL_935 : q_Vx (12, false, .invokevirtual 94, [935, 323, 1, 12, 0, 0], []) := ⟨rfl, iX12_fights, rfl, k_X12_fights, rfl, rfl, Or.inl ⟨rfl, (tb_9 131 rfl rfl), (tb_9 132 rfl rfl), (tb_9 133 rfl rfl), by decide, by decide, Or.inl ⟨11, _, rfl, rfl, rfl⟩⟩⟩
set_option maxRecDepth 20000 in
theorem qL_936 : q_Vx (12, false, .invokevirtual 95, [936, 193, 1, 11, 0, 0], []) := ⟨rfl, iX11_unsafe, rfl, k_X11_unsafe, rfl, rfl, Or.inl ⟨rfl, (tb_5 80 rfl rfl), (tb_5 81 rfl rfl), (tb_5 82 rfl rfl), by decide, by decide, Or.inl ⟨10, _, rfl, rfl, rfl⟩⟩⟩
set_option maxRecDepth 20000 in
theorem qL_937 : q_Vx (12, false, .invokevirtual 98, [937, 324, 1, 12, 0, 0], []) := ⟨rfl, iX12_unsafe, rfl, k_X12_unsafe, rfl, rfl, Or.inl ⟨rfl, (tb_9 135 rfl rfl), (tb_9 136 rfl rfl), (tb_9 137 rfl rfl), by decide, by decide, Or.inl ⟨11, _, rfl, rfl, rfl⟩⟩⟩
set_option maxRecDepth 20000 in
theorem qL_938 : q_Vx (12, false, .invokevirtual 99, [938, 195, 2, 11, 0, 0], []) := ⟨rfl, iX11_steps, rfl, k_X11_steps, rfl, rfl, Or.inl ⟨rfl, (tb_5 92 rfl rfl), (tb_5 93 rfl rfl), (tb_5 94 rfl rfl), by decide, by decide, Or.inl ⟨10, _, rfl, rfl, rfl⟩⟩⟩
set_option maxRecDepth 20000 in
theorem qL_939 : q_Vx (12, false, .invokevirtual 102, [939, 329, 2, 12, 0, 0], []) := ⟨rfl, iX12_steps, rfl, k_X12_steps, rfl, rfl, Or.inl ⟨rfl, (tb_9 139 rfl rfl), (tb_9 140 rfl rfl), (tb_9 141 rfl rfl), by decide, by decide, Or.inl ⟨11, _, rfl, rfl, rfl⟩⟩⟩
set_option maxRecDepth 20000 in
theorem qL_940 : q_Vx (12, false, .invokevirtual 103, [940, 196, 3, 11, 0, 0], []) := ⟨rfl, iX11_tells, rfl, k_X11_tells, rfl, rfl, Or.inl ⟨rfl, (tb_5 107 rfl rfl), (tb_5 108 rfl rfl), (tb_5 109 rfl rfl), by decide, by decide, Or.inl ⟨10, _, rfl, rfl, rfl⟩⟩⟩
set_option maxRecDepth 20000 in
theorem qL_941 : q_Vx (12, false, .invokevirtual 106, [941, 332, 3, 12, 0, 0], []) := ⟨rfl, iX12_tells, rfl, k_X12_tells, rfl, rfl, Or.inl ⟨rfl, (tb_9 158 rfl rfl), (tb_9 159 rfl rfl), (tb_9 160 rfl rfl), by decide, by decide, Or.inl ⟨11, _, rfl, rfl, rfl⟩⟩⟩
set_option maxRecDepth 20000 in
theorem qL_942 : q_Vx (12, false, .invokevirtual 107, [942, 198, 4, 11, 0, 0], []) := ⟨rfl, iX11_answer, rfl, k_X11_answer, rfl, rfl, Or.inl ⟨rfl, (tb_5 122 rfl rfl), (tb_5 123 rfl rfl), (tb_5 124 rfl rfl), by decide, by decide, Or.inl ⟨10, _, rfl, rfl, rfl⟩⟩⟩
set_option maxRecDepth 20000 in
theorem qL_943 : q_Vx (12, false, .invokevirtual 110, [943, 339, 4, 12, 0, 0], []) := ⟨rfl, iX12_answer, rfl, k_X12_answer, rfl, rfl, Or.inl ⟨rfl, (tb_9 170 rfl rfl), (tb_9 171 rfl rfl), (tb_9 172 rfl rfl), by decide, by decide, Or.inl ⟨11, _, rfl, rfl, rfl⟩⟩⟩
set_option maxRecDepth 20000 in
theorem qL_944 : q_Vx (12, false, .invokevirtual 111, [944, 199, 2, 11, 0, 0], []) := ⟨rfl, iX11_good, rfl, k_X11_good, rfl, rfl, Or.inl ⟨rfl, (tb_5 162 rfl rfl), (tb_5 163 rfl rfl), (tb_5 164 rfl rfl), by decide, by decide, Or.inl ⟨10, _, rfl, rfl, rfl⟩⟩⟩
set_option maxRecDepth 20000 in
theorem qL_945 : q_Vx (12, false, .invokevirtual 114, [945, 340, 2, 12, 0, 0], []) := ⟨rfl, iX12_good, rfl, k_X12_good, rfl, rfl, Or.inl ⟨rfl, (tb_9 186 rfl rfl), (tb_9 187 rfl rfl), (tb_9 188 rfl rfl), by decide, by decide, Or.inl ⟨11, _, rfl, rfl, rfl⟩⟩⟩
set_option maxRecDepth 20000 in
theorem qL_946 : q_Vx (12, false, .invokevirtual 115, [946, 200, 2, 11, 0, 0], []) := ⟨rfl, iX11_aliased, rfl, k_X11_aliased, rfl, rfl, Or.inl ⟨rfl, (tb_5 171 rfl rfl), (tb_5 172 rfl rfl), (tb_5 173 rfl rfl), by decide, by decide, Or.inl ⟨10, _, rfl, rfl, rfl⟩⟩⟩
set_option maxRecDepth 20000 in
theorem qL_947 : q_Vx (12, false, .invokevirtual 118, [947, 341, 2, 12, 0, 0], []) := ⟨rfl, iX12_aliased, rfl, k_X12_aliased, rfl, rfl, Or.inl ⟨rfl, (tb_9 202 rfl rfl), (tb_9 203 rfl rfl), (tb_9 204 rfl rfl), by decide, by decide, Or.inl ⟨11, _, rfl, rfl, rfl⟩⟩⟩
set_option maxRecDepth 20000 in
theorem qL_948 : q_Vx (12, false, .invokevirtual 119, [948, 201, 3, 11, 0, 0], []) := ⟨rfl, iX11_confounded, rfl, k_X11_confounded, rfl, rfl, Or.inl ⟨rfl, (tb_5 184 rfl rfl), (tb_5 185 rfl rfl), (tb_5 186 rfl rfl), by decide, by decide, Or.inl ⟨10, _, rfl, rfl, rfl⟩⟩⟩
set_option maxRecDepth 20000 in
theorem qL_949 : q_Vx (12, false, .invokevirtual 122, [949, 342, 3, 12, 0, 0], []) := ⟨rfl, iX12_confounded, rfl, k_X12_confounded, rfl, rfl, Or.inl ⟨rfl, (tb_9 210 rfl rfl), (tb_9 211 rfl rfl), (tb_9 212 rfl rfl), by decide, by decide, Or.inl ⟨11, _, rfl, rfl, rfl⟩⟩⟩
set_option maxRecDepth 20000 in
theorem qL_950 : q_Vx (12, false, .invokevirtual 123, [950, 202, 3, 11, 0, 0], []) := ⟨rfl, iX11_verdict, rfl, k_X11_verdict, rfl, rfl, Or.inl ⟨rfl, (tb_5 201 rfl rfl), (tb_5 202 rfl rfl), (tb_5 203 rfl rfl), by decide, by decide, Or.inl ⟨10, _, rfl, rfl, rfl⟩⟩⟩
set_option maxRecDepth 20000 in
theorem qL_951 : q_Vx (12, false, .invokevirtual 126, [951, 343, 3, 12, 0, 0], []) := ⟨rfl, iX12_verdict, rfl, k_X12_verdict, rfl, rfl, Or.inl ⟨rfl, (tb_9 214 rfl rfl), (tb_9 215 rfl rfl), (tb_9 216 rfl rfl), by decide, by decide, Or.inl ⟨11, _, rfl, rfl, rfl⟩⟩⟩
set_option maxRecDepth 20000 in
theorem qL_952 : q_Vx (12, false, .invokevirtual 127, [952, 203, 1, 11, 0, 0], []) := ⟨rfl, iX11_singles, rfl, k_X11_singles, rfl, rfl, Or.inl ⟨rfl, (tb_5 213 rfl rfl), (tb_5 214 rfl rfl), (tb_5 215 rfl rfl), by decide, by decide, Or.inl ⟨10, _, rfl, rfl, rfl⟩⟩⟩
set_option maxRecDepth 20000 in
theorem qL_953 : q_Vx (12, false, .invokevirtual 130, [953, 347, 1, 12, 0, 0], []) := ⟨rfl, iX12_singles, rfl, k_X12_singles, rfl, rfl, Or.inl ⟨rfl, (tb_9 218 rfl rfl), (tb_9 219 rfl rfl), (tb_9 220 rfl rfl), by decide, by decide, Or.inl ⟨11, _, rfl, rfl, rfl⟩⟩⟩
set_option maxRecDepth 20000 in
theorem qL_954 : q_Vx (12, false, .invokevirtual 131, [954, 204, 3, 11, 0, 0], []) := ⟨rfl, iX11_single, rfl, k_X11_single, rfl, rfl, Or.inl ⟨rfl, (tb_5 218 rfl rfl), (tb_5 219 rfl rfl), (tb_5 220 rfl rfl), by decide, by decide, Or.inl ⟨10, _, rfl, rfl, rfl⟩⟩⟩
set_option maxRecDepth 20000 in
theorem qL_955 : q_Vx (12, false, .invokevirtual 134, [955, 357, 3, 12, 0, 0], []) := ⟨rfl, iX12_single, rfl, k_X12_single, rfl, rfl, Or.inl ⟨rfl, (tb_10 30 rfl rfl), (tb_10 31 rfl rfl), (tb_10 32 rfl rfl), by decide, by decide, Or.inl ⟨11, _, rfl, rfl, rfl⟩⟩⟩
set_option maxRecDepth 20000 in
theorem qL_956 : q_Vx (12, false, .invokevirtual 135, [956, 205, 4, 11, 0, 0], []) := ⟨rfl, iX11_apart, rfl, k_X11_apart, rfl, rfl, Or.inl ⟨rfl, (tb_5 233 rfl rfl), (tb_5 234 rfl rfl), (tb_5 235 rfl rfl), by decide, by decide, Or.inl ⟨10, _, rfl, rfl, rfl⟩⟩⟩
set_option maxRecDepth 20000 in
theorem qL_957 : q_Vx (12, false, .invokevirtual 138, [957, 361, 4, 12, 0, 0], []) := ⟨rfl, iX12_apart, rfl, k_X12_apart, rfl, rfl, Or.inl ⟨rfl, (tb_10 34 rfl rfl), (tb_10 35 rfl rfl), (tb_10 36 rfl rfl), by decide, by decide, Or.inl ⟨11, _, rfl, rfl, rfl⟩⟩⟩
set_option maxRecDepth 20000 in
theorem qL_958 : q_Vx (12, false, .invokevirtual 139, [958, 208, 3, 11, 0, 0], []) := ⟨rfl, iX11_told, rfl, k_X11_told, rfl, rfl, Or.inl ⟨rfl, (tb_6 34 rfl rfl), (tb_6 35 rfl rfl), (tb_6 36 rfl rfl), by decide, by decide, Or.inl ⟨10, _, rfl, rfl, rfl⟩⟩⟩
set_option maxRecDepth 20000 in
theorem qL_959 : q_Vx (12, false, .invokevirtual 142, [959, 362, 3, 12, 0, 0], []) := ⟨rfl, iX12_told, rfl, k_X12_told, rfl, rfl, Or.inl ⟨rfl, (tb_10 50 rfl rfl), (tb_10 51 rfl rfl), (tb_10 52 rfl rfl), by decide, by decide, Or.inl ⟨11, _, rfl, rfl, rfl⟩⟩⟩
set_option maxRecDepth 20000 in
theorem qL_960 : q_Vx (12, false, .invokevirtual 143, [960, 209, 1, 11, 0, 0], []) := ⟨rfl, iX11_least, rfl, k_X11_least, rfl, rfl, Or.inl ⟨rfl, (tb_6 51 rfl rfl), (tb_6 52 rfl rfl), (tb_6 53 rfl rfl), by decide, by decide, Or.inl ⟨10, _, rfl, rfl, rfl⟩⟩⟩
set_option maxRecDepth 20000 in
theorem qL_961 : q_Vx (12, false, .invokevirtual 146, [961, 363, 1, 12, 0, 0], []) := ⟨rfl, iX12_least, rfl, k_X12_least, rfl, rfl, Or.inl ⟨rfl, (tb_10 54 rfl rfl), (tb_10 55 rfl rfl), (tb_10 56 rfl rfl), by decide, by decide, Or.inl ⟨11, _, rfl, rfl, rfl⟩⟩⟩
set_option maxRecDepth 20000 in
theorem qL_962 : q_Vx (12, false, .invokevirtual 147, [962, 210, 2, 11, 0, 0], []) := ⟨rfl, iX11_mendFirst, rfl, k_X11_mendFirst, rfl, rfl, Or.inl ⟨rfl, (tb_6 60 rfl rfl), (tb_6 61 rfl rfl), (tb_6 62 rfl rfl), by decide, by decide, Or.inl ⟨10, _, rfl, rfl, rfl⟩⟩⟩
set_option maxRecDepth 20000 in
theorem qL_963 : q_Vx (12, false, .invokevirtual 150, [963, 364, 2, 12, 0, 0], []) := ⟨rfl, iX12_mendFirst, rfl, k_X12_mendFirst, rfl, rfl, Or.inl ⟨rfl, (tb_10 59 rfl rfl), (tb_10 60 rfl rfl), (tb_10 61 rfl rfl), by decide, by decide, Or.inl ⟨11, _, rfl, rfl, rfl⟩⟩⟩
set_option maxRecDepth 20000 in
theorem qL_964 : q_Vx (12, false, .invokevirtual 151, [964, 211, 2, 11, 0, 0], []) := ⟨rfl, iX11_safest, rfl, k_X11_safest, rfl, rfl, Or.inl ⟨rfl, (tb_6 74 rfl rfl), (tb_6 75 rfl rfl), (tb_6 76 rfl rfl), by decide, by decide, Or.inl ⟨10, _, rfl, rfl, rfl⟩⟩⟩
set_option maxRecDepth 20000 in
theorem qL_965 : q_Vx (12, false, .invokevirtual 154, [965, 366, 2, 12, 0, 0], []) := ⟨rfl, iX12_safest, rfl, k_X12_safest, rfl, rfl, Or.inl ⟨rfl, (tb_10 63 rfl rfl), (tb_10 64 rfl rfl), (tb_10 65 rfl rfl), by decide, by decide, Or.inl ⟨11, _, rfl, rfl, rfl⟩⟩⟩
set_option maxRecDepth 20000 in
theorem qL_966 : q_Vx (12, false, .invokevirtual 155, [966, 212, 2, 11, 0, 0], []) := ⟨rfl, iX11_cost, rfl, k_X11_cost, rfl, rfl, Or.inl ⟨rfl, (tb_6 83 rfl rfl), (tb_6 84 rfl rfl), (tb_6 85 rfl rfl), by decide, by decide, Or.inl ⟨10, _, rfl, rfl, rfl⟩⟩⟩
set_option maxRecDepth 20000 in
theorem qL_967 : q_Vx (12, false, .invokevirtual 158, [967, 367, 2, 12, 0, 0], []) := ⟨rfl, iX12_cost, rfl, k_X12_cost, rfl, rfl, Or.inl ⟨rfl, (tb_10 71 rfl rfl), (tb_10 72 rfl rfl), (tb_10 73 rfl rfl), by decide, by decide, Or.inl ⟨11, _, rfl, rfl, rfl⟩⟩⟩
set_option maxRecDepth 20000 in
theorem qL_968 : q_Vx (12, false, .invokevirtual 159, [968, 213, 1, 11, 0, 0], []) := ⟨rfl, iX11_worst, rfl, k_X11_worst, rfl, rfl, Or.inl ⟨rfl, (tb_6 87 rfl rfl), (tb_6 88 rfl rfl), (tb_6 89 rfl rfl), by decide, by decide, Or.inl ⟨10, _, rfl, rfl, rfl⟩⟩⟩
set_option maxRecDepth 20000 in
theorem qL_969 : q_Vx (12, false, .invokevirtual 162, [969, 368, 1, 12, 0, 0], []) := ⟨rfl, iX12_worst, rfl, k_X12_worst, rfl, rfl, Or.inl ⟨rfl, (tb_10 75 rfl rfl), (tb_10 76 rfl rfl), (tb_10 77 rfl rfl), by decide, by decide, Or.inl ⟨11, _, rfl, rfl, rfl⟩⟩⟩
set_option maxRecDepth 20000 in
theorem qL_970 : q_Vx (12, false, .invokevirtual 163, [970, 214, 2, 11, 0, 0], []) := ⟨rfl, iX11_law, rfl, k_X11_law, rfl, rfl, Or.inl ⟨rfl, (tb_6 95 rfl rfl), (tb_6 96 rfl rfl), (tb_6 97 rfl rfl), by decide, by decide, Or.inl ⟨10, _, rfl, rfl, rfl⟩⟩⟩
set_option maxRecDepth 20000 in
theorem qL_971 : q_Vx (12, false, .invokevirtual 166, [971, 369, 2, 12, 0, 0], []) := ⟨rfl, iX12_law, rfl, k_X12_law, rfl, rfl, Or.inl ⟨rfl, (tb_10 79 rfl rfl), (tb_10 80 rfl rfl), (tb_10 81 rfl rfl), by decide, by decide, Or.inl ⟨11, _, rfl, rfl, rfl⟩⟩⟩
set_option maxRecDepth 20000 in
theorem qL_972 : q_Vx (12, false, .invokevirtual 167, [972, 215, 3, 11, 0, 0], []) := ⟨rfl, iX11_odds, rfl, k_X11_odds, rfl, rfl, Or.inl ⟨rfl, (tb_6 99 rfl rfl), (tb_6 100 rfl rfl), (tb_6 101 rfl rfl), by decide, by decide, Or.inl ⟨10, _, rfl, rfl, rfl⟩⟩⟩
set_option maxRecDepth 20000 in
theorem qL_973 : q_Vx (12, false, .invokevirtual 170, [973, 372, 3, 12, 0, 0], []) := ⟨rfl, iX12_odds, rfl, k_X12_odds, rfl, rfl, Or.inl ⟨rfl, (tb_10 83 rfl rfl), (tb_10 84 rfl rfl), (tb_10 85 rfl rfl), by decide, by decide, Or.inl ⟨11, _, rfl, rfl, rfl⟩⟩⟩
set_option maxRecDepth 20000 in
theorem qL_974 : q_Vx (12, false, .invokevirtual 171, [974, 217, 2, 11, 0, 0], []) := ⟨rfl, iX11_lies, rfl, k_X11_lies, rfl, rfl, Or.inl ⟨rfl, (tb_6 107 rfl rfl), (tb_6 108 rfl rfl), (tb_6 109 rfl rfl), by decide, by decide, Or.inl ⟨10, _, rfl, rfl, rfl⟩⟩⟩
set_option maxRecDepth 20000 in
theorem qL_975 : q_Vx (12, false, .invokevirtual 174, [975, 373, 2, 12, 0, 0], []) := ⟨rfl, iX12_lies, rfl, k_X12_lies, rfl, rfl, Or.inl ⟨rfl, (tb_10 93 rfl rfl), (tb_10 94 rfl rfl), (tb_10 95 rfl rfl), by decide, by decide, Or.inl ⟨11, _, rfl, rfl, rfl⟩⟩⟩
set_option maxRecDepth 20000 in
theorem qL_976 : q_Vx (12, false, .invokevirtual 175, [976, 218, 6, 11, 0, 0], []) := ⟨rfl, iX11_seen, rfl, k_X11_seen, rfl, rfl, Or.inl ⟨rfl, (tb_6 111 rfl rfl), (tb_6 112 rfl rfl), (tb_6 113 rfl rfl), by decide, by decide, Or.inl ⟨10, _, rfl, rfl, rfl⟩⟩⟩
set_option maxRecDepth 20000 in
theorem qL_977 : q_Vx (12, false, .invokevirtual 179, [977, 374, 6, 12, 0, 0], []) := ⟨rfl, iX12_seen, rfl, k_X12_seen, rfl, rfl, Or.inl ⟨rfl, (tb_10 97 rfl rfl), (tb_10 98 rfl rfl), (tb_10 99 rfl rfl), by decide, by decide, Or.inl ⟨11, _, rfl, rfl, rfl⟩⟩⟩
set_option maxRecDepth 20000 in
theorem qL_978 : q_Vx (12, false, .invokevirtual 180, [978, 219, 2, 11, 0, 0], []) := ⟨rfl, iX11_untell, rfl, k_X11_untell, rfl, rfl, Or.inl ⟨rfl, (tb_6 119 rfl rfl), (tb_6 120 rfl rfl), (tb_6 121 rfl rfl), by decide, by decide, Or.inl ⟨10, _, rfl, rfl, rfl⟩⟩⟩
set_option maxRecDepth 20000 in
theorem qL_979 : q_Vx (12, false, .invokevirtual 184, [979, 375, 2, 12, 0, 0], []) := ⟨rfl, iX12_untell, rfl, k_X12_untell, rfl, rfl, Or.inl ⟨rfl, (tb_10 101 rfl rfl), (tb_10 102 rfl rfl), (tb_10 103 rfl rfl), by decide, by decide, Or.inl ⟨11, _, rfl, rfl, rfl⟩⟩⟩
set_option maxRecDepth 20000 in
theorem qL_980 : q_Vx (12, false, .invokevirtual 185, [980, 220, 2, 11, 0, 0], []) := ⟨rfl, iX11_later, rfl, k_X11_later, rfl, rfl, Or.inl ⟨rfl, (tb_6 127 rfl rfl), (tb_6 128 rfl rfl), (tb_6 129 rfl rfl), by decide, by decide, Or.inl ⟨10, _, rfl, rfl, rfl⟩⟩⟩
set_option maxRecDepth 20000 in
theorem qL_981 : q_Vx (12, false, .invokevirtual 188, [981, 376, 2, 12, 0, 0], []) := ⟨rfl, iX12_later, rfl, k_X12_later, rfl, rfl, Or.inl ⟨rfl, (tb_10 105 rfl rfl), (tb_10 106 rfl rfl), (tb_10 107 rfl rfl), by decide, by decide, Or.inl ⟨11, _, rfl, rfl, rfl⟩⟩⟩
set_option maxRecDepth 20000 in
theorem qL_982 : q_Vx (12, false, .invokevirtual 189, [982, 221, 2, 11, 0, 0], []) := ⟨rfl, iX11_fits, rfl, k_X11_fits, rfl, rfl, Or.inl ⟨rfl, (tb_6 132 rfl rfl), (tb_6 133 rfl rfl), (tb_6 134 rfl rfl), by decide, by decide, Or.inl ⟨10, _, rfl, rfl, rfl⟩⟩⟩
set_option maxRecDepth 20000 in
theorem qL_983 : q_Vx (12, false, .invokevirtual 192, [983, 379, 2, 12, 0, 0], []) := ⟨rfl, iX12_fits, rfl, k_X12_fits, rfl, rfl, Or.inl ⟨rfl, (tb_10 110 rfl rfl), (tb_10 111 rfl rfl), (tb_10 112 rfl rfl), by decide, by decide, Or.inl ⟨11, _, rfl, rfl, rfl⟩⟩⟩
set_option maxRecDepth 20000 in
theorem qL_984 : q_Vx (12, false, .invokevirtual 193, [984, 222, 3, 11, 0, 0], []) := ⟨rfl, iX11_culprit, rfl, k_X11_culprit, rfl, rfl, Or.inl ⟨rfl, (tb_6 157 rfl rfl), (tb_6 158 rfl rfl), (tb_6 159 rfl rfl), by decide, by decide, Or.inl ⟨10, _, rfl, rfl, rfl⟩⟩⟩
set_option maxRecDepth 20000 in
theorem qL_985 : q_Vx (12, false, .invokevirtual 196, [985, 380, 3, 12, 0, 0], []) := ⟨rfl, iX12_culprit, rfl, k_X12_culprit, rfl, rfl, Or.inl ⟨rfl, (tb_10 122 rfl rfl), (tb_10 123 rfl rfl), (tb_10 124 rfl rfl), by decide, by decide, Or.inl ⟨11, _, rfl, rfl, rfl⟩⟩⟩
set_option maxRecDepth 20000 in
theorem qL_986 : q_Vx (12, false, .invokevirtual 197, [986, 223, 4, 11, 0, 0], []) := ⟨rfl, iX11_ask, rfl, k_X11_ask, rfl, rfl, Or.inl ⟨rfl, (tb_6 166 rfl rfl), (tb_6 167 rfl rfl), (tb_6 168 rfl rfl), by decide, by decide, Or.inl ⟨10, _, rfl, rfl, rfl⟩⟩⟩
set_option maxRecDepth 20000 in
theorem qL_987 : q_Vx (12, false, .invokevirtual 200, [987, 383, 4, 12, 0, 0], []) := ⟨rfl, iX12_ask, rfl, k_X12_ask, rfl, rfl, Or.inl ⟨rfl, (tb_10 126 rfl rfl), (tb_10 127 rfl rfl), (tb_10 128 rfl rfl), by decide, by decide, Or.inl ⟨11, _, rfl, rfl, rfl⟩⟩⟩
set_option maxRecDepth 20000 in
theorem qL_988 : q_Vx (12, false, .invokevirtual 201, [988, 224, 2, 11, 0, 0], []) := ⟨rfl, iX11_image, rfl, k_X11_image, rfl, rfl, Or.inl ⟨rfl, (tb_6 179 rfl rfl), (tb_6 180 rfl rfl), (tb_6 181 rfl rfl), by decide, by decide, Or.inl ⟨10, _, rfl, rfl, rfl⟩⟩⟩
set_option maxRecDepth 20000 in
theorem qL_989 : q_Vx (12, false, .invokevirtual 204, [989, 385, 2, 12, 0, 0], []) := ⟨rfl, iX12_image, rfl, k_X12_image, rfl, rfl, Or.inl ⟨rfl, (tb_10 138 rfl rfl), (tb_10 139 rfl rfl), (tb_10 140 rfl rfl), by decide, by decide, Or.inl ⟨11, _, rfl, rfl, rfl⟩⟩⟩
set_option maxRecDepth 20000 in
theorem qL_990 : q_Vx (12, false, .invokevirtual 205, [990, 225, 2, 11, 0, 0], []) := ⟨rfl, iX11_back, rfl, k_X11_back, rfl, rfl, Or.inl ⟨rfl, (tb_6 187 rfl rfl), (tb_6 188 rfl rfl), (tb_6 189 rfl rfl), by decide, by decide, Or.inl ⟨10, _, rfl, rfl, rfl⟩⟩⟩
set_option maxRecDepth 20000 in
theorem qL_991 : q_Vx (12, false, .invokevirtual 208, [991, 386, 2, 12, 0, 0], []) := ⟨rfl, iX12_back, rfl, k_X12_back, rfl, rfl, Or.inl ⟨rfl, (tb_10 145 rfl rfl), (tb_10 146 rfl rfl), (tb_10 147 rfl rfl), by decide, by decide, Or.inl ⟨11, _, rfl, rfl, rfl⟩⟩⟩
set_option maxRecDepth 20000 in
theorem qL_992 : q_Vx (12, false, .invokevirtual 209, [992, 226, 2, 11, 0, 0], []) := ⟨rfl, iX11_about, rfl, k_X11_about, rfl, rfl, Or.inl ⟨rfl, (tb_6 195 rfl rfl), (tb_6 196 rfl rfl), (tb_6 197 rfl rfl), by decide, by decide, Or.inl ⟨10, _, rfl, rfl, rfl⟩⟩⟩
set_option maxRecDepth 20000 in
theorem qL_993 : q_Vx (12, false, .invokevirtual 212, [993, 388, 2, 12, 0, 0], []) := ⟨rfl, iX12_about, rfl, k_X12_about, rfl, rfl, Or.inl ⟨rfl, (tb_10 149 rfl rfl), (tb_10 150 rfl rfl), (tb_10 151 rfl rfl), by decide, by decide, Or.inl ⟨11, _, rfl, rfl, rfl⟩⟩⟩
def q_LT_0 : List (Nat × Bool × Instr × List Nat × List Value) := [(1, false, .invokespecial 3, [0, 0], []), (1, false, .putfield 9, [1, 0, 0, 0], []), (1, true, .putfield 15, [2, 0, 1, 2], []), (1, true, .putfield 19, [3, 0, 2, 2], []), (1, true, .putfield 23, [4, 0, 3, 2], []), (1, true, .putfield 26, [5, 0, 4, 2], []), (1, false, .putfield 29, [6, 0, 5, 0], []), (1, true, .putfield 32, [7, 0, 6, 2], []), (1, true, .putfield 35, [8, 0, 7, 2], []), (1, true, .putfield 38, [9, 0, 8, 2], []), (1, true, .putfield 41, [10, 0, 9, 2], []), (1, true, .putfield 44, [11, 0, 10, 2], []), (1, false, .putfield 47, [12, 0, 11, 0], []), (1, false, .new 50, [13, 2, 5], []), (4, false, .invokespecial 3, [14, 0], []), (4, false, .putfield 9, [15, 2, 0, 0], []), (4, false, .putfield 15, [16, 2, 1, 0], []), (4, false, .putfield 18, [17, 2, 2, 0], []), (4, false, .putfield 21, [18, 2, 3, 0], []), (4, false, .putfield 24, [19, 2, 4, 0], []), (1, false, .invokespecial 52, [20, 64, 1, 3, 0, 0], []), (1, true, .putfield 53, [21, 0, 12, 2], []), (1, false, .new 57, [22, 3, 4], []), (5, false, .invokespecial 3, [23, 0], []), (5, true, .putfield 11, [24, 3, 0, 2], []), (5, true, .putfield 15, [25, 3, 1, 2], []), (5, false, .putfield 18, [26, 3, 2, 0], []), (5, false, .putfield 22, [27, 3, 3, 0], []), (1, false, .invokespecial 59, [28, 76, 1, 4, 2, 330], []), (1, true, .putfield 60, [29, 0, 13, 2], []), (1, false, .putfield 64, [30, 0, 14, 0], []), (1, false, .putfield 67, [31, 0, 15, 0], []), (1, false, .putfield 9, [32, 0, 0, 0], []), (1, false, .putfield 29, [33, 0, 5, 0], []), (1, false, .getfield 35, [34, 0, 7, 2], []), (1, false, .invokestatic 70, [35, 391, 2, 0, 0, 0], []), (1, false, .getfield 38, [36, 0, 8, 2], []), (1, false, .getfield 41, [37, 0, 9, 2], []), (1, false, .getfield 44, [38, 0, 10, 2], []), (1, false, .putfield 47, [39, 0, 11, 0], []), (1, false, .getfield 53, [40, 0, 12, 2], []), (4, false, .putfield 9, [41, 2, 0, 0], []), (4, false, .putfield 15, [42, 2, 1, 0], []), (4, false, .putfield 18, [43, 2, 2, 0], []), (4, false, .putfield 21, [44, 2, 3, 0], []), (4, false, .putfield 24, [45, 2, 4, 0], []), (1, false, .invokevirtual 76, [46, 65, 1, 3, 0, 0], []), (1, false, .getfield 60, [47, 0, 13, 2], []), (5, false, .putfield 18, [48, 3, 2, 0], []), (5, false, .putfield 22, [49, 3, 3, 0], [])]
theorem q_LT_0_ok : ∀ x ∈ q_LT_0, q_Vx x := List.forall_mem_cons.mpr ⟨qL_0, List.forall_mem_cons.mpr ⟨qL_1, List.forall_mem_cons.mpr ⟨qL_2, List.forall_mem_cons.mpr ⟨qL_3, List.forall_mem_cons.mpr ⟨qL_4, List.forall_mem_cons.mpr ⟨qL_5, List.forall_mem_cons.mpr ⟨qL_6, List.forall_mem_cons.mpr ⟨qL_7, List.forall_mem_cons.mpr ⟨qL_8, List.forall_mem_cons.mpr ⟨qL_9, List.forall_mem_cons.mpr ⟨qL_10, List.forall_mem_cons.mpr ⟨qL_11, List.forall_mem_cons.mpr ⟨qL_12, List.forall_mem_cons.mpr ⟨qL_13, List.forall_mem_cons.mpr ⟨qL_14, List.forall_mem_cons.mpr ⟨qL_15, List.forall_mem_cons.mpr ⟨qL_16, List.forall_mem_cons.mpr ⟨qL_17, List.forall_mem_cons.mpr ⟨qL_18, List.forall_mem_cons.mpr ⟨qL_19, List.forall_mem_cons.mpr ⟨qL_20, List.forall_mem_cons.mpr ⟨qL_21, List.forall_mem_cons.mpr ⟨qL_22, List.forall_mem_cons.mpr ⟨qL_23, List.forall_mem_cons.mpr ⟨qL_24, List.forall_mem_cons.mpr ⟨qL_25, List.forall_mem_cons.mpr ⟨qL_26, List.forall_mem_cons.mpr ⟨qL_27, List.forall_mem_cons.mpr ⟨qL_28, List.forall_mem_cons.mpr ⟨qL_29, List.forall_mem_cons.mpr ⟨qL_30, List.forall_mem_cons.mpr ⟨qL_31, List.forall_mem_cons.mpr ⟨qL_32, List.forall_mem_cons.mpr ⟨qL_33, List.forall_mem_cons.mpr ⟨qL_34, List.forall_mem_cons.mpr ⟨qL_35, List.forall_mem_cons.mpr ⟨qL_36, List.forall_mem_cons.mpr ⟨qL_37, List.forall_mem_cons.mpr ⟨qL_38, List.forall_mem_cons.mpr ⟨qL_39, List.forall_mem_cons.mpr ⟨qL_40, List.forall_mem_cons.mpr ⟨qL_41, List.forall_mem_cons.mpr ⟨qL_42, List.forall_mem_cons.mpr ⟨qL_43, List.forall_mem_cons.mpr ⟨qL_44, List.forall_mem_cons.mpr ⟨qL_45, List.forall_mem_cons.mpr ⟨qL_46, List.forall_mem_cons.mpr ⟨qL_47, List.forall_mem_cons.mpr ⟨qL_48, List.forall_mem_cons.mpr ⟨qL_49, fun _ h => absurd h List.not_mem_nil⟩⟩⟩⟩⟩⟩⟩⟩⟩⟩⟩⟩⟩⟩⟩⟩⟩⟩⟩⟩⟩⟩⟩⟩⟩⟩⟩⟩⟩⟩⟩⟩⟩⟩⟩⟩⟩⟩⟩⟩⟩⟩⟩⟩⟩⟩⟩⟩⟩⟩
def q_LT_1 : List (Nat × Bool × Instr × List Nat × List Value) := [(1, false, .invokevirtual 79, [50, 77, 1, 4, 0, 0], []), (1, false, .putfield 64, [51, 0, 14, 0], []), (1, false, .putfield 67, [52, 0, 15, 0], []), (1, false, .getfield 9, [53, 0, 0, 0], []), (1, false, .getfield 29, [54, 0, 5, 0], []), (1, false, .invokevirtual 82, [55, 12, 2, 1, 0, 0], []), (1, false, .getfield 26, [56, 0, 4, 2], []), (1, false, .invokevirtual 86, [57, 14, 3, 1, 0, 0], []), (1, false, .invokestatic 90, [58, 178, 2, 0, 0, 0], []), (1, false, .getfield 47, [59, 0, 11, 0], []), (1, false, .invokevirtual 94, [60, 16, 2, 1, 0, 0], []), (1, false, .invokevirtual 97, [61, 17, 2, 1, 0, 0], []), (1, false, .invokevirtual 101, [62, 19, 4, 1, 0, 0], []), (5, false, .getfield 18, [63, 3, 2, 0], []), (5, false, .getfield 11, [64, 3, 0, 2], []), (5, false, .getfield 15, [65, 3, 1, 2], []), (5, false, .invokestatic 25, [66, 80, 4, 0, 0, 0], []), (5, false, .invokestatic 29, [67, 81, 3, 0, 0, 0], []), (1, false, .invokevirtual 105, [68, 79, 4, 4, 0, 0], []), (1, false, .invokevirtual 112, [69, 23, 1, 1, 0, 0], []), (14, false, .ldc_w 265, [70], [.int 1431655765]), (14, false, .ldc_w 266, [71], [.int 858993459]), (14, false, .ldc_w 267, [72], [.int 252645135]), (1, false, .invokestatic 115, [73, 389, 1, 0, 0, 0], []), (1, false, .invokevirtual 108, [74, 24, 1, 1, 0, 0], []), (1, false, .invokevirtual 120, [75, 22, 1, 1, 0, 0], []), (1, false, .invokevirtual 123, [76, 26, 2, 1, 0, 0], []), (1, false, .getstatic 126, [77, 1002], []), (1, false, .invokevirtual 129, [78, 28, 2, 1, 0, 0], []), (1, false, .invokevirtual 132, [79, 29, 2, 1, 0, 0], []), (1, false, .invokevirtual 135, [80, 30, 2, 1, 0, 0], []), (1, false, .getstatic 138, [81, 1001], []), (1, false, .invokevirtual 141, [82, 27, 2, 1, 0, 0], []), (1, false, .getfield 144, [83, 2, 0, 0], []), (1, false, .getfield 147, [84, 2, 1, 0], []), (1, false, .getfield 150, [85, 2, 2, 0], []), (1, false, .getfield 153, [86, 2, 4, 0], []), (1, false, .getfield 156, [87, 2, 3, 0], []), (1, false, .invokevirtual 159, [88, 33, 3, 1, 0, 0], []), (1, false, .putfield 144, [89, 2, 0, 0], []), (1, false, .putfield 147, [90, 2, 1, 0], []), (1, false, .putfield 150, [91, 2, 2, 0], []), (1, false, .putfield 153, [92, 2, 4, 0], []), (1, false, .putfield 156, [93, 2, 3, 0], []), (2, false, .invokespecial 5, [94, 0], []), (2, false, .putfield 11, [95, 1, 0, 0], []), (2, false, .putfield 17, [96, 1, 1, 0], []), (2, false, .putfield 20, [97, 1, 2, 0], []), (2, true, .putfield 23, [98, 1, 3, 2], []), (2, true, .putfield 27, [99, 1, 4, 2], [])]
theorem q_LT_1_ok : ∀ x ∈ q_LT_1, q_Vx x := List.forall_mem_cons.mpr ⟨qL_50, List.forall_mem_cons.mpr ⟨qL_51, List.forall_mem_cons.mpr ⟨qL_52, List.forall_mem_cons.mpr ⟨qL_53, List.forall_mem_cons.mpr ⟨qL_54, List.forall_mem_cons.mpr ⟨qL_55, List.forall_mem_cons.mpr ⟨qL_56, List.forall_mem_cons.mpr ⟨qL_57, List.forall_mem_cons.mpr ⟨qL_58, List.forall_mem_cons.mpr ⟨qL_59, List.forall_mem_cons.mpr ⟨qL_60, List.forall_mem_cons.mpr ⟨qL_61, List.forall_mem_cons.mpr ⟨qL_62, List.forall_mem_cons.mpr ⟨qL_63, List.forall_mem_cons.mpr ⟨qL_64, List.forall_mem_cons.mpr ⟨qL_65, List.forall_mem_cons.mpr ⟨qL_66, List.forall_mem_cons.mpr ⟨qL_67, List.forall_mem_cons.mpr ⟨qL_68, List.forall_mem_cons.mpr ⟨qL_69, List.forall_mem_cons.mpr ⟨qL_70, List.forall_mem_cons.mpr ⟨qL_71, List.forall_mem_cons.mpr ⟨qL_72, List.forall_mem_cons.mpr ⟨qL_73, List.forall_mem_cons.mpr ⟨qL_74, List.forall_mem_cons.mpr ⟨qL_75, List.forall_mem_cons.mpr ⟨qL_76, List.forall_mem_cons.mpr ⟨qL_77, List.forall_mem_cons.mpr ⟨qL_78, List.forall_mem_cons.mpr ⟨qL_79, List.forall_mem_cons.mpr ⟨qL_80, List.forall_mem_cons.mpr ⟨qL_81, List.forall_mem_cons.mpr ⟨qL_82, List.forall_mem_cons.mpr ⟨qL_83, List.forall_mem_cons.mpr ⟨qL_84, List.forall_mem_cons.mpr ⟨qL_85, List.forall_mem_cons.mpr ⟨qL_86, List.forall_mem_cons.mpr ⟨qL_87, List.forall_mem_cons.mpr ⟨qL_88, List.forall_mem_cons.mpr ⟨qL_89, List.forall_mem_cons.mpr ⟨qL_90, List.forall_mem_cons.mpr ⟨qL_91, List.forall_mem_cons.mpr ⟨qL_92, List.forall_mem_cons.mpr ⟨qL_93, List.forall_mem_cons.mpr ⟨qL_94, List.forall_mem_cons.mpr ⟨qL_95, List.forall_mem_cons.mpr ⟨qL_96, List.forall_mem_cons.mpr ⟨qL_97, List.forall_mem_cons.mpr ⟨qL_98, List.forall_mem_cons.mpr ⟨qL_99, fun _ h => absurd h List.not_mem_nil⟩⟩⟩⟩⟩⟩⟩⟩⟩⟩⟩⟩⟩⟩⟩⟩⟩⟩⟩⟩⟩⟩⟩⟩⟩⟩⟩⟩⟩⟩⟩⟩⟩⟩⟩⟩⟩⟩⟩⟩⟩⟩⟩⟩⟩⟩⟩⟩⟩⟩
def q_LT_2 : List (Nat × Bool × Instr × List Nat × List Value) := [(2, true, .putfield 30, [100, 1, 5, 2], []), (2, true, .putfield 33, [101, 1, 6, 2], []), (2, false, .new 1, [102, 2, 5], []), (2, false, .invokespecial 36, [103, 64, 1, 3, 0, 0], []), (2, true, .putfield 37, [104, 1, 7, 2], []), (2, true, .putfield 41, [105, 1, 8, 2], []), (2, false, .putfield 11, [106, 1, 0, 0], []), (2, false, .putfield 17, [107, 1, 1, 0], []), (2, false, .getfield 44, [108, 0, 15, 0], []), (2, false, .putfield 20, [109, 1, 2, 0], []), (2, false, .getfield 27, [110, 1, 4, 2], []), (2, false, .invokestatic 49, [111, 391, 2, 0, 0, 0], []), (2, false, .getfield 30, [112, 1, 5, 2], []), (2, false, .getfield 33, [113, 1, 6, 2], []), (2, false, .getfield 55, [114, 0, 0, 0], []), (2, false, .getfield 23, [115, 1, 3, 2], []), (2, false, .getfield 69, [116, 0, 3, 2], []), (2, false, .getfield 72, [117, 0, 2, 2], []), (2, false, .invokestatic 58, [118, 38, 2, 0, 0, 0], []), (2, false, .getfield 37, [119, 1, 7, 2], []), (2, false, .getfield 62, [120, 0, 12, 2], []), (4, false, .getfield 9, [121, 2, 0, 0], []), (4, false, .getfield 15, [122, 2, 1, 0], []), (4, false, .getfield 18, [123, 2, 2, 0], []), (4, false, .getfield 21, [124, 2, 3, 0], []), (4, false, .getfield 24, [125, 2, 4, 0], []), (2, false, .invokevirtual 65, [126, 66, 2, 3, 0, 0], []), (2, false, .invokevirtual 75, [127, 39, 2, 2, 0, 0], []), (2, false, .getfield 79, [128, 0, 4, 2], []), (2, false, .invokevirtual 82, [129, 40, 3, 2, 0, 0], []), (2, false, .getfield 86, [130, 0, 5, 0], []), (2, false, .getfield 89, [131, 0, 9, 2], []), (2, false, .getfield 92, [132, 0, 7, 2], []), (2, false, .invokestatic 95, [133, 178, 2, 0, 0, 0], []), (2, false, .invokevirtual 99, [134, 42, 2, 2, 0, 0], []), (2, false, .getfield 103, [135, 2, 2, 0], []), (2, false, .getfield 17, [136, 1, 1, 0], []), (2, false, .invokevirtual 106, [137, 21, 3, 1, 0, 0], []), (2, false, .invokevirtual 109, [138, 43, 2, 2, 0, 0], []), (4, false, .invokevirtual 52, [139, 72, 2, 3, 0, 0], []), (4, false, .getstatic 42, [140, 1001], []), (4, false, .getstatic 46, [141, 1002], []), (4, false, .invokestatic 49, [142, 69, 1, 0, 0, 0], []), (4, false, .invokevirtual 55, [143, 70, 2, 3, 0, 0], []), (4, false, .invokevirtual 58, [144, 71, 2, 3, 0, 0], []), (2, false, .invokevirtual 112, [145, 73, 2, 3, 0, 0], []), (2, false, .invokevirtual 116, [146, 19, 4, 1, 0, 0], []), (2, false, .getfield 11, [147, 1, 0, 0], []), (2, false, .invokevirtual 147, [148, 49, 3, 2, 0, 0], []), (2, false, .invokevirtual 120, [149, 48, 2, 2, 0, 0], [])]
theorem q_LT_2_ok : ∀ x ∈ q_LT_2, q_Vx x := List.forall_mem_cons.mpr ⟨qL_100, List.forall_mem_cons.mpr ⟨qL_101, List.forall_mem_cons.mpr ⟨qL_102, List.forall_mem_cons.mpr ⟨qL_103, List.forall_mem_cons.mpr ⟨qL_104, List.forall_mem_cons.mpr ⟨qL_105, List.forall_mem_cons.mpr ⟨qL_106, List.forall_mem_cons.mpr ⟨qL_107, List.forall_mem_cons.mpr ⟨qL_108, List.forall_mem_cons.mpr ⟨qL_109, List.forall_mem_cons.mpr ⟨qL_110, List.forall_mem_cons.mpr ⟨qL_111, List.forall_mem_cons.mpr ⟨qL_112, List.forall_mem_cons.mpr ⟨qL_113, List.forall_mem_cons.mpr ⟨qL_114, List.forall_mem_cons.mpr ⟨qL_115, List.forall_mem_cons.mpr ⟨qL_116, List.forall_mem_cons.mpr ⟨qL_117, List.forall_mem_cons.mpr ⟨qL_118, List.forall_mem_cons.mpr ⟨qL_119, List.forall_mem_cons.mpr ⟨qL_120, List.forall_mem_cons.mpr ⟨qL_121, List.forall_mem_cons.mpr ⟨qL_122, List.forall_mem_cons.mpr ⟨qL_123, List.forall_mem_cons.mpr ⟨qL_124, List.forall_mem_cons.mpr ⟨qL_125, List.forall_mem_cons.mpr ⟨qL_126, List.forall_mem_cons.mpr ⟨qL_127, List.forall_mem_cons.mpr ⟨qL_128, List.forall_mem_cons.mpr ⟨qL_129, List.forall_mem_cons.mpr ⟨qL_130, List.forall_mem_cons.mpr ⟨qL_131, List.forall_mem_cons.mpr ⟨qL_132, List.forall_mem_cons.mpr ⟨qL_133, List.forall_mem_cons.mpr ⟨qL_134, List.forall_mem_cons.mpr ⟨qL_135, List.forall_mem_cons.mpr ⟨qL_136, List.forall_mem_cons.mpr ⟨qL_137, List.forall_mem_cons.mpr ⟨qL_138, List.forall_mem_cons.mpr ⟨qL_139, List.forall_mem_cons.mpr ⟨qL_140, List.forall_mem_cons.mpr ⟨qL_141, List.forall_mem_cons.mpr ⟨qL_142, List.forall_mem_cons.mpr ⟨qL_143, List.forall_mem_cons.mpr ⟨qL_144, List.forall_mem_cons.mpr ⟨qL_145, List.forall_mem_cons.mpr ⟨qL_146, List.forall_mem_cons.mpr ⟨qL_147, List.forall_mem_cons.mpr ⟨qL_148, List.forall_mem_cons.mpr ⟨qL_149, fun _ h => absurd h List.not_mem_nil⟩⟩⟩⟩⟩⟩⟩⟩⟩⟩⟩⟩⟩⟩⟩⟩⟩⟩⟩⟩⟩⟩⟩⟩⟩⟩⟩⟩⟩⟩⟩⟩⟩⟩⟩⟩⟩⟩⟩⟩⟩⟩⟩⟩⟩⟩⟩⟩⟩⟩
def q_LT_3 : List (Nat × Bool × Instr × List Nat × List Value) := [(2, false, .invokevirtual 151, [150, 46, 2, 2, 0, 0], []), (2, false, .getfield 20, [151, 1, 2, 0], []), (2, false, .getfield 154, [152, 0, 14, 0], []), (2, false, .invokevirtual 157, [153, 41, 3, 2, 0, 0], []), (2, false, .invokevirtual 124, [154, 50, 2, 2, 0, 0], []), (2, false, .invokevirtual 127, [155, 52, 3, 2, 0, 0], []), (2, false, .invokevirtual 130, [156, 54, 2, 2, 0, 0], []), (2, false, .invokevirtual 133, [157, 51, 2, 2, 0, 0], []), (2, false, .invokevirtual 136, [158, 53, 3, 2, 0, 0], []), (2, false, .invokevirtual 139, [159, 55, 2, 2, 0, 0], []), (11, false, .getstatic 18, [160, 1000], []), (2, false, .invokestatic 142, [161, 163, 2, 0, 0, 0], []), (2, false, .getfield 41, [162, 1, 8, 2], []), (11, false, .getfield 9, [163, 9, 0, 2], []), (11, false, .invokestatic 21, [164, 391, 2, 0, 0, 0], []), (11, false, .invokevirtual 27, [165, 164, 3, 10, 0, 0], []), (11, false, .invokestatic 31, [166, 2], []), (11, false, .invokestatic 37, [167, 163, 2, 0, 0, 0], []), (2, false, .invokevirtual 160, [168, 165, 4, 10, 0, 0], []), (2, false, .invokevirtual 164, [169, 47, 4, 2, 0, 0], []), (2, false, .invokestatic 168, [170, 1], []), (2, false, .invokevirtual 174, [171, 74, 3, 3, 0, 0], []), (2, false, .invokevirtual 177, [172, 75, 3, 3, 0, 0], []), (3, false, .getstatic 7, [173, 1003], []), (3, false, .getfield 13, [174, 0, 5, 0], []), (3, false, .invokestatic 19, [175, 59, 1, 0, 0, 0], []), (3, false, .invokestatic 23, [176, 61, 2, 0, 0, 0], []), (3, false, .invokevirtual 27, [177, 17, 2, 1, 0, 0], []), (3, false, .invokestatic 30, [178, 60, 2, 0, 0, 0], []), (3, false, .invokestatic 34, [179, 62, 3, 0, 0, 0], []), (4, false, .invokestatic 27, [180, 389, 1, 0, 0, 0], []), (4, false, .invokestatic 33, [181, 2], []), (4, false, .invokestatic 39, [182, 3], []), (6, false, .invokespecial 3, [183, 0], []), (6, true, .putfield 11, [184, 4, 0, 2], []), (6, true, .putfield 17, [185, 4, 1, 2], []), (6, false, .putfield 20, [186, 4, 2, 0], []), (6, false, .putfield 24, [187, 4, 3, 0], []), (6, false, .new 27, [188, 2, 5], []), (6, false, .invokespecial 29, [189, 64, 1, 3, 0, 0], []), (6, true, .putfield 30, [190, 4, 4, 2], []), (6, false, .putfield 34, [191, 4, 5, 0], []), (6, false, .invokestatic 37, [192, 60, 2, 0, 0, 0], []), (6, false, .invokestatic 41, [193, 2], []), (6, false, .putfield 20, [194, 4, 2, 0], []), (6, false, .getfield 47, [195, 0, 11, 0], []), (6, false, .putfield 24, [196, 4, 3, 0], []), (6, false, .getfield 20, [197, 4, 2, 0], []), (6, false, .getfield 11, [198, 4, 0, 2], []), (6, false, .invokestatic 52, [199, 62, 3, 0, 0, 0], [])]
theorem q_LT_3_ok : ∀ x ∈ q_LT_3, q_Vx x := List.forall_mem_cons.mpr ⟨qL_150, List.forall_mem_cons.mpr ⟨qL_151, List.forall_mem_cons.mpr ⟨qL_152, List.forall_mem_cons.mpr ⟨qL_153, List.forall_mem_cons.mpr ⟨qL_154, List.forall_mem_cons.mpr ⟨qL_155, List.forall_mem_cons.mpr ⟨qL_156, List.forall_mem_cons.mpr ⟨qL_157, List.forall_mem_cons.mpr ⟨qL_158, List.forall_mem_cons.mpr ⟨qL_159, List.forall_mem_cons.mpr ⟨qL_160, List.forall_mem_cons.mpr ⟨qL_161, List.forall_mem_cons.mpr ⟨qL_162, List.forall_mem_cons.mpr ⟨qL_163, List.forall_mem_cons.mpr ⟨qL_164, List.forall_mem_cons.mpr ⟨qL_165, List.forall_mem_cons.mpr ⟨qL_166, List.forall_mem_cons.mpr ⟨qL_167, List.forall_mem_cons.mpr ⟨qL_168, List.forall_mem_cons.mpr ⟨qL_169, List.forall_mem_cons.mpr ⟨qL_170, List.forall_mem_cons.mpr ⟨qL_171, List.forall_mem_cons.mpr ⟨qL_172, List.forall_mem_cons.mpr ⟨qL_173, List.forall_mem_cons.mpr ⟨qL_174, List.forall_mem_cons.mpr ⟨qL_175, List.forall_mem_cons.mpr ⟨qL_176, List.forall_mem_cons.mpr ⟨qL_177, List.forall_mem_cons.mpr ⟨qL_178, List.forall_mem_cons.mpr ⟨qL_179, List.forall_mem_cons.mpr ⟨qL_180, List.forall_mem_cons.mpr ⟨qL_181, List.forall_mem_cons.mpr ⟨qL_182, List.forall_mem_cons.mpr ⟨qL_183, List.forall_mem_cons.mpr ⟨qL_184, List.forall_mem_cons.mpr ⟨qL_185, List.forall_mem_cons.mpr ⟨qL_186, List.forall_mem_cons.mpr ⟨qL_187, List.forall_mem_cons.mpr ⟨qL_188, List.forall_mem_cons.mpr ⟨qL_189, List.forall_mem_cons.mpr ⟨qL_190, List.forall_mem_cons.mpr ⟨qL_191, List.forall_mem_cons.mpr ⟨qL_192, List.forall_mem_cons.mpr ⟨qL_193, List.forall_mem_cons.mpr ⟨qL_194, List.forall_mem_cons.mpr ⟨qL_195, List.forall_mem_cons.mpr ⟨qL_196, List.forall_mem_cons.mpr ⟨qL_197, List.forall_mem_cons.mpr ⟨qL_198, List.forall_mem_cons.mpr ⟨qL_199, fun _ h => absurd h List.not_mem_nil⟩⟩⟩⟩⟩⟩⟩⟩⟩⟩⟩⟩⟩⟩⟩⟩⟩⟩⟩⟩⟩⟩⟩⟩⟩⟩⟩⟩⟩⟩⟩⟩⟩⟩⟩⟩⟩⟩⟩⟩⟩⟩⟩⟩⟩⟩⟩⟩⟩⟩
def q_LT_4 : List (Nat × Bool × Instr × List Nat × List Value) := [(6, false, .getfield 17, [200, 4, 1, 2], []), (6, false, .invokevirtual 56, [201, 73, 2, 3, 0, 0], []), (6, false, .getfield 60, [202, 2, 2, 0], []), (6, false, .invokevirtual 63, [203, 19, 4, 1, 0, 0], []), (6, false, .getfield 24, [204, 4, 3, 0], []), (6, false, .invokevirtual 67, [205, 20, 2, 1, 0, 0], []), (6, false, .invokestatic 70, [206, 389, 1, 0, 0, 0], []), (6, false, .invokevirtual 75, [207, 86, 3, 5, 0, 0], []), (6, false, .invokevirtual 79, [208, 85, 2, 5, 0, 0], []), (6, false, .getfield 89, [209, 0, 5, 0], []), (6, false, .invokevirtual 82, [210, 88, 3, 5, 0, 0], []), (6, false, .getfield 86, [211, 0, 10, 2], []), (6, false, .invokevirtual 92, [212, 70, 2, 3, 0, 0], []), (6, false, .getfield 95, [213, 0, 8, 2], []), (6, false, .invokevirtual 102, [214, 89, 3, 5, 0, 0], []), (6, false, .invokevirtual 98, [215, 91, 3, 5, 0, 0], []), (6, false, .invokevirtual 105, [216, 93, 2, 5, 0, 0], []), (6, false, .invokevirtual 108, [217, 22, 1, 1, 0, 0], []), (6, false, .invokevirtual 112, [218, 33, 3, 1, 0, 0], []), (6, false, .getfield 30, [219, 4, 4, 2], []), (6, false, .invokevirtual 116, [220, 66, 2, 3, 0, 0], []), (6, false, .invokevirtual 120, [221, 35, 3, 1, 0, 0], []), (6, false, .invokevirtual 124, [222, 83, 5, 5, 0, 0], []), (6, false, .invokevirtual 128, [223, 84, 1, 5, 0, 0], []), (6, false, .getfield 34, [224, 4, 5, 0], []), (6, false, .putfield 34, [225, 4, 5, 0], []), (6, false, .invokevirtual 131, [226, 18, 2, 1, 0, 0], []), (7, false, .invokespecial 3, [227, 0], []), (7, true, .putfield 13, [228, 5, 0, 2], []), (7, true, .putfield 17, [229, 5, 1, 2], []), (7, false, .putfield 20, [230, 5, 2, 3], []), (7, false, .new 24, [231, 2, 5], []), (7, false, .invokespecial 26, [232, 64, 1, 3, 0, 0], []), (7, true, .putfield 27, [233, 5, 3, 2], []), (7, false, .putfield 20, [234, 5, 2, 3], []), (7, false, .getfield 20, [235, 5, 2, 3], []), (7, false, .invokevirtual 31, [236, 22, 1, 1, 0, 0], []), (7, false, .invokestatic 37, [237, 2], []), (7, false, .getfield 43, [238, 0, 11, 0], []), (7, false, .invokevirtual 47, [239, 21, 3, 1, 0, 0], []), (7, false, .invokestatic 72, [240, 60, 2, 0, 0, 0], []), (7, false, .getfield 17, [241, 5, 1, 2], []), (7, false, .invokestatic 76, [242, 62, 3, 0, 0, 0], []), (7, false, .invokevirtual 50, [243, 100, 2, 6, 0, 0], []), (7, false, .getfield 27, [244, 5, 3, 2], []), (7, false, .invokevirtual 54, [245, 65, 1, 3, 0, 0], []), (7, false, .invokevirtual 57, [246, 35, 3, 1, 0, 0], []), (7, false, .invokevirtual 61, [247, 73, 2, 3, 0, 0], []), (7, false, .getfield 65, [248, 2, 2, 0], []), (7, false, .invokevirtual 68, [249, 19, 4, 1, 0, 0], [])]
theorem q_LT_4_ok : ∀ x ∈ q_LT_4, q_Vx x := List.forall_mem_cons.mpr ⟨qL_200, List.forall_mem_cons.mpr ⟨qL_201, List.forall_mem_cons.mpr ⟨qL_202, List.forall_mem_cons.mpr ⟨qL_203, List.forall_mem_cons.mpr ⟨qL_204, List.forall_mem_cons.mpr ⟨qL_205, List.forall_mem_cons.mpr ⟨qL_206, List.forall_mem_cons.mpr ⟨qL_207, List.forall_mem_cons.mpr ⟨qL_208, List.forall_mem_cons.mpr ⟨qL_209, List.forall_mem_cons.mpr ⟨qL_210, List.forall_mem_cons.mpr ⟨qL_211, List.forall_mem_cons.mpr ⟨qL_212, List.forall_mem_cons.mpr ⟨qL_213, List.forall_mem_cons.mpr ⟨qL_214, List.forall_mem_cons.mpr ⟨qL_215, List.forall_mem_cons.mpr ⟨qL_216, List.forall_mem_cons.mpr ⟨qL_217, List.forall_mem_cons.mpr ⟨qL_218, List.forall_mem_cons.mpr ⟨qL_219, List.forall_mem_cons.mpr ⟨qL_220, List.forall_mem_cons.mpr ⟨qL_221, List.forall_mem_cons.mpr ⟨qL_222, List.forall_mem_cons.mpr ⟨qL_223, List.forall_mem_cons.mpr ⟨qL_224, List.forall_mem_cons.mpr ⟨qL_225, List.forall_mem_cons.mpr ⟨qL_226, List.forall_mem_cons.mpr ⟨qL_227, List.forall_mem_cons.mpr ⟨qL_228, List.forall_mem_cons.mpr ⟨qL_229, List.forall_mem_cons.mpr ⟨qL_230, List.forall_mem_cons.mpr ⟨qL_231, List.forall_mem_cons.mpr ⟨qL_232, List.forall_mem_cons.mpr ⟨qL_233, List.forall_mem_cons.mpr ⟨qL_234, List.forall_mem_cons.mpr ⟨qL_235, List.forall_mem_cons.mpr ⟨qL_236, List.forall_mem_cons.mpr ⟨qL_237, List.forall_mem_cons.mpr ⟨qL_238, List.forall_mem_cons.mpr ⟨qL_239, List.forall_mem_cons.mpr ⟨qL_240, List.forall_mem_cons.mpr ⟨qL_241, List.forall_mem_cons.mpr ⟨qL_242, List.forall_mem_cons.mpr ⟨qL_243, List.forall_mem_cons.mpr ⟨qL_244, List.forall_mem_cons.mpr ⟨qL_245, List.forall_mem_cons.mpr ⟨qL_246, List.forall_mem_cons.mpr ⟨qL_247, List.forall_mem_cons.mpr ⟨qL_248, List.forall_mem_cons.mpr ⟨qL_249, fun _ h => absurd h List.not_mem_nil⟩⟩⟩⟩⟩⟩⟩⟩⟩⟩⟩⟩⟩⟩⟩⟩⟩⟩⟩⟩⟩⟩⟩⟩⟩⟩⟩⟩⟩⟩⟩⟩⟩⟩⟩⟩⟩⟩⟩⟩⟩⟩⟩⟩⟩⟩⟩⟩⟩⟩
def q_LT_5 : List (Nat × Bool × Instr × List Nat × List Value) := [(7, false, .getfield 13, [250, 5, 0, 2], []), (7, false, .invokevirtual 80, [251, 101, 4, 6, 0, 0], []), (7, false, .invokevirtual 83, [252, 102, 3, 6, 0, 0], []), (7, false, .invokevirtual 86, [253, 103, 5, 6, 0, 0], []), (7, false, .invokevirtual 90, [254, 106, 5, 6, 0, 0], []), (7, false, .invokevirtual 93, [255, 104, 3, 6, 0, 0], []), (8, false, .invokespecial 3, [256, 0], []), (8, true, .putfield 11, [257, 6, 0, 2], []), (8, true, .putfield 15, [258, 6, 1, 2], []), (8, true, .putfield 18, [259, 6, 2, 2], []), (8, true, .putfield 21, [260, 6, 3, 2], []), (8, true, .putfield 24, [261, 6, 4, 2], []), (8, true, .putfield 27, [262, 6, 5, 2], []), (8, false, .putfield 30, [263, 6, 6, 0], []), (8, false, .putfield 34, [264, 6, 7, 0], []), (8, false, .putfield 30, [265, 6, 6, 0], []), (8, false, .getfield 30, [266, 6, 6, 0], []), (8, false, .getfield 11, [267, 6, 0, 2], []), (8, false, .getfield 15, [268, 6, 1, 2], []), (8, false, .getfield 18, [269, 6, 2, 2], []), (8, false, .getfield 21, [270, 6, 3, 2], []), (8, false, .getfield 24, [271, 6, 4, 2], []), (8, false, .getfield 27, [272, 6, 5, 2], []), (8, false, .invokevirtual 37, [273, 22, 1, 1, 0, 0], []), (8, false, .invokevirtual 43, [274, 112, 3, 7, 0, 0], []), (8, false, .invokevirtual 51, [275, 101, 4, 6, 0, 0], []), (8, false, .invokevirtual 57, [276, 102, 3, 6, 0, 0], []), (8, false, .invokevirtual 47, [277, 114, 4, 7, 0, 0], []), (8, false, .invokevirtual 61, [278, 113, 4, 7, 0, 0], []), (8, false, .invokestatic 64, [279, 60, 2, 0, 0, 0], []), (8, false, .invokestatic 74, [280, 3], []), (8, false, .invokestatic 70, [281, 117, 4, 0, 0, 0], []), (8, false, .getfield 34, [282, 6, 7, 0], []), (8, false, .putfield 34, [283, 6, 7, 0], []), (9, false, .invokespecial 3, [284, 0], []), (9, true, .putfield 11, [285, 7, 0, 2], []), (9, false, .putfield 15, [286, 7, 1, 0], []), (9, false, .putfield 19, [287, 7, 2, 0], []), (9, false, .putfield 22, [288, 7, 3, 0], []), (9, true, .putfield 25, [289, 7, 4, 2], []), (9, true, .putfield 28, [290, 7, 5, 2], []), (9, false, .getfield 15, [291, 7, 1, 0], []), (9, false, .putfield 15, [292, 7, 1, 0], []), (9, false, .putfield 19, [293, 7, 2, 0], []), (9, false, .putfield 22, [294, 7, 3, 0], []), (9, false, .getfield 11, [295, 7, 0, 2], []), (9, false, .invokevirtual 32, [296, 119, 2, 8, 0, 0], []), (9, false, .invokevirtual 36, [297, 57, 3, 2, 0, 0], []), (9, false, .getfield 19, [298, 7, 2, 0], []), (9, false, .invokevirtual 40, [299, 58, 3, 2, 0, 0], [])]
theorem q_LT_5_ok : ∀ x ∈ q_LT_5, q_Vx x := List.forall_mem_cons.mpr ⟨qL_250, List.forall_mem_cons.mpr ⟨qL_251, List.forall_mem_cons.mpr ⟨qL_252, List.forall_mem_cons.mpr ⟨qL_253, List.forall_mem_cons.mpr ⟨qL_254, List.forall_mem_cons.mpr ⟨qL_255, List.forall_mem_cons.mpr ⟨qL_256, List.forall_mem_cons.mpr ⟨qL_257, List.forall_mem_cons.mpr ⟨qL_258, List.forall_mem_cons.mpr ⟨qL_259, List.forall_mem_cons.mpr ⟨qL_260, List.forall_mem_cons.mpr ⟨qL_261, List.forall_mem_cons.mpr ⟨qL_262, List.forall_mem_cons.mpr ⟨qL_263, List.forall_mem_cons.mpr ⟨qL_264, List.forall_mem_cons.mpr ⟨qL_265, List.forall_mem_cons.mpr ⟨qL_266, List.forall_mem_cons.mpr ⟨qL_267, List.forall_mem_cons.mpr ⟨qL_268, List.forall_mem_cons.mpr ⟨qL_269, List.forall_mem_cons.mpr ⟨qL_270, List.forall_mem_cons.mpr ⟨qL_271, List.forall_mem_cons.mpr ⟨qL_272, List.forall_mem_cons.mpr ⟨qL_273, List.forall_mem_cons.mpr ⟨qL_274, List.forall_mem_cons.mpr ⟨qL_275, List.forall_mem_cons.mpr ⟨qL_276, List.forall_mem_cons.mpr ⟨qL_277, List.forall_mem_cons.mpr ⟨qL_278, List.forall_mem_cons.mpr ⟨qL_279, List.forall_mem_cons.mpr ⟨qL_280, List.forall_mem_cons.mpr ⟨qL_281, List.forall_mem_cons.mpr ⟨qL_282, List.forall_mem_cons.mpr ⟨qL_283, List.forall_mem_cons.mpr ⟨qL_284, List.forall_mem_cons.mpr ⟨qL_285, List.forall_mem_cons.mpr ⟨qL_286, List.forall_mem_cons.mpr ⟨qL_287, List.forall_mem_cons.mpr ⟨qL_288, List.forall_mem_cons.mpr ⟨qL_289, List.forall_mem_cons.mpr ⟨qL_290, List.forall_mem_cons.mpr ⟨qL_291, List.forall_mem_cons.mpr ⟨qL_292, List.forall_mem_cons.mpr ⟨qL_293, List.forall_mem_cons.mpr ⟨qL_294, List.forall_mem_cons.mpr ⟨qL_295, List.forall_mem_cons.mpr ⟨qL_296, List.forall_mem_cons.mpr ⟨qL_297, List.forall_mem_cons.mpr ⟨qL_298, List.forall_mem_cons.mpr ⟨qL_299, fun _ h => absurd h List.not_mem_nil⟩⟩⟩⟩⟩⟩⟩⟩⟩⟩⟩⟩⟩⟩⟩⟩⟩⟩⟩⟩⟩⟩⟩⟩⟩⟩⟩⟩⟩⟩⟩⟩⟩⟩⟩⟩⟩⟩⟩⟩⟩⟩⟩⟩⟩⟩⟩⟩⟩⟩
def q_LT_6 : List (Nat × Bool × Instr × List Nat × List Value) := [(9, false, .getfield 22, [300, 7, 3, 0], []), (9, false, .getfield 28, [301, 7, 5, 2], []), (9, false, .getfield 25, [302, 7, 4, 2], []), (10, false, .invokespecial 3, [303, 0], []), (10, true, .putfield 11, [304, 8, 0, 2], []), (10, false, .putfield 15, [305, 8, 1, 2], []), (10, false, .putfield 19, [306, 8, 2, 0], []), (10, false, .putfield 23, [307, 8, 3, 0], []), (10, false, .putfield 26, [308, 8, 4, 0], []), (10, false, .putfield 29, [309, 8, 5, 0], []), (10, false, .putfield 32, [310, 8, 6, 0], []), (10, false, .putfield 35, [311, 8, 7, 1], []), (10, false, .putfield 39, [312, 8, 9, 3], []), (10, false, .putfield 43, [313, 8, 10, 3], []), (10, false, .putfield 46, [314, 8, 11, 3], []), (10, false, .putfield 49, [315, 8, 12, 0], []), (10, false, .putfield 52, [316, 8, 13, 0], []), (10, false, .putfield 55, [317, 8, 8, 2], []), (10, false, .ldc 59, [318], [.ref 1010]), (10, false, .invokevirtual 61, [319, 4, 1, 40, 0, 0], []), (10, false, .invokevirtual 66, [320, 5, 2, 40, 0, 0], []), (10, false, .getfield 11, [321, 8, 0, 2], []), (10, false, .ldc2_w 70, [322], [.long 32]), (10, false, .putfield 15, [323, 8, 1, 2], []), (10, false, .invokestatic 72, [324, 2], []), (10, false, .putfield 19, [325, 8, 2, 0], []), (10, false, .putfield 55, [326, 8, 8, 2], []), (10, false, .getfield 55, [327, 8, 8, 2], []), (10, false, .invokevirtual 78, [328, 11, 1, 1, 0, 0], []), (10, false, .putfield 23, [329, 8, 3, 0], []), (10, false, .putfield 39, [330, 8, 9, 3], []), (10, false, .putfield 43, [331, 8, 10, 3], []), (10, false, .putfield 46, [332, 8, 11, 3], []), (10, false, .putfield 49, [333, 8, 12, 0], []), (10, false, .putfield 52, [334, 8, 13, 0], []), (10, false, .getfield 23, [335, 8, 3, 0], []), (10, false, .getfield 19, [336, 8, 2, 0], []), (10, false, .getfield 15, [337, 8, 1, 2], []), (10, false, .putfield 26, [338, 8, 4, 0], []), (10, false, .getfield 26, [339, 8, 4, 0], []), (10, false, .putfield 29, [340, 8, 5, 0], []), (10, false, .putfield 35, [341, 8, 7, 1], []), (10, false, .getfield 35, [342, 8, 7, 1], []), (10, false, .getfield 29, [343, 8, 5, 0], []), (10, false, .getfield 11, [344, 8, 0, 2], []), (10, false, .putfield 32, [345, 8, 6, 0], []), (10, false, .invokevirtual 90, [346, 134, 1, 9, 0, 0], []), (10, false, .getfield 32, [347, 8, 6, 0], []), (10, false, .invokevirtual 93, [348, 135, 1, 9, 0, 0], []), (10, false, .invokestatic 96, [349, 132, 1, 0, 0, 0], [])]
theorem q_LT_6_ok : ∀ x ∈ q_LT_6, q_Vx x := List.forall_mem_cons.mpr ⟨qL_300, List.forall_mem_cons.mpr ⟨qL_301, List.forall_mem_cons.mpr ⟨qL_302, List.forall_mem_cons.mpr ⟨qL_303, List.forall_mem_cons.mpr ⟨qL_304, List.forall_mem_cons.mpr ⟨qL_305, List.forall_mem_cons.mpr ⟨qL_306, List.forall_mem_cons.mpr ⟨qL_307, List.forall_mem_cons.mpr ⟨qL_308, List.forall_mem_cons.mpr ⟨qL_309, List.forall_mem_cons.mpr ⟨qL_310, List.forall_mem_cons.mpr ⟨qL_311, List.forall_mem_cons.mpr ⟨qL_312, List.forall_mem_cons.mpr ⟨qL_313, List.forall_mem_cons.mpr ⟨qL_314, List.forall_mem_cons.mpr ⟨qL_315, List.forall_mem_cons.mpr ⟨qL_316, List.forall_mem_cons.mpr ⟨qL_317, List.forall_mem_cons.mpr ⟨qL_318, List.forall_mem_cons.mpr ⟨qL_319, List.forall_mem_cons.mpr ⟨qL_320, List.forall_mem_cons.mpr ⟨qL_321, List.forall_mem_cons.mpr ⟨qL_322, List.forall_mem_cons.mpr ⟨qL_323, List.forall_mem_cons.mpr ⟨qL_324, List.forall_mem_cons.mpr ⟨qL_325, List.forall_mem_cons.mpr ⟨qL_326, List.forall_mem_cons.mpr ⟨qL_327, List.forall_mem_cons.mpr ⟨qL_328, List.forall_mem_cons.mpr ⟨qL_329, List.forall_mem_cons.mpr ⟨qL_330, List.forall_mem_cons.mpr ⟨qL_331, List.forall_mem_cons.mpr ⟨qL_332, List.forall_mem_cons.mpr ⟨qL_333, List.forall_mem_cons.mpr ⟨qL_334, List.forall_mem_cons.mpr ⟨qL_335, List.forall_mem_cons.mpr ⟨qL_336, List.forall_mem_cons.mpr ⟨qL_337, List.forall_mem_cons.mpr ⟨qL_338, List.forall_mem_cons.mpr ⟨qL_339, List.forall_mem_cons.mpr ⟨qL_340, List.forall_mem_cons.mpr ⟨qL_341, List.forall_mem_cons.mpr ⟨qL_342, List.forall_mem_cons.mpr ⟨qL_343, List.forall_mem_cons.mpr ⟨qL_344, List.forall_mem_cons.mpr ⟨qL_345, List.forall_mem_cons.mpr ⟨qL_346, List.forall_mem_cons.mpr ⟨qL_347, List.forall_mem_cons.mpr ⟨qL_348, List.forall_mem_cons.mpr ⟨qL_349, fun _ h => absurd h List.not_mem_nil⟩⟩⟩⟩⟩⟩⟩⟩⟩⟩⟩⟩⟩⟩⟩⟩⟩⟩⟩⟩⟩⟩⟩⟩⟩⟩⟩⟩⟩⟩⟩⟩⟩⟩⟩⟩⟩⟩⟩⟩⟩⟩⟩⟩⟩⟩⟩⟩⟩⟩
def q_LT_7 : List (Nat × Bool × Instr × List Nat × List Value) := [(10, false, .invokevirtual 83, [350, 133, 1, 9, 0, 0], []), (10, false, .invokevirtual 103, [351, 131, 2, 9, 0, 0], []), (10, false, .getfield 140, [352, 0, 0, 0], []), (10, false, .getfield 143, [353, 0, 1, 2], []), (10, false, .invokestatic 136, [354, 142, 3, 0, 0, 0], []), (10, false, .invokevirtual 146, [355, 143, 3, 9, 0, 0], []), (10, false, .getfield 150, [356, 0, 3, 2], []), (10, false, .invokevirtual 100, [357, 136, 2, 9, 0, 0], []), (10, false, .invokevirtual 154, [358, 138, 2, 9, 0, 0], []), (10, false, .invokevirtual 157, [359, 140, 3, 9, 0, 0], []), (10, false, .getfield 161, [360, 0, 2, 2], []), (10, false, .getfield 164, [361, 0, 4, 2], []), (10, false, .putfield 140, [362, 0, 0, 0], []), (10, false, .invokevirtual 109, [363, 145, 1, 9, 0, 0], []), (10, false, .invokevirtual 106, [364, 137, 2, 9, 0, 0], []), (10, false, .invokevirtual 112, [365, 139, 2, 9, 0, 0], []), (10, false, .getfield 167, [366, 0, 5, 0], []), (10, false, .getfield 170, [367, 0, 6, 2], []), (10, false, .getfield 173, [368, 0, 7, 2], []), (10, false, .invokevirtual 189, [369, 144, 3, 9, 0, 0], []), (10, false, .invokestatic 193, [370, 178, 2, 0, 0, 0], []), (10, false, .invokevirtual 196, [371, 147, 1, 9, 0, 0], []), (10, false, .getfield 199, [372, 0, 10, 2], []), (10, false, .invokevirtual 176, [373, 148, 3, 9, 0, 0], []), (10, false, .getfield 180, [374, 0, 8, 2], []), (10, false, .getfield 183, [375, 0, 11, 0], []), (10, false, .putfield 183, [376, 0, 11, 0], []), (10, false, .putfield 167, [377, 0, 5, 0], []), (10, false, .getfield 186, [378, 0, 9, 2], []), (10, false, .invokevirtual 115, [379, 146, 1, 9, 0, 0], []), (10, false, .invokestatic 202, [380, 68, 2, 0, 0, 0], []), (10, false, .getfield 207, [381, 0, 12, 2], []), (10, false, .getfield 211, [382, 2, 3, 0], []), (10, false, .getfield 214, [383, 2, 4, 0], []), (10, false, .putfield 211, [384, 2, 3, 0], []), (10, false, .putfield 214, [385, 2, 4, 0], []), (10, false, .invokevirtual 118, [386, 149, 1, 9, 0, 0], []), (10, false, .getfield 217, [387, 2, 2, 0], []), (10, false, .invokevirtual 220, [388, 16, 2, 1, 0, 0], []), (10, false, .putfield 217, [389, 2, 2, 0], []), (10, false, .invokevirtual 121, [390, 150, 1, 9, 0, 0], []), (10, false, .getfield 223, [391, 2, 0, 0], []), (10, false, .putfield 223, [392, 2, 0, 0], []), (10, false, .getfield 226, [393, 2, 1, 0], []), (10, false, .putfield 226, [394, 2, 1, 0], []), (10, false, .invokevirtual 124, [395, 151, 1, 9, 0, 0], []), (10, false, .getfield 39, [396, 8, 9, 3], []), (10, false, .getfield 241, [397, 0, 13, 2], []), (10, false, .getfield 266, [398, 3, 3, 0], []), (10, false, .putfield 266, [399, 3, 3, 0], [])]
theorem q_LT_7_ok : ∀ x ∈ q_LT_7, q_Vx x := List.forall_mem_cons.mpr ⟨qL_350, List.forall_mem_cons.mpr ⟨qL_351, List.forall_mem_cons.mpr ⟨qL_352, List.forall_mem_cons.mpr ⟨qL_353, List.forall_mem_cons.mpr ⟨qL_354, List.forall_mem_cons.mpr ⟨qL_355, List.forall_mem_cons.mpr ⟨qL_356, List.forall_mem_cons.mpr ⟨qL_357, List.forall_mem_cons.mpr ⟨qL_358, List.forall_mem_cons.mpr ⟨qL_359, List.forall_mem_cons.mpr ⟨qL_360, List.forall_mem_cons.mpr ⟨qL_361, List.forall_mem_cons.mpr ⟨qL_362, List.forall_mem_cons.mpr ⟨qL_363, List.forall_mem_cons.mpr ⟨qL_364, List.forall_mem_cons.mpr ⟨qL_365, List.forall_mem_cons.mpr ⟨qL_366, List.forall_mem_cons.mpr ⟨qL_367, List.forall_mem_cons.mpr ⟨qL_368, List.forall_mem_cons.mpr ⟨qL_369, List.forall_mem_cons.mpr ⟨qL_370, List.forall_mem_cons.mpr ⟨qL_371, List.forall_mem_cons.mpr ⟨qL_372, List.forall_mem_cons.mpr ⟨qL_373, List.forall_mem_cons.mpr ⟨qL_374, List.forall_mem_cons.mpr ⟨qL_375, List.forall_mem_cons.mpr ⟨qL_376, List.forall_mem_cons.mpr ⟨qL_377, List.forall_mem_cons.mpr ⟨qL_378, List.forall_mem_cons.mpr ⟨qL_379, List.forall_mem_cons.mpr ⟨qL_380, List.forall_mem_cons.mpr ⟨qL_381, List.forall_mem_cons.mpr ⟨qL_382, List.forall_mem_cons.mpr ⟨qL_383, List.forall_mem_cons.mpr ⟨qL_384, List.forall_mem_cons.mpr ⟨qL_385, List.forall_mem_cons.mpr ⟨qL_386, List.forall_mem_cons.mpr ⟨qL_387, List.forall_mem_cons.mpr ⟨qL_388, List.forall_mem_cons.mpr ⟨qL_389, List.forall_mem_cons.mpr ⟨qL_390, List.forall_mem_cons.mpr ⟨qL_391, List.forall_mem_cons.mpr ⟨qL_392, List.forall_mem_cons.mpr ⟨qL_393, List.forall_mem_cons.mpr ⟨qL_394, List.forall_mem_cons.mpr ⟨qL_395, List.forall_mem_cons.mpr ⟨qL_396, List.forall_mem_cons.mpr ⟨qL_397, List.forall_mem_cons.mpr ⟨qL_398, List.forall_mem_cons.mpr ⟨qL_399, fun _ h => absurd h List.not_mem_nil⟩⟩⟩⟩⟩⟩⟩⟩⟩⟩⟩⟩⟩⟩⟩⟩⟩⟩⟩⟩⟩⟩⟩⟩⟩⟩⟩⟩⟩⟩⟩⟩⟩⟩⟩⟩⟩⟩⟩⟩⟩⟩⟩⟩⟩⟩⟩⟩⟩⟩
def q_LT_8 : List (Nat × Bool × Instr × List Nat × List Value) := [(10, false, .invokevirtual 235, [400, 155, 2, 9, 0, 0], []), (10, false, .invokevirtual 247, [401, 78, 2, 4, 0, 0], []), (10, false, .invokevirtual 263, [402, 161, 2, 9, 0, 0], []), (10, false, .invokevirtual 260, [403, 160, 2, 9, 0, 0], []), (10, false, .invokevirtual 257, [404, 159, 2, 9, 0, 0], []), (10, false, .invokevirtual 254, [405, 158, 2, 9, 0, 0], []), (10, false, .invokevirtual 251, [406, 157, 2, 9, 0, 0], []), (10, false, .invokevirtual 238, [407, 156, 2, 9, 0, 0], []), (10, false, .invokevirtual 127, [408, 154, 1, 9, 0, 0], []), (10, false, .getfield 43, [409, 8, 10, 3], []), (10, false, .putfield 229, [410, 0, 14, 0], []), (10, false, .invokevirtual 130, [411, 152, 1, 9, 0, 0], []), (10, false, .getfield 46, [412, 8, 11, 3], []), (10, false, .putfield 232, [413, 0, 15, 0], []), (10, false, .invokevirtual 133, [414, 153, 1, 9, 0, 0], []), (10, false, .invokevirtual 86, [415, 141, 1, 9, 0, 0], []), (10, false, .getfield 49, [416, 8, 12, 0], []), (11, false, .invokespecial 3, [417, 0], []), (11, true, .putfield 9, [418, 9, 0, 2], []), (11, true, .putfield 15, [419, 9, 1, 2], []), (11, false, .getfield 15, [420, 9, 1, 2], []), (11, false, .invokevirtual 40, [421, 167, 3, 10, 0, 0], []), (0, false, .invokespecial 1, [422, 0], []), (0, true, .putfield 9, [423, 10, 0, 2], []), (0, false, .putfield 13, [424, 10, 1, 0], []), (0, false, .new 17, [425, 0, 16], []), (0, false, .invokespecial 19, [426, 10, 1, 1, 13, 403], []), (0, false, .putfield 20, [427, 10, 2, 2], []), (0, false, .putfield 24, [428, 10, 3, 2], []), (0, false, .new 27, [429, 8, 14], []), (0, false, .getfield 24, [430, 10, 3, 2], []), (0, false, .invokespecial 29, [431, 129, 2, 9, 2, 21], []), (0, true, .putfield 32, [432, 10, 4, 2], []), (0, false, .new 36, [433, 9, 2], []), (0, false, .invokespecial 38, [434, 162, 1, 10, 2, 32], []), (0, true, .putfield 39, [435, 10, 5, 2], []), (0, false, .new 43, [436, 1, 9], []), (0, false, .invokespecial 45, [437, 36, 1, 2, 6, 37], []), (0, true, .putfield 46, [438, 10, 6, 2], []), (0, false, .new 50, [439, 7, 6], []), (0, false, .invokespecial 52, [440, 118, 1, 8, 3, 1059], []), (0, true, .putfield 53, [441, 10, 7, 2], []), (0, false, .new 57, [442, 4, 6], []), (0, false, .invokespecial 59, [443, 82, 1, 5, 3, 17], []), (0, true, .putfield 60, [444, 10, 8, 2], []), (0, false, .new 64, [445, 5, 4], []), (0, false, .invokespecial 66, [446, 97, 1, 6, 3, 935], []), (0, true, .putfield 67, [447, 10, 9, 2], []), (0, false, .new 71, [448, 6, 8], []), (0, false, .invokespecial 73, [449, 108, 1, 7, 6, 180], [])]
theorem q_LT_8_ok : ∀ x ∈ q_LT_8, q_Vx x := List.forall_mem_cons.mpr ⟨qL_400, List.forall_mem_cons.mpr ⟨qL_401, List.forall_mem_cons.mpr ⟨qL_402, List.forall_mem_cons.mpr ⟨qL_403, List.forall_mem_cons.mpr ⟨qL_404, List.forall_mem_cons.mpr ⟨qL_405, List.forall_mem_cons.mpr ⟨qL_406, List.forall_mem_cons.mpr ⟨qL_407, List.forall_mem_cons.mpr ⟨qL_408, List.forall_mem_cons.mpr ⟨qL_409, List.forall_mem_cons.mpr ⟨qL_410, List.forall_mem_cons.mpr ⟨qL_411, List.forall_mem_cons.mpr ⟨qL_412, List.forall_mem_cons.mpr ⟨qL_413, List.forall_mem_cons.mpr ⟨qL_414, List.forall_mem_cons.mpr ⟨qL_415, List.forall_mem_cons.mpr ⟨qL_416, List.forall_mem_cons.mpr ⟨qL_417, List.forall_mem_cons.mpr ⟨qL_418, List.forall_mem_cons.mpr ⟨qL_419, List.forall_mem_cons.mpr ⟨qL_420, List.forall_mem_cons.mpr ⟨qL_421, List.forall_mem_cons.mpr ⟨qL_422, List.forall_mem_cons.mpr ⟨qL_423, List.forall_mem_cons.mpr ⟨qL_424, List.forall_mem_cons.mpr ⟨qL_425, List.forall_mem_cons.mpr ⟨qL_426, List.forall_mem_cons.mpr ⟨qL_427, List.forall_mem_cons.mpr ⟨qL_428, List.forall_mem_cons.mpr ⟨qL_429, List.forall_mem_cons.mpr ⟨qL_430, List.forall_mem_cons.mpr ⟨qL_431, List.forall_mem_cons.mpr ⟨qL_432, List.forall_mem_cons.mpr ⟨qL_433, List.forall_mem_cons.mpr ⟨qL_434, List.forall_mem_cons.mpr ⟨qL_435, List.forall_mem_cons.mpr ⟨qL_436, List.forall_mem_cons.mpr ⟨qL_437, List.forall_mem_cons.mpr ⟨qL_438, List.forall_mem_cons.mpr ⟨qL_439, List.forall_mem_cons.mpr ⟨qL_440, List.forall_mem_cons.mpr ⟨qL_441, List.forall_mem_cons.mpr ⟨qL_442, List.forall_mem_cons.mpr ⟨qL_443, List.forall_mem_cons.mpr ⟨qL_444, List.forall_mem_cons.mpr ⟨qL_445, List.forall_mem_cons.mpr ⟨qL_446, List.forall_mem_cons.mpr ⟨qL_447, List.forall_mem_cons.mpr ⟨qL_448, List.forall_mem_cons.mpr ⟨qL_449, fun _ h => absurd h List.not_mem_nil⟩⟩⟩⟩⟩⟩⟩⟩⟩⟩⟩⟩⟩⟩⟩⟩⟩⟩⟩⟩⟩⟩⟩⟩⟩⟩⟩⟩⟩⟩⟩⟩⟩⟩⟩⟩⟩⟩⟩⟩⟩⟩⟩⟩⟩⟩⟩⟩⟩⟩
def q_LT_9 : List (Nat × Bool × Instr × List Nat × List Value) := [(0, true, .putfield 74, [450, 10, 10, 2], []), (0, true, .putfield 78, [451, 10, 11, 2], []), (0, false, .putfield 82, [452, 10, 12, 0], []), (0, false, .putfield 85, [453, 10, 13, 0], []), (0, false, .putfield 88, [454, 10, 14, 0], []), (0, false, .putfield 91, [455, 10, 15, 0], []), (0, false, .getfield 53, [456, 10, 7, 2], []), (0, false, .getfield 46, [457, 10, 6, 2], []), (0, false, .invokevirtual 94, [458, 120, 2, 8, 0, 0], []), (0, false, .getfield 13, [459, 10, 1, 0], []), (0, false, .getfield 9, [460, 10, 0, 2], []), (0, false, .putfield 13, [461, 10, 1, 0], []), (0, false, .invokevirtual 98, [462, 171, 2, 11, 0, 0], []), (0, false, .getfield 32, [463, 10, 4, 2], []), (0, false, .getfield 24, [464, 10, 3, 2], []), (0, false, .invokevirtual 102, [465, 130, 4, 9, 0, 0], []), (0, false, .putfield 85, [466, 10, 13, 0], []), (0, false, .getfield 85, [467, 10, 13, 0], []), (0, false, .getfield 106, [468, 8, 13, 0], []), (0, false, .putfield 88, [469, 10, 14, 0], []), (0, false, .getfield 20, [470, 10, 2, 2], []), (0, false, .putfield 20, [471, 10, 2, 2], []), (0, false, .putfield 24, [472, 10, 3, 2], []), (0, false, .getfield 46, [473, 10, 6, 2], []), (0, false, .invokevirtual 109, [474, 37, 2, 2, 0, 0], []), (0, false, .getfield 53, [475, 10, 7, 2], []), (0, false, .invokevirtual 112, [476, 126, 1, 8, 0, 0], []), (0, false, .getfield 74, [477, 10, 10, 2], []), (0, false, .invokevirtual 115, [478, 109, 1, 7, 0, 0], []), (0, false, .getfield 67, [479, 10, 9, 2], []), (0, false, .invokevirtual 117, [480, 98, 1, 6, 0, 0], []), (0, false, .putfield 82, [481, 10, 12, 0], []), (0, false, .getfield 118, [482, 0, 0, 0], []), (0, false, .getfield 88, [483, 10, 14, 0], []), (0, false, .invokevirtual 121, [484, 12, 2, 1, 0, 0], []), (0, false, .getfield 125, [485, 0, 2, 2], []), (0, false, .getfield 128, [486, 0, 3, 2], []), (0, false, .getfield 131, [487, 0, 4, 2], []), (0, false, .getfield 134, [488, 1, 3, 2], []), (0, false, .getfield 137, [489, 1, 4, 2], []), (0, false, .getfield 140, [490, 1, 5, 2], []), (0, false, .invokevirtual 143, [491, 41, 3, 2, 0, 0], []), (0, false, .getfield 147, [492, 1, 6, 2], []), (0, false, .invokevirtual 150, [493, 13, 2, 1, 0, 0], []), (0, false, .getfield 153, [494, 1, 7, 2], []), (0, false, .getfield 157, [495, 0, 7, 2], []), (0, false, .invokestatic 160, [496, 389, 1, 0, 0, 0], []), (0, false, .getfield 166, [497, 0, 8, 2], []), (0, false, .getfield 169, [498, 0, 9, 2], []), (0, false, .getfield 172, [499, 2, 0, 0], [])]
theorem q_LT_9_ok : ∀ x ∈ q_LT_9, q_Vx x := List.forall_mem_cons.mpr ⟨qL_450, List.forall_mem_cons.mpr ⟨qL_451, List.forall_mem_cons.mpr ⟨qL_452, List.forall_mem_cons.mpr ⟨qL_453, List.forall_mem_cons.mpr ⟨qL_454, List.forall_mem_cons.mpr ⟨qL_455, List.forall_mem_cons.mpr ⟨qL_456, List.forall_mem_cons.mpr ⟨qL_457, List.forall_mem_cons.mpr ⟨qL_458, List.forall_mem_cons.mpr ⟨qL_459, List.forall_mem_cons.mpr ⟨qL_460, List.forall_mem_cons.mpr ⟨qL_461, List.forall_mem_cons.mpr ⟨qL_462, List.forall_mem_cons.mpr ⟨qL_463, List.forall_mem_cons.mpr ⟨qL_464, List.forall_mem_cons.mpr ⟨qL_465, List.forall_mem_cons.mpr ⟨qL_466, List.forall_mem_cons.mpr ⟨qL_467, List.forall_mem_cons.mpr ⟨qL_468, List.forall_mem_cons.mpr ⟨qL_469, List.forall_mem_cons.mpr ⟨qL_470, List.forall_mem_cons.mpr ⟨qL_471, List.forall_mem_cons.mpr ⟨qL_472, List.forall_mem_cons.mpr ⟨qL_473, List.forall_mem_cons.mpr ⟨qL_474, List.forall_mem_cons.mpr ⟨qL_475, List.forall_mem_cons.mpr ⟨qL_476, List.forall_mem_cons.mpr ⟨qL_477, List.forall_mem_cons.mpr ⟨qL_478, List.forall_mem_cons.mpr ⟨qL_479, List.forall_mem_cons.mpr ⟨qL_480, List.forall_mem_cons.mpr ⟨qL_481, List.forall_mem_cons.mpr ⟨qL_482, List.forall_mem_cons.mpr ⟨qL_483, List.forall_mem_cons.mpr ⟨qL_484, List.forall_mem_cons.mpr ⟨qL_485, List.forall_mem_cons.mpr ⟨qL_486, List.forall_mem_cons.mpr ⟨qL_487, List.forall_mem_cons.mpr ⟨qL_488, List.forall_mem_cons.mpr ⟨qL_489, List.forall_mem_cons.mpr ⟨qL_490, List.forall_mem_cons.mpr ⟨qL_491, List.forall_mem_cons.mpr ⟨qL_492, List.forall_mem_cons.mpr ⟨qL_493, List.forall_mem_cons.mpr ⟨qL_494, List.forall_mem_cons.mpr ⟨qL_495, List.forall_mem_cons.mpr ⟨qL_496, List.forall_mem_cons.mpr ⟨qL_497, List.forall_mem_cons.mpr ⟨qL_498, List.forall_mem_cons.mpr ⟨qL_499, fun _ h => absurd h List.not_mem_nil⟩⟩⟩⟩⟩⟩⟩⟩⟩⟩⟩⟩⟩⟩⟩⟩⟩⟩⟩⟩⟩⟩⟩⟩⟩⟩⟩⟩⟩⟩⟩⟩⟩⟩⟩⟩⟩⟩⟩⟩⟩⟩⟩⟩⟩⟩⟩⟩⟩⟩
def q_LT_10 : List (Nat × Bool × Instr × List Nat × List Value) := [(0, false, .getfield 177, [500, 2, 1, 0], []), (0, false, .invokevirtual 180, [501, 43, 2, 2, 0, 0], []), (0, false, .invokevirtual 184, [502, 72, 2, 3, 0, 0], []), (0, false, .invokevirtual 187, [503, 73, 2, 3, 0, 0], []), (0, false, .invokevirtual 190, [504, 44, 2, 2, 0, 0], []), (0, false, .invokevirtual 193, [505, 70, 2, 3, 0, 0], []), (0, false, .invokevirtual 196, [506, 14, 3, 1, 0, 0], []), (0, false, .invokestatic 200, [507, 178, 2, 0, 0, 0], []), (0, false, .getfield 204, [508, 0, 10, 2], []), (0, false, .getfield 207, [509, 0, 11, 0], []), (0, false, .getfield 210, [510, 2, 2, 0], []), (0, false, .invokevirtual 213, [511, 46, 2, 2, 0, 0], []), (0, false, .invokestatic 216, [512, 180, 1, 0, 0, 0], []), (0, false, .getfield 219, [513, 1, 1, 0], []), (0, false, .invokevirtual 222, [514, 47, 4, 2, 0, 0], []), (0, false, .invokevirtual 226, [515, 121, 2, 8, 0, 0], []), (0, false, .getfield 39, [516, 10, 5, 2], []), (0, false, .invokevirtual 229, [517, 56, 6, 2, 0, 0], []), (0, false, .invokevirtual 233, [518, 25, 2, 1, 0, 0], []), (0, false, .invokevirtual 236, [519, 34, 3, 1, 0, 0], []), (0, false, .invokevirtual 240, [520, 35, 3, 1, 0, 0], []), (0, false, .invokevirtual 244, [521, 67, 1, 3, 0, 0], []), (0, false, .invokevirtual 248, [522, 122, 2, 8, 0, 0], []), (0, false, .invokevirtual 252, [523, 123, 2, 8, 0, 0], []), (0, false, .getfield 255, [524, 1, 0, 0], []), (0, false, .invokestatic 258, [525, 163, 2, 0, 0, 0], []), (0, false, .invokestatic 261, [526, 187, 1, 0, 0, 0], []), (0, false, .getfield 78, [527, 10, 11, 2], []), (0, false, .invokevirtual 264, [528, 165, 4, 10, 0, 0], []), (0, false, .getfield 82, [529, 10, 12, 0], []), (0, false, .invokevirtual 268, [530, 166, 3, 10, 0, 0], []), (0, false, .invokevirtual 271, [531, 168, 2, 10, 0, 0], []), (0, false, .invokevirtual 274, [532, 18, 2, 1, 0, 0], []), (0, false, .invokestatic 277, [533, 194, 1, 0, 0, 0], []), (0, false, .invokestatic 280, [534, 60, 2, 0, 0, 0], []), (0, false, .invokestatic 285, [535, 63, 3, 0, 0, 0], []), (0, false, .getfield 60, [536, 10, 8, 2], []), (0, false, .invokevirtual 288, [537, 45, 2, 2, 0, 0], []), (0, false, .invokevirtual 291, [538, 83, 5, 5, 0, 0], []), (0, false, .invokevirtual 295, [539, 15, 3, 1, 0, 0], []), (0, false, .invokevirtual 298, [540, 197, 2, 11, 0, 0], []), (0, false, .invokevirtual 302, [541, 85, 2, 5, 0, 0], []), (0, false, .invokevirtual 305, [542, 84, 1, 5, 0, 0], []), (0, false, .invokevirtual 308, [543, 87, 3, 5, 0, 0], []), (0, false, .invokevirtual 312, [544, 90, 4, 5, 0, 0], []), (0, false, .invokevirtual 316, [545, 92, 3, 5, 0, 0], []), (0, false, .invokevirtual 319, [546, 22, 1, 1, 0, 0], []), (0, false, .invokevirtual 322, [547, 26, 2, 1, 0, 0], []), (0, false, .invokevirtual 325, [548, 31, 2, 1, 0, 0], []), (0, false, .invokevirtual 328, [549, 32, 2, 1, 0, 0], [])]
theorem q_LT_10_ok : ∀ x ∈ q_LT_10, q_Vx x := List.forall_mem_cons.mpr ⟨qL_500, List.forall_mem_cons.mpr ⟨qL_501, List.forall_mem_cons.mpr ⟨qL_502, List.forall_mem_cons.mpr ⟨qL_503, List.forall_mem_cons.mpr ⟨qL_504, List.forall_mem_cons.mpr ⟨qL_505, List.forall_mem_cons.mpr ⟨qL_506, List.forall_mem_cons.mpr ⟨qL_507, List.forall_mem_cons.mpr ⟨qL_508, List.forall_mem_cons.mpr ⟨qL_509, List.forall_mem_cons.mpr ⟨qL_510, List.forall_mem_cons.mpr ⟨qL_511, List.forall_mem_cons.mpr ⟨qL_512, List.forall_mem_cons.mpr ⟨qL_513, List.forall_mem_cons.mpr ⟨qL_514, List.forall_mem_cons.mpr ⟨qL_515, List.forall_mem_cons.mpr ⟨qL_516, List.forall_mem_cons.mpr ⟨qL_517, List.forall_mem_cons.mpr ⟨qL_518, List.forall_mem_cons.mpr ⟨qL_519, List.forall_mem_cons.mpr ⟨qL_520, List.forall_mem_cons.mpr ⟨qL_521, List.forall_mem_cons.mpr ⟨qL_522, List.forall_mem_cons.mpr ⟨qL_523, List.forall_mem_cons.mpr ⟨qL_524, List.forall_mem_cons.mpr ⟨qL_525, List.forall_mem_cons.mpr ⟨qL_526, List.forall_mem_cons.mpr ⟨qL_527, List.forall_mem_cons.mpr ⟨qL_528, List.forall_mem_cons.mpr ⟨qL_529, List.forall_mem_cons.mpr ⟨qL_530, List.forall_mem_cons.mpr ⟨qL_531, List.forall_mem_cons.mpr ⟨qL_532, List.forall_mem_cons.mpr ⟨qL_533, List.forall_mem_cons.mpr ⟨qL_534, List.forall_mem_cons.mpr ⟨qL_535, List.forall_mem_cons.mpr ⟨qL_536, List.forall_mem_cons.mpr ⟨qL_537, List.forall_mem_cons.mpr ⟨qL_538, List.forall_mem_cons.mpr ⟨qL_539, List.forall_mem_cons.mpr ⟨qL_540, List.forall_mem_cons.mpr ⟨qL_541, List.forall_mem_cons.mpr ⟨qL_542, List.forall_mem_cons.mpr ⟨qL_543, List.forall_mem_cons.mpr ⟨qL_544, List.forall_mem_cons.mpr ⟨qL_545, List.forall_mem_cons.mpr ⟨qL_546, List.forall_mem_cons.mpr ⟨qL_547, List.forall_mem_cons.mpr ⟨qL_548, List.forall_mem_cons.mpr ⟨qL_549, fun _ h => absurd h List.not_mem_nil⟩⟩⟩⟩⟩⟩⟩⟩⟩⟩⟩⟩⟩⟩⟩⟩⟩⟩⟩⟩⟩⟩⟩⟩⟩⟩⟩⟩⟩⟩⟩⟩⟩⟩⟩⟩⟩⟩⟩⟩⟩⟩⟩⟩⟩⟩⟩⟩⟩⟩
def q_LT_11 : List (Nat × Bool × Instr × List Nat × List Value) := [(0, false, .invokevirtual 331, [550, 33, 3, 1, 0, 0], []), (0, false, .invokevirtual 334, [551, 207, 2, 11, 0, 0], []), (0, false, .invokevirtual 345, [552, 99, 2, 6, 0, 0], []), (0, false, .invokevirtual 337, [553, 206, 1, 11, 0, 0], []), (0, false, .invokevirtual 341, [554, 103, 5, 6, 0, 0], []), (0, false, .invokevirtual 348, [555, 104, 3, 6, 0, 0], []), (0, false, .invokevirtual 351, [556, 105, 3, 6, 0, 0], []), (0, false, .invokevirtual 354, [557, 107, 2, 6, 0, 0], []), (0, false, .invokevirtual 357, [558, 95, 4, 5, 0, 0], []), (0, false, .getfield 360, [559, 4, 5, 0], []), (0, false, .invokevirtual 363, [560, 96, 4, 5, 0, 0], []), (0, false, .invokevirtual 366, [561, 94, 2, 5, 0, 0], []), (0, false, .getfield 369, [562, 0, 14, 0], []), (0, false, .invokestatic 375, [563, 3], []), (0, false, .invokestatic 372, [564, 216, 2, 0, 0, 0], []), (0, false, .getfield 91, [565, 10, 15, 0], []), (0, false, .invokevirtual 380, [566, 110, 6, 7, 0, 0], []), (0, false, .invokevirtual 384, [567, 111, 3, 7, 0, 0], []), (0, false, .ldc_w 387, [568], [.int 100000]), (0, false, .putfield 91, [569, 10, 15, 0], []), (0, false, .invokevirtual 388, [570, 113, 4, 7, 0, 0], []), (15, false, .ldc2_w 314, [571], [.long 6148914691236517205]), (15, false, .ldc2_w 316, [572], [.long 3689348814741910323]), (15, false, .ldc2_w 318, [573], [.long 1085102592571150095]), (0, false, .invokestatic 392, [574, 390, 1, 0, 0, 0], []), (0, false, .invokevirtual 397, [575, 115, 5, 7, 0, 0], []), (0, false, .invokevirtual 401, [576, 116, 5, 7, 0, 0], []), (0, false, .getfield 404, [577, 6, 7, 0], []), (0, false, .invokevirtual 407, [578, 127, 3, 8, 0, 0], []), (0, false, .invokevirtual 411, [579, 128, 3, 8, 0, 0], []), (0, false, .getfield 414, [580, 0, 5, 0], []), (0, false, .getfield 417, [581, 1, 2, 0], []), (0, false, .invokevirtual 420, [582, 124, 1, 8, 0, 0], []), (0, false, .invokevirtual 423, [583, 125, 1, 8, 0, 0], []), (0, false, .getfield 426, [584, 6, 6, 0], []), (0, false, .getfield 428, [585, 0, 13, 2], []), (0, false, .getfield 432, [586, 3, 3, 0], []), (13, false, .invokespecial 1, [587, 0], []), (13, true, .putfield 7, [588, 11, 0, 2], []), (13, false, .putfield 13, [589, 11, 3, 0], []), (13, true, .putfield 17, [590, 11, 10, 2], []), (13, true, .putfield 21, [591, 11, 11, 2], []), (13, true, .putfield 24, [592, 11, 12, 2], []), (13, true, .putfield 27, [593, 11, 13, 2], []), (13, true, .putfield 30, [594, 11, 14, 2], []), (13, true, .putfield 33, [595, 11, 15, 2], []), (13, true, .putfield 36, [596, 11, 16, 2], []), (13, true, .putfield 39, [597, 11, 26, 2], []), (13, false, .putfield 42, [598, 11, 27, 0], []), (13, true, .putfield 45, [599, 11, 28, 2], [])]
theorem q_LT_11_ok : ∀ x ∈ q_LT_11, q_Vx x := List.forall_mem_cons.mpr ⟨qL_550, List.forall_mem_cons.mpr ⟨qL_551, List.forall_mem_cons.mpr ⟨qL_552, List.forall_mem_cons.mpr ⟨qL_553, List.forall_mem_cons.mpr ⟨qL_554, List.forall_mem_cons.mpr ⟨qL_555, List.forall_mem_cons.mpr ⟨qL_556, List.forall_mem_cons.mpr ⟨qL_557, List.forall_mem_cons.mpr ⟨qL_558, List.forall_mem_cons.mpr ⟨qL_559, List.forall_mem_cons.mpr ⟨qL_560, List.forall_mem_cons.mpr ⟨qL_561, List.forall_mem_cons.mpr ⟨qL_562, List.forall_mem_cons.mpr ⟨qL_563, List.forall_mem_cons.mpr ⟨qL_564, List.forall_mem_cons.mpr ⟨qL_565, List.forall_mem_cons.mpr ⟨qL_566, List.forall_mem_cons.mpr ⟨qL_567, List.forall_mem_cons.mpr ⟨qL_568, List.forall_mem_cons.mpr ⟨qL_569, List.forall_mem_cons.mpr ⟨qL_570, List.forall_mem_cons.mpr ⟨qL_571, List.forall_mem_cons.mpr ⟨qL_572, List.forall_mem_cons.mpr ⟨qL_573, List.forall_mem_cons.mpr ⟨qL_574, List.forall_mem_cons.mpr ⟨qL_575, List.forall_mem_cons.mpr ⟨qL_576, List.forall_mem_cons.mpr ⟨qL_577, List.forall_mem_cons.mpr ⟨qL_578, List.forall_mem_cons.mpr ⟨qL_579, List.forall_mem_cons.mpr ⟨qL_580, List.forall_mem_cons.mpr ⟨qL_581, List.forall_mem_cons.mpr ⟨qL_582, List.forall_mem_cons.mpr ⟨qL_583, List.forall_mem_cons.mpr ⟨qL_584, List.forall_mem_cons.mpr ⟨qL_585, List.forall_mem_cons.mpr ⟨qL_586, List.forall_mem_cons.mpr ⟨qL_587, List.forall_mem_cons.mpr ⟨qL_588, List.forall_mem_cons.mpr ⟨qL_589, List.forall_mem_cons.mpr ⟨qL_590, List.forall_mem_cons.mpr ⟨qL_591, List.forall_mem_cons.mpr ⟨qL_592, List.forall_mem_cons.mpr ⟨qL_593, List.forall_mem_cons.mpr ⟨qL_594, List.forall_mem_cons.mpr ⟨qL_595, List.forall_mem_cons.mpr ⟨qL_596, List.forall_mem_cons.mpr ⟨qL_597, List.forall_mem_cons.mpr ⟨qL_598, List.forall_mem_cons.mpr ⟨qL_599, fun _ h => absurd h List.not_mem_nil⟩⟩⟩⟩⟩⟩⟩⟩⟩⟩⟩⟩⟩⟩⟩⟩⟩⟩⟩⟩⟩⟩⟩⟩⟩⟩⟩⟩⟩⟩⟩⟩⟩⟩⟩⟩⟩⟩⟩⟩⟩⟩⟩⟩⟩⟩⟩⟩⟩⟩
def q_LT_12 : List (Nat × Bool × Instr × List Nat × List Value) := [(13, true, .putfield 48, [600, 11, 29, 2], []), (13, true, .putfield 51, [601, 11, 30, 2], []), (13, true, .putfield 54, [602, 11, 31, 2], []), (13, true, .putfield 57, [603, 11, 32, 2], []), (13, true, .putfield 60, [604, 11, 33, 2], []), (13, true, .putfield 63, [605, 11, 34, 2], []), (13, true, .putfield 66, [606, 11, 35, 2], []), (13, true, .putfield 69, [607, 11, 36, 2], []), (13, true, .putfield 72, [608, 11, 37, 2], []), (13, true, .putfield 75, [609, 11, 38, 2], []), (13, true, .putfield 78, [610, 11, 39, 2], []), (13, true, .putfield 81, [611, 11, 40, 2], []), (13, true, .putfield 84, [612, 11, 41, 2], []), (13, true, .putfield 87, [613, 11, 42, 2], []), (13, true, .putfield 90, [614, 11, 43, 2], []), (13, true, .putfield 93, [615, 11, 44, 2], []), (13, true, .putfield 96, [616, 11, 45, 2], []), (13, true, .putfield 99, [617, 11, 56, 2], []), (13, true, .putfield 102, [618, 11, 58, 2], []), (13, true, .putfield 105, [619, 11, 59, 2], []), (13, true, .putfield 108, [620, 11, 60, 2], []), (13, true, .putfield 111, [621, 11, 61, 2], []), (13, true, .putfield 114, [622, 11, 63, 2], []), (13, true, .putfield 117, [623, 11, 64, 2], []), (13, true, .putfield 120, [624, 11, 65, 2], []), (13, true, .putfield 123, [625, 11, 66, 2], []), (13, true, .putfield 126, [626, 11, 67, 2], []), (13, true, .putfield 129, [627, 11, 70, 2], []), (13, true, .putfield 132, [628, 11, 71, 2], []), (13, true, .putfield 135, [629, 11, 72, 2], []), (13, true, .putfield 138, [630, 11, 73, 2], []), (13, true, .putfield 141, [631, 11, 74, 2], []), (13, true, .putfield 144, [632, 11, 75, 2], []), (13, true, .putfield 147, [633, 11, 76, 2], []), (13, true, .putfield 150, [634, 11, 77, 2], []), (13, true, .putfield 153, [635, 11, 78, 2], []), (13, true, .putfield 157, [636, 11, 81, 2], []), (13, true, .putfield 160, [637, 11, 82, 2], []), (13, true, .putfield 163, [638, 11, 83, 2], []), (13, false, .getfield 108, [639, 11, 60, 2], []), (13, false, .invokestatic 464, [640, 286, 2, 0, 0, 0], []), (13, false, .invokevirtual 166, [641, 287, 1, 12, 0, 0], []), (13, false, .getfield 102, [642, 11, 58, 2], []), (13, false, .getfield 430, [643, 11, 53, 0], []), (13, false, .getfield 421, [644, 11, 50, 0], []), (13, false, .getfield 75, [645, 11, 38, 2], []), (13, false, .getfield 72, [646, 11, 37, 2], []), (13, false, .invokevirtual 461, [647, 282, 2, 12, 0, 0], []), (13, false, .getfield 93, [648, 11, 44, 2], []), (13, false, .getfield 424, [649, 11, 51, 0], [])]
theorem q_LT_12_ok : ∀ x ∈ q_LT_12, q_Vx x := List.forall_mem_cons.mpr ⟨qL_600, List.forall_mem_cons.mpr ⟨qL_601, List.forall_mem_cons.mpr ⟨qL_602, List.forall_mem_cons.mpr ⟨qL_603, List.forall_mem_cons.mpr ⟨qL_604, List.forall_mem_cons.mpr ⟨qL_605, List.forall_mem_cons.mpr ⟨qL_606, List.forall_mem_cons.mpr ⟨qL_607, List.forall_mem_cons.mpr ⟨qL_608, List.forall_mem_cons.mpr ⟨qL_609, List.forall_mem_cons.mpr ⟨qL_610, List.forall_mem_cons.mpr ⟨qL_611, List.forall_mem_cons.mpr ⟨qL_612, List.forall_mem_cons.mpr ⟨qL_613, List.forall_mem_cons.mpr ⟨qL_614, List.forall_mem_cons.mpr ⟨qL_615, List.forall_mem_cons.mpr ⟨qL_616, List.forall_mem_cons.mpr ⟨qL_617, List.forall_mem_cons.mpr ⟨qL_618, List.forall_mem_cons.mpr ⟨qL_619, List.forall_mem_cons.mpr ⟨qL_620, List.forall_mem_cons.mpr ⟨qL_621, List.forall_mem_cons.mpr ⟨qL_622, List.forall_mem_cons.mpr ⟨qL_623, List.forall_mem_cons.mpr ⟨qL_624, List.forall_mem_cons.mpr ⟨qL_625, List.forall_mem_cons.mpr ⟨qL_626, List.forall_mem_cons.mpr ⟨qL_627, List.forall_mem_cons.mpr ⟨qL_628, List.forall_mem_cons.mpr ⟨qL_629, List.forall_mem_cons.mpr ⟨qL_630, List.forall_mem_cons.mpr ⟨qL_631, List.forall_mem_cons.mpr ⟨qL_632, List.forall_mem_cons.mpr ⟨qL_633, List.forall_mem_cons.mpr ⟨qL_634, List.forall_mem_cons.mpr ⟨qL_635, List.forall_mem_cons.mpr ⟨qL_636, List.forall_mem_cons.mpr ⟨qL_637, List.forall_mem_cons.mpr ⟨qL_638, List.forall_mem_cons.mpr ⟨qL_639, List.forall_mem_cons.mpr ⟨qL_640, List.forall_mem_cons.mpr ⟨qL_641, List.forall_mem_cons.mpr ⟨qL_642, List.forall_mem_cons.mpr ⟨qL_643, List.forall_mem_cons.mpr ⟨qL_644, List.forall_mem_cons.mpr ⟨qL_645, List.forall_mem_cons.mpr ⟨qL_646, List.forall_mem_cons.mpr ⟨qL_647, List.forall_mem_cons.mpr ⟨qL_648, List.forall_mem_cons.mpr ⟨qL_649, fun _ h => absurd h List.not_mem_nil⟩⟩⟩⟩⟩⟩⟩⟩⟩⟩⟩⟩⟩⟩⟩⟩⟩⟩⟩⟩⟩⟩⟩⟩⟩⟩⟩⟩⟩⟩⟩⟩⟩⟩⟩⟩⟩⟩⟩⟩⟩⟩⟩⟩⟩⟩⟩⟩⟩⟩
def q_LT_13 : List (Nat × Bool × Instr × List Nat × List Value) := [(13, false, .getfield 90, [650, 11, 43, 2], []), (13, false, .getfield 96, [651, 11, 45, 2], []), (13, false, .invokevirtual 169, [652, 283, 1, 12, 0, 0], []), (13, false, .getfield 172, [653, 11, 1, 0], []), (13, false, .getfield 7, [654, 11, 0, 2], []), (13, false, .putfield 172, [655, 11, 1, 0], []), (13, false, .invokevirtual 175, [656, 229, 2, 12, 0, 0], []), (13, false, .getfield 179, [657, 11, 4, 0], []), (13, false, .getfield 182, [658, 11, 5, 0], []), (13, false, .invokevirtual 185, [659, 231, 2, 12, 0, 0], []), (13, false, .putfield 179, [660, 11, 4, 0], []), (13, false, .putfield 189, [661, 11, 7, 0], []), (13, false, .putfield 192, [662, 11, 9, 1], []), (13, false, .putfield 196, [663, 11, 8, 0], []), (13, false, .putfield 199, [664, 11, 6, 0], []), (13, false, .invokestatic 202, [665, 232, 1, 0, 0, 0], []), (13, false, .getfield 192, [666, 11, 9, 1], []), (13, false, .invokestatic 206, [667, 233, 1, 0, 0, 0], []), (13, false, .getfield 196, [668, 11, 8, 0], []), (13, false, .invokestatic 209, [669, 234, 1, 0, 0, 0], []), (13, false, .getfield 199, [670, 11, 6, 0], []), (13, false, .getfield 212, [671, 11, 2, 0], []), (13, false, .putfield 212, [672, 11, 2, 0], []), (13, false, .getfield 189, [673, 11, 7, 0], []), (13, false, .putfield 13, [674, 11, 3, 0], []), (13, false, .ldc2_w 215, [675], [.long 110386941092709]), (13, false, .ldc2_w 217, [676], [.long 26994]), (13, false, .ldc2_w 219, [677], [.long 26980]), (13, false, .ldc2_w 221, [678], [.long 426903366771]), (13, false, .ldc2_w 223, [679], [.long 7234932]), (13, false, .ldc2_w 225, [680], [.long 1718775661]), (13, false, .ldc2_w 227, [681], [.long 6385252]), (13, false, .ldc2_w 229, [682], [.long 29807]), (13, false, .ldc2_w 231, [683], [.long 1935763045]), (13, false, .ldc2_w 233, [684], [.long 495673373300]), (13, false, .ldc2_w 235, [685], [.long 7106423]), (13, false, .ldc2_w 237, [686], [.long 1751738216]), (13, false, .ldc2_w 239, [687], [.long 1869636974]), (13, false, .ldc2_w 241, [688], [.long 495875089259]), (13, false, .ldc2_w 243, [689], [.long 112615911158899]), (13, false, .ldc2_w 245, [690], [.long 474315584357]), (13, false, .ldc2_w 247, [691], [.long 1685217655]), (13, false, .ldc2_w 249, [692], [.long 1667591276]), (13, false, .ldc2_w 251, [693], [.long 427021001579]), (13, false, .ldc2_w 253, [694], [.long 28530]), (13, false, .ldc2_w 255, [695], [.long 7237492]), (13, false, .invokevirtual 257, [696, 238, 1, 12, 0, 0], []), (13, false, .invokevirtual 261, [697, 237, 2, 12, 0, 0], []), (13, false, .invokevirtual 265, [698, 236, 2, 12, 0, 0], []), (13, false, .invokevirtual 268, [699, 235, 1, 12, 0, 0], [])]
theorem q_LT_13_ok : ∀ x ∈ q_LT_13, q_Vx x := List.forall_mem_cons.mpr ⟨qL_650, List.forall_mem_cons.mpr ⟨qL_651, List.forall_mem_cons.mpr ⟨qL_652, List.forall_mem_cons.mpr ⟨qL_653, List.forall_mem_cons.mpr ⟨qL_654, List.forall_mem_cons.mpr ⟨qL_655, List.forall_mem_cons.mpr ⟨qL_656, List.forall_mem_cons.mpr ⟨qL_657, List.forall_mem_cons.mpr ⟨qL_658, List.forall_mem_cons.mpr ⟨qL_659, List.forall_mem_cons.mpr ⟨qL_660, List.forall_mem_cons.mpr ⟨qL_661, List.forall_mem_cons.mpr ⟨qL_662, List.forall_mem_cons.mpr ⟨qL_663, List.forall_mem_cons.mpr ⟨qL_664, List.forall_mem_cons.mpr ⟨qL_665, List.forall_mem_cons.mpr ⟨qL_666, List.forall_mem_cons.mpr ⟨qL_667, List.forall_mem_cons.mpr ⟨qL_668, List.forall_mem_cons.mpr ⟨qL_669, List.forall_mem_cons.mpr ⟨qL_670, List.forall_mem_cons.mpr ⟨qL_671, List.forall_mem_cons.mpr ⟨qL_672, List.forall_mem_cons.mpr ⟨qL_673, List.forall_mem_cons.mpr ⟨qL_674, List.forall_mem_cons.mpr ⟨qL_675, List.forall_mem_cons.mpr ⟨qL_676, List.forall_mem_cons.mpr ⟨qL_677, List.forall_mem_cons.mpr ⟨qL_678, List.forall_mem_cons.mpr ⟨qL_679, List.forall_mem_cons.mpr ⟨qL_680, List.forall_mem_cons.mpr ⟨qL_681, List.forall_mem_cons.mpr ⟨qL_682, List.forall_mem_cons.mpr ⟨qL_683, List.forall_mem_cons.mpr ⟨qL_684, List.forall_mem_cons.mpr ⟨qL_685, List.forall_mem_cons.mpr ⟨qL_686, List.forall_mem_cons.mpr ⟨qL_687, List.forall_mem_cons.mpr ⟨qL_688, List.forall_mem_cons.mpr ⟨qL_689, List.forall_mem_cons.mpr ⟨qL_690, List.forall_mem_cons.mpr ⟨qL_691, List.forall_mem_cons.mpr ⟨qL_692, List.forall_mem_cons.mpr ⟨qL_693, List.forall_mem_cons.mpr ⟨qL_694, List.forall_mem_cons.mpr ⟨qL_695, List.forall_mem_cons.mpr ⟨qL_696, List.forall_mem_cons.mpr ⟨qL_697, List.forall_mem_cons.mpr ⟨qL_698, List.forall_mem_cons.mpr ⟨qL_699, fun _ h => absurd h List.not_mem_nil⟩⟩⟩⟩⟩⟩⟩⟩⟩⟩⟩⟩⟩⟩⟩⟩⟩⟩⟩⟩⟩⟩⟩⟩⟩⟩⟩⟩⟩⟩⟩⟩⟩⟩⟩⟩⟩⟩⟩⟩⟩⟩⟩⟩⟩⟩⟩⟩⟩⟩
def q_LT_14 : List (Nat × Bool × Instr × List Nat × List Value) := [(13, false, .invokevirtual 271, [700, 241, 3, 12, 0, 0], []), (13, false, .invokevirtual 275, [701, 240, 2, 12, 0, 0], []), (13, false, .invokevirtual 279, [702, 242, 3, 12, 0, 0], []), (13, false, .getfield 17, [703, 11, 10, 2], []), (13, false, .invokevirtual 282, [704, 239, 1, 12, 0, 0], []), (13, false, .invokevirtual 285, [705, 244, 3, 12, 0, 0], []), (13, false, .getfield 21, [706, 11, 11, 2], []), (13, false, .getfield 288, [707, 11, 17, 0], []), (13, false, .getfield 24, [708, 11, 12, 2], []), (13, false, .putfield 288, [709, 11, 17, 0], []), (13, false, .getfield 291, [710, 11, 19, 0], []), (13, false, .getfield 33, [711, 11, 15, 2], []), (13, false, .invokestatic 294, [712, 248, 1, 0, 0, 0], []), (13, false, .putfield 291, [713, 11, 19, 0], []), (13, false, .invokevirtual 297, [714, 247, 3, 12, 0, 0], []), (13, false, .getfield 301, [715, 11, 23, 0], []), (13, false, .putfield 301, [716, 11, 23, 0], []), (13, false, .getfield 304, [717, 11, 20, 0], []), (13, false, .getfield 307, [718, 11, 22, 0], []), (13, false, .putfield 304, [719, 11, 20, 0], []), (13, false, .putfield 307, [720, 11, 22, 0], []), (13, false, .invokevirtual 310, [721, 251, 1, 12, 0, 0], []), (13, false, .invokevirtual 313, [722, 255, 2, 12, 0, 0], []), (13, false, .invokevirtual 316, [723, 253, 1, 12, 0, 0], []), (13, false, .invokevirtual 319, [724, 254, 1, 12, 0, 0], []), (13, false, .invokevirtual 322, [725, 252, 1, 12, 0, 0], []), (13, false, .putfield 326, [726, 11, 24, 3], []), (13, false, .invokevirtual 330, [727, 256, 1, 12, 0, 0], []), (13, false, .invokevirtual 333, [728, 257, 1, 12, 0, 0], []), (13, false, .invokevirtual 336, [729, 258, 1, 12, 0, 0], []), (13, false, .invokevirtual 339, [730, 249, 2, 12, 0, 0], []), (13, false, .invokevirtual 342, [731, 250, 1, 12, 0, 0], []), (13, false, .invokestatic 345, [732, 260, 1, 0, 0, 0], []), (13, false, .getfield 42, [733, 11, 27, 0], []), (13, false, .getfield 349, [734, 11, 25, 3], []), (13, false, .getfield 39, [735, 11, 26, 2], []), (13, false, .getfield 81, [736, 11, 40, 2], []), (13, false, .getfield 352, [737, 11, 18, 0], []), (13, false, .getfield 27, [738, 11, 13, 2], []), (13, false, .getfield 36, [739, 11, 16, 2], []), (13, false, .getfield 30, [740, 11, 14, 2], []), (13, false, .invokestatic 355, [741, 261, 3, 0, 0, 0], []), (13, false, .getfield 359, [742, 11, 46, 0], []), (13, false, .invokevirtual 362, [743, 245, 3, 12, 0, 0], []), (13, false, .getfield 45, [744, 11, 28, 2], []), (13, false, .invokevirtual 365, [745, 243, 4, 12, 0, 0], []), (13, false, .getfield 48, [746, 11, 29, 2], []), (13, false, .getfield 51, [747, 11, 30, 2], []), (13, false, .getfield 54, [748, 11, 31, 2], []), (13, false, .getfield 66, [749, 11, 35, 2], [])]
theorem q_LT_14_ok : ∀ x ∈ q_LT_14, q_Vx x := List.forall_mem_cons.mpr ⟨qL_700, List.forall_mem_cons.mpr ⟨qL_701, List.forall_mem_cons.mpr ⟨qL_702, List.forall_mem_cons.mpr ⟨qL_703, List.forall_mem_cons.mpr ⟨qL_704, List.forall_mem_cons.mpr ⟨qL_705, List.forall_mem_cons.mpr ⟨qL_706, List.forall_mem_cons.mpr ⟨qL_707, List.forall_mem_cons.mpr ⟨qL_708, List.forall_mem_cons.mpr ⟨qL_709, List.forall_mem_cons.mpr ⟨qL_710, List.forall_mem_cons.mpr ⟨qL_711, List.forall_mem_cons.mpr ⟨qL_712, List.forall_mem_cons.mpr ⟨qL_713, List.forall_mem_cons.mpr ⟨qL_714, List.forall_mem_cons.mpr ⟨qL_715, List.forall_mem_cons.mpr ⟨qL_716, List.forall_mem_cons.mpr ⟨qL_717, List.forall_mem_cons.mpr ⟨qL_718, List.forall_mem_cons.mpr ⟨qL_719, List.forall_mem_cons.mpr ⟨qL_720, List.forall_mem_cons.mpr ⟨qL_721, List.forall_mem_cons.mpr ⟨qL_722, List.forall_mem_cons.mpr ⟨qL_723, List.forall_mem_cons.mpr ⟨qL_724, List.forall_mem_cons.mpr ⟨qL_725, List.forall_mem_cons.mpr ⟨qL_726, List.forall_mem_cons.mpr ⟨qL_727, List.forall_mem_cons.mpr ⟨qL_728, List.forall_mem_cons.mpr ⟨qL_729, List.forall_mem_cons.mpr ⟨qL_730, List.forall_mem_cons.mpr ⟨qL_731, List.forall_mem_cons.mpr ⟨qL_732, List.forall_mem_cons.mpr ⟨qL_733, List.forall_mem_cons.mpr ⟨qL_734, List.forall_mem_cons.mpr ⟨qL_735, List.forall_mem_cons.mpr ⟨qL_736, List.forall_mem_cons.mpr ⟨qL_737, List.forall_mem_cons.mpr ⟨qL_738, List.forall_mem_cons.mpr ⟨qL_739, List.forall_mem_cons.mpr ⟨qL_740, List.forall_mem_cons.mpr ⟨qL_741, List.forall_mem_cons.mpr ⟨qL_742, List.forall_mem_cons.mpr ⟨qL_743, List.forall_mem_cons.mpr ⟨qL_744, List.forall_mem_cons.mpr ⟨qL_745, List.forall_mem_cons.mpr ⟨qL_746, List.forall_mem_cons.mpr ⟨qL_747, List.forall_mem_cons.mpr ⟨qL_748, List.forall_mem_cons.mpr ⟨qL_749, fun _ h => absurd h List.not_mem_nil⟩⟩⟩⟩⟩⟩⟩⟩⟩⟩⟩⟩⟩⟩⟩⟩⟩⟩⟩⟩⟩⟩⟩⟩⟩⟩⟩⟩⟩⟩⟩⟩⟩⟩⟩⟩⟩⟩⟩⟩⟩⟩⟩⟩⟩⟩⟩⟩⟩⟩
def q_LT_15 : List (Nat × Bool × Instr × List Nat × List Value) := [(13, false, .putfield 359, [750, 11, 46, 0], []), (13, false, .invokevirtual 369, [751, 246, 3, 12, 0, 0], []), (13, false, .invokevirtual 372, [752, 267, 1, 12, 0, 0], []), (13, false, .getfield 375, [753, 11, 47, 0], []), (13, false, .getfield 57, [754, 11, 32, 2], []), (13, false, .invokevirtual 378, [755, 268, 2, 12, 0, 0], []), (13, false, .getfield 60, [756, 11, 33, 2], []), (13, false, .getfield 63, [757, 11, 34, 2], []), (13, false, .putfield 375, [758, 11, 47, 0], []), (13, false, .getfield 69, [759, 11, 36, 2], []), (13, false, .invokestatic 381, [760, 263, 2, 0, 0, 0], []), (13, false, .invokevirtual 385, [761, 266, 1, 12, 0, 0], []), (13, false, .invokevirtual 388, [762, 269, 1, 12, 0, 0], []), (13, false, .invokevirtual 391, [763, 270, 1, 12, 0, 0], []), (13, false, .invokevirtual 394, [764, 271, 1, 12, 0, 0], []), (13, false, .invokevirtual 397, [765, 272, 1, 12, 0, 0], []), (13, false, .getfield 326, [766, 11, 24, 3], []), (13, false, .invokevirtual 400, [767, 259, 1, 12, 0, 0], []), (13, false, .getfield 403, [768, 11, 54, 3], []), (13, false, .putfield 403, [769, 11, 54, 3], []), (13, false, .putfield 406, [770, 11, 48, 0], []), (13, false, .getfield 409, [771, 11, 55, 3], []), (13, false, .putfield 409, [772, 11, 55, 3], []), (13, false, .putfield 412, [773, 11, 49, 0], []), (13, false, .putfield 182, [774, 11, 5, 0], []), (13, false, .invokevirtual 415, [775, 273, 1, 12, 0, 0], []), (13, false, .invokevirtual 418, [776, 274, 1, 12, 0, 0], []), (13, false, .putfield 421, [777, 11, 50, 0], []), (13, false, .putfield 424, [778, 11, 51, 0], []), (13, false, .getfield 406, [779, 11, 48, 0], []), (13, false, .putfield 427, [780, 11, 52, 0], []), (13, false, .getfield 412, [781, 11, 49, 0], []), (13, false, .putfield 430, [782, 11, 53, 0], []), (13, false, .putfield 433, [783, 11, 21, 0], []), (13, false, .putfield 349, [784, 11, 25, 3], []), (13, false, .putfield 352, [785, 11, 18, 0], []), (13, false, .getfield 78, [786, 11, 39, 2], []), (13, false, .getfield 84, [787, 11, 41, 2], []), (13, false, .getfield 87, [788, 11, 42, 2], []), (13, false, .putfield 458, [789, 11, 57, 0], []), (13, false, .getfield 99, [790, 11, 56, 2], []), (13, false, .getfield 458, [791, 11, 57, 0], []), (13, false, .invokevirtual 436, [792, 280, 1, 12, 0, 0], []), (13, false, .putfield 439, [793, 11, 68, 0], []), (13, false, .putfield 442, [794, 11, 69, 0], []), (13, false, .putfield 445, [795, 11, 79, 0], []), (13, false, .putfield 448, [796, 11, 62, 0], []), (13, false, .getfield 160, [797, 11, 82, 2], []), (13, false, .getfield 13, [798, 11, 3, 0], []), (13, false, .invokestatic 451, [799, 264, 3, 0, 0, 0], [])]
theorem q_LT_15_ok : ∀ x ∈ q_LT_15, q_Vx x := List.forall_mem_cons.mpr ⟨qL_750, List.forall_mem_cons.mpr ⟨qL_751, List.forall_mem_cons.mpr ⟨qL_752, List.forall_mem_cons.mpr ⟨qL_753, List.forall_mem_cons.mpr ⟨qL_754, List.forall_mem_cons.mpr ⟨qL_755, List.forall_mem_cons.mpr ⟨qL_756, List.forall_mem_cons.mpr ⟨qL_757, List.forall_mem_cons.mpr ⟨qL_758, List.forall_mem_cons.mpr ⟨qL_759, List.forall_mem_cons.mpr ⟨qL_760, List.forall_mem_cons.mpr ⟨qL_761, List.forall_mem_cons.mpr ⟨qL_762, List.forall_mem_cons.mpr ⟨qL_763, List.forall_mem_cons.mpr ⟨qL_764, List.forall_mem_cons.mpr ⟨qL_765, List.forall_mem_cons.mpr ⟨qL_766, List.forall_mem_cons.mpr ⟨qL_767, List.forall_mem_cons.mpr ⟨qL_768, List.forall_mem_cons.mpr ⟨qL_769, List.forall_mem_cons.mpr ⟨qL_770, List.forall_mem_cons.mpr ⟨qL_771, List.forall_mem_cons.mpr ⟨qL_772, List.forall_mem_cons.mpr ⟨qL_773, List.forall_mem_cons.mpr ⟨qL_774, List.forall_mem_cons.mpr ⟨qL_775, List.forall_mem_cons.mpr ⟨qL_776, List.forall_mem_cons.mpr ⟨qL_777, List.forall_mem_cons.mpr ⟨qL_778, List.forall_mem_cons.mpr ⟨qL_779, List.forall_mem_cons.mpr ⟨qL_780, List.forall_mem_cons.mpr ⟨qL_781, List.forall_mem_cons.mpr ⟨qL_782, List.forall_mem_cons.mpr ⟨qL_783, List.forall_mem_cons.mpr ⟨qL_784, List.forall_mem_cons.mpr ⟨qL_785, List.forall_mem_cons.mpr ⟨qL_786, List.forall_mem_cons.mpr ⟨qL_787, List.forall_mem_cons.mpr ⟨qL_788, List.forall_mem_cons.mpr ⟨qL_789, List.forall_mem_cons.mpr ⟨qL_790, List.forall_mem_cons.mpr ⟨qL_791, List.forall_mem_cons.mpr ⟨qL_792, List.forall_mem_cons.mpr ⟨qL_793, List.forall_mem_cons.mpr ⟨qL_794, List.forall_mem_cons.mpr ⟨qL_795, List.forall_mem_cons.mpr ⟨qL_796, List.forall_mem_cons.mpr ⟨qL_797, List.forall_mem_cons.mpr ⟨qL_798, List.forall_mem_cons.mpr ⟨qL_799, fun _ h => absurd h List.not_mem_nil⟩⟩⟩⟩⟩⟩⟩⟩⟩⟩⟩⟩⟩⟩⟩⟩⟩⟩⟩⟩⟩⟩⟩⟩⟩⟩⟩⟩⟩⟩⟩⟩⟩⟩⟩⟩⟩⟩⟩⟩⟩⟩⟩⟩⟩⟩⟩⟩⟩⟩
def q_LT_16 : List (Nat × Bool × Instr × List Nat × List Value) := [(13, false, .invokevirtual 455, [800, 277, 2, 12, 0, 0], []), (13, false, .getfield 105, [801, 11, 59, 2], []), (13, false, .invokestatic 467, [802, 288, 1, 0, 0, 0], []), (13, false, .getfield 111, [803, 11, 61, 2], []), (13, false, .getfield 448, [804, 11, 62, 0], []), (13, false, .invokevirtual 470, [805, 289, 3, 12, 0, 0], []), (13, false, .getfield 114, [806, 11, 63, 2], []), (13, false, .getfield 117, [807, 11, 64, 2], []), (13, false, .invokestatic 473, [808, 294, 2, 0, 0, 0], []), (13, false, .invokevirtual 476, [809, 295, 3, 12, 0, 0], []), (13, false, .getfield 120, [810, 11, 65, 2], []), (13, false, .invokevirtual 479, [811, 296, 2, 12, 0, 0], []), (13, false, .invokevirtual 482, [812, 297, 2, 12, 0, 0], []), (13, false, .getfield 123, [813, 11, 66, 2], []), (13, false, .invokestatic 485, [814, 262, 2, 0, 0, 0], []), (13, false, .invokevirtual 488, [815, 300, 3, 12, 0, 0], []), (13, false, .invokevirtual 491, [816, 299, 2, 12, 0, 0], []), (13, false, .invokevirtual 494, [817, 298, 1, 12, 0, 0], []), (13, false, .invokevirtual 497, [818, 265, 4, 12, 0, 0], []), (13, false, .invokevirtual 500, [819, 302, 3, 12, 0, 0], []), (13, false, .invokevirtual 503, [820, 301, 1, 12, 0, 0], []), (13, false, .invokevirtual 506, [821, 306, 2, 12, 0, 0], []), (13, false, .getfield 427, [822, 11, 52, 0], []), (13, false, .invokevirtual 509, [823, 304, 2, 12, 0, 0], []), (13, false, .invokevirtual 512, [824, 307, 1, 12, 0, 0], []), (13, false, .invokevirtual 515, [825, 308, 3, 12, 0, 0], []), (13, false, .invokevirtual 519, [826, 305, 3, 12, 0, 0], []), (13, false, .invokevirtual 522, [827, 309, 3, 12, 0, 0], []), (13, false, .getfield 439, [828, 11, 68, 0], []), (13, false, .getfield 126, [829, 11, 67, 2], []), (13, false, .invokevirtual 525, [830, 284, 1, 12, 0, 0], []), (13, false, .invokevirtual 528, [831, 311, 1, 12, 0, 0], []), (13, false, .invokevirtual 531, [832, 285, 1, 12, 0, 0], []), (13, false, .invokevirtual 534, [833, 310, 2, 12, 0, 0], []), (13, false, .getfield 442, [834, 11, 69, 0], []), (13, false, .invokevirtual 537, [835, 312, 2, 12, 0, 0], []), (13, false, .invokevirtual 540, [836, 278, 2, 12, 0, 0], []), (13, false, .invokevirtual 543, [837, 318, 3, 12, 0, 0], []), (13, false, .invokevirtual 546, [838, 303, 2, 12, 0, 0], []), (13, false, .invokevirtual 549, [839, 279, 3, 12, 0, 0], []), (13, false, .invokevirtual 552, [840, 326, 2, 12, 0, 0], []), (13, false, .invokevirtual 555, [841, 325, 1, 12, 0, 0], []), (13, false, .invokestatic 558, [842, 327, 1, 0, 0, 0], []), (13, false, .invokevirtual 561, [843, 328, 2, 12, 0, 0], []), (13, false, .invokevirtual 564, [844, 330, 4, 12, 0, 0], []), (13, false, .invokevirtual 567, [845, 331, 3, 12, 0, 0], []), (13, false, .getfield 132, [846, 11, 71, 2], []), (13, false, .getfield 129, [847, 11, 70, 2], []), (13, false, .invokevirtual 570, [848, 333, 3, 12, 0, 0], []), (13, false, .invokevirtual 573, [849, 335, 2, 12, 0, 0], [])]
theorem q_LT_16_ok : ∀ x ∈ q_LT_16, q_Vx x := List.forall_mem_cons.mpr ⟨qL_800, List.forall_mem_cons.mpr ⟨qL_801, List.forall_mem_cons.mpr ⟨qL_802, List.forall_mem_cons.mpr ⟨qL_803, List.forall_mem_cons.mpr ⟨qL_804, List.forall_mem_cons.mpr ⟨qL_805, List.forall_mem_cons.mpr ⟨qL_806, List.forall_mem_cons.mpr ⟨qL_807, List.forall_mem_cons.mpr ⟨qL_808, List.forall_mem_cons.mpr ⟨qL_809, List.forall_mem_cons.mpr ⟨qL_810, List.forall_mem_cons.mpr ⟨qL_811, List.forall_mem_cons.mpr ⟨qL_812, List.forall_mem_cons.mpr ⟨qL_813, List.forall_mem_cons.mpr ⟨qL_814, List.forall_mem_cons.mpr ⟨qL_815, List.forall_mem_cons.mpr ⟨qL_816, List.forall_mem_cons.mpr ⟨qL_817, List.forall_mem_cons.mpr ⟨qL_818, List.forall_mem_cons.mpr ⟨qL_819, List.forall_mem_cons.mpr ⟨qL_820, List.forall_mem_cons.mpr ⟨qL_821, List.forall_mem_cons.mpr ⟨qL_822, List.forall_mem_cons.mpr ⟨qL_823, List.forall_mem_cons.mpr ⟨qL_824, List.forall_mem_cons.mpr ⟨qL_825, List.forall_mem_cons.mpr ⟨qL_826, List.forall_mem_cons.mpr ⟨qL_827, List.forall_mem_cons.mpr ⟨qL_828, List.forall_mem_cons.mpr ⟨qL_829, List.forall_mem_cons.mpr ⟨qL_830, List.forall_mem_cons.mpr ⟨qL_831, List.forall_mem_cons.mpr ⟨qL_832, List.forall_mem_cons.mpr ⟨qL_833, List.forall_mem_cons.mpr ⟨qL_834, List.forall_mem_cons.mpr ⟨qL_835, List.forall_mem_cons.mpr ⟨qL_836, List.forall_mem_cons.mpr ⟨qL_837, List.forall_mem_cons.mpr ⟨qL_838, List.forall_mem_cons.mpr ⟨qL_839, List.forall_mem_cons.mpr ⟨qL_840, List.forall_mem_cons.mpr ⟨qL_841, List.forall_mem_cons.mpr ⟨qL_842, List.forall_mem_cons.mpr ⟨qL_843, List.forall_mem_cons.mpr ⟨qL_844, List.forall_mem_cons.mpr ⟨qL_845, List.forall_mem_cons.mpr ⟨qL_846, List.forall_mem_cons.mpr ⟨qL_847, List.forall_mem_cons.mpr ⟨qL_848, List.forall_mem_cons.mpr ⟨qL_849, fun _ h => absurd h List.not_mem_nil⟩⟩⟩⟩⟩⟩⟩⟩⟩⟩⟩⟩⟩⟩⟩⟩⟩⟩⟩⟩⟩⟩⟩⟩⟩⟩⟩⟩⟩⟩⟩⟩⟩⟩⟩⟩⟩⟩⟩⟩⟩⟩⟩⟩⟩⟩⟩⟩⟩⟩
def q_LT_17 : List (Nat × Bool × Instr × List Nat × List Value) := [(13, false, .invokevirtual 576, [850, 336, 2, 12, 0, 0], []), (13, false, .invokevirtual 579, [851, 281, 2, 12, 0, 0], []), (13, false, .invokevirtual 582, [852, 334, 2, 12, 0, 0], []), (13, false, .invokevirtual 585, [853, 338, 1, 12, 0, 0], []), (13, false, .invokevirtual 588, [854, 337, 2, 12, 0, 0], []), (13, false, .invokevirtual 591, [855, 345, 1, 12, 0, 0], []), (13, false, .invokevirtual 594, [856, 346, 1, 12, 0, 0], []), (13, false, .invokevirtual 597, [857, 344, 1, 12, 0, 0], []), (13, false, .invokevirtual 600, [858, 351, 2, 12, 0, 0], []), (13, false, .invokevirtual 603, [859, 349, 2, 12, 0, 0], []), (13, false, .invokevirtual 606, [860, 350, 2, 12, 0, 0], []), (13, false, .invokevirtual 609, [861, 352, 2, 12, 0, 0], []), (13, false, .invokevirtual 612, [862, 348, 2, 12, 0, 0], []), (13, false, .invokevirtual 615, [863, 354, 2, 12, 0, 0], []), (13, false, .invokevirtual 618, [864, 353, 2, 12, 0, 0], []), (13, false, .invokevirtual 621, [865, 355, 1, 12, 0, 0], []), (13, false, .invokevirtual 624, [866, 358, 3, 12, 0, 0], []), (13, false, .getfield 135, [867, 11, 72, 2], []), (13, false, .invokevirtual 627, [868, 359, 2, 12, 0, 0], []), (13, false, .invokevirtual 630, [869, 360, 3, 12, 0, 0], []), (13, false, .invokevirtual 633, [870, 362, 3, 12, 0, 0], []), (13, false, .invokevirtual 636, [871, 365, 2, 12, 0, 0], []), (13, false, .putfield 42, [872, 11, 27, 0], []), (13, false, .invokestatic 639, [873, 370, 2, 0, 0, 0], []), (13, false, .invokestatic 642, [874, 371, 2, 0, 0, 0], []), (13, false, .getfield 445, [875, 11, 79, 0], []), (13, false, .getfield 138, [876, 11, 73, 2], []), (13, false, .getfield 141, [877, 11, 74, 2], []), (13, false, .getfield 144, [878, 11, 75, 2], []), (13, false, .getfield 153, [879, 11, 78, 2], []), (13, false, .getfield 147, [880, 11, 76, 2], []), (13, false, .getfield 645, [881, 11, 80, 0], []), (13, false, .getfield 150, [882, 11, 77, 2], []), (13, false, .ldc_w 648, [883], [.int 100000]), (13, false, .putfield 645, [884, 11, 80, 0], []), (13, false, .getfield 157, [885, 11, 81, 2], []), (13, false, .invokevirtual 649, [886, 377, 3, 12, 0, 0], []), (13, false, .invokevirtual 652, [887, 378, 2, 12, 0, 0], []), (13, false, .invokevirtual 655, [888, 381, 4, 12, 0, 0], []), (13, false, .invokevirtual 658, [889, 382, 2, 12, 0, 0], []), (13, false, .invokestatic 661, [890, 384, 1, 0, 0, 0], []), (13, false, .getfield 163, [891, 11, 83, 2], []), (13, false, .invokevirtual 664, [892, 387, 1, 12, 0, 0], []), (13, false, .getfield 433, [893, 11, 21, 0], []), (12, false, .new 7, [894, 10, 16], []), (12, false, .invokespecial 9, [895, 169, 1, 11, 62, 4784], []), (12, false, .new 10, [896, 11, 84], []), (12, false, .invokespecial 12, [897, 227, 1, 12, 49, 8345], []), (12, false, .invokevirtual 13, [898, 170, 6, 11, 0, 0], []), (12, false, .invokevirtual 17, [899, 228, 6, 12, 0, 0], [])]
theorem q_LT_17_ok : ∀ x ∈ q_LT_17, q_Vx x := List.forall_mem_cons.mpr ⟨qL_850, List.forall_mem_cons.mpr ⟨qL_851, List.forall_mem_cons.mpr ⟨qL_852, List.forall_mem_cons.mpr ⟨qL_853, List.forall_mem_cons.mpr ⟨qL_854, List.forall_mem_cons.mpr ⟨qL_855, List.forall_mem_cons.mpr ⟨qL_856, List.forall_mem_cons.mpr ⟨qL_857, List.forall_mem_cons.mpr ⟨qL_858, List.forall_mem_cons.mpr ⟨qL_859, List.forall_mem_cons.mpr ⟨qL_860, List.forall_mem_cons.mpr ⟨qL_861, List.forall_mem_cons.mpr ⟨qL_862, List.forall_mem_cons.mpr ⟨qL_863, List.forall_mem_cons.mpr ⟨qL_864, List.forall_mem_cons.mpr ⟨qL_865, List.forall_mem_cons.mpr ⟨qL_866, List.forall_mem_cons.mpr ⟨qL_867, List.forall_mem_cons.mpr ⟨qL_868, List.forall_mem_cons.mpr ⟨qL_869, List.forall_mem_cons.mpr ⟨qL_870, List.forall_mem_cons.mpr ⟨qL_871, List.forall_mem_cons.mpr ⟨qL_872, List.forall_mem_cons.mpr ⟨qL_873, List.forall_mem_cons.mpr ⟨qL_874, List.forall_mem_cons.mpr ⟨qL_875, List.forall_mem_cons.mpr ⟨qL_876, List.forall_mem_cons.mpr ⟨qL_877, List.forall_mem_cons.mpr ⟨qL_878, List.forall_mem_cons.mpr ⟨qL_879, List.forall_mem_cons.mpr ⟨qL_880, List.forall_mem_cons.mpr ⟨qL_881, List.forall_mem_cons.mpr ⟨qL_882, List.forall_mem_cons.mpr ⟨qL_883, List.forall_mem_cons.mpr ⟨qL_884, List.forall_mem_cons.mpr ⟨qL_885, List.forall_mem_cons.mpr ⟨qL_886, List.forall_mem_cons.mpr ⟨qL_887, List.forall_mem_cons.mpr ⟨qL_888, List.forall_mem_cons.mpr ⟨qL_889, List.forall_mem_cons.mpr ⟨qL_890, List.forall_mem_cons.mpr ⟨qL_891, List.forall_mem_cons.mpr ⟨qL_892, List.forall_mem_cons.mpr ⟨qL_893, List.forall_mem_cons.mpr ⟨qL_894, List.forall_mem_cons.mpr ⟨qL_895, List.forall_mem_cons.mpr ⟨qL_896, List.forall_mem_cons.mpr ⟨qL_897, List.forall_mem_cons.mpr ⟨qL_898, List.forall_mem_cons.mpr ⟨qL_899, fun _ h => absurd h List.not_mem_nil⟩⟩⟩⟩⟩⟩⟩⟩⟩⟩⟩⟩⟩⟩⟩⟩⟩⟩⟩⟩⟩⟩⟩⟩⟩⟩⟩⟩⟩⟩⟩⟩⟩⟩⟩⟩⟩⟩⟩⟩⟩⟩⟩⟩⟩⟩⟩⟩⟩⟩
def q_LT_18 : List (Nat × Bool × Instr × List Nat × List Value) := [(12, false, .invokevirtual 18, [900, 172, 2, 11, 0, 0], []), (12, false, .invokevirtual 22, [901, 230, 2, 12, 0, 0], []), (12, false, .invokevirtual 23, [902, 173, 1, 11, 0, 0], []), (12, false, .invokevirtual 27, [903, 275, 1, 12, 0, 0], []), (12, false, .invokevirtual 28, [904, 174, 2, 11, 0, 0], []), (12, false, .invokevirtual 31, [905, 276, 2, 12, 0, 0], []), (12, false, .invokevirtual 32, [906, 175, 3, 11, 0, 0], []), (12, false, .invokevirtual 36, [907, 317, 3, 12, 0, 0], []), (12, false, .invokevirtual 37, [908, 176, 3, 11, 0, 0], []), (12, false, .invokevirtual 40, [909, 319, 3, 12, 0, 0], []), (12, false, .invokevirtual 41, [910, 177, 4, 11, 0, 0], []), (12, false, .invokevirtual 45, [911, 320, 4, 12, 0, 0], []), (12, false, .invokevirtual 46, [912, 179, 3, 11, 0, 0], []), (12, false, .invokevirtual 49, [913, 313, 3, 12, 0, 0], []), (12, false, .invokevirtual 50, [914, 181, 4, 11, 0, 0], []), (12, false, .invokevirtual 53, [915, 314, 4, 12, 0, 0], []), (12, false, .invokevirtual 54, [916, 182, 2, 11, 0, 0], []), (12, false, .invokevirtual 57, [917, 356, 2, 12, 0, 0], []), (12, false, .invokevirtual 58, [918, 183, 1, 11, 0, 0], []), (12, false, .invokevirtual 62, [919, 315, 1, 12, 0, 0], []), (12, false, .invokevirtual 63, [920, 184, 1, 11, 0, 0], []), (12, false, .invokevirtual 66, [921, 316, 1, 12, 0, 0], []), (12, false, .invokevirtual 67, [922, 185, 3, 11, 0, 0], []), (12, false, .invokevirtual 70, [923, 293, 3, 12, 0, 0], []), (12, false, .invokevirtual 71, [924, 186, 3, 11, 0, 0], []), (12, false, .invokevirtual 74, [925, 290, 3, 12, 0, 0], []), (12, false, .invokevirtual 75, [926, 188, 3, 11, 0, 0], []), (12, false, .invokevirtual 78, [927, 291, 3, 12, 0, 0], []), (12, false, .invokevirtual 79, [928, 189, 2, 11, 0, 0], []), (12, false, .invokevirtual 82, [929, 292, 2, 12, 0, 0], []), (12, false, .invokevirtual 83, [930, 190, 2, 11, 0, 0], []), (12, false, .invokevirtual 86, [931, 321, 2, 12, 0, 0], []), (12, false, .invokevirtual 87, [932, 191, 2, 11, 0, 0], []), (12, false, .invokevirtual 90, [933, 322, 2, 12, 0, 0], []), (12, false, .invokevirtual 91, [934, 192, 1, 11, 0, 0], []), (12, false, .invokevirtual 94, [935, 323, 1, 12, 0, 0], []), (12, false, .invokevirtual 95, [936, 193, 1, 11, 0, 0], []), (12, false, .invokevirtual 98, [937, 324, 1, 12, 0, 0], []), (12, false, .invokevirtual 99, [938, 195, 2, 11, 0, 0], []), (12, false, .invokevirtual 102, [939, 329, 2, 12, 0, 0], []), (12, false, .invokevirtual 103, [940, 196, 3, 11, 0, 0], []), (12, false, .invokevirtual 106, [941, 332, 3, 12, 0, 0], []), (12, false, .invokevirtual 107, [942, 198, 4, 11, 0, 0], []), (12, false, .invokevirtual 110, [943, 339, 4, 12, 0, 0], []), (12, false, .invokevirtual 111, [944, 199, 2, 11, 0, 0], []), (12, false, .invokevirtual 114, [945, 340, 2, 12, 0, 0], []), (12, false, .invokevirtual 115, [946, 200, 2, 11, 0, 0], []), (12, false, .invokevirtual 118, [947, 341, 2, 12, 0, 0], []), (12, false, .invokevirtual 119, [948, 201, 3, 11, 0, 0], []), (12, false, .invokevirtual 122, [949, 342, 3, 12, 0, 0], [])]
theorem q_LT_18_ok : ∀ x ∈ q_LT_18, q_Vx x := List.forall_mem_cons.mpr ⟨qL_900, List.forall_mem_cons.mpr ⟨qL_901, List.forall_mem_cons.mpr ⟨qL_902, List.forall_mem_cons.mpr ⟨qL_903, List.forall_mem_cons.mpr ⟨qL_904, List.forall_mem_cons.mpr ⟨qL_905, List.forall_mem_cons.mpr ⟨qL_906, List.forall_mem_cons.mpr ⟨qL_907, List.forall_mem_cons.mpr ⟨qL_908, List.forall_mem_cons.mpr ⟨qL_909, List.forall_mem_cons.mpr ⟨qL_910, List.forall_mem_cons.mpr ⟨qL_911, List.forall_mem_cons.mpr ⟨qL_912, List.forall_mem_cons.mpr ⟨qL_913, List.forall_mem_cons.mpr ⟨qL_914, List.forall_mem_cons.mpr ⟨qL_915, List.forall_mem_cons.mpr ⟨qL_916, List.forall_mem_cons.mpr ⟨qL_917, List.forall_mem_cons.mpr ⟨qL_918, List.forall_mem_cons.mpr ⟨qL_919, List.forall_mem_cons.mpr ⟨qL_920, List.forall_mem_cons.mpr ⟨qL_921, List.forall_mem_cons.mpr ⟨qL_922, List.forall_mem_cons.mpr ⟨qL_923, List.forall_mem_cons.mpr ⟨qL_924, List.forall_mem_cons.mpr ⟨qL_925, List.forall_mem_cons.mpr ⟨qL_926, List.forall_mem_cons.mpr ⟨qL_927, List.forall_mem_cons.mpr ⟨qL_928, List.forall_mem_cons.mpr ⟨qL_929, List.forall_mem_cons.mpr ⟨qL_930, List.forall_mem_cons.mpr ⟨qL_931, List.forall_mem_cons.mpr ⟨qL_932, List.forall_mem_cons.mpr ⟨qL_933, List.forall_mem_cons.mpr ⟨qL_934, List.forall_mem_cons.mpr ⟨qL_935, List.forall_mem_cons.mpr ⟨qL_936, List.forall_mem_cons.mpr ⟨qL_937, List.forall_mem_cons.mpr ⟨qL_938, List.forall_mem_cons.mpr ⟨qL_939, List.forall_mem_cons.mpr ⟨qL_940, List.forall_mem_cons.mpr ⟨qL_941, List.forall_mem_cons.mpr ⟨qL_942, List.forall_mem_cons.mpr ⟨qL_943, List.forall_mem_cons.mpr ⟨qL_944, List.forall_mem_cons.mpr ⟨qL_945, List.forall_mem_cons.mpr ⟨qL_946, List.forall_mem_cons.mpr ⟨qL_947, List.forall_mem_cons.mpr ⟨qL_948, List.forall_mem_cons.mpr ⟨qL_949, fun _ h => absurd h List.not_mem_nil⟩⟩⟩⟩⟩⟩⟩⟩⟩⟩⟩⟩⟩⟩⟩⟩⟩⟩⟩⟩⟩⟩⟩⟩⟩⟩⟩⟩⟩⟩⟩⟩⟩⟩⟩⟩⟩⟩⟩⟩⟩⟩⟩⟩⟩⟩⟩⟩⟩⟩
def q_LT_19 : List (Nat × Bool × Instr × List Nat × List Value) := [(12, false, .invokevirtual 123, [950, 202, 3, 11, 0, 0], []), (12, false, .invokevirtual 126, [951, 343, 3, 12, 0, 0], []), (12, false, .invokevirtual 127, [952, 203, 1, 11, 0, 0], []), (12, false, .invokevirtual 130, [953, 347, 1, 12, 0, 0], []), (12, false, .invokevirtual 131, [954, 204, 3, 11, 0, 0], []), (12, false, .invokevirtual 134, [955, 357, 3, 12, 0, 0], []), (12, false, .invokevirtual 135, [956, 205, 4, 11, 0, 0], []), (12, false, .invokevirtual 138, [957, 361, 4, 12, 0, 0], []), (12, false, .invokevirtual 139, [958, 208, 3, 11, 0, 0], []), (12, false, .invokevirtual 142, [959, 362, 3, 12, 0, 0], []), (12, false, .invokevirtual 143, [960, 209, 1, 11, 0, 0], []), (12, false, .invokevirtual 146, [961, 363, 1, 12, 0, 0], []), (12, false, .invokevirtual 147, [962, 210, 2, 11, 0, 0], []), (12, false, .invokevirtual 150, [963, 364, 2, 12, 0, 0], []), (12, false, .invokevirtual 151, [964, 211, 2, 11, 0, 0], []), (12, false, .invokevirtual 154, [965, 366, 2, 12, 0, 0], []), (12, false, .invokevirtual 155, [966, 212, 2, 11, 0, 0], []), (12, false, .invokevirtual 158, [967, 367, 2, 12, 0, 0], []), (12, false, .invokevirtual 159, [968, 213, 1, 11, 0, 0], []), (12, false, .invokevirtual 162, [969, 368, 1, 12, 0, 0], []), (12, false, .invokevirtual 163, [970, 214, 2, 11, 0, 0], []), (12, false, .invokevirtual 166, [971, 369, 2, 12, 0, 0], []), (12, false, .invokevirtual 167, [972, 215, 3, 11, 0, 0], []), (12, false, .invokevirtual 170, [973, 372, 3, 12, 0, 0], []), (12, false, .invokevirtual 171, [974, 217, 2, 11, 0, 0], []), (12, false, .invokevirtual 174, [975, 373, 2, 12, 0, 0], []), (12, false, .invokevirtual 175, [976, 218, 6, 11, 0, 0], []), (12, false, .invokevirtual 179, [977, 374, 6, 12, 0, 0], []), (12, false, .invokevirtual 180, [978, 219, 2, 11, 0, 0], []), (12, false, .invokevirtual 184, [979, 375, 2, 12, 0, 0], []), (12, false, .invokevirtual 185, [980, 220, 2, 11, 0, 0], []), (12, false, .invokevirtual 188, [981, 376, 2, 12, 0, 0], []), (12, false, .invokevirtual 189, [982, 221, 2, 11, 0, 0], []), (12, false, .invokevirtual 192, [983, 379, 2, 12, 0, 0], []), (12, false, .invokevirtual 193, [984, 222, 3, 11, 0, 0], []), (12, false, .invokevirtual 196, [985, 380, 3, 12, 0, 0], []), (12, false, .invokevirtual 197, [986, 223, 4, 11, 0, 0], []), (12, false, .invokevirtual 200, [987, 383, 4, 12, 0, 0], []), (12, false, .invokevirtual 201, [988, 224, 2, 11, 0, 0], []), (12, false, .invokevirtual 204, [989, 385, 2, 12, 0, 0], []), (12, false, .invokevirtual 205, [990, 225, 2, 11, 0, 0], []), (12, false, .invokevirtual 208, [991, 386, 2, 12, 0, 0], []), (12, false, .invokevirtual 209, [992, 226, 2, 11, 0, 0], []), (12, false, .invokevirtual 212, [993, 388, 2, 12, 0, 0], [])]
theorem q_LT_19_ok : ∀ x ∈ q_LT_19, q_Vx x := List.forall_mem_cons.mpr ⟨qL_950, List.forall_mem_cons.mpr ⟨qL_951, List.forall_mem_cons.mpr ⟨qL_952, List.forall_mem_cons.mpr ⟨qL_953, List.forall_mem_cons.mpr ⟨qL_954, List.forall_mem_cons.mpr ⟨qL_955, List.forall_mem_cons.mpr ⟨qL_956, List.forall_mem_cons.mpr ⟨qL_957, List.forall_mem_cons.mpr ⟨qL_958, List.forall_mem_cons.mpr ⟨qL_959, List.forall_mem_cons.mpr ⟨qL_960, List.forall_mem_cons.mpr ⟨qL_961, List.forall_mem_cons.mpr ⟨qL_962, List.forall_mem_cons.mpr ⟨qL_963, List.forall_mem_cons.mpr ⟨qL_964, List.forall_mem_cons.mpr ⟨qL_965, List.forall_mem_cons.mpr ⟨qL_966, List.forall_mem_cons.mpr ⟨qL_967, List.forall_mem_cons.mpr ⟨qL_968, List.forall_mem_cons.mpr ⟨qL_969, List.forall_mem_cons.mpr ⟨qL_970, List.forall_mem_cons.mpr ⟨qL_971, List.forall_mem_cons.mpr ⟨qL_972, List.forall_mem_cons.mpr ⟨qL_973, List.forall_mem_cons.mpr ⟨qL_974, List.forall_mem_cons.mpr ⟨qL_975, List.forall_mem_cons.mpr ⟨qL_976, List.forall_mem_cons.mpr ⟨qL_977, List.forall_mem_cons.mpr ⟨qL_978, List.forall_mem_cons.mpr ⟨qL_979, List.forall_mem_cons.mpr ⟨qL_980, List.forall_mem_cons.mpr ⟨qL_981, List.forall_mem_cons.mpr ⟨qL_982, List.forall_mem_cons.mpr ⟨qL_983, List.forall_mem_cons.mpr ⟨qL_984, List.forall_mem_cons.mpr ⟨qL_985, List.forall_mem_cons.mpr ⟨qL_986, List.forall_mem_cons.mpr ⟨qL_987, List.forall_mem_cons.mpr ⟨qL_988, List.forall_mem_cons.mpr ⟨qL_989, List.forall_mem_cons.mpr ⟨qL_990, List.forall_mem_cons.mpr ⟨qL_991, List.forall_mem_cons.mpr ⟨qL_992, List.forall_mem_cons.mpr ⟨qL_993, fun _ h => absurd h List.not_mem_nil⟩⟩⟩⟩⟩⟩⟩⟩⟩⟩⟩⟩⟩⟩⟩⟩⟩⟩⟩⟩⟩⟩⟩⟩⟩⟩⟩⟩⟩⟩⟩⟩⟩⟩⟩⟩⟩⟩⟩⟩⟩⟩⟩⟩
def q_LTs : List (List (Nat × Bool × Instr × List Nat × List Value)) := [q_LT_0, q_LT_1, q_LT_2, q_LT_3, q_LT_4, q_LT_5, q_LT_6, q_LT_7, q_LT_8, q_LT_9, q_LT_10, q_LT_11, q_LT_12, q_LT_13, q_LT_14, q_LT_15, q_LT_16, q_LT_17, q_LT_18, q_LT_19]
theorem q_LTs_ok : ∀ g ∈ q_LTs, ∀ x ∈ g, q_Vx x := List.forall_mem_cons.mpr ⟨q_LT_0_ok, List.forall_mem_cons.mpr ⟨q_LT_1_ok, List.forall_mem_cons.mpr ⟨q_LT_2_ok, List.forall_mem_cons.mpr ⟨q_LT_3_ok, List.forall_mem_cons.mpr ⟨q_LT_4_ok, List.forall_mem_cons.mpr ⟨q_LT_5_ok, List.forall_mem_cons.mpr ⟨q_LT_6_ok, List.forall_mem_cons.mpr ⟨q_LT_7_ok, List.forall_mem_cons.mpr ⟨q_LT_8_ok, List.forall_mem_cons.mpr ⟨q_LT_9_ok, List.forall_mem_cons.mpr ⟨q_LT_10_ok, List.forall_mem_cons.mpr ⟨q_LT_11_ok, List.forall_mem_cons.mpr ⟨q_LT_12_ok, List.forall_mem_cons.mpr ⟨q_LT_13_ok, List.forall_mem_cons.mpr ⟨q_LT_14_ok, List.forall_mem_cons.mpr ⟨q_LT_15_ok, List.forall_mem_cons.mpr ⟨q_LT_16_ok, List.forall_mem_cons.mpr ⟨q_LT_17_ok, List.forall_mem_cons.mpr ⟨q_LT_18_ok, List.forall_mem_cons.mpr ⟨q_LT_19_ok, fun _ h => absurd h List.not_mem_nil⟩⟩⟩⟩⟩⟩⟩⟩⟩⟩⟩⟩⟩⟩⟩⟩⟩⟩⟩⟩
