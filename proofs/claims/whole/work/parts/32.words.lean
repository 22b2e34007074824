/-! ===== words by their places (by program) ===== -/
theorem tb_l1 {w : Cond} (h : w ∈ tables_1_1) : w ∈ lw_tbl := List.mem_append_right _ (List.mem_append_left _ h)
theorem tb_1 {w : Cond} (i : Nat) (h : tables_1_1[i]? = some w) (hg : goodWord w = true) : w ∈ tb := List.mem_filter.mpr ⟨tb_l1 (List.mem_of_getElem? h), hg⟩
theorem tn_1 {w : Cond} (i : Nat) (h : tables_1_1[i]? = some w) (hg : q_isN w = true) : w ∈ q_nst := List.mem_filter.mpr ⟨tb_l1 (List.mem_of_getElem? h), hg⟩
theorem tb_l2 {w : Cond} (h : w ∈ tables_1_2) : w ∈ lw_tbl := List.mem_append_right _ (List.mem_append_right _ (List.mem_append_left _ h))
theorem tb_2 {w : Cond} (i : Nat) (h : tables_1_2[i]? = some w) (hg : goodWord w = true) : w ∈ tb := List.mem_filter.mpr ⟨tb_l2 (List.mem_of_getElem? h), hg⟩
theorem tn_2 {w : Cond} (i : Nat) (h : tables_1_2[i]? = some w) (hg : q_isN w = true) : w ∈ q_nst := List.mem_filter.mpr ⟨tb_l2 (List.mem_of_getElem? h), hg⟩
theorem tb_l3 {w : Cond} (h : w ∈ tables_1_3) : w ∈ lw_tbl := List.mem_append_right _ (List.mem_append_right _ (List.mem_append_right _ (List.mem_append_left _ h)))
theorem tb_3 {w : Cond} (i : Nat) (h : tables_1_3[i]? = some w) (hg : goodWord w = true) : w ∈ tb := List.mem_filter.mpr ⟨tb_l3 (List.mem_of_getElem? h), hg⟩
theorem tn_3 {w : Cond} (i : Nat) (h : tables_1_3[i]? = some w) (hg : q_isN w = true) : w ∈ q_nst := List.mem_filter.mpr ⟨tb_l3 (List.mem_of_getElem? h), hg⟩
theorem tb_l4 {w : Cond} (h : w ∈ tables_1_4) : w ∈ lw_tbl := List.mem_append_right _ (List.mem_append_right _ (List.mem_append_right _ (List.mem_append_right _ (List.mem_append_left _ h))))
theorem tb_4 {w : Cond} (i : Nat) (h : tables_1_4[i]? = some w) (hg : goodWord w = true) : w ∈ tb := List.mem_filter.mpr ⟨tb_l4 (List.mem_of_getElem? h), hg⟩
theorem tn_4 {w : Cond} (i : Nat) (h : tables_1_4[i]? = some w) (hg : q_isN w = true) : w ∈ q_nst := List.mem_filter.mpr ⟨tb_l4 (List.mem_of_getElem? h), hg⟩
theorem tb_l5 {w : Cond} (h : w ∈ tables_1_5) : w ∈ lw_tbl := List.mem_append_right _ (List.mem_append_right _ (List.mem_append_right _ (List.mem_append_right _ (List.mem_append_right _ (List.mem_append_left _ h)))))
theorem tb_5 {w : Cond} (i : Nat) (h : tables_1_5[i]? = some w) (hg : goodWord w = true) : w ∈ tb := List.mem_filter.mpr ⟨tb_l5 (List.mem_of_getElem? h), hg⟩
theorem tn_5 {w : Cond} (i : Nat) (h : tables_1_5[i]? = some w) (hg : q_isN w = true) : w ∈ q_nst := List.mem_filter.mpr ⟨tb_l5 (List.mem_of_getElem? h), hg⟩
theorem tb_l6 {w : Cond} (h : w ∈ tables_1_6) : w ∈ lw_tbl := List.mem_append_right _ (List.mem_append_right _ (List.mem_append_right _ (List.mem_append_right _ (List.mem_append_right _ (List.mem_append_right _ (List.mem_append_left _ h))))))
theorem tb_6 {w : Cond} (i : Nat) (h : tables_1_6[i]? = some w) (hg : goodWord w = true) : w ∈ tb := List.mem_filter.mpr ⟨tb_l6 (List.mem_of_getElem? h), hg⟩
theorem tn_6 {w : Cond} (i : Nat) (h : tables_1_6[i]? = some w) (hg : q_isN w = true) : w ∈ q_nst := List.mem_filter.mpr ⟨tb_l6 (List.mem_of_getElem? h), hg⟩
theorem tb_l7 {w : Cond} (h : w ∈ tables_1_7) : w ∈ lw_tbl := List.mem_append_right _ (List.mem_append_right _ (List.mem_append_right _ (List.mem_append_right _ (List.mem_append_right _ (List.mem_append_right _ (List.mem_append_right _ (List.mem_append_left _ h)))))))
theorem tb_7 {w : Cond} (i : Nat) (h : tables_1_7[i]? = some w) (hg : goodWord w = true) : w ∈ tb := List.mem_filter.mpr ⟨tb_l7 (List.mem_of_getElem? h), hg⟩
theorem tn_7 {w : Cond} (i : Nat) (h : tables_1_7[i]? = some w) (hg : q_isN w = true) : w ∈ q_nst := List.mem_filter.mpr ⟨tb_l7 (List.mem_of_getElem? h), hg⟩
theorem tb_l8 {w : Cond} (h : w ∈ tables_1_8) : w ∈ lw_tbl := List.mem_append_right _ (List.mem_append_right _ (List.mem_append_right _ (List.mem_append_right _ (List.mem_append_right _ (List.mem_append_right _ (List.mem_append_right _ (List.mem_append_right _ (List.mem_append_left _ h))))))))
theorem tb_8 {w : Cond} (i : Nat) (h : tables_1_8[i]? = some w) (hg : goodWord w = true) : w ∈ tb := List.mem_filter.mpr ⟨tb_l8 (List.mem_of_getElem? h), hg⟩
theorem tn_8 {w : Cond} (i : Nat) (h : tables_1_8[i]? = some w) (hg : q_isN w = true) : w ∈ q_nst := List.mem_filter.mpr ⟨tb_l8 (List.mem_of_getElem? h), hg⟩
theorem tb_l9 {w : Cond} (h : w ∈ tables_1_9) : w ∈ lw_tbl := List.mem_append_right _ (List.mem_append_right _ (List.mem_append_right _ (List.mem_append_right _ (List.mem_append_right _ (List.mem_append_right _ (List.mem_append_right _ (List.mem_append_right _ (List.mem_append_right _ (List.mem_append_left _ h)))))))))
theorem tb_9 {w : Cond} (i : Nat) (h : tables_1_9[i]? = some w) (hg : goodWord w = true) : w ∈ tb := List.mem_filter.mpr ⟨tb_l9 (List.mem_of_getElem? h), hg⟩
theorem tn_9 {w : Cond} (i : Nat) (h : tables_1_9[i]? = some w) (hg : q_isN w = true) : w ∈ q_nst := List.mem_filter.mpr ⟨tb_l9 (List.mem_of_getElem? h), hg⟩
theorem tb_l10 {w : Cond} (h : w ∈ tables_1_10) : w ∈ lw_tbl := List.mem_append_right _ (List.mem_append_right _ (List.mem_append_right _ (List.mem_append_right _ (List.mem_append_right _ (List.mem_append_right _ (List.mem_append_right _ (List.mem_append_right _ (List.mem_append_right _ (List.mem_append_right _ (h))))))))))
theorem tb_10 {w : Cond} (i : Nat) (h : tables_1_10[i]? = some w) (hg : goodWord w = true) : w ∈ tb := List.mem_filter.mpr ⟨tb_l10 (List.mem_of_getElem? h), hg⟩
theorem tn_10 {w : Cond} (i : Nat) (h : tables_1_10[i]? = some w) (hg : q_isN w = true) : w ∈ q_nst := List.mem_filter.mpr ⟨tb_l10 (List.mem_of_getElem? h), hg⟩
theorem tb_s {w : Cond} (i : Nat) (h : (k2_sels lw_privs)[i]? = some w) (hg : goodWord w = true) : w ∈ tb := List.mem_filter.mpr ⟨List.mem_append_left _ (List.mem_of_getElem? h), hg⟩
set_option maxRecDepth 20000 in
theorem qN_0 : (Jvm.Cond.methodLinkNest "ScanBench$Board" (52 : Nat) ({ cls := "ScanBench$Faults", name := "<init>", desc := "()V" } : Jvm.MethodName) "ScanBench") ∈ q_nst := tn_1 39 rfl rfl
set_option maxRecDepth 20000 in
theorem qN_1 : (Jvm.Cond.methodLinkNest "ScanBench$Board" (59 : Nat) ({ cls := "ScanBench$Formula", name := "<init>", desc := "()V" } : Jvm.MethodName) "ScanBench") ∈ q_nst := tn_1 80 rfl rfl
set_option maxRecDepth 20000 in
theorem qN_2 : (Jvm.Cond.methodLinkNest "ScanBench$Board" (90 : Nat) ({ cls := "ScanBench", name := "placeOf", desc := "(II)I" } : Jvm.MethodName) "ScanBench") ∈ q_nst := tn_5 131 rfl rfl
set_option maxRecDepth 20000 in
theorem qN_3 : (Jvm.Cond.fieldLinkNest "ScanBench$Board" (126 : Nat) "ScanBench$Faults" "OTHER" "[I" "ScanBench") ∈ q_nst := tn_4 233 rfl rfl
set_option maxRecDepth 20000 in
theorem qN_4 : (Jvm.Cond.fieldLinkNest "ScanBench$Board" (138 : Nat) "ScanBench$Faults" "LESSER" "[I" "ScanBench") ∈ q_nst := tn_5 227 rfl rfl
set_option maxRecDepth 20000 in
theorem qN_5 : (Jvm.Cond.methodLinkNest "ScanBench$Chain" (36 : Nat) ({ cls := "ScanBench$Faults", name := "<init>", desc := "()V" } : Jvm.MethodName) "ScanBench") ∈ q_nst := tn_2 72 rfl rfl
set_option maxRecDepth 20000 in
theorem qN_6 : (Jvm.Cond.methodLinkNest "ScanBench$Chain" (95 : Nat) ({ cls := "ScanBench", name := "placeOf", desc := "(II)I" } : Jvm.MethodName) "ScanBench") ∈ q_nst := tn_4 57 rfl rfl
set_option maxRecDepth 20000 in
theorem qN_7 : (Jvm.Cond.methodLinkNest "ScanBench$Judge" (29 : Nat) ({ cls := "ScanBench$Faults", name := "<init>", desc := "()V" } : Jvm.MethodName) "ScanBench") ∈ q_nst := tn_2 142 rfl rfl
set_option maxRecDepth 20000 in
theorem qN_8 : (Jvm.Cond.methodLinkNest "ScanBench$Lab" (26 : Nat) ({ cls := "ScanBench$Faults", name := "<init>", desc := "()V" } : Jvm.MethodName) "ScanBench") ∈ q_nst := tn_2 170 rfl rfl
set_option maxRecDepth 20000 in
theorem qN_9 : (Jvm.Cond.methodLinkNest "ScanBench$Reader" (193 : Nat) ({ cls := "ScanBench", name := "placeOf", desc := "(II)I" } : Jvm.MethodName) "ScanBench") ∈ q_nst := tn_3 153 rfl rfl
set_option maxRecDepth 20000 in
theorem qN_10 : (Jvm.Cond.methodLinkNest "ScanBench" (19 : Nat) ({ cls := "ScanBench$Board", name := "<init>", desc := "()V" } : Jvm.MethodName) "ScanBench") ∈ q_nst := tn_1 33 rfl rfl
set_option maxRecDepth 20000 in
theorem qN_11 : (Jvm.Cond.methodLinkNest "ScanBench" (38 : Nat) ({ cls := "ScanBench$Ways", name := "<init>", desc := "()V" } : Jvm.MethodName) "ScanBench") ∈ q_nst := tn_2 54 rfl rfl
set_option maxRecDepth 20000 in
theorem qN_12 : (Jvm.Cond.methodLinkNest "ScanBench" (45 : Nat) ({ cls := "ScanBench$Chain", name := "<init>", desc := "()V" } : Jvm.MethodName) "ScanBench") ∈ q_nst := tn_2 67 rfl rfl
set_option maxRecDepth 20000 in
theorem qN_13 : (Jvm.Cond.methodLinkNest "ScanBench" (52 : Nat) ({ cls := "ScanBench$Past", name := "<init>", desc := "()V" } : Jvm.MethodName) "ScanBench") ∈ q_nst := tn_2 111 rfl rfl
set_option maxRecDepth 20000 in
theorem qN_14 : (Jvm.Cond.methodLinkNest "ScanBench" (59 : Nat) ({ cls := "ScanBench$Judge", name := "<init>", desc := "()V" } : Jvm.MethodName) "ScanBench") ∈ q_nst := tn_2 137 rfl rfl
set_option maxRecDepth 20000 in
theorem qN_15 : (Jvm.Cond.methodLinkNest "ScanBench" (66 : Nat) ({ cls := "ScanBench$Lab", name := "<init>", desc := "()V" } : Jvm.MethodName) "ScanBench") ∈ q_nst := tn_2 165 rfl rfl
set_option maxRecDepth 20000 in
theorem qN_16 : (Jvm.Cond.methodLinkNest "ScanBench" (73 : Nat) ({ cls := "ScanBench$Notes", name := "<init>", desc := "()V" } : Jvm.MethodName) "ScanBench") ∈ q_nst := tn_2 186 rfl rfl
