/-! ===== classes: names, fields by slot, types (by program) ===== -/
def qF_0 : u_T := fun k => match k with
  | 0 => ("ScanBench$Board", "devices", "I", false)
  | 1 => ("ScanBench$Board", "deviceNames", "[J", true)
  | 2 => ("ScanBench$Board", "ir", "[I", true)
  | 3 => ("ScanBench$Board", "id", "[I", true)
  | 4 => ("ScanBench$Board", "cells", "[I", true)
  | 5 => ("ScanBench$Board", "nets", "I", false)
  | 6 => ("ScanBench$Board", "netNames", "[J", true)
  | 7 => ("ScanBench$Board", "drivers", "[I", true)
  | 8 => ("ScanBench$Board", "receivers", "[I", true)
  | 9 => ("ScanBench$Board", "safe", "[I", true)
  | 10 => ("ScanBench$Board", "netOf", "[I", true)
  | 11 => ("ScanBench$Board", "allReceivers", "I", false)
  | 12 => ("ScanBench$Board", "told", "LScanBench$Faults;", true)
  | 13 => ("ScanBench$Board", "floats", "LScanBench$Formula;", true)
  | 14 => ("ScanBench$Board", "noise", "I", false)
  | _ => ("ScanBench$Board", "draw", "I", false)
def qT_0 : Nat → FieldType := fun k => match k with
  | 0 => .int
  | 1 => .array .long
  | 2 => .array .int
  | 3 => .array .int
  | 4 => .array .int
  | 5 => .int
  | 6 => .array .long
  | 7 => .array .int
  | 8 => .array .int
  | 9 => .array .int
  | 10 => .array .int
  | 11 => .int
  | 12 => .object "ScanBench$Faults"
  | 13 => .object "ScanBench$Formula"
  | 14 => .int
  | _ => .int
def qF_1 : u_T := fun k => match k with
  | 0 => ("ScanBench$Chain", "state", "I", false)
  | 1 => ("ScanBench$Chain", "clocks", "I", false)
  | 2 => ("ScanBench$Chain", "seed", "I", false)
  | 3 => ("ScanBench$Chain", "order", "[I", true)
  | 4 => ("ScanBench$Chain", "orderRegister", "[I", true)
  | 5 => ("ScanBench$Chain", "data", "[I", true)
  | 6 => ("ScanBench$Chain", "latches", "[I", true)
  | 7 => ("ScanBench$Chain", "faults", "LScanBench$Faults;", true)
  | _ => ("ScanBench$Chain", "path", "[I", true)
def qT_1 : Nat → FieldType := fun k => match k with
  | 0 => .int
  | 1 => .int
  | 2 => .int
  | 3 => .array .int
  | 4 => .array .int
  | 5 => .array .int
  | 6 => .array .int
  | 7 => .object "ScanBench$Faults"
  | _ => .array .int
def qF_2 : u_T := fun k => match k with
  | 0 => ("ScanBench$Faults", "stuck", "I", false)
  | 1 => ("ScanBench$Faults", "stuckHigh", "I", false)
  | 2 => ("ScanBench$Faults", "open", "I", false)
  | 3 => ("ScanBench$Faults", "low", "I", false)
  | _ => ("ScanBench$Faults", "high", "I", false)
def qT_2 : Nat → FieldType := fun k => match k with
  | 0 => .int
  | 1 => .int
  | 2 => .int
  | 3 => .int
  | _ => .int
def qF_3 : u_T := fun k => match k with
  | 0 => ("ScanBench$Formula", "code", "[I", true)
  | 1 => ("ScanBench$Formula", "stack", "[I", true)
  | 2 => ("ScanBench$Formula", "size", "I", false)
  | _ => ("ScanBench$Formula", "units", "I", false)
def qT_3 : Nat → FieldType := fun k => match k with
  | 0 => .array .int
  | 1 => .array .int
  | 2 => .int
  | _ => .int
def qF_4 : u_T := fun k => match k with
  | 0 => ("ScanBench$Judge", "patterns", "[I", true)
  | 1 => ("ScanBench$Judge", "reads", "[I", true)
  | 2 => ("ScanBench$Judge", "steps", "I", false)
  | 3 => ("ScanBench$Judge", "goodOnes", "I", false)
  | 4 => ("ScanBench$Judge", "trial", "LScanBench$Faults;", true)
  | _ => ("ScanBench$Judge", "bestCount", "I", false)
def qT_4 : Nat → FieldType := fun k => match k with
  | 0 => .array .int
  | 1 => .array .int
  | 2 => .int
  | 3 => .int
  | 4 => .object "ScanBench$Faults"
  | _ => .int
def qF_5 : u_T := fun k => match k with
  | 0 => ("ScanBench$Lab", "reads", "[I", true)
  | 1 => ("ScanBench$Lab", "patterns", "[I", true)
  | 2 => ("ScanBench$Lab", "made", "Z", false)
  | _ => ("ScanBench$Lab", "trial", "LScanBench$Faults;", true)
def qT_5 : Nat → FieldType := fun k => match k with
  | 0 => .array .int
  | 1 => .array .int
  | 2 => .boolean
  | _ => .object "ScanBench$Faults"
def qF_6 : u_T := fun k => match k with
  | 0 => ("ScanBench$Notes", "kinds", "[I", true)
  | 1 => ("ScanBench$Notes", "steps", "[I", true)
  | 2 => ("ScanBench$Notes", "places", "[I", true)
  | 3 => ("ScanBench$Notes", "bits", "[I", true)
  | 4 => ("ScanBench$Notes", "toldAt", "[I", true)
  | 5 => ("ScanBench$Notes", "untoldAt", "[I", true)
  | 6 => ("ScanBench$Notes", "count", "I", false)
  | _ => ("ScanBench$Notes", "bestLeft", "I", false)
def qT_6 : Nat → FieldType := fun k => match k with
  | 0 => .array .int
  | 1 => .array .int
  | 2 => .array .int
  | 3 => .array .int
  | 4 => .array .int
  | 5 => .array .int
  | 6 => .int
  | _ => .int
def qF_7 : u_T := fun k => match k with
  | 0 => ("ScanBench$Past", "rows", "[I", true)
  | 1 => ("ScanBench$Past", "oldest", "I", false)
  | 2 => ("ScanBench$Past", "done", "I", false)
  | 3 => ("ScanBench$Past", "kept", "I", false)
  | 4 => ("ScanBench$Past", "boxes", "[I", true)
  | _ => ("ScanBench$Past", "filled", "[Z", true)
def qT_7 : Nat → FieldType := fun k => match k with
  | 0 => .array .int
  | 1 => .int
  | 2 => .int
  | 3 => .int
  | 4 => .array .int
  | _ => .array .boolean
def qF_8 : u_T := fun k => match k with
  | 0 => ("ScanBench$Reader", "keys", "[J", true)
  | 1 => ("ScanBench$Reader", "text", "[B", false)
  | 2 => ("ScanBench$Reader", "length", "I", false)
  | 3 => ("ScanBench$Reader", "ahead", "I", false)
  | 4 => ("ScanBench$Reader", "start", "I", false)
  | 5 => ("ScanBench$Reader", "sort", "I", false)
  | 6 => ("ScanBench$Reader", "value", "I", false)
  | 7 => ("ScanBench$Reader", "word", "J", false)
  | 8 => ("ScanBench$Reader", "board", "LScanBench$Board;", false)
  | 9 => ("ScanBench$Reader", "floatsTold", "Z", false)
  | 10 => ("ScanBench$Reader", "noiseTold", "Z", false)
  | 11 => ("ScanBench$Reader", "drawTold", "Z", false)
  | 12 => ("ScanBench$Reader", "fault", "I", false)
  | _ => ("ScanBench$Reader", "place", "I", false)
def qT_8 : Nat → FieldType := fun k => match k with
  | 0 => .array .long
  | 1 => .array .byte
  | 2 => .int
  | 3 => .int
  | 4 => .int
  | 5 => .int
  | 6 => .int
  | 7 => .long
  | 8 => .object "ScanBench$Board"
  | 9 => .boolean
  | 10 => .boolean
  | 11 => .boolean
  | 12 => .int
  | _ => .int
def qF_9 : u_T := fun k => match k with
  | 0 => ("ScanBench$Ways", "far", "[I", true)
  | _ => ("ScanBench$Ways", "count", "[I", true)
def qT_9 : Nat → FieldType := fun k => match k with
  | 0 => .array .int
  | _ => .array .int
def qF_10 : u_T := fun k => match k with
  | 0 => ("ScanBench", "tape", "[B", true)
  | 1 => ("ScanBench", "taped", "I", false)
  | 2 => ("ScanBench", "now", "LScanBench$Board;", false)
  | 3 => ("ScanBench", "spare", "LScanBench$Board;", false)
  | 4 => ("ScanBench", "reader", "LScanBench$Reader;", true)
  | 5 => ("ScanBench", "ways", "LScanBench$Ways;", true)
  | 6 => ("ScanBench", "chain", "LScanBench$Chain;", true)
  | 7 => ("ScanBench", "past", "LScanBench$Past;", true)
  | 8 => ("ScanBench", "judge", "LScanBench$Judge;", true)
  | 9 => ("ScanBench", "lab", "LScanBench$Lab;", true)
  | 10 => ("ScanBench", "notes", "LScanBench$Notes;", true)
  | 11 => ("ScanBench", "lying", "[I", true)
  | 12 => ("ScanBench", "lyingCount", "I", false)
  | 13 => ("ScanBench", "latestFault", "I", false)
  | 14 => ("ScanBench", "latestPlace", "I", false)
  | _ => ("ScanBench", "time", "I", false)
def qT_10 : Nat → FieldType := fun k => match k with
  | 0 => .array .byte
  | 1 => .int
  | 2 => .object "ScanBench$Board"
  | 3 => .object "ScanBench$Board"
  | 4 => .object "ScanBench$Reader"
  | 5 => .object "ScanBench$Ways"
  | 6 => .object "ScanBench$Chain"
  | 7 => .object "ScanBench$Past"
  | 8 => .object "ScanBench$Judge"
  | 9 => .object "ScanBench$Lab"
  | 10 => .object "ScanBench$Notes"
  | 11 => .array .int
  | 12 => .int
  | 13 => .int
  | 14 => .int
  | _ => .int
def qF_11 : u_T := fun k => match k with
  | 0 => ("ScanBenchModel", "tape", "[I", true)
  | 1 => ("ScanBenchModel", "taped", "I", false)
  | 2 => ("ScanBenchModel", "fault", "I", false)
  | 3 => ("ScanBenchModel", "faultPlace", "I", false)
  | 4 => ("ScanBenchModel", "at", "I", false)
  | 5 => ("ScanBenchModel", "size", "I", false)
  | 6 => ("ScanBenchModel", "sort", "I", false)
  | 7 => ("ScanBenchModel", "place", "I", false)
  | 8 => ("ScanBenchModel", "number", "I", false)
  | 9 => ("ScanBenchModel", "word", "J", false)
  | 10 => ("ScanBenchModel", "nName", "[J", true)
  | 11 => ("ScanBenchModel", "nStep", "[I", true)
  | 12 => ("ScanBenchModel", "nArg", "[I", true)
  | 13 => ("ScanBenchModel", "step", "[I", true)
  | 14 => ("ScanBenchModel", "arg", "[I", true)
  | 15 => ("ScanBenchModel", "open", "[I", true)
  | 16 => ("ScanBenchModel", "values", "[I", true)
  | 17 => ("ScanBenchModel", "nMany", "I", false)
  | 18 => ("ScanBenchModel", "formSteps", "I", false)
  | 19 => ("ScanBenchModel", "opens", "I", false)
  | 20 => ("ScanBenchModel", "nUnits", "I", false)
  | 21 => ("ScanBenchModel", "units", "I", false)
  | 22 => ("ScanBenchModel", "ownUnits", "I", false)
  | 23 => ("ScanBenchModel", "deep", "I", false)
  | 24 => ("ScanBenchModel", "nHasForm", "Z", false)
  | 25 => ("ScanBenchModel", "hasForm", "Z", false)
  | 26 => ("ScanBenchModel", "asks", "[I", true)
  | 27 => ("ScanBenchModel", "openReads", "I", false)
  | 28 => ("ScanBenchModel", "nIr", "[I", true)
  | 29 => ("ScanBenchModel", "nId", "[I", true)
  | 30 => ("ScanBenchModel", "nCells", "[I", true)
  | 31 => ("ScanBenchModel", "nNetOf", "[I", true)
  | 32 => ("ScanBenchModel", "nReceives", "[I", true)
  | 33 => ("ScanBenchModel", "nSafe", "[I", true)
  | 34 => ("ScanBenchModel", "nStuck", "[I", true)
  | 35 => ("ScanBenchModel", "nOpen", "[I", true)
  | 36 => ("ScanBenchModel", "nShort", "[I", true)
  | 37 => ("ScanBenchModel", "ir", "[I", true)
  | 38 => ("ScanBenchModel", "id", "[I", true)
  | 39 => ("ScanBenchModel", "cells", "[I", true)
  | 40 => ("ScanBenchModel", "netOf", "[I", true)
  | 41 => ("ScanBenchModel", "receives", "[I", true)
  | 42 => ("ScanBenchModel", "safe", "[I", true)
  | 43 => ("ScanBenchModel", "toldStuck", "[I", true)
  | 44 => ("ScanBenchModel", "toldOpen", "[I", true)
  | 45 => ("ScanBenchModel", "toldShort", "[I", true)
  | 46 => ("ScanBenchModel", "nDevices", "I", false)
  | 47 => ("ScanBenchModel", "nNets", "I", false)
  | 48 => ("ScanBenchModel", "nNoise", "I", false)
  | 49 => ("ScanBenchModel", "nDraw", "I", false)
  | 50 => ("ScanBenchModel", "devices", "I", false)
  | 51 => ("ScanBenchModel", "nets", "I", false)
  | 52 => ("ScanBenchModel", "noise", "I", false)
  | 53 => ("ScanBenchModel", "draw", "I", false)
  | 54 => ("ScanBenchModel", "nHasNoise", "Z", false)
  | 55 => ("ScanBenchModel", "nHasDraw", "Z", false)
  | 56 => ("ScanBenchModel", "receiver", "[I", true)
  | 57 => ("ScanBenchModel", "receiverMany", "I", false)
  | 58 => ("ScanBenchModel", "now", "[I", true)
  | 59 => ("ScanBenchModel", "air", "[I", true)
  | 60 => ("ScanBenchModel", "farTo", "[I", true)
  | 61 => ("ScanBenchModel", "lies", "[I", true)
  | 62 => ("ScanBenchModel", "lain", "I", false)
  | 63 => ("ScanBenchModel", "ways", "[I", true)
  | 64 => ("ScanBenchModel", "waysThen", "[I", true)
  | 65 => ("ScanBenchModel", "drive", "[I", true)
  | 66 => ("ScanBenchModel", "level", "[I", true)
  | 67 => ("ScanBenchModel", "were", "[I", true)
  | 68 => ("ScanBenchModel", "acts", "I", false)
  | 69 => ("ScanBenchModel", "undone", "I", false)
  | 70 => ("ScanBenchModel", "answers", "[I", true)
  | 71 => ("ScanBenchModel", "wants", "[I", true)
  | 72 => ("ScanBenchModel", "table", "[I", true)
  | 73 => ("ScanBenchModel", "sightKind", "[I", true)
  | 74 => ("ScanBenchModel", "sightStep", "[I", true)
  | 75 => ("ScanBenchModel", "sightPlace", "[I", true)
  | 76 => ("ScanBenchModel", "sightTold", "[I", true)
  | 77 => ("ScanBenchModel", "sightUntold", "[I", true)
  | 78 => ("ScanBenchModel", "sightIs", "[Z", true)
  | 79 => ("ScanBenchModel", "sights", "I", false)
  | 80 => ("ScanBenchModel", "time", "I", false)
  | 81 => ("ScanBenchModel", "isFit", "[Z", true)
  | 82 => ("ScanBenchModel", "hasBox", "[Z", true)
  | _ => ("ScanBenchModel", "boxes", "[I", true)
def qT_11 : Nat → FieldType := fun k => match k with
  | 0 => .array .int
  | 1 => .int
  | 2 => .int
  | 3 => .int
  | 4 => .int
  | 5 => .int
  | 6 => .int
  | 7 => .int
  | 8 => .int
  | 9 => .long
  | 10 => .array .long
  | 11 => .array .int
  | 12 => .array .int
  | 13 => .array .int
  | 14 => .array .int
  | 15 => .array .int
  | 16 => .array .int
  | 17 => .int
  | 18 => .int
  | 19 => .int
  | 20 => .int
  | 21 => .int
  | 22 => .int
  | 23 => .int
  | 24 => .boolean
  | 25 => .boolean
  | 26 => .array .int
  | 27 => .int
  | 28 => .array .int
  | 29 => .array .int
  | 30 => .array .int
  | 31 => .array .int
  | 32 => .array .int
  | 33 => .array .int
  | 34 => .array .int
  | 35 => .array .int
  | 36 => .array .int
  | 37 => .array .int
  | 38 => .array .int
  | 39 => .array .int
  | 40 => .array .int
  | 41 => .array .int
  | 42 => .array .int
  | 43 => .array .int
  | 44 => .array .int
  | 45 => .array .int
  | 46 => .int
  | 47 => .int
  | 48 => .int
  | 49 => .int
  | 50 => .int
  | 51 => .int
  | 52 => .int
  | 53 => .int
  | 54 => .boolean
  | 55 => .boolean
  | 56 => .array .int
  | 57 => .int
  | 58 => .array .int
  | 59 => .array .int
  | 60 => .array .int
  | 61 => .array .int
  | 62 => .int
  | 63 => .array .int
  | 64 => .array .int
  | 65 => .array .int
  | 66 => .array .int
  | 67 => .array .int
  | 68 => .int
  | 69 => .int
  | 70 => .array .int
  | 71 => .array .int
  | 72 => .array .int
  | 73 => .array .int
  | 74 => .array .int
  | 75 => .array .int
  | 76 => .array .int
  | 77 => .array .int
  | 78 => .array .boolean
  | 79 => .int
  | 80 => .int
  | 81 => .array .boolean
  | 82 => .array .boolean
  | _ => .array .int
def q_cl : List vw_C := [("ScanBench$Board", qF_0, 16), ("ScanBench$Chain", qF_1, 9), ("ScanBench$Faults", qF_2, 5), ("ScanBench$Formula", qF_3, 4), ("ScanBench$Judge", qF_4, 6), ("ScanBench$Lab", qF_5, 4), ("ScanBench$Notes", qF_6, 8), ("ScanBench$Past", qF_7, 6), ("ScanBench$Reader", qF_8, 14), ("ScanBench$Ways", qF_9, 2), ("ScanBench", qF_10, 16), ("ScanBenchModel", qF_11, 84)]
def q_tyf (c : Nat) : Nat → FieldType := match c with
  | 0 => qT_0
  | 1 => qT_1
  | 2 => qT_2
  | 3 => qT_3
  | 4 => qT_4
  | 5 => qT_5
  | 6 => qT_6
  | 7 => qT_7
  | 8 => qT_8
  | 9 => qT_9
  | 10 => qT_10
  | _ => qT_11
def q_tags : List (List Nat) := [[0, 2, 2, 2, 2, 0, 2, 2, 2, 2, 2, 0, 2, 2, 0, 0], [0, 0, 0, 2, 2, 2, 2, 2, 2], [0, 0, 0, 0, 0], [2, 2, 0, 0], [2, 2, 0, 0, 2, 0], [2, 2, 3, 2], [2, 2, 2, 2, 2, 2, 0, 0], [2, 0, 0, 0, 2, 2], [2, 2, 0, 0, 0, 0, 0, 1, 2, 3, 3, 3, 0, 0], [2, 2], [2, 0, 2, 2, 2, 2, 2, 2, 2, 2, 2, 2, 0, 0, 0, 0], [2, 0, 0, 0, 0, 0, 0, 0, 0, 1, 2, 2, 2, 2, 2, 2, 2, 0, 0, 0, 0, 0, 0, 0, 3, 3, 2, 0, 2, 2, 2, 2, 2, 2, 2, 2, 2, 2, 2, 2, 2, 2, 2, 2, 2, 2, 0, 0, 0, 0, 0, 0, 0, 0, 3, 3, 2, 0, 2, 2, 2, 2, 0, 2, 2, 2, 2, 2, 0, 0, 2, 2, 2, 2, 2, 2, 2, 2, 2, 0, 0, 2, 2, 2]]
theorem qI_0 : ∀ w ∈ u_ws "ScanBench$Board" qF_0 16, w ∈ tb := by
  intro w hw
  have h : (u_ws "ScanBench$Board" qF_0 16).map some = [319, 321, 323, 325, 327, 329, 331, 333, 335, 337, 339, 341, 343, 345, 347, 349].map (fun i => lw_tbl[i]?) := by decide +kernel
  have hg : (u_ws "ScanBench$Board" qF_0 16).all goodWord = true := by decide +kernel
  have h1 : some w ∈ (u_ws "ScanBench$Board" qF_0 16).map some := List.mem_map_of_mem hw
  rw [h] at h1
  obtain ⟨i, -, hi⟩ := List.mem_map.mp h1
  exact tb_mem i hi (List.all_eq_true.mp hg w hw)
theorem qI_1 : ∀ w ∈ u_ws "ScanBench$Chain" qF_1 9, w ∈ tb := by
  intro w hw
  have h : (u_ws "ScanBench$Chain" qF_1 9).map some = [490, 492, 494, 496, 498, 500, 502, 504, 506].map (fun i => lw_tbl[i]?) := by decide +kernel
  have hg : (u_ws "ScanBench$Chain" qF_1 9).all goodWord = true := by decide +kernel
  have h1 : some w ∈ (u_ws "ScanBench$Chain" qF_1 9).map some := List.mem_map_of_mem hw
  rw [h] at h1
  obtain ⟨i, -, hi⟩ := List.mem_map.mp h1
  exact tb_mem i hi (List.all_eq_true.mp hg w hw)
theorem qI_2 : ∀ w ∈ u_ws "ScanBench$Faults" qF_2 5, w ∈ tb := by
  intro w hw
  have h : (u_ws "ScanBench$Faults" qF_2 5).map some = [224, 226, 228, 230, 232].map (fun i => lw_tbl[i]?) := by decide +kernel
  have hg : (u_ws "ScanBench$Faults" qF_2 5).all goodWord = true := by decide +kernel
  have h1 : some w ∈ (u_ws "ScanBench$Faults" qF_2 5).map some := List.mem_map_of_mem hw
  rw [h] at h1
  obtain ⟨i, -, hi⟩ := List.mem_map.mp h1
  exact tb_mem i hi (List.all_eq_true.mp hg w hw)
theorem qI_3 : ∀ w ∈ u_ws "ScanBench$Formula" qF_3 4, w ∈ tb := by
  intro w hw
  have h : (u_ws "ScanBench$Formula" qF_3 4).map some = [250, 252, 254, 256].map (fun i => lw_tbl[i]?) := by decide +kernel
  have hg : (u_ws "ScanBench$Formula" qF_3 4).all goodWord = true := by decide +kernel
  have h1 : some w ∈ (u_ws "ScanBench$Formula" qF_3 4).map some := List.mem_map_of_mem hw
  rw [h] at h1
  obtain ⟨i, -, hi⟩ := List.mem_map.mp h1
  exact tb_mem i hi (List.all_eq_true.mp hg w hw)
theorem qI_4 : ∀ w ∈ u_ws "ScanBench$Judge" qF_4 6, w ∈ tb := by
  intro w hw
  have h : (u_ws "ScanBench$Judge" qF_4 6).map some = [550, 552, 554, 556, 558, 560].map (fun i => lw_tbl[i]?) := by decide +kernel
  have hg : (u_ws "ScanBench$Judge" qF_4 6).all goodWord = true := by decide +kernel
  have h1 : some w ∈ (u_ws "ScanBench$Judge" qF_4 6).map some := List.mem_map_of_mem hw
  rw [h] at h1
  obtain ⟨i, -, hi⟩ := List.mem_map.mp h1
  exact tb_mem i hi (List.all_eq_true.mp hg w hw)
theorem qI_5 : ∀ w ∈ u_ws "ScanBench$Lab" qF_5 4, w ∈ tb := by
  intro w hw
  have h : (u_ws "ScanBench$Lab" qF_5 4).map some = [575, 577, 579, 581].map (fun i => lw_tbl[i]?) := by decide +kernel
  have hg : (u_ws "ScanBench$Lab" qF_5 4).all goodWord = true := by decide +kernel
  have h1 : some w ∈ (u_ws "ScanBench$Lab" qF_5 4).map some := List.mem_map_of_mem hw
  rw [h] at h1
  obtain ⟨i, -, hi⟩ := List.mem_map.mp h1
  exact tb_mem i hi (List.all_eq_true.mp hg w hw)
theorem qI_6 : ∀ w ∈ u_ws "ScanBench$Notes" qF_6 8, w ∈ tb := by
  intro w hw
  have h : (u_ws "ScanBench$Notes" qF_6 8).map some = [600, 602, 604, 606, 608, 610, 612, 614].map (fun i => lw_tbl[i]?) := by decide +kernel
  have hg : (u_ws "ScanBench$Notes" qF_6 8).all goodWord = true := by decide +kernel
  have h1 : some w ∈ (u_ws "ScanBench$Notes" qF_6 8).map some := List.mem_map_of_mem hw
  rw [h] at h1
  obtain ⟨i, -, hi⟩ := List.mem_map.mp h1
  exact tb_mem i hi (List.all_eq_true.mp hg w hw)
theorem qI_7 : ∀ w ∈ u_ws "ScanBench$Past" qF_7 6, w ∈ tb := by
  intro w hw
  have h : (u_ws "ScanBench$Past" qF_7 6).map some = [521, 523, 525, 527, 529, 531].map (fun i => lw_tbl[i]?) := by decide +kernel
  have hg : (u_ws "ScanBench$Past" qF_7 6).all goodWord = true := by decide +kernel
  have h1 : some w ∈ (u_ws "ScanBench$Past" qF_7 6).map some := List.mem_map_of_mem hw
  rw [h] at h1
  obtain ⟨i, -, hi⟩ := List.mem_map.mp h1
  exact tb_mem i hi (List.all_eq_true.mp hg w hw)
theorem qI_8 : ∀ w ∈ u_ws "ScanBench$Reader" qF_8 14, w ∈ tb := by
  intro w hw
  have h : (u_ws "ScanBench$Reader" qF_8 14).map some = [423, 425, 427, 429, 431, 433, 435, 437, 439, 441, 443, 445, 447, 449].map (fun i => lw_tbl[i]?) := by decide +kernel
  have hg : (u_ws "ScanBench$Reader" qF_8 14).all goodWord = true := by decide +kernel
  have h1 : some w ∈ (u_ws "ScanBench$Reader" qF_8 14).map some := List.mem_map_of_mem hw
  rw [h] at h1
  obtain ⟨i, -, hi⟩ := List.mem_map.mp h1
  exact tb_mem i hi (List.all_eq_true.mp hg w hw)
theorem qI_9 : ∀ w ∈ u_ws "ScanBench$Ways" qF_9 2, w ∈ tb := by
  intro w hw
  have h : (u_ws "ScanBench$Ways" qF_9 2).map some = [460, 462].map (fun i => lw_tbl[i]?) := by decide +kernel
  have hg : (u_ws "ScanBench$Ways" qF_9 2).all goodWord = true := by decide +kernel
  have h1 : some w ∈ (u_ws "ScanBench$Ways" qF_9 2).map some := List.mem_map_of_mem hw
  rw [h] at h1
  obtain ⟨i, -, hi⟩ := List.mem_map.mp h1
  exact tb_mem i hi (List.all_eq_true.mp hg w hw)
theorem qI_10 : ∀ w ∈ u_ws "ScanBench" qF_10 16, w ∈ tb := by
  intro w hw
  have h : (u_ws "ScanBench" qF_10 16).map some = [652, 654, 656, 658, 660, 662, 664, 666, 668, 670, 672, 674, 676, 678, 680, 682].map (fun i => lw_tbl[i]?) := by decide +kernel
  have hg : (u_ws "ScanBench" qF_10 16).all goodWord = true := by decide +kernel
  have h1 : some w ∈ (u_ws "ScanBench" qF_10 16).map some := List.mem_map_of_mem hw
  rw [h] at h1
  obtain ⟨i, -, hi⟩ := List.mem_map.mp h1
  exact tb_mem i hi (List.all_eq_true.mp hg w hw)
theorem qI_11 : ∀ w ∈ u_ws "ScanBenchModel" qF_11 84, w ∈ tb := by
  intro w hw
  have h : (u_ws "ScanBenchModel" qF_11 84).map some = [1672, 1674, 1676, 1678, 1680, 1682, 1684, 1686, 1688, 1690, 1692, 1694, 1696, 1698, 1700, 1702, 1704, 1706, 1708, 1710, 1712, 1714, 1716, 1718, 1720, 1722, 1724, 1726, 1728, 1730, 1732, 1734, 1736, 1738, 1740, 1742, 1744, 1746, 1748, 1750, 1752, 1754, 1756, 1758, 1760, 1762, 1764, 1766, 1768, 1770, 1772, 1774, 1776, 1778, 1780, 1782, 1784, 1786, 1788, 1790, 1792, 1794, 1796, 1798, 1800, 1802, 1804, 1806, 1808, 1810, 1812, 1814, 1816, 1818, 1820, 1822, 1824, 1826, 1828, 1830, 1832, 1834, 1836, 1838].map (fun i => lw_tbl[i]?) := by decide +kernel
  have hg : (u_ws "ScanBenchModel" qF_11 84).all goodWord = true := by decide +kernel
  have h1 : some w ∈ (u_ws "ScanBenchModel" qF_11 84).map some := List.mem_map_of_mem hw
  rw [h] at h1
  obtain ⟨i, -, hi⟩ := List.mem_map.mp h1
  exact tb_mem i hi (List.all_eq_true.mp hg w hw)
theorem q_cl_ty : ∀ (c : Nat) (q : vw_C), q_cl[c]? = some q → ∀ k, k < q.2.2 → parseFieldDescriptor (q.2.1 k).2.2.1 = some (q_tyf c k) := by
  intro c q h
  match c, h with
  | 0, h => cases h; exact (by decide +kernel : ∀ k, k < 16 → parseFieldDescriptor (qF_0 k).2.2.1 = some (qT_0 k))
  | 1, h => cases h; exact (by decide +kernel : ∀ k, k < 9 → parseFieldDescriptor (qF_1 k).2.2.1 = some (qT_1 k))
  | 2, h => cases h; exact (by decide +kernel : ∀ k, k < 5 → parseFieldDescriptor (qF_2 k).2.2.1 = some (qT_2 k))
  | 3, h => cases h; exact (by decide +kernel : ∀ k, k < 4 → parseFieldDescriptor (qF_3 k).2.2.1 = some (qT_3 k))
  | 4, h => cases h; exact (by decide +kernel : ∀ k, k < 6 → parseFieldDescriptor (qF_4 k).2.2.1 = some (qT_4 k))
  | 5, h => cases h; exact (by decide +kernel : ∀ k, k < 4 → parseFieldDescriptor (qF_5 k).2.2.1 = some (qT_5 k))
  | 6, h => cases h; exact (by decide +kernel : ∀ k, k < 8 → parseFieldDescriptor (qF_6 k).2.2.1 = some (qT_6 k))
  | 7, h => cases h; exact (by decide +kernel : ∀ k, k < 6 → parseFieldDescriptor (qF_7 k).2.2.1 = some (qT_7 k))
  | 8, h => cases h; exact (by decide +kernel : ∀ k, k < 14 → parseFieldDescriptor (qF_8 k).2.2.1 = some (qT_8 k))
  | 9, h => cases h; exact (by decide +kernel : ∀ k, k < 2 → parseFieldDescriptor (qF_9 k).2.2.1 = some (qT_9 k))
  | 10, h => cases h; exact (by decide +kernel : ∀ k, k < 16 → parseFieldDescriptor (qF_10 k).2.2.1 = some (qT_10 k))
  | 11, h => cases h; exact (by decide +kernel : ∀ k, k < 84 → parseFieldDescriptor (qF_11 k).2.2.1 = some (qT_11 k))
  | c + 12, h => simp [q_cl] at h
theorem q_cl_nm : ∀ (c : Nat) (q : vw_C), q_cl[c]? = some q → ∀ a, a < q.2.2 → ∀ b, b < q.2.2 → a ≠ b → (q.2.1 a).2.1 ≠ (q.2.1 b).2.1 := by
  intro c q h
  match c, h with
  | 0, h => cases h; exact (by decide +kernel : ∀ a, a < 16 → ∀ b, b < 16 → a ≠ b → (qF_0 a).2.1 ≠ (qF_0 b).2.1)
  | 1, h => cases h; exact (by decide +kernel : ∀ a, a < 9 → ∀ b, b < 9 → a ≠ b → (qF_1 a).2.1 ≠ (qF_1 b).2.1)
  | 2, h => cases h; exact (by decide +kernel : ∀ a, a < 5 → ∀ b, b < 5 → a ≠ b → (qF_2 a).2.1 ≠ (qF_2 b).2.1)
  | 3, h => cases h; exact (by decide +kernel : ∀ a, a < 4 → ∀ b, b < 4 → a ≠ b → (qF_3 a).2.1 ≠ (qF_3 b).2.1)
  | 4, h => cases h; exact (by decide +kernel : ∀ a, a < 6 → ∀ b, b < 6 → a ≠ b → (qF_4 a).2.1 ≠ (qF_4 b).2.1)
  | 5, h => cases h; exact (by decide +kernel : ∀ a, a < 4 → ∀ b, b < 4 → a ≠ b → (qF_5 a).2.1 ≠ (qF_5 b).2.1)
  | 6, h => cases h; exact (by decide +kernel : ∀ a, a < 8 → ∀ b, b < 8 → a ≠ b → (qF_6 a).2.1 ≠ (qF_6 b).2.1)
  | 7, h => cases h; exact (by decide +kernel : ∀ a, a < 6 → ∀ b, b < 6 → a ≠ b → (qF_7 a).2.1 ≠ (qF_7 b).2.1)
  | 8, h => cases h; exact (by decide +kernel : ∀ a, a < 14 → ∀ b, b < 14 → a ≠ b → (qF_8 a).2.1 ≠ (qF_8 b).2.1)
  | 9, h => cases h; exact (by decide +kernel : ∀ a, a < 2 → ∀ b, b < 2 → a ≠ b → (qF_9 a).2.1 ≠ (qF_9 b).2.1)
  | 10, h => cases h; exact (by decide +kernel : ∀ a, a < 16 → ∀ b, b < 16 → a ≠ b → (qF_10 a).2.1 ≠ (qF_10 b).2.1)
  | 11, h => cases h; exact (by decide +kernel : ∀ a, a < 84 → ∀ b, b < 84 → a ≠ b → (qF_11 a).2.1 ≠ (qF_11 b).2.1)
  | c + 12, h => simp [q_cl] at h
theorem q_cl_in : ∀ (c : Nat) (q : vw_C), q_cl[c]? = some q → ∀ w ∈ u_ws q.1 q.2.1 q.2.2, w ∈ tb := by
  intro c q h
  match c, h with
  | 0, h => cases h; exact qI_0
  | 1, h => cases h; exact qI_1
  | 2, h => cases h; exact qI_2
  | 3, h => cases h; exact qI_3
  | 4, h => cases h; exact qI_4
  | 5, h => cases h; exact qI_5
  | 6, h => cases h; exact qI_6
  | 7, h => cases h; exact qI_7
  | 8, h => cases h; exact qI_8
  | 9, h => cases h; exact qI_9
  | 10, h => cases h; exact qI_10
  | 11, h => cases h; exact qI_11
  | c + 12, h => simp [q_cl] at h
/-- tags and types agree -/
theorem q_cl_tag : ∀ (c : Nat) (q : vw_C), q_cl[c]? = some q → ∀ k, k < q.2.2 → (match (q_tags.getD c []).getD k 0 with | 0 => q_tyf c k = .int | 1 => q_tyf c k = .long | 3 => q_tyf c k = .boolean | 2 => (∃ n, q_tyf c k = .object n) ∨ (∃ t, q_tyf c k = .array t) | _ => False) := by
  intro c q h
  match c, h with
  | 0, h => cases h; intro k hk; match k, hk with
    | 0, _ => exact rfl
    | 1, _ => exact Or.inr ⟨_, rfl⟩
    | 2, _ => exact Or.inr ⟨_, rfl⟩
    | 3, _ => exact Or.inr ⟨_, rfl⟩
    | 4, _ => exact Or.inr ⟨_, rfl⟩
    | 5, _ => exact rfl
    | 6, _ => exact Or.inr ⟨_, rfl⟩
    | 7, _ => exact Or.inr ⟨_, rfl⟩
    | 8, _ => exact Or.inr ⟨_, rfl⟩
    | 9, _ => exact Or.inr ⟨_, rfl⟩
    | 10, _ => exact Or.inr ⟨_, rfl⟩
    | 11, _ => exact rfl
    | 12, _ => exact Or.inl ⟨_, rfl⟩
    | 13, _ => exact Or.inl ⟨_, rfl⟩
    | 14, _ => exact rfl
    | 15, _ => exact rfl
    | k + 16, hk => exact absurd hk (Nat.not_lt.mpr (Nat.le_add_left _ _))
  | 1, h => cases h; intro k hk; match k, hk with
    | 0, _ => exact rfl
    | 1, _ => exact rfl
    | 2, _ => exact rfl
    | 3, _ => exact Or.inr ⟨_, rfl⟩
    | 4, _ => exact Or.inr ⟨_, rfl⟩
    | 5, _ => exact Or.inr ⟨_, rfl⟩
    | 6, _ => exact Or.inr ⟨_, rfl⟩
    | 7, _ => exact Or.inl ⟨_, rfl⟩
    | 8, _ => exact Or.inr ⟨_, rfl⟩
    | k + 9, hk => exact absurd hk (Nat.not_lt.mpr (Nat.le_add_left _ _))
  | 2, h => cases h; intro k hk; match k, hk with
    | 0, _ => exact rfl
    | 1, _ => exact rfl
    | 2, _ => exact rfl
    | 3, _ => exact rfl
    | 4, _ => exact rfl
    | k + 5, hk => exact absurd hk (Nat.not_lt.mpr (Nat.le_add_left _ _))
  | 3, h => cases h; intro k hk; match k, hk with
    | 0, _ => exact Or.inr ⟨_, rfl⟩
    | 1, _ => exact Or.inr ⟨_, rfl⟩
    | 2, _ => exact rfl
    | 3, _ => exact rfl
    | k + 4, hk => exact absurd hk (Nat.not_lt.mpr (Nat.le_add_left _ _))
  | 4, h => cases h; intro k hk; match k, hk with
    | 0, _ => exact Or.inr ⟨_, rfl⟩
    | 1, _ => exact Or.inr ⟨_, rfl⟩
    | 2, _ => exact rfl
    | 3, _ => exact rfl
    | 4, _ => exact Or.inl ⟨_, rfl⟩
    | 5, _ => exact rfl
    | k + 6, hk => exact absurd hk (Nat.not_lt.mpr (Nat.le_add_left _ _))
  | 5, h => cases h; intro k hk; match k, hk with
    | 0, _ => exact Or.inr ⟨_, rfl⟩
    | 1, _ => exact Or.inr ⟨_, rfl⟩
    | 2, _ => exact rfl
    | 3, _ => exact Or.inl ⟨_, rfl⟩
    | k + 4, hk => exact absurd hk (Nat.not_lt.mpr (Nat.le_add_left _ _))
  | 6, h => cases h; intro k hk; match k, hk with
    | 0, _ => exact Or.inr ⟨_, rfl⟩
    | 1, _ => exact Or.inr ⟨_, rfl⟩
    | 2, _ => exact Or.inr ⟨_, rfl⟩
    | 3, _ => exact Or.inr ⟨_, rfl⟩
    | 4, _ => exact Or.inr ⟨_, rfl⟩
    | 5, _ => exact Or.inr ⟨_, rfl⟩
    | 6, _ => exact rfl
    | 7, _ => exact rfl
    | k + 8, hk => exact absurd hk (Nat.not_lt.mpr (Nat.le_add_left _ _))
  | 7, h => cases h; intro k hk; match k, hk with
    | 0, _ => exact Or.inr ⟨_, rfl⟩
    | 1, _ => exact rfl
    | 2, _ => exact rfl
    | 3, _ => exact rfl
    | 4, _ => exact Or.inr ⟨_, rfl⟩
    | 5, _ => exact Or.inr ⟨_, rfl⟩
    | k + 6, hk => exact absurd hk (Nat.not_lt.mpr (Nat.le_add_left _ _))
  | 8, h => cases h; intro k hk; match k, hk with
    | 0, _ => exact Or.inr ⟨_, rfl⟩
    | 1, _ => exact Or.inr ⟨_, rfl⟩
    | 2, _ => exact rfl
    | 3, _ => exact rfl
    | 4, _ => exact rfl
    | 5, _ => exact rfl
    | 6, _ => exact rfl
    | 7, _ => exact rfl
    | 8, _ => exact Or.inl ⟨_, rfl⟩
    | 9, _ => exact rfl
    | 10, _ => exact rfl
    | 11, _ => exact rfl
    | 12, _ => exact rfl
    | 13, _ => exact rfl
    | k + 14, hk => exact absurd hk (Nat.not_lt.mpr (Nat.le_add_left _ _))
  | 9, h => cases h; intro k hk; match k, hk with
    | 0, _ => exact Or.inr ⟨_, rfl⟩
    | 1, _ => exact Or.inr ⟨_, rfl⟩
    | k + 2, hk => exact absurd hk (Nat.not_lt.mpr (Nat.le_add_left _ _))
  | 10, h => cases h; intro k hk; match k, hk with
    | 0, _ => exact Or.inr ⟨_, rfl⟩
    | 1, _ => exact rfl
    | 2, _ => exact Or.inl ⟨_, rfl⟩
    | 3, _ => exact Or.inl ⟨_, rfl⟩
    | 4, _ => exact Or.inl ⟨_, rfl⟩
    | 5, _ => exact Or.inl ⟨_, rfl⟩
    | 6, _ => exact Or.inl ⟨_, rfl⟩
    | 7, _ => exact Or.inl ⟨_, rfl⟩
    | 8, _ => exact Or.inl ⟨_, rfl⟩
    | 9, _ => exact Or.inl ⟨_, rfl⟩
    | 10, _ => exact Or.inl ⟨_, rfl⟩
    | 11, _ => exact Or.inr ⟨_, rfl⟩
    | 12, _ => exact rfl
    | 13, _ => exact rfl
    | 14, _ => exact rfl
    | 15, _ => exact rfl
    | k + 16, hk => exact absurd hk (Nat.not_lt.mpr (Nat.le_add_left _ _))
  | 11, h => cases h; intro k hk; match k, hk with
    | 0, _ => exact Or.inr ⟨_, rfl⟩
    | 1, _ => exact rfl
    | 2, _ => exact rfl
    | 3, _ => exact rfl
    | 4, _ => exact rfl
    | 5, _ => exact rfl
    | 6, _ => exact rfl
    | 7, _ => exact rfl
    | 8, _ => exact rfl
    | 9, _ => exact rfl
    | 10, _ => exact Or.inr ⟨_, rfl⟩
    | 11, _ => exact Or.inr ⟨_, rfl⟩
    | 12, _ => exact Or.inr ⟨_, rfl⟩
    | 13, _ => exact Or.inr ⟨_, rfl⟩
    | 14, _ => exact Or.inr ⟨_, rfl⟩
    | 15, _ => exact Or.inr ⟨_, rfl⟩
    | 16, _ => exact Or.inr ⟨_, rfl⟩
    | 17, _ => exact rfl
    | 18, _ => exact rfl
    | 19, _ => exact rfl
    | 20, _ => exact rfl
    | 21, _ => exact rfl
    | 22, _ => exact rfl
    | 23, _ => exact rfl
    | 24, _ => exact rfl
    | 25, _ => exact rfl
    | 26, _ => exact Or.inr ⟨_, rfl⟩
    | 27, _ => exact rfl
    | 28, _ => exact Or.inr ⟨_, rfl⟩
    | 29, _ => exact Or.inr ⟨_, rfl⟩
    | 30, _ => exact Or.inr ⟨_, rfl⟩
    | 31, _ => exact Or.inr ⟨_, rfl⟩
    | 32, _ => exact Or.inr ⟨_, rfl⟩
    | 33, _ => exact Or.inr ⟨_, rfl⟩
    | 34, _ => exact Or.inr ⟨_, rfl⟩
    | 35, _ => exact Or.inr ⟨_, rfl⟩
    | 36, _ => exact Or.inr ⟨_, rfl⟩
    | 37, _ => exact Or.inr ⟨_, rfl⟩
    | 38, _ => exact Or.inr ⟨_, rfl⟩
    | 39, _ => exact Or.inr ⟨_, rfl⟩
    | 40, _ => exact Or.inr ⟨_, rfl⟩
    | 41, _ => exact Or.inr ⟨_, rfl⟩
    | 42, _ => exact Or.inr ⟨_, rfl⟩
    | 43, _ => exact Or.inr ⟨_, rfl⟩
    | 44, _ => exact Or.inr ⟨_, rfl⟩
    | 45, _ => exact Or.inr ⟨_, rfl⟩
    | 46, _ => exact rfl
    | 47, _ => exact rfl
    | 48, _ => exact rfl
    | 49, _ => exact rfl
    | 50, _ => exact rfl
    | 51, _ => exact rfl
    | 52, _ => exact rfl
    | 53, _ => exact rfl
    | 54, _ => exact rfl
    | 55, _ => exact rfl
    | 56, _ => exact Or.inr ⟨_, rfl⟩
    | 57, _ => exact rfl
    | 58, _ => exact Or.inr ⟨_, rfl⟩
    | 59, _ => exact Or.inr ⟨_, rfl⟩
    | 60, _ => exact Or.inr ⟨_, rfl⟩
    | 61, _ => exact Or.inr ⟨_, rfl⟩
    | 62, _ => exact rfl
    | 63, _ => exact Or.inr ⟨_, rfl⟩
    | 64, _ => exact Or.inr ⟨_, rfl⟩
    | 65, _ => exact Or.inr ⟨_, rfl⟩
    | 66, _ => exact Or.inr ⟨_, rfl⟩
    | 67, _ => exact Or.inr ⟨_, rfl⟩
    | 68, _ => exact rfl
    | 69, _ => exact rfl
    | 70, _ => exact Or.inr ⟨_, rfl⟩
    | 71, _ => exact Or.inr ⟨_, rfl⟩
    | 72, _ => exact Or.inr ⟨_, rfl⟩
    | 73, _ => exact Or.inr ⟨_, rfl⟩
    | 74, _ => exact Or.inr ⟨_, rfl⟩
    | 75, _ => exact Or.inr ⟨_, rfl⟩
    | 76, _ => exact Or.inr ⟨_, rfl⟩
    | 77, _ => exact Or.inr ⟨_, rfl⟩
    | 78, _ => exact Or.inr ⟨_, rfl⟩
    | 79, _ => exact rfl
    | 80, _ => exact rfl
    | 81, _ => exact Or.inr ⟨_, rfl⟩
    | 82, _ => exact Or.inr ⟨_, rfl⟩
    | 83, _ => exact Or.inr ⟨_, rfl⟩
    | k + 84, hk => exact absurd hk (Nat.not_lt.mpr (Nat.le_add_left _ _))
  | c + 12, h => simp [q_cl] at h
