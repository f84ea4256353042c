/-! the constants at the law's entry: their terms, their places among what the Statement gives (wip/whole/gen/c_en.py prints this part) -/
def e_FL0 : List Cond := flatC (Jvm.Cond.and given_1 narrow_1)
def e_tms : List Term := [(Term.static "BiscuitLocks$Command" "DOOR" "LBiscuitLocks$Command;"), (Term.static "BiscuitLocks$Command" "TURN" "LBiscuitLocks$Command;"), (Term.static "BiscuitLocks$Command" "TRY" "LBiscuitLocks$Command;"), (Term.static "BiscuitLocks$Command" "SHUT" "LBiscuitLocks$Command;"), (Term.static "BiscuitLocks$Command" "DAMP" "LBiscuitLocks$Command;"), (Term.static "BiscuitLocks$Command" "BAKE" "LBiscuitLocks$Command;"), (Term.static "BiscuitLocks$Command" "ONE_HOUR" "LBiscuitLocks$Command;"), (Term.static "BiscuitLocks$Command" "HOURS" "LBiscuitLocks$Command;"), (Term.static "BiscuitLocks$Command" "MANY_HOURS" "LBiscuitLocks$Command;"), (Term.static "BiscuitLocks$Command" "SET" "LBiscuitLocks$Command;"), (Term.static "BiscuitLocks$Refusal" "NOTHING" "LBiscuitLocks$Refusal;"), (Term.static "BiscuitLocks$Refusal" "NO_SUCH_INDEX" "LBiscuitLocks$Refusal;"), (Term.static "BiscuitLocks$Refusal" "BAD_ARGUMENT" "LBiscuitLocks$Refusal;"), (Term.static "BiscuitLocks$Refusal" "WRONG_STATE" "LBiscuitLocks$Refusal;"), (Term.static "BiscuitLocks$Refusal" "NOT_SUPPORTED" "LBiscuitLocks$Refusal;"), (Term.static "BiscuitLocks" "COMMANDS" "[LBiscuitLocks$Command;"), (Term.static "BiscuitLocks$1" "$SwitchMap$BiscuitLocks$Command" "[I"), (Term.static "BiscuitLocks$1" "$SwitchMap$BiscuitLocks$Refusal" "[I"), (Term.int 0), (Term.int 0), (Term.string "BiscuitLocks$Command" (58 : Nat)), (Term.string "BiscuitLocks$Command" (64 : Nat)), (Term.string "BiscuitLocks$Command" (67 : Nat)), (Term.string "BiscuitLocks$Command" (70 : Nat)), (Term.string "BiscuitLocks$Command" (73 : Nat)), (Term.string "BiscuitLocks$Command" (76 : Nat)), (Term.string "BiscuitLocks$Command" (79 : Nat)), (Term.string "BiscuitLocks$Command" (82 : Nat)), (Term.string "BiscuitLocks$Command" (85 : Nat)), (Term.string "BiscuitLocks$Command" (88 : Nat)), (Term.field (Term.string "BiscuitLocks$Command" (58 : Nat)) "java/lang/String" "value" "[B"), (Term.field (Term.string "BiscuitLocks$Command" (64 : Nat)) "java/lang/String" "value" "[B"), (Term.field (Term.string "BiscuitLocks$Command" (67 : Nat)) "java/lang/String" "value" "[B"), (Term.field (Term.string "BiscuitLocks$Command" (70 : Nat)) "java/lang/String" "value" "[B"), (Term.field (Term.string "BiscuitLocks$Command" (73 : Nat)) "java/lang/String" "value" "[B"), (Term.field (Term.string "BiscuitLocks$Command" (76 : Nat)) "java/lang/String" "value" "[B"), (Term.field (Term.string "BiscuitLocks$Command" (79 : Nat)) "java/lang/String" "value" "[B"), (Term.field (Term.string "BiscuitLocks$Command" (82 : Nat)) "java/lang/String" "value" "[B"), (Term.field (Term.string "BiscuitLocks$Command" (85 : Nat)) "java/lang/String" "value" "[B"), (Term.field (Term.string "BiscuitLocks$Command" (88 : Nat)) "java/lang/String" "value" "[B"), (Term.string "BiscuitLocksLaw" (140 : Nat)), (Term.string "BiscuitLocksLaw" (149 : Nat)), (Term.string "BiscuitLocksLaw" (151 : Nat)), (Term.string "BiscuitLocksLaw" (157 : Nat)), (Term.string "BiscuitLocksLaw" (159 : Nat)), (Term.string "BiscuitLocksLaw" (161 : Nat)), (Term.string "BiscuitLocksLaw" (163 : Nat)), (Term.string "BiscuitLocksLaw" (165 : Nat)), (Term.string "BiscuitLocksLaw" (167 : Nat)), (Term.string "BiscuitLocksLaw" (169 : Nat)), (Term.field (Term.string "BiscuitLocksLaw" (140 : Nat)) "java/lang/String" "value" "[B"), (Term.field (Term.string "BiscuitLocksLaw" (149 : Nat)) "java/lang/String" "value" "[B"), (Term.field (Term.string "BiscuitLocksLaw" (151 : Nat)) "java/lang/String" "value" "[B"), (Term.field (Term.string "BiscuitLocksLaw" (157 : Nat)) "java/lang/String" "value" "[B"), (Term.field (Term.string "BiscuitLocksLaw" (159 : Nat)) "java/lang/String" "value" "[B"), (Term.field (Term.string "BiscuitLocksLaw" (161 : Nat)) "java/lang/String" "value" "[B"), (Term.field (Term.string "BiscuitLocksLaw" (163 : Nat)) "java/lang/String" "value" "[B"), (Term.field (Term.string "BiscuitLocksLaw" (165 : Nat)) "java/lang/String" "value" "[B"), (Term.field (Term.string "BiscuitLocksLaw" (167 : Nat)) "java/lang/String" "value" "[B"), (Term.field (Term.string "BiscuitLocksLaw" (169 : Nat)) "java/lang/String" "value" "[B"), (Term.arg (0 : Nat)), (Term.string "BiscuitLocks" (184 : Nat)), (Term.string "BiscuitLocks" (114 : Nat)), (Term.string "BiscuitLocks" (121 : Nat)), (Term.string "BiscuitLocks" (126 : Nat)), (Term.string "BiscuitLocks" (131 : Nat)), (Term.string "BiscuitLocks" (200 : Nat)), (Term.string "BiscuitLocks" (189 : Nat)), (Term.string "BiscuitLocks" (203 : Nat)), (Term.string "BiscuitLocks" (214 : Nat)), (Term.string "BiscuitLocks" (344 : Nat)), (Term.string "BiscuitLocks" (349 : Nat)), (Term.string "BiscuitLocks" (306 : Nat)), (Term.string "BiscuitLocks" (311 : Nat)), (Term.string "BiscuitLocks" (319 : Nat)), (Term.string "BiscuitLocks" (324 : Nat)), (Term.string "BiscuitLocks" (233 : Nat)), (Term.string "BiscuitLocks" (222 : Nat)), (Term.string "BiscuitLocks" (253 : Nat)), (Term.int 0), (Term.int 0), (Term.int 0), (Term.int 0), (Term.int 0), (Term.int 0), (Term.int 0), (Term.int 0), (Term.int 0), (Term.static "java/lang/Integer" "DigitOnes" "[B"), (Term.static "java/lang/Integer" "DigitTens" "[B"), (Term.int 0), (Term.int 0), (Term.int 0), (Term.int 0), (Term.int 0), (Term.int 0), (Term.int 0), (Term.int 0), (Term.int 0), (Term.static "jdk/internal/util/Preconditions" "SIOOBE_FORMATTER" "Ljava/util/function/BiFunction;")]
abbrev e_tm (k : Nat) : Term := e_tms.getD k (.int 0)
theorem fl_at {A : Array Value} {s : State} {c : Cond} (hs : ∀ c ∈ e_FL0, c.before A s = true) (k : Nat) (h : e_FL0[k]? = some c) : c.before A s = true := hs c (List.mem_of_getElem? h)
theorem wd_at {A : Array Value} {s : State} {c : Cond} (hts : ∀ w ∈ lw_tbl, w.before A s = true) (k : Nat) (h : tables_1[k]? = some c) : c.before A s = true := hts c (List.mem_append_right _ (List.mem_of_getElem? h))
def pl_c : List Nat := [308, 217, 296, 321, 266, 275, 365, 285, 381, 335]
theorem ck_c : ∀ k, k < 10 → (e_FL0[pl_c.getD k 0]? = some (.exactly (e_tm k) "BiscuitLocks$Command") ∧ e_FL0[pl_c.getD k 0 + 1]? = some (.eq (.field (e_tm k) "java/lang/Enum" "ordinal" "I") (.int (iI (k : Int)))) ∧ e_FL0[pl_c.getD k 0 + 2]? = some (.eq (.field (e_tm k) "BiscuitLocks$Command" "form" "Ljava/lang/String;") (e_tm (k + 20)))) := by decide +kernel
def pl_r : List Nat := [240, 245, 233, 236, 251]
theorem ck_r : ∀ k, k < 5 → (e_FL0[pl_r.getD k 0]? = some (.exactly (e_tm (10 + k)) "BiscuitLocks$Refusal") ∧ e_FL0[pl_r.getD k 0 + 1]? = some (.eq (.field (e_tm (10 + k)) "java/lang/Enum" "ordinal" "I") (.int (iI (k : Int))))) := by decide +kernel
def tx_c (i : Nat) : Nat := if i < 10 then 20 + i else 30 + i
def tx_b (i : Nat) : List Int := (e_forms ++ e_words).getD i []
def pl_t : List Nat := [1316, 1262, 1307, 1328, 1275, 1285, 1351, 1297, 1359, 1338, 946, 955, 964, 974, 984, 989, 999, 1010, 1020, 1029]
def pl_v : List Nat := [1413, 1408, 1412, 1414, 1409, 1410, 1416, 1411, 1417, 1415, 1391, 1392, 1393, 1394, 1395, 1396, 1397, 1398, 1399, 1400]
theorem ck_t : ∀ i, i < 20 → (e_FL0[pl_t.getD i 0]? = some (.exactly (e_tm (tx_c i)) "java/lang/String") ∧ e_FL0[pl_t.getD i 0 + 1]? = some (.eq (.field (e_tm (tx_c i)) "java/lang/String" "coder" "B") (.int 0)) ∧ e_FL0[pl_v.getD i 0]? = some (.exactly (tVal (e_tm (tx_c i))) "[B") ∧ e_FL0[pl_t.getD i 0 + 2]? = some (.arrayOf (tVal (e_tm (tx_c i))) .byte) ∧ e_FL0[pl_t.getD i 0 + 3]? = some (.eq (.length (tVal (e_tm (tx_c i)))) (.int (Int32.ofNat (tx_b i).length))) ∧ e_tm (tx_c i + 10) = tVal (e_tm (tx_c i)) ∧ (tx_b i).length < 2 ^ 31) := by decide +kernel
theorem ck_tj : ∀ i, i < 20 → ∀ j, j < (tx_b i).length → e_FL0[pl_t.getD i 0 + 4 + j]? = some (.eq (.elem (tVal (e_tm (tx_c i))) (.int (Int32.ofNat j))) (.int (iI ((tx_b i).getD j 0)))) := by decide +kernel
theorem tx_f : ∀ i, i < 10 → tx_b i = e_forms.getD i [] := by decide +kernel
theorem tx_w : ∀ i, i < 10 → tx_b (i + 10) = e_words.getD i [] := by decide +kernel
theorem ck_a : e_FL0[352]? = some (.arrayOf (e_tm 15) (.object "BiscuitLocks$Command")) ∧ e_FL0[353]? = some (.eq (.length (e_tm 15)) (.int (Int32.ofNat 10))) ∧ ∀ j, j < 10 → e_FL0[355 + j]? = some (.eq (.elem (e_tm 15) (.int (Int32.ofNat j))) (e_tm j)) := by decide +kernel
theorem ck_16 : e_FL0[221]? = some (.arrayOf (e_tm 16) .int) ∧ e_FL0[222]? = some (.eq (.length (e_tm 16)) (.int (Int32.ofNat 10))) ∧ ∀ j, j < 10 → e_FL0[223 + j]? = some (.eq (.elem (e_tm 16) (.int (Int32.ofNat j))) (.int (iI (e_swC.getD j 0)))) := by decide +kernel
theorem ck_17 : e_FL0[259]? = some (.arrayOf (e_tm 17) .int) ∧ e_FL0[260]? = some (.eq (.length (e_tm 17)) (.int (Int32.ofNat 5))) ∧ ∀ j, j < 5 → e_FL0[261 + j]? = some (.eq (.elem (e_tm 17) (.int (Int32.ofNat j))) (.int (iI (e_swR.getD j 0)))) := by decide +kernel
theorem ck_88 : e_FL0[12]? = some (.arrayOf (e_tm 88) .byte) ∧ e_FL0[13]? = some (.eq (.length (e_tm 88)) (.int (Int32.ofNat 100))) ∧ ∀ j, j < 100 → e_FL0[14 + j]? = some (.eq (.elem (e_tm 88) (.int (Int32.ofNat j))) (.int (iI (48 + (j : Int) % 10)))) := by decide +kernel
theorem ck_89 : e_FL0[115]? = some (.arrayOf (e_tm 89) .byte) ∧ e_FL0[116]? = some (.eq (.length (e_tm 89)) (.int (Int32.ofNat 100))) ∧ ∀ j, j < 100 → e_FL0[117 + j]? = some (.eq (.elem (e_tm 89) (.int (Int32.ofNat j))) (.int (iI (48 + (j : Int) / 10)))) := by decide +kernel
def pl_s : List (Nat × Nat) := [(503, 92), (622, 578), (652, 580), (684, 591), (717, 607), (762, 749), (800, 767), (816, 768), (850, 779), (894, 787), (922, 799), (1034, 1064), (1082, 1065), (1111, 1114), (1157, 1121), (1191, 1182), (1207, 1183), (1233, 1199), (946, 1028), (955, 1031), (964, 1032), (974, 1034), (984, 1035), (989, 1036), (999, 1037), (1010, 1038), (1020, 1039), (1029, 1040)]
theorem ck_s : ∀ i, i < 28 → (e_FL0[(pl_s.getD i (0, 0)).1]? = some (.exactly (e_tm (e_SR.getD i ("", 0, "", 0)).2.2.2) "java/lang/String") ∧ tables_1[(pl_s.getD i (0, 0)).2]? = some (.stringRef (e_SR.getD i ("", 0, "", 0)).1 (e_SR.getD i ("", 0, "", 0)).2.1 (e_SR.getD i ("", 0, "", 0)).2.2.1) ∧ e_tm (e_SR.getD i ("", 0, "", 0)).2.2.2 = .string (e_SR.getD i ("", 0, "", 0)).1 (e_SR.getD i ("", 0, "", 0)).2.1 ∧ (e_SR.getD i ("", 0, "", 0)).2.2.2 < 100) := by decide +kernel
def pl_n : List Nat := [406, 407, 408, 409, 419, 420, 421, 422, 423, 425, 434, 435, 436, 437, 438, 440, 449, 450, 451, 452, 453, 455, 464, 465, 466, 467, 468, 470, 478, 479, 480, 481, 482, 483, 485, 494, 495, 496, 497, 498, 499, 501]
theorem ck_n : ∀ i, i < 42 → e_FL0[pl_n.getD i 0]? = some (.not (.castable (e_NN.getD i ("", "")).1 (e_NN.getD i ("", "")).2)) := by decide +kernel
theorem ln_s : e_SR.length = 28 := by decide +kernel
theorem ln_n : e_NN.length = 42 := by decide +kernel
theorem ck_w : ∀ w ∈ e_WN, (w.onTables = true ∨ w = .arrayOver (.object "BiscuitLocks$Lock") ∨ w = .arrayOver (.object "BiscuitLocks$House")) := by decide +kernel
theorem ck_wT : ∀ w ∈ e_WN, w ∈ tables_1 := by
  intro w hw
  obtain ⟨i, -, h⟩ := List.mem_filterMap.mp hw
  exact List.mem_of_getElem? h
def pl_d : List (Nat × Nat × Nat) := [(10, 11, 250), (12, 10, 243), (13, 10, 244), (10, 14, 256), (12, 11, 248), (13, 11, 249), (11, 14, 257), (12, 13, 239), (12, 14, 254), (13, 14, 255)]
theorem ck_d : ∀ q ∈ pl_d, e_FL0[q.2.2]? = some (.not (.eq (e_tm q.1) (e_tm q.2.1))) ∧ 10 ≤ q.1 ∧ q.1 < 15 ∧ 10 ≤ q.2.1 ∧ q.2.1 < 15 := by decide +kernel
theorem ck_dd : ∀ i, i < 15 → ∀ j, j < 15 → 10 ≤ i → 10 ≤ j → i ≠ j → pl_d.any (fun q => decide ((q.1 = i ∧ q.2.1 = j) ∨ (q.1 = j ∧ q.2.1 = i))) = true := by decide +kernel
theorem sl_0 : tables_1[991]? = some (.laysStatic "BiscuitLocks$Command" "DOOR" "LBiscuitLocks$Command;") := by decide +kernel
theorem si_0 : tables_1[11]? = some (.initialized "BiscuitLocks$Command") := by decide +kernel
theorem sl_1 : tables_1[500]? = some (.laysStatic "BiscuitLocks$Command" "TURN" "LBiscuitLocks$Command;") := by decide +kernel
theorem si_1 : tables_1[11]? = some (.initialized "BiscuitLocks$Command") := by decide +kernel
theorem sl_2 : tables_1[808]? = some (.laysStatic "BiscuitLocks$Command" "TRY" "LBiscuitLocks$Command;") := by decide +kernel
theorem si_2 : tables_1[11]? = some (.initialized "BiscuitLocks$Command") := by decide +kernel
theorem sl_3 : tables_1[1016]? = some (.laysStatic "BiscuitLocks$Command" "SHUT" "LBiscuitLocks$Command;") := by decide +kernel
theorem si_3 : tables_1[11]? = some (.initialized "BiscuitLocks$Command") := by decide +kernel
theorem sl_4 : tables_1[709]? = some (.laysStatic "BiscuitLocks$Command" "DAMP" "LBiscuitLocks$Command;") := by decide +kernel
theorem si_4 : tables_1[11]? = some (.initialized "BiscuitLocks$Command") := by decide +kernel
theorem sl_5 : tables_1[719]? = some (.laysStatic "BiscuitLocks$Command" "BAKE" "LBiscuitLocks$Command;") := by decide +kernel
theorem si_5 : tables_1[11]? = some (.initialized "BiscuitLocks$Command") := by decide +kernel
theorem sl_6 : tables_1[1316]? = some (.laysStatic "BiscuitLocks$Command" "ONE_HOUR" "LBiscuitLocks$Command;") := by decide +kernel
theorem si_6 : tables_1[11]? = some (.initialized "BiscuitLocks$Command") := by decide +kernel
theorem sl_7 : tables_1[728]? = some (.laysStatic "BiscuitLocks$Command" "HOURS" "LBiscuitLocks$Command;") := by decide +kernel
theorem si_7 : tables_1[11]? = some (.initialized "BiscuitLocks$Command") := by decide +kernel
theorem sl_8 : tables_1[1317]? = some (.laysStatic "BiscuitLocks$Command" "MANY_HOURS" "LBiscuitLocks$Command;") := by decide +kernel
theorem si_8 : tables_1[11]? = some (.initialized "BiscuitLocks$Command") := by decide +kernel
theorem sl_9 : tables_1[1025]? = some (.laysStatic "BiscuitLocks$Command" "SET" "LBiscuitLocks$Command;") := by decide +kernel
theorem si_9 : tables_1[11]? = some (.initialized "BiscuitLocks$Command") := by decide +kernel
theorem sl_10 : tables_1[533]? = some (.laysStatic "BiscuitLocks$Refusal" "NOTHING" "LBiscuitLocks$Refusal;") := by decide +kernel
theorem si_10 : tables_1[13]? = some (.initialized "BiscuitLocks$Refusal") := by decide +kernel
theorem sl_11 : tables_1[543]? = some (.laysStatic "BiscuitLocks$Refusal" "NO_SUCH_INDEX" "LBiscuitLocks$Refusal;") := by decide +kernel
theorem si_11 : tables_1[13]? = some (.initialized "BiscuitLocks$Refusal") := by decide +kernel
theorem sl_12 : tables_1[529]? = some (.laysStatic "BiscuitLocks$Refusal" "BAD_ARGUMENT" "LBiscuitLocks$Refusal;") := by decide +kernel
theorem si_12 : tables_1[13]? = some (.initialized "BiscuitLocks$Refusal") := by decide +kernel
theorem sl_13 : tables_1[531]? = some (.laysStatic "BiscuitLocks$Refusal" "WRONG_STATE" "LBiscuitLocks$Refusal;") := by decide +kernel
theorem si_13 : tables_1[13]? = some (.initialized "BiscuitLocks$Refusal") := by decide +kernel
theorem sl_14 : tables_1[558]? = some (.laysStatic "BiscuitLocks$Refusal" "NOT_SUPPORTED" "LBiscuitLocks$Refusal;") := by decide +kernel
theorem si_14 : tables_1[13]? = some (.initialized "BiscuitLocks$Refusal") := by decide +kernel
theorem sl_15 : tables_1[1083]? = some (.laysStatic "BiscuitLocks" "COMMANDS" "[LBiscuitLocks$Command;") := by decide +kernel
theorem si_15 : tables_1[1]? = some (.initialized "BiscuitLocks") := by decide +kernel
theorem sl_16 : tables_1[510]? = some (.laysStatic "BiscuitLocks$1" "$SwitchMap$BiscuitLocks$Command" "[I") := by decide +kernel
theorem si_16 : tables_1[12]? = some (.initialized "BiscuitLocks$1") := by decide +kernel
theorem sl_17 : tables_1[574]? = some (.laysStatic "BiscuitLocks$1" "$SwitchMap$BiscuitLocks$Refusal" "[I") := by decide +kernel
theorem si_17 : tables_1[12]? = some (.initialized "BiscuitLocks$1") := by decide +kernel
theorem sl_18 : tables_1[142]? = some (.laysStatic "java/lang/String" "COMPACT_STRINGS" "Z") := by decide +kernel
theorem si_18 : tables_1[8]? = some (.initialized "java/lang/String") := by decide +kernel
theorem sl_19 : tables_1[298]? = some (.laysStatic "java/lang/Integer" "DigitOnes" "[B") := by decide +kernel
theorem si_19 : tables_1[30]? = some (.initialized "java/lang/Integer") := by decide +kernel
theorem sl_20 : tables_1[300]? = some (.laysStatic "java/lang/Integer" "DigitTens" "[B") := by decide +kernel
theorem si_20 : tables_1[30]? = some (.initialized "java/lang/Integer") := by decide +kernel
theorem sl_21 : tables_1[228]? = some (.laysStatic "jdk/internal/util/Preconditions" "SIOOBE_FORMATTER" "Ljava/util/function/BiFunction;") := by decide +kernel
theorem si_21 : tables_1[27]? = some (.initialized "jdk/internal/util/Preconditions") := by decide +kernel
theorem tl_T0 : tables_1[74]? = some (.laysStatic Bundle.tN "UNASSIGNED_STACK" Bundle.steD) := by decide +kernel
theorem ti_T0 : tables_1[14]? = some (.initialized Bundle.tN) := by decide +kernel
theorem tr_T0 : e_FL0[4]? = some (.isRef (.static Bundle.tN "UNASSIGNED_STACK" Bundle.steD)) := by decide +kernel
theorem tl_T1 : tables_1[76]? = some (.laysStatic Bundle.tN "SUPPRESSED_SENTINEL" Bundle.listD) := by decide +kernel
theorem ti_T1 : tables_1[14]? = some (.initialized Bundle.tN) := by decide +kernel
theorem tr_T1 : e_FL0[5]? = some (.isRef (.static Bundle.tN "SUPPRESSED_SENTINEL" Bundle.listD)) := by decide +kernel
theorem ck_cs : e_FL0[6]? = some (.eq (.static "java/lang/String" "COMPACT_STRINGS" "Z") (.int 1)) := by decide +kernel
theorem ck_sf : e_FL0[7]? = some (.isRef (e_tm 99)) := by decide +kernel
theorem in_RJ0 : tables_1[314]? = some (.instantiable RJ0 4) := by decide +kernel
theorem in_RJ4 : tables_1[133]? = some (.instantiable RJ4 4) := by decide +kernel
theorem u_RJx00060 : ∀ w ∈ u_ws RJx00060 TJx00060 6, w ∈ e_WS := e_uw [416, 417, 418, 419, 420, 431] (by decide +kernel) (by decide +kernel)
theorem in_RJx00060 : tables_1[411]? = some (.instantiable RJx00060 6) := by decide +kernel
theorem u_RJx7c733 : ∀ w ∈ u_ws RJx7c733 TJx7c733 6, w ∈ e_WS := e_uw [391, 392, 393, 394, 395, 396] (by decide +kernel) (by decide +kernel)
theorem in_RJx7c733 : tables_1[128]? = some (.instantiable RJx7c733 6) := by decide +kernel
theorem in_RX2 : tables_1[913]? = some (.instantiable RX2 3) := by decide +kernel
theorem in_RX3 : tables_1[520]? = some (.instantiable RX3 14) := by decide +kernel
theorem in_RX4 : tables_1[634]? = some (.instantiable RX4 4) := by decide +kernel
theorem in_RX6 : tables_1[933]? = some (.instantiable RX6 3) := by decide +kernel
theorem in_RX7 : tables_1[39]? = some (.instantiable RX7 9) := by decide +kernel
theorem ao_Lock : tables_1[832]? = some (.arrayOver (.object "BiscuitLocks$Lock")) := by decide +kernel
theorem ao_House : tables_1[919]? = some (.arrayOver (.object "BiscuitLocks$House")) := by decide +kernel
