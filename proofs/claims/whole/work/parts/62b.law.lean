/-! the law: a turn, further calls (wip/whole/gen/c_law.py prints this part) -/
section LA
variable {r0 : Option Nat} {Γ : Cx} {B : Int} {M : Mem} {n kc ks mc ms L : Nat} {q : Nat → Int} {A : Nat → Nat → Int} {Q : Rv → Mem → Nat → Prop} {xs : Nat → Int}
def tbL_17 : List (Nat × Instr × Nat) := [(1250, .aload_n 1, 1251), (1251, .aload_n 0, 1252), (1252, .iload 5, 1254), (1254, .iconst 1, 1255), (1255, .iadd, 1256), (1256, .iaload, 1257), (1257, .aload_n 3, 1258), (1258, .invokestatic 204, 1261), (1261, .istore 6, 1263), (1263, .aload_n 2, 1264), (1264, .aload_n 0, 1265), (1265, .iload 5, 1267), (1267, .iconst 1, 1268), (1268, .iadd, 1269), (1269, .iaload, 1270), (1270, .invokevirtual 206, 1273), (1273, .istore 7, 1275), (1275, .aload_n 2, 1276), (1276, .invokevirtual 152, 1279), (1279, .iload 6, 1281), (1281, .if_icmp .eq 5, 1284), (1284, .iconst 0, 1285), (1285, .ireturn, 1286), (1286, .iload 6, 1288), (1288, .ifCond .ne 15, 1291), (1291, .aload_n 3, 1292), (1292, .iconst 0, 1293), (1293, .laload, 1294), (1294, .iload 7, 1296), (1296, .i2l, 1297), (1297, .lcmp, 1298), (1298, .ifCond .eq 5, 1301), (1301, .iconst 0, 1302), (1302, .ireturn, 1303), (1303, .goto 1321, 1306)]
theorem tl_17 : e_tb cL_law tbL_17 = true := by decide +kernel
theorem law_17 (hK : KM Γ) (hP9 : PV Γ) (hB : 20 ≤ B ∧ B + 2400 ≤ 10000000) (hZ : LZ B M n q A) (hxs : ∀ j, i32 (xs j)) (h60 : Γ.cM 60 = cI 10 L xs) (i : Nat) (hi : 5 * i + 5 ≤ L) (hL : L ≤ 2560) (hkc : kc + 2 ≤ mc) (hks : ks + 200 ≤ ms) (x6 x7 x8 : Option aV) (kk : lawK r0 Γ mc ms Q B i kc ks) : G (e_L r0) Γ (lawX tbL_0) 20 mc ms Q 1250 (lawL i x6 x7 x8) [] M n kc ks := by
  refine G_tb tl_17 ?_
  obtain ⟨d1, mc1, ms1, d2, P, ⟨b1, b2, b3, b4⟩, hC1, hY⟩ := s_stepsToOpen (r0 := r0) (Γ := Γ) hB hZ (xs (5 * i + 1)) (hxs _)
  refine g_run 0 5 rfl ?_
  refine g_low (fun hla => ?_)
  have h60a := (hla 60 (by decide)).trans h60
  refine g_iald 5 (5 * i + 1) rfl rfl h60a (by omega) (by omega) (by omega) ?_
  refine g_run 6 1 rfl ?_
  refine g_callSX 7 rfl cs_RL_204 hC1 rfl rfl (by omega) (by omega) (by omega) (Nat.le_of_ble_eq_true rfl) (fun v9 M1 n1 h9 _ => ?_) (fun E M1 n1 h9 _ => by obtain ⟨k, h3, -⟩ := h9; cases h3)
  obtain ⟨k, h3, hP⟩ := h9
  cases h3
  obtain ⟨hk, ⟨fs9, hfs⟩, Q2, hC2, hQ2⟩ := hY k M1 n1 hP
  refine g_run 8 6 rfl ?_
  refine g_low (fun hlb => ?_)
  have h60b := (hlb 60 (by decide)).trans h60
  refine g_iald 14 (5 * i + 1) rfl rfl h60b (by omega) (by omega) (by omega) ?_
  refine g_callV 15 rfl cv_RL_206 hfs hC2 rfl rfl (by omega) (by omega) (by omega) (Nat.le_of_ble_eq_true rfl) (fun v9 M2 n2 h9 _ => ?_) (fun E M2 n2 h9 _ => by obtain ⟨-, b, -, h3, -⟩ := hQ2 _ _ _ h9; cases h3)
  obtain ⟨e2, b, hb, h3, hg, q2, A2, hq6, hZ2⟩ := hQ2 _ _ _ h9
  cases h3
  subst e2
  refine g_run 16 2 rfl ?_
  refine g_callV 18 rfl cv_RL_152 (LZ_mm hZ2).2.1 (m_thrown (LZ_mm hZ2)) rfl rfl (by omega) (by omega) (by omega) (Nat.le_of_ble_eq_true rfl) (e_kr ?_) e_kx
  rw [hq6]
  refine g_run 19 1 rfl ?_
  refine g_icmp_eq 20 1286 rfl rfl hk hk (fun _ => ?_) (fun c => absurd rfl c)
  refine g_run 23 1 rfl ?_
  refine g_if_ne 24 1303 rfl rfl hk (fun c8 => ?_) (fun c8 => ?_)
  · skip
    refine g_run 34 1 rfl ?_
    exact G_tb tl_0 (kk _ _ _ _ _ _ _ _ _ hZ2 (by omega) (by omega))
  · have k0 : k = 0 := by omega
    obtain ⟨g, hg1, hg2⟩ := hg k0
    refine g_run 25 2 rfl ?_
    refine g_lald 27 0 rfl rfl hg1 (by decide) rfl (by decide) (by decide) ?_
    rw [hg2]
    refine g_run 28 1 rfl ?_
    refine g_i2l 29 rfl hb ?_
    refine g_lcmp 30 rfl (lcmp_self _) ?_
    refine g_if_eq 31 1303 rfl rfl (by decide) (fun _ => ?_) (fun c => absurd rfl c)
    refine g_run 34 1 rfl ?_
    exact G_tb tl_0 (kk _ _ _ _ _ _ _ _ _ hZ2 (by omega) (by omega))
def tbL_18 : List (Nat × Instr × Nat) := [(1306, .aload_n 1, 1307), (1307, .aload_n 0, 1308), (1308, .iload 5, 1310), (1310, .iconst 1, 1311), (1311, .iadd, 1312), (1312, .iaload, 1313), (1313, .aload_n 3, 1314), (1314, .invokestatic 207, 1317), (1317, .istore 6, 1319), (1319, .aload_n 2, 1320), (1320, .aload_n 0, 1321), (1321, .iload 5, 1323), (1323, .iconst 1, 1324), (1324, .iadd, 1325), (1325, .iaload, 1326), (1326, .invokevirtual 209, 1329), (1329, .istore 7, 1331), (1331, .aload_n 2, 1332), (1332, .invokevirtual 152, 1335), (1335, .iload 6, 1337), (1337, .if_icmp .eq 5, 1340), (1340, .iconst 0, 1341), (1341, .ireturn, 1342), (1342, .iload 6, 1344), (1344, .ifCond .ne 15, 1347), (1347, .aload_n 3, 1348), (1348, .iconst 0, 1349), (1349, .laload, 1350), (1350, .iload 7, 1352), (1352, .i2l, 1353), (1353, .lcmp, 1354), (1354, .ifCond .eq 5, 1357), (1357, .iconst 0, 1358), (1358, .ireturn, 1359), (1359, .goto 1265, 1362)]
theorem tl_18 : e_tb cL_law tbL_18 = true := by decide +kernel
theorem law_18 (hK : KM Γ) (hP9 : PV Γ) (hB : 20 ≤ B ∧ B + 2400 ≤ 10000000) (hZ : LZ B M n q A) (hxs : ∀ j, i32 (xs j)) (h60 : Γ.cM 60 = cI 10 L xs) (i : Nat) (hi : 5 * i + 5 ≤ L) (hL : L ≤ 2560) (hkc : kc + 2 ≤ mc) (hks : ks + 200 ≤ ms) (x6 x7 x8 : Option aV) (kk : lawK r0 Γ mc ms Q B i kc ks) : G (e_L r0) Γ (lawX tbL_0) 20 mc ms Q 1306 (lawL i x6 x7 x8) [] M n kc ks := by
  refine G_tb tl_18 ?_
  obtain ⟨d1, mc1, ms1, d2, P, ⟨b1, b2, b3, b4⟩, hC1, hY⟩ := s_stepsToOpenByTurning (r0 := r0) (Γ := Γ) hB hZ (xs (5 * i + 1)) (hxs _)
  refine g_run 0 5 rfl ?_
  refine g_low (fun hla => ?_)
  have h60a := (hla 60 (by decide)).trans h60
  refine g_iald 5 (5 * i + 1) rfl rfl h60a (by omega) (by omega) (by omega) ?_
  refine g_run 6 1 rfl ?_
  refine g_callSX 7 rfl cs_RL_207 hC1 rfl rfl (by omega) (by omega) (by omega) (Nat.le_of_ble_eq_true rfl) (fun v9 M1 n1 h9 _ => ?_) (fun E M1 n1 h9 _ => by obtain ⟨k, h3, -⟩ := h9; cases h3)
  obtain ⟨k, h3, hP⟩ := h9
  cases h3
  obtain ⟨hk, ⟨fs9, hfs⟩, Q2, hC2, hQ2⟩ := hY k M1 n1 hP
  refine g_run 8 6 rfl ?_
  refine g_low (fun hlb => ?_)
  have h60b := (hlb 60 (by decide)).trans h60
  refine g_iald 14 (5 * i + 1) rfl rfl h60b (by omega) (by omega) (by omega) ?_
  refine g_callV 15 rfl cv_RL_209 hfs hC2 rfl rfl (by omega) (by omega) (by omega) (Nat.le_of_ble_eq_true rfl) (fun v9 M2 n2 h9 _ => ?_) (fun E M2 n2 h9 _ => by obtain ⟨-, b, -, h3, -⟩ := hQ2 _ _ _ h9; cases h3)
  obtain ⟨e2, b, hb, h3, hg, q2, A2, hq6, hZ2⟩ := hQ2 _ _ _ h9
  cases h3
  subst e2
  refine g_run 16 2 rfl ?_
  refine g_callV 18 rfl cv_RL_152 (LZ_mm hZ2).2.1 (m_thrown (LZ_mm hZ2)) rfl rfl (by omega) (by omega) (by omega) (Nat.le_of_ble_eq_true rfl) (e_kr ?_) e_kx
  rw [hq6]
  refine g_run 19 1 rfl ?_
  refine g_icmp_eq 20 1342 rfl rfl hk hk (fun _ => ?_) (fun c => absurd rfl c)
  refine g_run 23 1 rfl ?_
  refine g_if_ne 24 1359 rfl rfl hk (fun c8 => ?_) (fun c8 => ?_)
  · skip
    refine g_run 34 1 rfl ?_
    exact G_tb tl_0 (kk _ _ _ _ _ _ _ _ _ hZ2 (by omega) (by omega))
  · have k0 : k = 0 := by omega
    obtain ⟨g, hg1, hg2⟩ := hg k0
    refine g_run 25 2 rfl ?_
    refine g_lald 27 0 rfl rfl hg1 (by decide) rfl (by decide) (by decide) ?_
    rw [hg2]
    refine g_run 28 1 rfl ?_
    refine g_i2l 29 rfl hb ?_
    refine g_lcmp 30 rfl (lcmp_self _) ?_
    refine g_if_eq 31 1359 rfl rfl (by decide) (fun _ => ?_) (fun c => absurd rfl c)
    refine g_run 34 1 rfl ?_
    exact G_tb tl_0 (kk _ _ _ _ _ _ _ _ _ hZ2 (by omega) (by omega))
def tbL_19 : List (Nat × Instr × Nat) := [(1362, .aload_n 1, 1363), (1363, .aload_n 0, 1364), (1364, .iload 5, 1366), (1366, .iconst 1, 1367), (1367, .iadd, 1368), (1368, .iaload, 1369), (1369, .aload_n 3, 1370), (1370, .invokestatic 210, 1373), (1373, .istore 6, 1375), (1375, .aload_n 2, 1376), (1376, .aload_n 0, 1377), (1377, .iload 5, 1379), (1379, .iconst 1, 1380), (1380, .iadd, 1381), (1381, .iaload, 1382), (1382, .invokevirtual 212, 1385), (1385, .istore 7, 1387), (1387, .aload_n 2, 1388), (1388, .invokevirtual 152, 1391), (1391, .iload 6, 1393), (1393, .if_icmp .eq 5, 1396), (1396, .iconst 0, 1397), (1397, .ireturn, 1398), (1398, .iload 6, 1400), (1400, .ifCond .ne 15, 1403), (1403, .aload_n 3, 1404), (1404, .iconst 0, 1405), (1405, .laload, 1406), (1406, .iload 7, 1408), (1408, .i2l, 1409), (1409, .lcmp, 1410), (1410, .ifCond .eq 5, 1413), (1413, .iconst 0, 1414), (1414, .ireturn, 1415), (1415, .goto 1209, 1418)]
theorem tl_19 : e_tb cL_law tbL_19 = true := by decide +kernel
theorem law_19 (hK : KM Γ) (hP9 : PV Γ) (hB : 20 ≤ B ∧ B + 2400 ≤ 10000000) (hZ : LZ B M n q A) (hxs : ∀ j, i32 (xs j)) (h60 : Γ.cM 60 = cI 10 L xs) (i : Nat) (hi : 5 * i + 5 ≤ L) (hL : L ≤ 2560) (hkc : kc + 2 ≤ mc) (hks : ks + 200 ≤ ms) (x6 x7 x8 : Option aV) (kk : lawK r0 Γ mc ms Q B i kc ks) : G (e_L r0) Γ (lawX tbL_0) 20 mc ms Q 1362 (lawL i x6 x7 x8) [] M n kc ks := by
  refine G_tb tl_19 ?_
  obtain ⟨d1, mc1, ms1, d2, P, ⟨b1, b2, b3, b4⟩, hC1, hY⟩ := s_openingSettings (r0 := r0) (Γ := Γ) hB hZ (xs (5 * i + 1)) (hxs _)
  refine g_run 0 5 rfl ?_
  refine g_low (fun hla => ?_)
  have h60a := (hla 60 (by decide)).trans h60
  refine g_iald 5 (5 * i + 1) rfl rfl h60a (by omega) (by omega) (by omega) ?_
  refine g_run 6 1 rfl ?_
  refine g_callSX 7 rfl cs_RL_210 hC1 rfl rfl (by omega) (by omega) (by omega) (Nat.le_of_ble_eq_true rfl) (fun v9 M1 n1 h9 _ => ?_) (fun E M1 n1 h9 _ => by obtain ⟨k, h3, -⟩ := h9; cases h3)
  obtain ⟨k, h3, hP⟩ := h9
  cases h3
  obtain ⟨hk, ⟨fs9, hfs⟩, Q2, hC2, hQ2⟩ := hY k M1 n1 hP
  refine g_run 8 6 rfl ?_
  refine g_low (fun hlb => ?_)
  have h60b := (hlb 60 (by decide)).trans h60
  refine g_iald 14 (5 * i + 1) rfl rfl h60b (by omega) (by omega) (by omega) ?_
  refine g_callV 15 rfl cv_RL_212 hfs hC2 rfl rfl (by omega) (by omega) (by omega) (Nat.le_of_ble_eq_true rfl) (fun v9 M2 n2 h9 _ => ?_) (fun E M2 n2 h9 _ => by obtain ⟨-, b, -, h3, -⟩ := hQ2 _ _ _ h9; cases h3)
  obtain ⟨e2, b, hb, h3, hg, q2, A2, hq6, hZ2⟩ := hQ2 _ _ _ h9
  cases h3
  subst e2
  refine g_run 16 2 rfl ?_
  refine g_callV 18 rfl cv_RL_152 (LZ_mm hZ2).2.1 (m_thrown (LZ_mm hZ2)) rfl rfl (by omega) (by omega) (by omega) (Nat.le_of_ble_eq_true rfl) (e_kr ?_) e_kx
  rw [hq6]
  refine g_run 19 1 rfl ?_
  refine g_icmp_eq 20 1398 rfl rfl hk hk (fun _ => ?_) (fun c => absurd rfl c)
  refine g_run 23 1 rfl ?_
  refine g_if_ne 24 1415 rfl rfl hk (fun c8 => ?_) (fun c8 => ?_)
  · skip
    refine g_run 34 1 rfl ?_
    exact G_tb tl_0 (kk _ _ _ _ _ _ _ _ _ hZ2 (by omega) (by omega))
  · have k0 : k = 0 := by omega
    obtain ⟨g, hg1, hg2⟩ := hg k0
    refine g_run 25 2 rfl ?_
    refine g_lald 27 0 rfl rfl hg1 (by decide) rfl (by decide) (by decide) ?_
    rw [hg2]
    refine g_run 28 1 rfl ?_
    refine g_i2l 29 rfl hb ?_
    refine g_lcmp 30 rfl (lcmp_self _) ?_
    refine g_if_eq 31 1415 rfl rfl (by decide) (fun _ => ?_) (fun c => absurd rfl c)
    refine g_run 34 1 rfl ?_
    exact G_tb tl_0 (kk _ _ _ _ _ _ _ _ _ hZ2 (by omega) (by omega))
def tbL_20 : List (Nat × Instr × Nat) := [(1418, .aload_n 1, 1419), (1419, .aload_n 0, 1420), (1420, .iload 5, 1422), (1422, .iconst 1, 1423), (1423, .iadd, 1424), (1424, .iaload, 1425), (1425, .aload_n 3, 1426), (1426, .invokestatic 213, 1429), (1429, .istore 6, 1431), (1431, .aload_n 2, 1432), (1432, .aload_n 0, 1433), (1433, .iload 5, 1435), (1435, .iconst 1, 1436), (1436, .iadd, 1437), (1437, .iaload, 1438), (1438, .invokevirtual 215, 1441), (1441, .istore 7, 1443), (1443, .aload_n 2, 1444), (1444, .invokevirtual 152, 1447), (1447, .iload 6, 1449), (1449, .if_icmp .eq 5, 1452), (1452, .iconst 0, 1453), (1453, .ireturn, 1454), (1454, .iload 6, 1456), (1456, .ifCond .ne 15, 1459), (1459, .aload_n 3, 1460), (1460, .iconst 0, 1461), (1461, .laload, 1462), (1462, .iload 7, 1464), (1464, .i2l, 1465), (1465, .lcmp, 1466), (1466, .ifCond .eq 5, 1469), (1469, .iconst 0, 1470), (1470, .ireturn, 1471), (1471, .goto 1153, 1474)]
theorem tl_20 : e_tb cL_law tbL_20 = true := by decide +kernel
theorem law_20 (hK : KM Γ) (hP9 : PV Γ) (hB : 20 ≤ B ∧ B + 2400 ≤ 10000000) (hZ : LZ B M n q A) (hxs : ∀ j, i32 (xs j)) (h60 : Γ.cM 60 = cI 10 L xs) (i : Nat) (hi : 5 * i + 5 ≤ L) (hL : L ≤ 2560) (hkc : kc + 2 ≤ mc) (hks : ks + 200 ≤ ms) (x6 x7 x8 : Option aV) (kk : lawK r0 Γ mc ms Q B i kc ks) : G (e_L r0) Γ (lawX tbL_0) 20 mc ms Q 1418 (lawL i x6 x7 x8) [] M n kc ks := by
  refine G_tb tl_20 ?_
  obtain ⟨d1, mc1, ms1, d2, P, ⟨b1, b2, b3, b4⟩, hC1, hY⟩ := s_triesUntilBroken (r0 := r0) (Γ := Γ) hB hZ (xs (5 * i + 1)) (hxs _)
  refine g_run 0 5 rfl ?_
  refine g_low (fun hla => ?_)
  have h60a := (hla 60 (by decide)).trans h60
  refine g_iald 5 (5 * i + 1) rfl rfl h60a (by omega) (by omega) (by omega) ?_
  refine g_run 6 1 rfl ?_
  refine g_callSX 7 rfl cs_RL_213 hC1 rfl rfl (by omega) (by omega) (by omega) (Nat.le_of_ble_eq_true rfl) (fun v9 M1 n1 h9 _ => ?_) (fun E M1 n1 h9 _ => by obtain ⟨k, h3, -⟩ := h9; cases h3)
  obtain ⟨k, h3, hP⟩ := h9
  cases h3
  obtain ⟨hk, ⟨fs9, hfs⟩, Q2, hC2, hQ2⟩ := hY k M1 n1 hP
  refine g_run 8 6 rfl ?_
  refine g_low (fun hlb => ?_)
  have h60b := (hlb 60 (by decide)).trans h60
  refine g_iald 14 (5 * i + 1) rfl rfl h60b (by omega) (by omega) (by omega) ?_
  refine g_callV 15 rfl cv_RL_215 hfs hC2 rfl rfl (by omega) (by omega) (by omega) (Nat.le_of_ble_eq_true rfl) (fun v9 M2 n2 h9 _ => ?_) (fun E M2 n2 h9 _ => by obtain ⟨-, b, -, h3, -⟩ := hQ2 _ _ _ h9; cases h3)
  obtain ⟨e2, b, hb, h3, hg, q2, A2, hq6, hZ2⟩ := hQ2 _ _ _ h9
  cases h3
  subst e2
  refine g_run 16 2 rfl ?_
  refine g_callV 18 rfl cv_RL_152 (LZ_mm hZ2).2.1 (m_thrown (LZ_mm hZ2)) rfl rfl (by omega) (by omega) (by omega) (Nat.le_of_ble_eq_true rfl) (e_kr ?_) e_kx
  rw [hq6]
  refine g_run 19 1 rfl ?_
  refine g_icmp_eq 20 1454 rfl rfl hk hk (fun _ => ?_) (fun c => absurd rfl c)
  refine g_run 23 1 rfl ?_
  refine g_if_ne 24 1471 rfl rfl hk (fun c8 => ?_) (fun c8 => ?_)
  · skip
    refine g_run 34 1 rfl ?_
    exact G_tb tl_0 (kk _ _ _ _ _ _ _ _ _ hZ2 (by omega) (by omega))
  · have k0 : k = 0 := by omega
    obtain ⟨g, hg1, hg2⟩ := hg k0
    refine g_run 25 2 rfl ?_
    refine g_lald 27 0 rfl rfl hg1 (by decide) rfl (by decide) (by decide) ?_
    rw [hg2]
    refine g_run 28 1 rfl ?_
    refine g_i2l 29 rfl hb ?_
    refine g_lcmp 30 rfl (lcmp_self _) ?_
    refine g_if_eq 31 1471 rfl rfl (by decide) (fun _ => ?_) (fun c => absurd rfl c)
    refine g_run 34 1 rfl ?_
    exact G_tb tl_0 (kk _ _ _ _ _ _ _ _ _ hZ2 (by omega) (by omega))
def tbL_21 : List (Nat × Instr × Nat) := [(1474, .aload_n 1, 1475), (1475, .aload_n 0, 1476), (1476, .iload 5, 1478), (1478, .iconst 1, 1479), (1479, .iadd, 1480), (1480, .iaload, 1481), (1481, .aload_n 0, 1482), (1482, .iload 5, 1484), (1484, .iconst 2, 1485), (1485, .iadd, 1486), (1486, .iaload, 1487), (1487, .aload_n 0, 1488), (1488, .iload 5, 1490), (1490, .iconst 3, 1491), (1491, .iadd, 1492), (1492, .iaload, 1493), (1493, .aload_n 3, 1494), (1494, .invokestatic 216, 1497), (1497, .istore 6, 1499), (1499, .aload_n 2, 1500), (1500, .aload_n 0, 1501), (1501, .iload 5, 1503), (1503, .iconst 1, 1504), (1504, .iadd, 1505), (1505, .iaload, 1506), (1506, .aload_n 0, 1507), (1507, .iload 5, 1509), (1509, .iconst 2, 1510), (1510, .iadd, 1511), (1511, .iaload, 1512), (1512, .aload_n 0, 1513), (1513, .iload 5, 1515), (1515, .iconst 3, 1516), (1516, .iadd, 1517), (1517, .iaload, 1518), (1518, .invokevirtual 218, 1521), (1521, .istore 7, 1523), (1523, .aload_n 2, 1524), (1524, .invokevirtual 152, 1527), (1527, .iload 6, 1529), (1529, .if_icmp .eq 5, 1532), (1532, .iconst 0, 1533), (1533, .ireturn, 1534), (1534, .iload 6, 1536), (1536, .ifCond .ne 15, 1539), (1539, .aload_n 3, 1540), (1540, .iconst 0, 1541), (1541, .laload, 1542), (1542, .iload 7, 1544), (1544, .i2l, 1545), (1545, .lcmp, 1546), (1546, .ifCond .eq 5, 1549), (1549, .iconst 0, 1550), (1550, .ireturn, 1551), (1551, .goto 1073, 1554)]
theorem tl_21 : e_tb cL_law tbL_21 = true := by decide +kernel
theorem law_21 (hK : KM Γ) (hP9 : PV Γ) (hB : 20 ≤ B ∧ B + 2400 ≤ 10000000) (hZ : LZ B M n q A) (hxs : ∀ j, i32 (xs j)) (h60 : Γ.cM 60 = cI 10 L xs) (i : Nat) (hi : 5 * i + 5 ≤ L) (hL : L ≤ 2560) (hkc : kc + 2 ≤ mc) (hks : ks + 200 ≤ ms) (x6 x7 x8 : Option aV) (kk : lawK r0 Γ mc ms Q B i kc ks) : G (e_L r0) Γ (lawX tbL_0) 20 mc ms Q 1474 (lawL i x6 x7 x8) [] M n kc ks := by
  refine G_tb tl_21 ?_
  obtain ⟨d1, mc1, ms1, d2, P, ⟨b1, b2, b3, b4⟩, hC1, hY⟩ := s_dialAfter (r0 := r0) (Γ := Γ) hB hZ (xs (5 * i + 1)) (hxs _) (xs (5 * i + 2)) (hxs _) (xs (5 * i + 3)) (hxs _)
  refine g_run 0 5 rfl ?_
  refine g_low (fun hla => ?_)
  have h60a := (hla 60 (by decide)).trans h60
  refine g_iald 5 (5 * i + 1) rfl rfl h60a (by omega) (by omega) (by omega) ?_
  refine g_run 6 4 rfl ?_
  refine g_iald 10 (5 * i + 2) rfl rfl h60a (by omega) (by omega) (by omega) ?_
  refine g_run 11 4 rfl ?_
  refine g_iald 15 (5 * i + 3) rfl rfl h60a (by omega) (by omega) (by omega) ?_
  refine g_run 16 1 rfl ?_
  refine g_callSX 17 rfl cs_RL_216 hC1 rfl rfl (by omega) (by omega) (by omega) (Nat.le_of_ble_eq_true rfl) (fun v9 M1 n1 h9 _ => ?_) (fun E M1 n1 h9 _ => by obtain ⟨k, h3, -⟩ := h9; cases h3)
  obtain ⟨k, h3, hP⟩ := h9
  cases h3
  obtain ⟨hk, ⟨fs9, hfs⟩, Q2, hC2, hQ2⟩ := hY k M1 n1 hP
  refine g_run 18 6 rfl ?_
  refine g_low (fun hlb => ?_)
  have h60b := (hlb 60 (by decide)).trans h60
  refine g_iald 24 (5 * i + 1) rfl rfl h60b (by omega) (by omega) (by omega) ?_
  refine g_run 25 4 rfl ?_
  refine g_iald 29 (5 * i + 2) rfl rfl h60b (by omega) (by omega) (by omega) ?_
  refine g_run 30 4 rfl ?_
  refine g_iald 34 (5 * i + 3) rfl rfl h60b (by omega) (by omega) (by omega) ?_
  refine g_callV 35 rfl cv_RL_218 hfs hC2 rfl rfl (by omega) (by omega) (by omega) (Nat.le_of_ble_eq_true rfl) (fun v9 M2 n2 h9 _ => ?_) (fun E M2 n2 h9 _ => by obtain ⟨-, b, -, h3, -⟩ := hQ2 _ _ _ h9; cases h3)
  obtain ⟨e2, b, hb, h3, hg, q2, A2, hq6, hZ2⟩ := hQ2 _ _ _ h9
  cases h3
  subst e2
  refine g_run 36 2 rfl ?_
  refine g_callV 38 rfl cv_RL_152 (LZ_mm hZ2).2.1 (m_thrown (LZ_mm hZ2)) rfl rfl (by omega) (by omega) (by omega) (Nat.le_of_ble_eq_true rfl) (e_kr ?_) e_kx
  rw [hq6]
  refine g_run 39 1 rfl ?_
  refine g_icmp_eq 40 1534 rfl rfl hk hk (fun _ => ?_) (fun c => absurd rfl c)
  refine g_run 43 1 rfl ?_
  refine g_if_ne 44 1551 rfl rfl hk (fun c8 => ?_) (fun c8 => ?_)
  · skip
    refine g_run 54 1 rfl ?_
    exact G_tb tl_0 (kk _ _ _ _ _ _ _ _ _ hZ2 (by omega) (by omega))
  · have k0 : k = 0 := by omega
    obtain ⟨g, hg1, hg2⟩ := hg k0
    refine g_run 45 2 rfl ?_
    refine g_lald 47 0 rfl rfl hg1 (by decide) rfl (by decide) (by decide) ?_
    rw [hg2]
    refine g_run 48 1 rfl ?_
    refine g_i2l 49 rfl hb ?_
    refine g_lcmp 50 rfl (lcmp_self _) ?_
    refine g_if_eq 51 1551 rfl rfl (by decide) (fun _ => ?_) (fun c => absurd rfl c)
    refine g_run 54 1 rfl ?_
    exact G_tb tl_0 (kk _ _ _ _ _ _ _ _ _ hZ2 (by omega) (by omega))
def tbL_22 : List (Nat × Instr × Nat) := [(1554, .aload_n 1, 1555), (1555, .aload_n 0, 1556), (1556, .iload 5, 1558), (1558, .iconst 1, 1559), (1559, .iadd, 1560), (1560, .iaload, 1561), (1561, .aload_n 3, 1562), (1562, .invokestatic 219, 1565), (1565, .istore 6, 1567), (1567, .aload_n 2, 1568), (1568, .aload_n 0, 1569), (1569, .iload 5, 1571), (1571, .iconst 1, 1572), (1572, .iadd, 1573), (1573, .iaload, 1574), (1574, .invokevirtual 221, 1577), (1577, .istore 7, 1579), (1579, .aload_n 2, 1580), (1580, .invokevirtual 152, 1583), (1583, .iload 6, 1585), (1585, .if_icmp .eq 5, 1588), (1588, .iconst 0, 1589), (1589, .ireturn, 1590), (1590, .iload 6, 1592), (1592, .ifCond .ne 15, 1595), (1595, .aload_n 3, 1596), (1596, .iconst 0, 1597), (1597, .laload, 1598), (1598, .iload 7, 1600), (1600, .i2l, 1601), (1601, .lcmp, 1602), (1602, .ifCond .eq 5, 1605), (1605, .iconst 0, 1606), (1606, .ireturn, 1607), (1607, .goto 1017, 1610)]
theorem tl_22 : e_tb cL_law tbL_22 = true := by decide +kernel
theorem law_22 (hK : KM Γ) (hP9 : PV Γ) (hB : 20 ≤ B ∧ B + 2400 ≤ 10000000) (hZ : LZ B M n q A) (hxs : ∀ j, i32 (xs j)) (h60 : Γ.cM 60 = cI 10 L xs) (i : Nat) (hi : 5 * i + 5 ≤ L) (hL : L ≤ 2560) (hkc : kc + 2 ≤ mc) (hks : ks + 200 ≤ ms) (x6 x7 x8 : Option aV) (kk : lawK r0 Γ mc ms Q B i kc ks) : G (e_L r0) Γ (lawX tbL_0) 20 mc ms Q 1554 (lawL i x6 x7 x8) [] M n kc ks := by
  refine G_tb tl_22 ?_
  obtain ⟨d1, mc1, ms1, d2, P, ⟨b1, b2, b3, b4⟩, hC1, hY⟩ := s_hoursUntilFitting (r0 := r0) (Γ := Γ) hB hZ (xs (5 * i + 1)) (hxs _)
  refine g_run 0 5 rfl ?_
  refine g_low (fun hla => ?_)
  have h60a := (hla 60 (by decide)).trans h60
  refine g_iald 5 (5 * i + 1) rfl rfl h60a (by omega) (by omega) (by omega) ?_
  refine g_run 6 1 rfl ?_
  refine g_callSX 7 rfl cs_RL_219 hC1 rfl rfl (by omega) (by omega) (by omega) (Nat.le_of_ble_eq_true rfl) (fun v9 M1 n1 h9 _ => ?_) (fun E M1 n1 h9 _ => by obtain ⟨k, h3, -⟩ := h9; cases h3)
  obtain ⟨k, h3, hP⟩ := h9
  cases h3
  obtain ⟨hk, ⟨fs9, hfs⟩, Q2, hC2, hQ2⟩ := hY k M1 n1 hP
  refine g_run 8 6 rfl ?_
  refine g_low (fun hlb => ?_)
  have h60b := (hlb 60 (by decide)).trans h60
  refine g_iald 14 (5 * i + 1) rfl rfl h60b (by omega) (by omega) (by omega) ?_
  refine g_callV 15 rfl cv_RL_221 hfs hC2 rfl rfl (by omega) (by omega) (by omega) (Nat.le_of_ble_eq_true rfl) (fun v9 M2 n2 h9 _ => ?_) (fun E M2 n2 h9 _ => by obtain ⟨-, b, -, h3, -⟩ := hQ2 _ _ _ h9; cases h3)
  obtain ⟨e2, b, hb, h3, hg, q2, A2, hq6, hZ2⟩ := hQ2 _ _ _ h9
  cases h3
  subst e2
  refine g_run 16 2 rfl ?_
  refine g_callV 18 rfl cv_RL_152 (LZ_mm hZ2).2.1 (m_thrown (LZ_mm hZ2)) rfl rfl (by omega) (by omega) (by omega) (Nat.le_of_ble_eq_true rfl) (e_kr ?_) e_kx
  rw [hq6]
  refine g_run 19 1 rfl ?_
  refine g_icmp_eq 20 1590 rfl rfl hk hk (fun _ => ?_) (fun c => absurd rfl c)
  refine g_run 23 1 rfl ?_
  refine g_if_ne 24 1607 rfl rfl hk (fun c8 => ?_) (fun c8 => ?_)
  · skip
    refine g_run 34 1 rfl ?_
    exact G_tb tl_0 (kk _ _ _ _ _ _ _ _ _ hZ2 (by omega) (by omega))
  · have k0 : k = 0 := by omega
    obtain ⟨g, hg1, hg2⟩ := hg k0
    refine g_run 25 2 rfl ?_
    refine g_lald 27 0 rfl rfl hg1 (by decide) rfl (by decide) (by decide) ?_
    rw [hg2]
    refine g_run 28 1 rfl ?_
    refine g_i2l 29 rfl hb ?_
    refine g_lcmp 30 rfl (lcmp_self _) ?_
    refine g_if_eq 31 1607 rfl rfl (by decide) (fun _ => ?_) (fun c => absurd rfl c)
    refine g_run 34 1 rfl ?_
    exact G_tb tl_0 (kk _ _ _ _ _ _ _ _ _ hZ2 (by omega) (by omega))
def tbL_23 : List (Nat × Instr × Nat) := [(1610, .aload_n 1, 1611), (1611, .aload_n 0, 1612), (1612, .iload 5, 1614), (1614, .iconst 1, 1615), (1615, .iadd, 1616), (1616, .iaload, 1617), (1617, .aload_n 3, 1618), (1618, .invokestatic 222, 1621), (1621, .istore 6, 1623), (1623, .aload_n 2, 1624), (1624, .aload_n 0, 1625), (1625, .iload 5, 1627), (1627, .iconst 1, 1628), (1628, .iadd, 1629), (1629, .iaload, 1630), (1630, .invokevirtual 224, 1633), (1633, .istore 7, 1635), (1635, .aload_n 2, 1636), (1636, .invokevirtual 152, 1639), (1639, .iload 6, 1641), (1641, .if_icmp .eq 5, 1644), (1644, .iconst 0, 1645), (1645, .ireturn, 1646), (1646, .iload 6, 1648), (1648, .ifCond .ne 15, 1651), (1651, .aload_n 3, 1652), (1652, .iconst 0, 1653), (1653, .laload, 1654), (1654, .iload 7, 1656), (1656, .i2l, 1657), (1657, .lcmp, 1658), (1658, .ifCond .eq 5, 1661), (1661, .iconst 0, 1662), (1662, .ireturn, 1663), (1663, .goto 961, 1666)]
theorem tl_23 : e_tb cL_law tbL_23 = true := by decide +kernel
theorem law_23 (hK : KM Γ) (hP9 : PV Γ) (hB : 20 ≤ B ∧ B + 2400 ≤ 10000000) (hZ : LZ B M n q A) (hxs : ∀ j, i32 (xs j)) (h60 : Γ.cM 60 = cI 10 L xs) (i : Nat) (hi : 5 * i + 5 ≤ L) (hL : L ≤ 2560) (hkc : kc + 2 ≤ mc) (hks : ks + 200 ≤ ms) (x6 x7 x8 : Option aV) (kk : lawK r0 Γ mc ms Q B i kc ks) : G (e_L r0) Γ (lawX tbL_0) 20 mc ms Q 1610 (lawL i x6 x7 x8) [] M n kc ks := by
  refine G_tb tl_23 ?_
  obtain ⟨d1, mc1, ms1, d2, P, ⟨b1, b2, b3, b4⟩, hC1, hY⟩ := s_bakedDoor (r0 := r0) (Γ := Γ) hB hZ (xs (5 * i + 1)) (hxs _)
  refine g_run 0 5 rfl ?_
  refine g_low (fun hla => ?_)
  have h60a := (hla 60 (by decide)).trans h60
  refine g_iald 5 (5 * i + 1) rfl rfl h60a (by omega) (by omega) (by omega) ?_
  refine g_run 6 1 rfl ?_
  refine g_callSX 7 rfl cs_RL_222 hC1 rfl rfl (by omega) (by omega) (by omega) (Nat.le_of_ble_eq_true rfl) (fun v9 M1 n1 h9 _ => ?_) (fun E M1 n1 h9 _ => by obtain ⟨k, h3, -⟩ := h9; cases h3)
  obtain ⟨k, h3, hP⟩ := h9
  cases h3
  obtain ⟨hk, ⟨fs9, hfs⟩, Q2, hC2, hQ2⟩ := hY k M1 n1 hP
  refine g_run 8 6 rfl ?_
  refine g_low (fun hlb => ?_)
  have h60b := (hlb 60 (by decide)).trans h60
  refine g_iald 14 (5 * i + 1) rfl rfl h60b (by omega) (by omega) (by omega) ?_
  refine g_callV 15 rfl cv_RL_224 hfs hC2 rfl rfl (by omega) (by omega) (by omega) (Nat.le_of_ble_eq_true rfl) (fun v9 M2 n2 h9 _ => ?_) (fun E M2 n2 h9 _ => by obtain ⟨-, b, -, h3, -⟩ := hQ2 _ _ _ h9; cases h3)
  obtain ⟨e2, b, hb, h3, hg, q2, A2, hq6, hZ2⟩ := hQ2 _ _ _ h9
  cases h3
  subst e2
  refine g_run 16 2 rfl ?_
  refine g_callV 18 rfl cv_RL_152 (LZ_mm hZ2).2.1 (m_thrown (LZ_mm hZ2)) rfl rfl (by omega) (by omega) (by omega) (Nat.le_of_ble_eq_true rfl) (e_kr ?_) e_kx
  rw [hq6]
  refine g_run 19 1 rfl ?_
  refine g_icmp_eq 20 1646 rfl rfl hk hk (fun _ => ?_) (fun c => absurd rfl c)
  refine g_run 23 1 rfl ?_
  refine g_if_ne 24 1663 rfl rfl hk (fun c8 => ?_) (fun c8 => ?_)
  · skip
    refine g_run 34 1 rfl ?_
    exact G_tb tl_0 (kk _ _ _ _ _ _ _ _ _ hZ2 (by omega) (by omega))
  · have k0 : k = 0 := by omega
    obtain ⟨g, hg1, hg2⟩ := hg k0
    refine g_run 25 2 rfl ?_
    refine g_lald 27 0 rfl rfl hg1 (by decide) rfl (by decide) (by decide) ?_
    rw [hg2]
    refine g_run 28 1 rfl ?_
    refine g_i2l 29 rfl hb ?_
    refine g_lcmp 30 rfl (lcmp_self _) ?_
    refine g_if_eq 31 1663 rfl rfl (by decide) (fun _ => ?_) (fun c => absurd rfl c)
    refine g_run 34 1 rfl ?_
    exact G_tb tl_0 (kk _ _ _ _ _ _ _ _ _ hZ2 (by omega) (by omega))
def tbL_24 : List (Nat × Instr × Nat) := [(1666, .aload_n 1, 1667), (1667, .aload_n 0, 1668), (1668, .iload 5, 1670), (1670, .iconst 1, 1671), (1671, .iadd, 1672), (1672, .iaload, 1673), (1673, .aload_n 3, 1674), (1674, .invokestatic 225, 1677), (1677, .istore 6, 1679), (1679, .aload_n 2, 1680), (1680, .aload_n 0, 1681), (1681, .iload 5, 1683), (1683, .iconst 1, 1684), (1684, .iadd, 1685), (1685, .iaload, 1686), (1686, .invokevirtual 227, 1689), (1689, .istore 7, 1691), (1691, .aload_n 2, 1692), (1692, .invokevirtual 152, 1695), (1695, .iload 6, 1697), (1697, .if_icmp .eq 5, 1700), (1700, .iconst 0, 1701), (1701, .ireturn, 1702), (1702, .iload 6, 1704), (1704, .ifCond .ne 15, 1707), (1707, .aload_n 3, 1708), (1708, .iconst 0, 1709), (1709, .laload, 1710), (1710, .iload 7, 1712), (1712, .i2l, 1713), (1713, .lcmp, 1714), (1714, .ifCond .eq 5, 1717), (1717, .iconst 0, 1718), (1718, .ireturn, 1719), (1719, .goto 905, 1722)]
theorem tl_24 : e_tb cL_law tbL_24 = true := by decide +kernel
theorem law_24 (hK : KM Γ) (hP9 : PV Γ) (hB : 20 ≤ B ∧ B + 2400 ≤ 10000000) (hZ : LZ B M n q A) (hxs : ∀ j, i32 (xs j)) (h60 : Γ.cM 60 = cI 10 L xs) (i : Nat) (hi : 5 * i + 5 ≤ L) (hL : L ≤ 2560) (hkc : kc + 2 ≤ mc) (hks : ks + 200 ≤ ms) (x6 x7 x8 : Option aV) (kk : lawK r0 Γ mc ms Q B i kc ks) : G (e_L r0) Γ (lawX tbL_0) 20 mc ms Q 1666 (lawL i x6 x7 x8) [] M n kc ks := by
  refine G_tb tl_24 ?_
  obtain ⟨d1, mc1, ms1, d2, P, ⟨b1, b2, b3, b4⟩, hC1, hY⟩ := s_bakingHours (r0 := r0) (Γ := Γ) hB hZ (xs (5 * i + 1)) (hxs _)
  refine g_run 0 5 rfl ?_
  refine g_low (fun hla => ?_)
  have h60a := (hla 60 (by decide)).trans h60
  refine g_iald 5 (5 * i + 1) rfl rfl h60a (by omega) (by omega) (by omega) ?_
  refine g_run 6 1 rfl ?_
  refine g_callSX 7 rfl cs_RL_225 hC1 rfl rfl (by omega) (by omega) (by omega) (Nat.le_of_ble_eq_true rfl) (fun v9 M1 n1 h9 _ => ?_) (fun E M1 n1 h9 _ => by obtain ⟨k, h3, -⟩ := h9; cases h3)
  obtain ⟨k, h3, hP⟩ := h9
  cases h3
  obtain ⟨hk, ⟨fs9, hfs⟩, Q2, hC2, hQ2⟩ := hY k M1 n1 hP
  refine g_run 8 6 rfl ?_
  refine g_low (fun hlb => ?_)
  have h60b := (hlb 60 (by decide)).trans h60
  refine g_iald 14 (5 * i + 1) rfl rfl h60b (by omega) (by omega) (by omega) ?_
  refine g_callV 15 rfl cv_RL_227 hfs hC2 rfl rfl (by omega) (by omega) (by omega) (Nat.le_of_ble_eq_true rfl) (fun v9 M2 n2 h9 _ => ?_) (fun E M2 n2 h9 _ => by obtain ⟨-, b, -, h3, -⟩ := hQ2 _ _ _ h9; cases h3)
  obtain ⟨e2, b, hb, h3, hg, q2, A2, hq6, hZ2⟩ := hQ2 _ _ _ h9
  cases h3
  subst e2
  refine g_run 16 2 rfl ?_
  refine g_callV 18 rfl cv_RL_152 (LZ_mm hZ2).2.1 (m_thrown (LZ_mm hZ2)) rfl rfl (by omega) (by omega) (by omega) (Nat.le_of_ble_eq_true rfl) (e_kr ?_) e_kx
  rw [hq6]
  refine g_run 19 1 rfl ?_
  refine g_icmp_eq 20 1702 rfl rfl hk hk (fun _ => ?_) (fun c => absurd rfl c)
  refine g_run 23 1 rfl ?_
  refine g_if_ne 24 1719 rfl rfl hk (fun c8 => ?_) (fun c8 => ?_)
  · skip
    refine g_run 34 1 rfl ?_
    exact G_tb tl_0 (kk _ _ _ _ _ _ _ _ _ hZ2 (by omega) (by omega))
  · have k0 : k = 0 := by omega
    obtain ⟨g, hg1, hg2⟩ := hg k0
    refine g_run 25 2 rfl ?_
    refine g_lald 27 0 rfl rfl hg1 (by decide) rfl (by decide) (by decide) ?_
    rw [hg2]
    refine g_run 28 1 rfl ?_
    refine g_i2l 29 rfl hb ?_
    refine g_lcmp 30 rfl (lcmp_self _) ?_
    refine g_if_eq 31 1719 rfl rfl (by decide) (fun _ => ?_) (fun c => absurd rfl c)
    refine g_run 34 1 rfl ?_
    exact G_tb tl_0 (kk _ _ _ _ _ _ _ _ _ hZ2 (by omega) (by omega))
def tbL_25 : List (Nat × Instr × Nat) := [(1722, .aload_n 1, 1723), (1723, .aload_n 0, 1724), (1724, .iload 5, 1726), (1726, .iconst 1, 1727), (1727, .iadd, 1728), (1728, .iaload, 1729), (1729, .aload_n 3, 1730), (1730, .invokestatic 228, 1733), (1733, .istore 6, 1735), (1735, .aload_n 2, 1736), (1736, .aload_n 0, 1737), (1737, .iload 5, 1739), (1739, .iconst 1, 1740), (1740, .iadd, 1741), (1741, .iaload, 1742), (1742, .invokevirtual 230, 1745), (1745, .istore 7, 1747), (1747, .aload_n 2, 1748), (1748, .invokevirtual 152, 1751), (1751, .iload 6, 1753), (1753, .if_icmp .eq 5, 1756), (1756, .iconst 0, 1757), (1757, .ireturn, 1758), (1758, .iload 6, 1760), (1760, .ifCond .ne 22, 1763), (1763, .aload_n 3, 1764), (1764, .iconst 0, 1765), (1765, .laload, 1766), (1766, .iload 7, 1768), (1768, .ifCond .eq 7, 1771), (1771, .lconst 1, 1772), (1772, .goto 4, 1775), (1775, .lconst 0, 1776), (1776, .lcmp, 1777), (1777, .ifCond .eq 5, 1780), (1780, .iconst 0, 1781), (1781, .ireturn, 1782), (1782, .goto 842, 1785)]
theorem tl_25 : e_tb cL_law tbL_25 = true := by decide +kernel
theorem law_25 (hK : KM Γ) (hP9 : PV Γ) (hB : 20 ≤ B ∧ B + 2400 ≤ 10000000) (hZ : LZ B M n q A) (hxs : ∀ j, i32 (xs j)) (h60 : Γ.cM 60 = cI 10 L xs) (i : Nat) (hi : 5 * i + 5 ≤ L) (hL : L ≤ 2560) (hkc : kc + 2 ≤ mc) (hks : ks + 200 ≤ ms) (x6 x7 x8 : Option aV) (kk : lawK r0 Γ mc ms Q B i kc ks) : G (e_L r0) Γ (lawX tbL_0) 20 mc ms Q 1722 (lawL i x6 x7 x8) [] M n kc ks := by
  refine G_tb tl_25 ?_
  obtain ⟨d1, mc1, ms1, d2, P, ⟨b1, b2, b3, b4⟩, hC1, hY⟩ := s_isBaking (r0 := r0) (Γ := Γ) hB hZ (xs (5 * i + 1)) (hxs _)
  refine g_run 0 5 rfl ?_
  refine g_low (fun hla => ?_)
  have h60a := (hla 60 (by decide)).trans h60
  refine g_iald 5 (5 * i + 1) rfl rfl h60a (by omega) (by omega) (by omega) ?_
  refine g_run 6 1 rfl ?_
  refine g_callSX 7 rfl cs_RL_228 hC1 rfl rfl (by omega) (by omega) (by omega) (Nat.le_of_ble_eq_true rfl) (fun v9 M1 n1 h9 _ => ?_) (fun E M1 n1 h9 _ => by obtain ⟨k, h3, -⟩ := h9; cases h3)
  obtain ⟨k, h3, hP⟩ := h9
  cases h3
  obtain ⟨hk, ⟨fs9, hfs⟩, Q2, hC2, hQ2⟩ := hY k M1 n1 hP
  refine g_run 8 6 rfl ?_
  refine g_low (fun hlb => ?_)
  have h60b := (hlb 60 (by decide)).trans h60
  refine g_iald 14 (5 * i + 1) rfl rfl h60b (by omega) (by omega) (by omega) ?_
  refine g_callV 15 rfl cv_RL_230 hfs hC2 rfl rfl (by omega) (by omega) (by omega) (Nat.le_of_ble_eq_true rfl) (fun v9 M2 n2 h9 _ => ?_) (fun E M2 n2 h9 _ => by obtain ⟨-, b, -, h3, -⟩ := hQ2 _ _ _ h9; cases h3)
  obtain ⟨e2, b, hb, h3, hg, q2, A2, hq6, hZ2⟩ := hQ2 _ _ _ h9
  cases h3
  subst e2
  refine g_run 16 2 rfl ?_
  refine g_callV 18 rfl cv_RL_152 (LZ_mm hZ2).2.1 (m_thrown (LZ_mm hZ2)) rfl rfl (by omega) (by omega) (by omega) (Nat.le_of_ble_eq_true rfl) (e_kr ?_) e_kx
  rw [hq6]
  refine g_run 19 1 rfl ?_
  refine g_icmp_eq 20 1758 rfl rfl hk hk (fun _ => ?_) (fun c => absurd rfl c)
  refine g_run 23 1 rfl ?_
  refine g_if_ne 24 1782 rfl rfl hk (fun c8 => ?_) (fun c8 => ?_)
  · skip
    refine g_run 37 1 rfl ?_
    exact G_tb tl_0 (kk _ _ _ _ _ _ _ _ _ hZ2 (by omega) (by omega))
  · have k0 : k = 0 := by omega
    obtain ⟨g, hg1, hg2⟩ := hg k0
    refine g_run 25 2 rfl ?_
    refine g_lald 27 0 rfl rfl hg1 (by decide) rfl (by decide) (by decide) ?_
    rw [hg2]
    rcases hb with rfl | rfl
    · refine g_run 28 1 rfl ?_
      refine g_if_eq 29 1775 rfl rfl (by decide) (fun _ => ?_) (fun c => absurd rfl c)
      refine g_lconst 32 rfl ?_
      refine g_lcmp 33 (z := 0) rfl (by decide) ?_
      refine g_if_eq 34 1782 rfl rfl (by decide) (fun _ => ?_) (fun c => absurd rfl c)
      refine g_run 37 1 rfl ?_
      exact G_tb tl_0 (kk _ _ _ _ _ _ _ _ _ hZ2 (by omega) (by omega))
    · refine g_run 28 1 rfl ?_
      refine g_if_eq 29 1775 rfl rfl (by decide) (fun c => absurd c (by decide)) (fun _ => ?_)
      refine g_lconst 30 rfl ?_
      refine g_run 31 1 rfl ?_
      refine g_lcmp 33 (z := 0) rfl (by decide) ?_
      refine g_if_eq 34 1782 rfl rfl (by decide) (fun _ => ?_) (fun c => absurd rfl c)
      refine g_run 37 1 rfl ?_
      exact G_tb tl_0 (kk _ _ _ _ _ _ _ _ _ hZ2 (by omega) (by omega))
def tbL_26 : List (Nat × Instr × Nat) := [(1785, .aload_n 1, 1786), (1786, .aload_n 0, 1787), (1787, .iload 5, 1789), (1789, .iconst 1, 1790), (1790, .iadd, 1791), (1791, .iaload, 1792), (1792, .aload_n 3, 1793), (1793, .invokestatic 231, 1796), (1796, .istore 6, 1798), (1798, .aload_n 2, 1799), (1799, .aload_n 0, 1800), (1800, .iload 5, 1802), (1802, .iconst 1, 1803), (1803, .iadd, 1804), (1804, .iaload, 1805), (1805, .invokevirtual 233, 1808), (1808, .istore 7, 1810), (1810, .aload_n 2, 1811), (1811, .invokevirtual 152, 1814), (1814, .iload 6, 1816), (1816, .if_icmp .eq 5, 1819), (1819, .iconst 0, 1820), (1820, .ireturn, 1821), (1821, .iload 6, 1823), (1823, .ifCond .ne 15, 1826), (1826, .aload_n 3, 1827), (1827, .iconst 0, 1828), (1828, .laload, 1829), (1829, .iload 7, 1831), (1831, .i2l, 1832), (1832, .lcmp, 1833), (1833, .ifCond .eq 5, 1836), (1836, .iconst 0, 1837), (1837, .ireturn, 1838), (1838, .goto 786, 1841)]
theorem tl_26 : e_tb cL_law tbL_26 = true := by decide +kernel
theorem law_26 (hK : KM Γ) (hP9 : PV Γ) (hB : 20 ≤ B ∧ B + 2400 ≤ 10000000) (hZ : LZ B M n q A) (hxs : ∀ j, i32 (xs j)) (h60 : Γ.cM 60 = cI 10 L xs) (i : Nat) (hi : 5 * i + 5 ≤ L) (hL : L ≤ 2560) (hkc : kc + 2 ≤ mc) (hks : ks + 200 ≤ ms) (x6 x7 x8 : Option aV) (kk : lawK r0 Γ mc ms Q B i kc ks) : G (e_L r0) Γ (lawX tbL_0) 20 mc ms Q 1785 (lawL i x6 x7 x8) [] M n kc ks := by
  refine G_tb tl_26 ?_
  obtain ⟨d1, mc1, ms1, d2, P, ⟨b1, b2, b3, b4⟩, hC1, hY⟩ := s_doorByCrumbs (r0 := r0) (Γ := Γ) hB hZ (xs (5 * i + 1)) (hxs _)
  refine g_run 0 5 rfl ?_
  refine g_low (fun hla => ?_)
  have h60a := (hla 60 (by decide)).trans h60
  refine g_iald 5 (5 * i + 1) rfl rfl h60a (by omega) (by omega) (by omega) ?_
  refine g_run 6 1 rfl ?_
  refine g_callSX 7 rfl cs_RL_231 hC1 rfl rfl (by omega) (by omega) (by omega) (Nat.le_of_ble_eq_true rfl) (fun v9 M1 n1 h9 _ => ?_) (fun E M1 n1 h9 _ => by obtain ⟨k, h3, -⟩ := h9; cases h3)
  obtain ⟨k, h3, hP⟩ := h9
  cases h3
  obtain ⟨hk, ⟨fs9, hfs⟩, Q2, hC2, hQ2⟩ := hY k M1 n1 hP
  refine g_run 8 6 rfl ?_
  refine g_low (fun hlb => ?_)
  have h60b := (hlb 60 (by decide)).trans h60
  refine g_iald 14 (5 * i + 1) rfl rfl h60b (by omega) (by omega) (by omega) ?_
  refine g_callV 15 rfl cv_RL_233 hfs hC2 rfl rfl (by omega) (by omega) (by omega) (Nat.le_of_ble_eq_true rfl) (fun v9 M2 n2 h9 _ => ?_) (fun E M2 n2 h9 _ => by obtain ⟨-, b, -, h3, -⟩ := hQ2 _ _ _ h9; cases h3)
  obtain ⟨e2, b, hb, h3, hg, q2, A2, hq6, hZ2⟩ := hQ2 _ _ _ h9
  cases h3
  subst e2
  refine g_run 16 2 rfl ?_
  refine g_callV 18 rfl cv_RL_152 (LZ_mm hZ2).2.1 (m_thrown (LZ_mm hZ2)) rfl rfl (by omega) (by omega) (by omega) (Nat.le_of_ble_eq_true rfl) (e_kr ?_) e_kx
  rw [hq6]
  refine g_run 19 1 rfl ?_
  refine g_icmp_eq 20 1821 rfl rfl hk hk (fun _ => ?_) (fun c => absurd rfl c)
  refine g_run 23 1 rfl ?_
  refine g_if_ne 24 1838 rfl rfl hk (fun c8 => ?_) (fun c8 => ?_)
  · skip
    refine g_run 34 1 rfl ?_
    exact G_tb tl_0 (kk _ _ _ _ _ _ _ _ _ hZ2 (by omega) (by omega))
  · have k0 : k = 0 := by omega
    obtain ⟨g, hg1, hg2⟩ := hg k0
    refine g_run 25 2 rfl ?_
    refine g_lald 27 0 rfl rfl hg1 (by decide) rfl (by decide) (by decide) ?_
    rw [hg2]
    refine g_run 28 1 rfl ?_
    refine g_i2l 29 rfl hb ?_
    refine g_lcmp 30 rfl (lcmp_self _) ?_
    refine g_if_eq 31 1838 rfl rfl (by decide) (fun _ => ?_) (fun c => absurd rfl c)
    refine g_run 34 1 rfl ?_
    exact G_tb tl_0 (kk _ _ _ _ _ _ _ _ _ hZ2 (by omega) (by omega))
def tbL_27 : List (Nat × Instr × Nat) := [(1841, .aload_n 1, 1842), (1842, .invokevirtual 234, 1845), (1845, .aload_n 2, 1846), (1846, .invokevirtual 237, 1849), (1849, .if_icmp .eq 775, 1852), (1852, .iconst 0, 1853), (1853, .ireturn, 1854)]
theorem tl_27 : e_tb cL_law tbL_27 = true := by decide +kernel
theorem law_27 (hK : KM Γ) (hP9 : PV Γ) (hB : 20 ≤ B ∧ B + 2400 ≤ 10000000) (hZ : LZ B M n q A) (hxs : ∀ j, i32 (xs j)) (h60 : Γ.cM 60 = cI 10 L xs) (i : Nat) (hi : 5 * i + 5 ≤ L) (hL : L ≤ 2560) (hkc : kc + 2 ≤ mc) (hks : ks + 200 ≤ ms) (x6 x7 x8 : Option aV) (kk : lawK r0 Γ mc ms Q B i kc ks) : G (e_L r0) Γ (lawX tbL_0) 20 mc ms Q 1841 (lawL i x6 x7 x8) [] M n kc ks := by
  refine G_tb tl_27 ?_
  obtain ⟨d1, mc1, ms1, d2, z, P, ⟨b1, b2, b3, b4⟩, hw, ⟨Q1, hC1, hQ1⟩, hY⟩ := s_rememberedTries (r0 := r0) (Γ := Γ) hB hZ
  obtain ⟨fx, hfx⟩ := LZ_xo hZ
  refine g_run 0 1 rfl ?_
  refine g_callV 1 rfl cv_RL_234 hfx hC1 rfl rfl (by omega) (by omega) (by omega) (Nat.le_of_ble_eq_true rfl) (fun v9 M1 n1 h9 _ => ?_) (fun E M1 n1 h9 _ => by have h3 := (hQ1 _ _ _ h9).1; cases h3)
  obtain ⟨h3, hP⟩ := hQ1 _ _ _ h9
  cases h3
  obtain ⟨⟨fs9, hfs⟩, Q2, hC2, hQ2⟩ := hY M1 n1 hP
  refine g_run 2 1 rfl ?_
  refine g_callV 3 rfl cv_RL_237 hfs hC2 rfl rfl (by omega) (by omega) (by omega) (Nat.le_of_ble_eq_true rfl) (fun v9 M2 n2 h9 _ => ?_) (fun E M2 n2 h9 _ => by have h3 := (hQ2 _ _ _ h9).2.1; cases h3)
  obtain ⟨e2, h3, q2, A2, hZ2⟩ := hQ2 _ _ _ h9
  cases h3
  subst e2
  refine g_icmp_eq 4 2624 rfl rfl hw hw (fun _ => ?_) (fun c => absurd rfl c)
  exact G_tb tl_0 (kk _ _ _ _ _ _ _ _ _ hZ2 (by omega) (by omega))
def tbL_28 : List (Nat × Instr × Nat) := [(1854, .aload_n 1, 1855), (1855, .aload_n 0, 1856), (1856, .iload 5, 1858), (1858, .iconst 1, 1859), (1859, .iadd, 1860), (1860, .iaload, 1861), (1861, .aload_n 3, 1862), (1862, .invokestatic 238, 1865), (1865, .istore 6, 1867), (1867, .aload_n 2, 1868), (1868, .aload_n 0, 1869), (1869, .iload 5, 1871), (1871, .iconst 1, 1872), (1872, .iadd, 1873), (1873, .iaload, 1874), (1874, .invokevirtual 240, 1877), (1877, .istore 7, 1879), (1879, .aload_n 2, 1880), (1880, .invokevirtual 152, 1883), (1883, .iload 6, 1885), (1885, .if_icmp .eq 5, 1888), (1888, .iconst 0, 1889), (1889, .ireturn, 1890), (1890, .iload 6, 1892), (1892, .ifCond .ne 15, 1895), (1895, .aload_n 3, 1896), (1896, .iconst 0, 1897), (1897, .laload, 1898), (1898, .iload 7, 1900), (1900, .i2l, 1901), (1901, .lcmp, 1902), (1902, .ifCond .eq 5, 1905), (1905, .iconst 0, 1906), (1906, .ireturn, 1907), (1907, .goto 717, 1910)]
theorem tl_28 : e_tb cL_law tbL_28 = true := by decide +kernel
theorem law_28 (hK : KM Γ) (hP9 : PV Γ) (hB : 20 ≤ B ∧ B + 2400 ≤ 10000000) (hZ : LZ B M n q A) (hxs : ∀ j, i32 (xs j)) (h60 : Γ.cM 60 = cI 10 L xs) (i : Nat) (hi : 5 * i + 5 ≤ L) (hL : L ≤ 2560) (hkc : kc + 2 ≤ mc) (hks : ks + 200 ≤ ms) (x6 x7 x8 : Option aV) (kk : lawK r0 Γ mc ms Q B i kc ks) : G (e_L r0) Γ (lawX tbL_0) 20 mc ms Q 1854 (lawL i x6 x7 x8) [] M n kc ks := by
  refine G_tb tl_28 ?_
  obtain ⟨d1, mc1, ms1, d2, P, ⟨b1, b2, b3, b4⟩, hC1, hY⟩ := s_triedDoor (r0 := r0) (Γ := Γ) hB hZ (xs (5 * i + 1)) (hxs _)
  refine g_run 0 5 rfl ?_
  refine g_low (fun hla => ?_)
  have h60a := (hla 60 (by decide)).trans h60
  refine g_iald 5 (5 * i + 1) rfl rfl h60a (by omega) (by omega) (by omega) ?_
  refine g_run 6 1 rfl ?_
  refine g_callSX 7 rfl cs_RL_238 hC1 rfl rfl (by omega) (by omega) (by omega) (Nat.le_of_ble_eq_true rfl) (fun v9 M1 n1 h9 _ => ?_) (fun E M1 n1 h9 _ => by obtain ⟨k, h3, -⟩ := h9; cases h3)
  obtain ⟨k, h3, hP⟩ := h9
  cases h3
  obtain ⟨hk, ⟨fs9, hfs⟩, Q2, hC2, hQ2⟩ := hY k M1 n1 hP
  refine g_run 8 6 rfl ?_
  refine g_low (fun hlb => ?_)
  have h60b := (hlb 60 (by decide)).trans h60
  refine g_iald 14 (5 * i + 1) rfl rfl h60b (by omega) (by omega) (by omega) ?_
  refine g_callV 15 rfl cv_RL_240 hfs hC2 rfl rfl (by omega) (by omega) (by omega) (Nat.le_of_ble_eq_true rfl) (fun v9 M2 n2 h9 _ => ?_) (fun E M2 n2 h9 _ => by obtain ⟨-, b, -, h3, -⟩ := hQ2 _ _ _ h9; cases h3)
  obtain ⟨e2, b, hb, h3, hg, q2, A2, hq6, hZ2⟩ := hQ2 _ _ _ h9
  cases h3
  subst e2
  refine g_run 16 2 rfl ?_
  refine g_callV 18 rfl cv_RL_152 (LZ_mm hZ2).2.1 (m_thrown (LZ_mm hZ2)) rfl rfl (by omega) (by omega) (by omega) (Nat.le_of_ble_eq_true rfl) (e_kr ?_) e_kx
  rw [hq6]
  refine g_run 19 1 rfl ?_
  refine g_icmp_eq 20 1890 rfl rfl hk hk (fun _ => ?_) (fun c => absurd rfl c)
  refine g_run 23 1 rfl ?_
  refine g_if_ne 24 1907 rfl rfl hk (fun c8 => ?_) (fun c8 => ?_)
  · skip
    refine g_run 34 1 rfl ?_
    exact G_tb tl_0 (kk _ _ _ _ _ _ _ _ _ hZ2 (by omega) (by omega))
  · have k0 : k = 0 := by omega
    obtain ⟨g, hg1, hg2⟩ := hg k0
    refine g_run 25 2 rfl ?_
    refine g_lald 27 0 rfl rfl hg1 (by decide) rfl (by decide) (by decide) ?_
    rw [hg2]
    refine g_run 28 1 rfl ?_
    refine g_i2l 29 rfl hb ?_
    refine g_lcmp 30 rfl (lcmp_self _) ?_
    refine g_if_eq 31 1907 rfl rfl (by decide) (fun _ => ?_) (fun c => absurd rfl c)
    refine g_run 34 1 rfl ?_
    exact G_tb tl_0 (kk _ _ _ _ _ _ _ _ _ hZ2 (by omega) (by omega))
def tbL_29 : List (Nat × Instr × Nat) := [(1910, .aload_n 1, 1911), (1911, .aload_n 0, 1912), (1912, .iload 5, 1914), (1914, .iconst 1, 1915), (1915, .iadd, 1916), (1916, .iaload, 1917), (1917, .aload_n 3, 1918), (1918, .invokestatic 241, 1921), (1921, .istore 6, 1923), (1923, .aload_n 2, 1924), (1924, .aload_n 0, 1925), (1925, .iload 5, 1927), (1927, .iconst 1, 1928), (1928, .iadd, 1929), (1929, .iaload, 1930), (1930, .invokevirtual 243, 1933), (1933, .istore 7, 1935), (1935, .aload_n 2, 1936), (1936, .invokevirtual 152, 1939), (1939, .iload 6, 1941), (1941, .if_icmp .eq 5, 1944), (1944, .iconst 0, 1945), (1945, .ireturn, 1946), (1946, .iload 6, 1948), (1948, .ifCond .ne 22, 1951), (1951, .aload_n 3, 1952), (1952, .iconst 0, 1953), (1953, .laload, 1954), (1954, .iload 7, 1956), (1956, .ifCond .eq 7, 1959), (1959, .lconst 1, 1960), (1960, .goto 4, 1963), (1963, .lconst 0, 1964), (1964, .lcmp, 1965), (1965, .ifCond .eq 5, 1968), (1968, .iconst 0, 1969), (1969, .ireturn, 1970), (1970, .goto 654, 1973)]
theorem tl_29 : e_tb cL_law tbL_29 = true := by decide +kernel
theorem law_29 (hK : KM Γ) (hP9 : PV Γ) (hB : 20 ≤ B ∧ B + 2400 ≤ 10000000) (hZ : LZ B M n q A) (hxs : ∀ j, i32 (xs j)) (h60 : Γ.cM 60 = cI 10 L xs) (i : Nat) (hi : 5 * i + 5 ≤ L) (hL : L ≤ 2560) (hkc : kc + 2 ≤ mc) (hks : ks + 200 ≤ ms) (x6 x7 x8 : Option aV) (kk : lawK r0 Γ mc ms Q B i kc ks) : G (e_L r0) Γ (lawX tbL_0) 20 mc ms Q 1910 (lawL i x6 x7 x8) [] M n kc ks := by
  refine G_tb tl_29 ?_
  obtain ⟨d1, mc1, ms1, d2, P, ⟨b1, b2, b3, b4⟩, hC1, hY⟩ := s_didOpen (r0 := r0) (Γ := Γ) hB hZ (xs (5 * i + 1)) (hxs _)
  refine g_run 0 5 rfl ?_
  refine g_low (fun hla => ?_)
  have h60a := (hla 60 (by decide)).trans h60
  refine g_iald 5 (5 * i + 1) rfl rfl h60a (by omega) (by omega) (by omega) ?_
  refine g_run 6 1 rfl ?_
  refine g_callSX 7 rfl cs_RL_241 hC1 rfl rfl (by omega) (by omega) (by omega) (Nat.le_of_ble_eq_true rfl) (fun v9 M1 n1 h9 _ => ?_) (fun E M1 n1 h9 _ => by obtain ⟨k, h3, -⟩ := h9; cases h3)
  obtain ⟨k, h3, hP⟩ := h9
  cases h3
  obtain ⟨hk, ⟨fs9, hfs⟩, Q2, hC2, hQ2⟩ := hY k M1 n1 hP
  refine g_run 8 6 rfl ?_
  refine g_low (fun hlb => ?_)
  have h60b := (hlb 60 (by decide)).trans h60
  refine g_iald 14 (5 * i + 1) rfl rfl h60b (by omega) (by omega) (by omega) ?_
  refine g_callV 15 rfl cv_RL_243 hfs hC2 rfl rfl (by omega) (by omega) (by omega) (Nat.le_of_ble_eq_true rfl) (fun v9 M2 n2 h9 _ => ?_) (fun E M2 n2 h9 _ => by obtain ⟨-, b, -, h3, -⟩ := hQ2 _ _ _ h9; cases h3)
  obtain ⟨e2, b, hb, h3, hg, q2, A2, hq6, hZ2⟩ := hQ2 _ _ _ h9
  cases h3
  subst e2
  refine g_run 16 2 rfl ?_
  refine g_callV 18 rfl cv_RL_152 (LZ_mm hZ2).2.1 (m_thrown (LZ_mm hZ2)) rfl rfl (by omega) (by omega) (by omega) (Nat.le_of_ble_eq_true rfl) (e_kr ?_) e_kx
  rw [hq6]
  refine g_run 19 1 rfl ?_
  refine g_icmp_eq 20 1946 rfl rfl hk hk (fun _ => ?_) (fun c => absurd rfl c)
  refine g_run 23 1 rfl ?_
  refine g_if_ne 24 1970 rfl rfl hk (fun c8 => ?_) (fun c8 => ?_)
  · skip
    refine g_run 37 1 rfl ?_
    exact G_tb tl_0 (kk _ _ _ _ _ _ _ _ _ hZ2 (by omega) (by omega))
  · have k0 : k = 0 := by omega
    obtain ⟨g, hg1, hg2⟩ := hg k0
    refine g_run 25 2 rfl ?_
    refine g_lald 27 0 rfl rfl hg1 (by decide) rfl (by decide) (by decide) ?_
    rw [hg2]
    rcases hb with rfl | rfl
    · refine g_run 28 1 rfl ?_
      refine g_if_eq 29 1963 rfl rfl (by decide) (fun _ => ?_) (fun c => absurd rfl c)
      refine g_lconst 32 rfl ?_
      refine g_lcmp 33 (z := 0) rfl (by decide) ?_
      refine g_if_eq 34 1970 rfl rfl (by decide) (fun _ => ?_) (fun c => absurd rfl c)
      refine g_run 37 1 rfl ?_
      exact G_tb tl_0 (kk _ _ _ _ _ _ _ _ _ hZ2 (by omega) (by omega))
    · refine g_run 28 1 rfl ?_
      refine g_if_eq 29 1963 rfl rfl (by decide) (fun c => absurd c (by decide)) (fun _ => ?_)
      refine g_lconst 30 rfl ?_
      refine g_run 31 1 rfl ?_
      refine g_lcmp 33 (z := 0) rfl (by decide) ?_
      refine g_if_eq 34 1970 rfl rfl (by decide) (fun _ => ?_) (fun c => absurd rfl c)
      refine g_run 37 1 rfl ?_
      exact G_tb tl_0 (kk _ _ _ _ _ _ _ _ _ hZ2 (by omega) (by omega))
def tbL_30 : List (Nat × Instr × Nat) := [(1973, .aload_n 1, 1974), (1974, .invokevirtual 244, 1977), (1977, .aload_n 2, 1978), (1978, .invokevirtual 247, 1981), (1981, .if_icmp .eq 643, 1984), (1984, .iconst 0, 1985), (1985, .ireturn, 1986)]
theorem tl_30 : e_tb cL_law tbL_30 = true := by decide +kernel
theorem law_30 (hK : KM Γ) (hP9 : PV Γ) (hB : 20 ≤ B ∧ B + 2400 ≤ 10000000) (hZ : LZ B M n q A) (hxs : ∀ j, i32 (xs j)) (h60 : Γ.cM 60 = cI 10 L xs) (i : Nat) (hi : 5 * i + 5 ≤ L) (hL : L ≤ 2560) (hkc : kc + 2 ≤ mc) (hks : ks + 200 ≤ ms) (x6 x7 x8 : Option aV) (kk : lawK r0 Γ mc ms Q B i kc ks) : G (e_L r0) Γ (lawX tbL_0) 20 mc ms Q 1973 (lawL i x6 x7 x8) [] M n kc ks := by
  refine G_tb tl_30 ?_
  obtain ⟨d1, mc1, ms1, d2, z, P, ⟨b1, b2, b3, b4⟩, hw, ⟨Q1, hC1, hQ1⟩, hY⟩ := s_shutLocks (r0 := r0) (Γ := Γ) hB hZ
  obtain ⟨fx, hfx⟩ := LZ_xo hZ
  refine g_run 0 1 rfl ?_
  refine g_callV 1 rfl cv_RL_244 hfx hC1 rfl rfl (by omega) (by omega) (by omega) (Nat.le_of_ble_eq_true rfl) (fun v9 M1 n1 h9 _ => ?_) (fun E M1 n1 h9 _ => by have h3 := (hQ1 _ _ _ h9).1; cases h3)
  obtain ⟨h3, hP⟩ := hQ1 _ _ _ h9
  cases h3
  obtain ⟨⟨fs9, hfs⟩, Q2, hC2, hQ2⟩ := hY M1 n1 hP
  refine g_run 2 1 rfl ?_
  refine g_callV 3 rfl cv_RL_247 hfs hC2 rfl rfl (by omega) (by omega) (by omega) (Nat.le_of_ble_eq_true rfl) (fun v9 M2 n2 h9 _ => ?_) (fun E M2 n2 h9 _ => by have h3 := (hQ2 _ _ _ h9).2.1; cases h3)
  obtain ⟨e2, h3, q2, A2, hZ2⟩ := hQ2 _ _ _ h9
  cases h3
  subst e2
  refine g_icmp_eq 4 2624 rfl rfl hw hw (fun _ => ?_) (fun c => absurd rfl c)
  exact G_tb tl_0 (kk _ _ _ _ _ _ _ _ _ hZ2 (by omega) (by omega))
def tbL_31 : List (Nat × Instr × Nat) := [(1986, .aload_n 1, 1987), (1987, .invokevirtual 248, 1990), (1990, .aload_n 2, 1991), (1991, .invokevirtual 251, 1994), (1994, .if_icmp .eq 630, 1997), (1997, .iconst 0, 1998), (1998, .ireturn, 1999)]
theorem tl_31 : e_tb cL_law tbL_31 = true := by decide +kernel
theorem law_31 (hK : KM Γ) (hP9 : PV Γ) (hB : 20 ≤ B ∧ B + 2400 ≤ 10000000) (hZ : LZ B M n q A) (hxs : ∀ j, i32 (xs j)) (h60 : Γ.cM 60 = cI 10 L xs) (i : Nat) (hi : 5 * i + 5 ≤ L) (hL : L ≤ 2560) (hkc : kc + 2 ≤ mc) (hks : ks + 200 ≤ ms) (x6 x7 x8 : Option aV) (kk : lawK r0 Γ mc ms Q B i kc ks) : G (e_L r0) Γ (lawX tbL_0) 20 mc ms Q 1986 (lawL i x6 x7 x8) [] M n kc ks := by
  refine G_tb tl_31 ?_
  obtain ⟨d1, mc1, ms1, d2, z, P, ⟨b1, b2, b3, b4⟩, hw, ⟨Q1, hC1, hQ1⟩, hY⟩ := s_shutLocksByAccounts (r0 := r0) (Γ := Γ) hB hZ
  obtain ⟨fx, hfx⟩ := LZ_xo hZ
  refine g_run 0 1 rfl ?_
  refine g_callV 1 rfl cv_RL_248 hfx hC1 rfl rfl (by omega) (by omega) (by omega) (Nat.le_of_ble_eq_true rfl) (fun v9 M1 n1 h9 _ => ?_) (fun E M1 n1 h9 _ => by have h3 := (hQ1 _ _ _ h9).1; cases h3)
  obtain ⟨h3, hP⟩ := hQ1 _ _ _ h9
  cases h3
  obtain ⟨⟨fs9, hfs⟩, Q2, hC2, hQ2⟩ := hY M1 n1 hP
  refine g_run 2 1 rfl ?_
  refine g_callV 3 rfl cv_RL_251 hfs hC2 rfl rfl (by omega) (by omega) (by omega) (Nat.le_of_ble_eq_true rfl) (fun v9 M2 n2 h9 _ => ?_) (fun E M2 n2 h9 _ => by have h3 := (hQ2 _ _ _ h9).2.1; cases h3)
  obtain ⟨e2, h3, q2, A2, hZ2⟩ := hQ2 _ _ _ h9
  cases h3
  subst e2
  refine g_icmp_eq 4 2624 rfl rfl hw hw (fun _ => ?_) (fun c => absurd rfl c)
  exact G_tb tl_0 (kk _ _ _ _ _ _ _ _ _ hZ2 (by omega) (by omega))
def tbL_32 : List (Nat × Instr × Nat) := [(1999, .aload_n 1, 2000), (2000, .invokevirtual 252, 2003), (2003, .aload_n 2, 2004), (2004, .invokevirtual 255, 2007), (2007, .if_icmp .eq 617, 2010), (2010, .iconst 0, 2011), (2011, .ireturn, 2012)]
theorem tl_32 : e_tb cL_law tbL_32 = true := by decide +kernel
theorem law_32 (hK : KM Γ) (hP9 : PV Γ) (hB : 20 ≤ B ∧ B + 2400 ≤ 10000000) (hZ : LZ B M n q A) (hxs : ∀ j, i32 (xs j)) (h60 : Γ.cM 60 = cI 10 L xs) (i : Nat) (hi : 5 * i + 5 ≤ L) (hL : L ≤ 2560) (hkc : kc + 2 ≤ mc) (hks : ks + 200 ≤ ms) (x6 x7 x8 : Option aV) (kk : lawK r0 Γ mc ms Q B i kc ks) : G (e_L r0) Γ (lawX tbL_0) 20 mc ms Q 1999 (lawL i x6 x7 x8) [] M n kc ks := by
  refine G_tb tl_32 ?_
  obtain ⟨d1, mc1, ms1, d2, z, P, ⟨b1, b2, b3, b4⟩, hw, ⟨Q1, hC1, hQ1⟩, hY⟩ := s_damp (r0 := r0) (Γ := Γ) hB hZ
  obtain ⟨fx, hfx⟩ := LZ_xo hZ
  refine g_run 0 1 rfl ?_
  refine g_callV 1 rfl cv_RL_252 hfx hC1 rfl rfl (by omega) (by omega) (by omega) (Nat.le_of_ble_eq_true rfl) (fun v9 M1 n1 h9 _ => ?_) (fun E M1 n1 h9 _ => by have h3 := (hQ1 _ _ _ h9).1; cases h3)
  obtain ⟨h3, hP⟩ := hQ1 _ _ _ h9
  cases h3
  obtain ⟨⟨fs9, hfs⟩, Q2, hC2, hQ2⟩ := hY M1 n1 hP
  refine g_run 2 1 rfl ?_
  refine g_callV 3 rfl cv_RL_255 hfs hC2 rfl rfl (by omega) (by omega) (by omega) (Nat.le_of_ble_eq_true rfl) (fun v9 M2 n2 h9 _ => ?_) (fun E M2 n2 h9 _ => by have h3 := (hQ2 _ _ _ h9).2.1; cases h3)
  obtain ⟨e2, h3, q2, A2, hZ2⟩ := hQ2 _ _ _ h9
  cases h3
  subst e2
  refine g_icmp_eq 4 2624 rfl rfl hw hw (fun _ => ?_) (fun c => absurd rfl c)
  exact G_tb tl_0 (kk _ _ _ _ _ _ _ _ _ hZ2 (by omega) (by omega))
end LA
