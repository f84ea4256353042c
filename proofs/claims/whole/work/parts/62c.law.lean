/-! the law: a turn, further calls (wip/whole/gen/c_law.py prints this part) -/
section LA
variable {r0 : Option Nat} {Γ : Cx} {B : Int} {M : Mem} {n kc ks mc ms L : Nat} {q : Nat → Int} {A : Nat → Nat → Int} {Q : Rv → Mem → Nat → Prop} {xs : Nat → Int}
def tbL_33 : List (Nat × Instr × Nat) := [(2012, .aload_n 1, 2013), (2013, .invokevirtual 256, 2016), (2016, .aload_n 2, 2017), (2017, .invokevirtual 259, 2020), (2020, .if_icmp .eq 604, 2023), (2023, .iconst 0, 2024), (2024, .ireturn, 2025)]
theorem tl_33 : e_tb cL_law tbL_33 = true := by decide +kernel
theorem law_33 (hK : KM Γ) (hP9 : PV Γ) (hB : 20 ≤ B ∧ B + 2400 ≤ 10000000) (hZ : LZ B M n q A) (hxs : ∀ j, i32 (xs j)) (h60 : Γ.cM 60 = cI 10 L xs) (i : Nat) (hi : 5 * i + 5 ≤ L) (hL : L ≤ 2560) (hkc : kc + 2 ≤ mc) (hks : ks + 200 ≤ ms) (x6 x7 x8 : Option aV) (kk : lawK r0 Γ mc ms Q B i kc ks) : G (e_L r0) Γ (lawX tbL_0) 20 mc ms Q 2012 (lawL i x6 x7 x8) [] M n kc ks := by
  refine G_tb tl_33 ?_
  obtain ⟨d1, mc1, ms1, d2, z, P, ⟨b1, b2, b3, b4⟩, hw, ⟨Q1, hC1, hQ1⟩, hY⟩ := s_hour (r0 := r0) (Γ := Γ) hB hZ
  obtain ⟨fx, hfx⟩ := LZ_xo hZ
  refine g_run 0 1 rfl ?_
  refine g_callV 1 rfl cv_RL_256 hfx hC1 rfl rfl (by omega) (by omega) (by omega) (Nat.le_of_ble_eq_true rfl) (fun v9 M1 n1 h9 _ => ?_) (fun E M1 n1 h9 _ => by have h3 := (hQ1 _ _ _ h9).1; cases h3)
  obtain ⟨h3, hP⟩ := hQ1 _ _ _ h9
  cases h3
  obtain ⟨⟨fs9, hfs⟩, Q2, hC2, hQ2⟩ := hY M1 n1 hP
  refine g_run 2 1 rfl ?_
  refine g_callV 3 rfl cv_RL_259 hfs hC2 rfl rfl (by omega) (by omega) (by omega) (Nat.le_of_ble_eq_true rfl) (fun v9 M2 n2 h9 _ => ?_) (fun E M2 n2 h9 _ => by have h3 := (hQ2 _ _ _ h9).2.1; cases h3)
  obtain ⟨e2, h3, q2, A2, hZ2⟩ := hQ2 _ _ _ h9
  cases h3
  subst e2
  refine g_icmp_eq 4 2624 rfl rfl hw hw (fun _ => ?_) (fun c => absurd rfl c)
  exact G_tb tl_0 (kk _ _ _ _ _ _ _ _ _ hZ2 (by omega) (by omega))
def tbL_34 : List (Nat × Instr × Nat) := [(2025, .aload_n 1, 2026), (2026, .invokevirtual 260, 2029), (2029, .aload_n 2, 2030), (2030, .invokevirtual 263, 2033), (2033, .if_icmp .eq 591, 2036), (2036, .iconst 0, 2037), (2037, .ireturn, 2038)]
theorem tl_34 : e_tb cL_law tbL_34 = true := by decide +kernel
theorem law_34 (hK : KM Γ) (hP9 : PV Γ) (hB : 20 ≤ B ∧ B + 2400 ≤ 10000000) (hZ : LZ B M n q A) (hxs : ∀ j, i32 (xs j)) (h60 : Γ.cM 60 = cI 10 L xs) (i : Nat) (hi : 5 * i + 5 ≤ L) (hL : L ≤ 2560) (hkc : kc + 2 ≤ mc) (hks : ks + 200 ≤ ms) (x6 x7 x8 : Option aV) (kk : lawK r0 Γ mc ms Q B i kc ks) : G (e_L r0) Γ (lawX tbL_0) 20 mc ms Q 2025 (lawL i x6 x7 x8) [] M n kc ks := by
  refine G_tb tl_34 ?_
  obtain ⟨d1, mc1, ms1, d2, z, P, ⟨b1, b2, b3, b4⟩, hw, ⟨Q1, hC1, hQ1⟩, hY⟩ := s_tryTotal (r0 := r0) (Γ := Γ) hB hZ
  obtain ⟨fx, hfx⟩ := LZ_xo hZ
  refine g_run 0 1 rfl ?_
  refine g_callV 1 rfl cv_RL_260 hfx hC1 rfl rfl (by omega) (by omega) (by omega) (Nat.le_of_ble_eq_true rfl) (fun v9 M1 n1 h9 _ => ?_) (fun E M1 n1 h9 _ => by have h3 := (hQ1 _ _ _ h9).1; cases h3)
  obtain ⟨h3, hP⟩ := hQ1 _ _ _ h9
  cases h3
  obtain ⟨⟨fs9, hfs⟩, Q2, hC2, hQ2⟩ := hY M1 n1 hP
  refine g_run 2 1 rfl ?_
  refine g_callV 3 rfl cv_RL_263 hfs hC2 rfl rfl (by omega) (by omega) (by omega) (Nat.le_of_ble_eq_true rfl) (fun v9 M2 n2 h9 _ => ?_) (fun E M2 n2 h9 _ => by have h3 := (hQ2 _ _ _ h9).2.1; cases h3)
  obtain ⟨e2, h3, q2, A2, hZ2⟩ := hQ2 _ _ _ h9
  cases h3
  subst e2
  refine g_icmp_eq 4 2624 rfl rfl hw hw (fun _ => ?_) (fun c => absurd rfl c)
  exact G_tb tl_0 (kk _ _ _ _ _ _ _ _ _ hZ2 (by omega) (by omega))
def tbL_35 : List (Nat × Instr × Nat) := [(2038, .aload_n 1, 2039), (2039, .invokevirtual 264, 2042), (2042, .aload_n 2, 2043), (2043, .invokevirtual 267, 2046), (2046, .if_icmp .eq 578, 2049), (2049, .iconst 0, 2050), (2050, .ireturn, 2051)]
theorem tl_35 : e_tb cL_law tbL_35 = true := by decide +kernel
theorem law_35 (hK : KM Γ) (hP9 : PV Γ) (hB : 20 ≤ B ∧ B + 2400 ≤ 10000000) (hZ : LZ B M n q A) (hxs : ∀ j, i32 (xs j)) (h60 : Γ.cM 60 = cI 10 L xs) (i : Nat) (hi : 5 * i + 5 ≤ L) (hL : L ≤ 2560) (hkc : kc + 2 ≤ mc) (hks : ks + 200 ≤ ms) (x6 x7 x8 : Option aV) (kk : lawK r0 Γ mc ms Q B i kc ks) : G (e_L r0) Γ (lawX tbL_0) 20 mc ms Q 2038 (lawL i x6 x7 x8) [] M n kc ks := by
  refine G_tb tl_35 ?_
  obtain ⟨d1, mc1, ms1, d2, z, P, ⟨b1, b2, b3, b4⟩, hw, ⟨Q1, hC1, hQ1⟩, hY⟩ := s_openedTotal (r0 := r0) (Γ := Γ) hB hZ
  obtain ⟨fx, hfx⟩ := LZ_xo hZ
  refine g_run 0 1 rfl ?_
  refine g_callV 1 rfl cv_RL_264 hfx hC1 rfl rfl (by omega) (by omega) (by omega) (Nat.le_of_ble_eq_true rfl) (fun v9 M1 n1 h9 _ => ?_) (fun E M1 n1 h9 _ => by have h3 := (hQ1 _ _ _ h9).1; cases h3)
  obtain ⟨h3, hP⟩ := hQ1 _ _ _ h9
  cases h3
  obtain ⟨⟨fs9, hfs⟩, Q2, hC2, hQ2⟩ := hY M1 n1 hP
  refine g_run 2 1 rfl ?_
  refine g_callV 3 rfl cv_RL_267 hfs hC2 rfl rfl (by omega) (by omega) (by omega) (Nat.le_of_ble_eq_true rfl) (fun v9 M2 n2 h9 _ => ?_) (fun E M2 n2 h9 _ => by have h3 := (hQ2 _ _ _ h9).2.1; cases h3)
  obtain ⟨e2, h3, q2, A2, hZ2⟩ := hQ2 _ _ _ h9
  cases h3
  subst e2
  refine g_icmp_eq 4 2624 rfl rfl hw hw (fun _ => ?_) (fun c => absurd rfl c)
  exact G_tb tl_0 (kk _ _ _ _ _ _ _ _ _ hZ2 (by omega) (by omega))
def tbL_36 : List (Nat × Instr × Nat) := [(2051, .aload_n 1, 2052), (2052, .invokevirtual 268, 2055), (2055, .aload_n 2, 2056), (2056, .invokevirtual 271, 2059), (2059, .if_icmp .eq 565, 2062), (2062, .iconst 0, 2063), (2063, .ireturn, 2064)]
theorem tl_36 : e_tb cL_law tbL_36 = true := by decide +kernel
theorem law_36 (hK : KM Γ) (hP9 : PV Γ) (hB : 20 ≤ B ∧ B + 2400 ≤ 10000000) (hZ : LZ B M n q A) (hxs : ∀ j, i32 (xs j)) (h60 : Γ.cM 60 = cI 10 L xs) (i : Nat) (hi : 5 * i + 5 ≤ L) (hL : L ≤ 2560) (hkc : kc + 2 ≤ mc) (hks : ks + 200 ≤ ms) (x6 x7 x8 : Option aV) (kk : lawK r0 Γ mc ms Q B i kc ks) : G (e_L r0) Γ (lawX tbL_0) 20 mc ms Q 2051 (lawL i x6 x7 x8) [] M n kc ks := by
  refine G_tb tl_36 ?_
  obtain ⟨d1, mc1, ms1, d2, z, P, ⟨b1, b2, b3, b4⟩, hw, ⟨Q1, hC1, hQ1⟩, hY⟩ := s_bakedTotal (r0 := r0) (Γ := Γ) hB hZ
  obtain ⟨fx, hfx⟩ := LZ_xo hZ
  refine g_run 0 1 rfl ?_
  refine g_callV 1 rfl cv_RL_268 hfx hC1 rfl rfl (by omega) (by omega) (by omega) (Nat.le_of_ble_eq_true rfl) (fun v9 M1 n1 h9 _ => ?_) (fun E M1 n1 h9 _ => by have h3 := (hQ1 _ _ _ h9).1; cases h3)
  obtain ⟨h3, hP⟩ := hQ1 _ _ _ h9
  cases h3
  obtain ⟨⟨fs9, hfs⟩, Q2, hC2, hQ2⟩ := hY M1 n1 hP
  refine g_run 2 1 rfl ?_
  refine g_callV 3 rfl cv_RL_271 hfs hC2 rfl rfl (by omega) (by omega) (by omega) (Nat.le_of_ble_eq_true rfl) (fun v9 M2 n2 h9 _ => ?_) (fun E M2 n2 h9 _ => by have h3 := (hQ2 _ _ _ h9).2.1; cases h3)
  obtain ⟨e2, h3, q2, A2, hZ2⟩ := hQ2 _ _ _ h9
  cases h3
  subst e2
  refine g_icmp_eq 4 2624 rfl rfl hw hw (fun _ => ?_) (fun c => absurd rfl c)
  exact G_tb tl_0 (kk _ _ _ _ _ _ _ _ _ hZ2 (by omega) (by omega))
def tbL_37 : List (Nat × Instr × Nat) := [(2064, .aload_n 1, 2065), (2065, .aload 4, 2067), (2067, .invokestatic 272, 2070), (2070, .istore 6, 2072), (2072, .aload_n 2, 2073), (2073, .invokevirtual 275, 2076), (2076, .dstore 7, 2078), (2078, .aload_n 2, 2079), (2079, .invokevirtual 152, 2082), (2082, .iload 6, 2084), (2084, .if_icmp .eq 5, 2087), (2087, .iconst 0, 2088), (2088, .ireturn, 2089), (2089, .iload 6, 2091), (2091, .ifCond .ne 35, 2094), (2094, .aload 4, 2096), (2096, .iconst 0, 2097), (2097, .daload, 2098), (2098, .dload 7, 2100), (2100, .dcmp .l, 2101), (2101, .ifCond .eq 25, 2104), (2104, .aload 4, 2106), (2106, .iconst 0, 2107), (2107, .daload, 2108), (2108, .aload 4, 2110), (2110, .iconst 0, 2111), (2111, .daload, 2112), (2112, .dcmp .l, 2113), (2113, .ifCond .eq 11, 2116), (2116, .dload 7, 2118), (2118, .dload 7, 2120), (2120, .dcmp .l, 2121), (2121, .ifCond .ne 5, 2124), (2124, .iconst 0, 2125), (2125, .ireturn, 2126), (2126, .goto 498, 2129)]
theorem tl_37 : e_tb cL_law tbL_37 = true := by decide +kernel
theorem law_37 (hK : KM Γ) (hP9 : PV Γ) (hB : 20 ≤ B ∧ B + 2400 ≤ 10000000) (hZ : LZ B M n q A) (hxs : ∀ j, i32 (xs j)) (h60 : Γ.cM 60 = cI 10 L xs) (i : Nat) (hi : 5 * i + 5 ≤ L) (hL : L ≤ 2560) (hkc : kc + 2 ≤ mc) (hks : ks + 200 ≤ ms) (x6 x7 x8 : Option aV) (kk : lawK r0 Γ mc ms Q B i kc ks) : G (e_L r0) Γ (lawX tbL_0) 20 mc ms Q 2064 (lawL i x6 x7 x8) [] M n kc ks := by
  refine G_tb tl_37 ?_
  obtain ⟨d1, mc1, ms1, d2, P, ⟨b1, b2, b3, b4⟩, hC1, hY⟩ := s_meanCrumbs (r0 := r0) (Γ := Γ) hB hZ 
  refine g_run 0 2 rfl ?_
  refine g_callSX 2 rfl cs_RL_272 hC1 rfl rfl (by omega) (by omega) (by omega) (Nat.le_of_ble_eq_true rfl) (fun v9 M1 n1 h9 _ => ?_) (fun E M1 n1 h9 _ => by obtain ⟨k, h3, -⟩ := h9; cases h3)
  obtain ⟨k, h3, hP⟩ := h9
  cases h3
  obtain ⟨hk, ⟨fs9, hfs⟩, Q2, hC2, hQ2⟩ := hY k M1 n1 hP
  refine g_run 3 2 rfl ?_
  refine g_callV 5 rfl cv_RL_275 hfs hC2 rfl rfl (by omega) (by omega) (by omega) (Nat.le_of_ble_eq_true rfl) (fun v9 M2 n2 h9 _ => ?_) (fun E M2 n2 h9 _ => by obtain ⟨-, b, h3, -⟩ := hQ2 _ _ _ h9; cases h3)
  obtain ⟨e2, b, h3, hg, q2, A2, hq6, hZ2⟩ := hQ2 _ _ _ h9
  cases h3
  subst e2
  refine g_dstore 6 rfl (Nat.le_of_ble_eq_true rfl) rfl (fun x _ h => by cases h; rfl) ?_
  refine g_run 7 1 rfl ?_
  refine g_callV 8 rfl cv_RL_152 (LZ_mm hZ2).2.1 (m_thrown (LZ_mm hZ2)) rfl rfl (by omega) (by omega) (by omega) (Nat.le_of_ble_eq_true rfl) (e_kr ?_) e_kx
  rw [hq6]
  refine g_run 9 1 rfl ?_
  refine g_icmp_eq 10 2089 rfl rfl hk hk (fun _ => ?_) (fun c => absurd rfl c)
  refine g_run 13 1 rfl ?_
  refine g_if_ne 14 2126 rfl rfl hk (fun c8 => ?_) (fun c8 => ?_)
  · skip
    refine g_run 35 1 rfl ?_
    exact G_tb tl_0 (kk _ _ _ _ _ _ _ _ _ hZ2 (by omega) (by omega))
  · have k0 : k = 0 := by omega
    obtain ⟨hv, g, hg1, hg2⟩ := hg k0
    refine g_run 15 2 rfl ?_
    refine g_dald 17 0 rfl rfl hg1 (by decide) rfl (by decide) (by decide) ?_
    rw [hg2]
    refine g_dload 18 rfl rfl ?_
    refine g_dcmp 19 rfl (dcmp_self hv) ?_
    refine g_if_eq 20 2126 rfl rfl (by decide) (fun _ => ?_) (fun c => absurd rfl c)
    refine g_run 35 1 rfl ?_
    exact G_tb tl_0 (kk _ _ _ _ _ _ _ _ _ hZ2 (by omega) (by omega))
def tbL_38 : List (Nat × Instr × Nat) := [(2129, .aload_n 1, 2130), (2130, .aload 4, 2132), (2132, .invokestatic 276, 2135), (2135, .istore 6, 2137), (2137, .aload_n 2, 2138), (2138, .invokevirtual 278, 2141), (2141, .fstore 7, 2143), (2143, .aload_n 2, 2144), (2144, .invokevirtual 152, 2147), (2147, .iload 6, 2149), (2149, .if_icmp .eq 5, 2152), (2152, .iconst 0, 2153), (2153, .ireturn, 2154), (2154, .iload 6, 2156), (2156, .ifCond .ne 36, 2159), (2159, .aload 4, 2161), (2161, .iconst 0, 2162), (2162, .daload, 2163), (2163, .fload 7, 2165), (2165, .f2d, 2166), (2166, .dcmp .l, 2167), (2167, .ifCond .eq 25, 2170), (2170, .aload 4, 2172), (2172, .iconst 0, 2173), (2173, .daload, 2174), (2174, .aload 4, 2176), (2176, .iconst 0, 2177), (2177, .daload, 2178), (2178, .dcmp .l, 2179), (2179, .ifCond .eq 11, 2182), (2182, .fload 7, 2184), (2184, .fload 7, 2186), (2186, .fcmp .l, 2187), (2187, .ifCond .ne 5, 2190), (2190, .iconst 0, 2191), (2191, .ireturn, 2192), (2192, .goto 432, 2195)]
theorem tl_38 : e_tb cL_law tbL_38 = true := by decide +kernel
theorem law_38 (hK : KM Γ) (hP9 : PV Γ) (hB : 20 ≤ B ∧ B + 2400 ≤ 10000000) (hZ : LZ B M n q A) (hxs : ∀ j, i32 (xs j)) (h60 : Γ.cM 60 = cI 10 L xs) (i : Nat) (hi : 5 * i + 5 ≤ L) (hL : L ≤ 2560) (hkc : kc + 2 ≤ mc) (hks : ks + 200 ≤ ms) (x6 x7 x8 : Option aV) (kk : lawK r0 Γ mc ms Q B i kc ks) : G (e_L r0) Γ (lawX tbL_0) 20 mc ms Q 2129 (lawL i x6 x7 x8) [] M n kc ks := by
  refine G_tb tl_38 ?_
  obtain ⟨d1, mc1, ms1, d2, P, ⟨b1, b2, b3, b4⟩, hC1, hY⟩ := s_openedShare (r0 := r0) (Γ := Γ) hB hZ 
  refine g_run 0 2 rfl ?_
  refine g_callSX 2 rfl cs_RL_276 hC1 rfl rfl (by omega) (by omega) (by omega) (Nat.le_of_ble_eq_true rfl) (fun v9 M1 n1 h9 _ => ?_) (fun E M1 n1 h9 _ => by obtain ⟨k, h3, -⟩ := h9; cases h3)
  obtain ⟨k, h3, hP⟩ := h9
  cases h3
  obtain ⟨hk, ⟨fs9, hfs⟩, Q2, hC2, hQ2⟩ := hY k M1 n1 hP
  refine g_run 3 2 rfl ?_
  refine g_callV 5 rfl cv_RL_278 hfs hC2 rfl rfl (by omega) (by omega) (by omega) (Nat.le_of_ble_eq_true rfl) (fun v9 M2 n2 h9 _ => ?_) (fun E M2 n2 h9 _ => by obtain ⟨-, b, h3, -⟩ := hQ2 _ _ _ h9; cases h3)
  obtain ⟨e2, b, h3, hg, q2, A2, hq6, hZ2⟩ := hQ2 _ _ _ h9
  cases h3
  subst e2
  refine g_fstore 6 rfl (Nat.le_of_ble_eq_true rfl) rfl (fun x _ h => by cases h; rfl) ?_
  refine g_run 7 1 rfl ?_
  refine g_callV 8 rfl cv_RL_152 (LZ_mm hZ2).2.1 (m_thrown (LZ_mm hZ2)) rfl rfl (by omega) (by omega) (by omega) (Nat.le_of_ble_eq_true rfl) (e_kr ?_) e_kx
  rw [hq6]
  refine g_run 9 1 rfl ?_
  refine g_icmp_eq 10 2154 rfl rfl hk hk (fun _ => ?_) (fun c => absurd rfl c)
  refine g_run 13 1 rfl ?_
  refine g_if_ne 14 2192 rfl rfl hk (fun c8 => ?_) (fun c8 => ?_)
  · skip
    refine g_run 36 1 rfl ?_
    exact G_tb tl_0 (kk _ _ _ _ _ _ _ _ _ hZ2 (by omega) (by omega))
  · have k0 : k = 0 := by omega
    obtain ⟨hv, g, hg1, hg2⟩ := hg k0
    refine g_run 15 2 rfl ?_
    refine g_dald 17 0 rfl rfl hg1 (by decide) rfl (by decide) (by decide) ?_
    rw [hg2]
    refine g_fload 18 rfl rfl ?_
    refine g_f2d 19 rfl (f2d_n hv) ?_
    refine g_dcmp 20 rfl (dcmp_self (f2d_n hv)) ?_
    refine g_if_eq 21 2192 rfl rfl (by decide) (fun _ => ?_) (fun c => absurd rfl c)
    refine g_run 36 1 rfl ?_
    exact G_tb tl_0 (kk _ _ _ _ _ _ _ _ _ hZ2 (by omega) (by omega))
def tbL_39 : List (Nat × Instr × Nat) := [(2195, .aload_n 1, 2196), (2196, .invokevirtual 279, 2199), (2199, .aload_n 2, 2200), (2200, .invokevirtual 283, 2203), (2203, .if_icmp .eq 421, 2206), (2206, .iconst 0, 2207), (2207, .ireturn, 2208)]
theorem tl_39 : e_tb cL_law tbL_39 = true := by decide +kernel
theorem law_39 (hK : KM Γ) (hP9 : PV Γ) (hB : 20 ≤ B ∧ B + 2400 ≤ 10000000) (hZ : LZ B M n q A) (hxs : ∀ j, i32 (xs j)) (h60 : Γ.cM 60 = cI 10 L xs) (i : Nat) (hi : 5 * i + 5 ≤ L) (hL : L ≤ 2560) (hkc : kc + 2 ≤ mc) (hks : ks + 200 ≤ ms) (x6 x7 x8 : Option aV) (kk : lawK r0 Γ mc ms Q B i kc ks) : G (e_L r0) Γ (lawX tbL_0) 20 mc ms Q 2195 (lawL i x6 x7 x8) [] M n kc ks := by
  refine G_tb tl_39 ?_
  obtain ⟨d1, mc1, ms1, d2, z, P, ⟨b1, b2, b3, b4⟩, hw, ⟨Q1, hC1, hQ1⟩, hY⟩ := s_isConsistent (r0 := r0) (Γ := Γ) hB hZ
  obtain ⟨fx, hfx⟩ := LZ_xo hZ
  refine g_run 0 1 rfl ?_
  refine g_callV 1 rfl cv_RL_279 hfx hC1 rfl rfl (by omega) (by omega) (by omega) (Nat.le_of_ble_eq_true rfl) (fun v9 M1 n1 h9 _ => ?_) (fun E M1 n1 h9 _ => by have h3 := (hQ1 _ _ _ h9).1; cases h3)
  obtain ⟨h3, hP⟩ := hQ1 _ _ _ h9
  cases h3
  obtain ⟨⟨fs9, hfs⟩, Q2, hC2, hQ2⟩ := hY M1 n1 hP
  refine g_run 2 1 rfl ?_
  refine g_callV 3 rfl cv_RL_283 hfs hC2 rfl rfl (by omega) (by omega) (by omega) (Nat.le_of_ble_eq_true rfl) (fun v9 M2 n2 h9 _ => ?_) (fun E M2 n2 h9 _ => by have h3 := (hQ2 _ _ _ h9).2.1; cases h3)
  obtain ⟨e2, h3, q2, A2, hZ2⟩ := hQ2 _ _ _ h9
  cases h3
  subst e2
  refine g_icmp_eq 4 2624 rfl rfl hw hw (fun _ => ?_) (fun c => absurd rfl c)
  exact G_tb tl_0 (kk _ _ _ _ _ _ _ _ _ hZ2 (by omega) (by omega))
def tbL_40 : List (Nat × Instr × Nat) := [(2208, .aload_n 1, 2209), (2209, .aload_n 0, 2210), (2210, .iload 5, 2212), (2212, .iconst 1, 2213), (2213, .iadd, 2214), (2214, .iaload, 2215), (2215, .aload_n 3, 2216), (2216, .invokestatic 284, 2219), (2219, .istore 6, 2221), (2221, .aload_n 2, 2222), (2222, .aload_n 0, 2223), (2223, .iload 5, 2225), (2225, .iconst 1, 2226), (2226, .iadd, 2227), (2227, .iaload, 2228), (2228, .invokevirtual 286, 2231), (2231, .istore 7, 2233), (2233, .aload_n 2, 2234), (2234, .invokevirtual 152, 2237), (2237, .iload 6, 2239), (2239, .if_icmp .eq 5, 2242), (2242, .iconst 0, 2243), (2243, .ireturn, 2244), (2244, .iload 6, 2246), (2246, .ifCond .ne 15, 2249), (2249, .aload_n 3, 2250), (2250, .iconst 0, 2251), (2251, .laload, 2252), (2252, .iload 7, 2254), (2254, .i2l, 2255), (2255, .lcmp, 2256), (2256, .ifCond .eq 5, 2259), (2259, .iconst 0, 2260), (2260, .ireturn, 2261), (2261, .goto 363, 2264)]
theorem tl_40 : e_tb cL_law tbL_40 = true := by decide +kernel
theorem law_40 (hK : KM Γ) (hP9 : PV Γ) (hB : 20 ≤ B ∧ B + 2400 ≤ 10000000) (hZ : LZ B M n q A) (hxs : ∀ j, i32 (xs j)) (h60 : Γ.cM 60 = cI 10 L xs) (i : Nat) (hi : 5 * i + 5 ≤ L) (hL : L ≤ 2560) (hkc : kc + 2 ≤ mc) (hks : ks + 200 ≤ ms) (x6 x7 x8 : Option aV) (kk : lawK r0 Γ mc ms Q B i kc ks) : G (e_L r0) Γ (lawX tbL_0) 20 mc ms Q 2208 (lawL i x6 x7 x8) [] M n kc ks := by
  refine G_tb tl_40 ?_
  obtain ⟨d1, mc1, ms1, d2, P, ⟨b1, b2, b3, b4⟩, hC1, hY⟩ := s_renderLock (r0 := r0) (Γ := Γ) hK hP9 hB hZ (xs (5 * i + 1)) (hxs _)
  refine g_run 0 5 rfl ?_
  refine g_low (fun hla => ?_)
  have h60a := (hla 60 (by decide)).trans h60
  refine g_iald 5 (5 * i + 1) rfl rfl h60a (by omega) (by omega) (by omega) ?_
  refine g_run 6 1 rfl ?_
  refine g_callSX 7 rfl cs_RL_284 hC1 rfl rfl (by omega) (by omega) (by omega) (Nat.le_of_ble_eq_true rfl) (fun v9 M1 n1 h9 _ => ?_) (fun E M1 n1 h9 _ => by obtain ⟨k, h3, -⟩ := h9; cases h3)
  obtain ⟨k, h3, hP⟩ := h9
  cases h3
  obtain ⟨hk, ⟨fs9, hfs⟩, Q2, hC2, hQ2⟩ := hY k M1 n1 hP
  refine g_run 8 6 rfl ?_
  refine g_low (fun hlb => ?_)
  have h60b := (hlb 60 (by decide)).trans h60
  refine g_iald 14 (5 * i + 1) rfl rfl h60b (by omega) (by omega) (by omega) ?_
  refine g_callV 15 rfl cv_RL_286 hfs hC2 rfl rfl (by omega) (by omega) (by omega) (Nat.le_of_ble_eq_true rfl) (fun v9 M2 n2 h9 _ => ?_) (fun E M2 n2 h9 _ => by obtain ⟨-, b, -, h3, -⟩ := hQ2 _ _ _ h9; cases h3)
  obtain ⟨e2, b, hb, h3, hg, q2, A2, hq6, hZ2⟩ := hQ2 _ _ _ h9
  cases h3
  subst e2
  refine g_run 16 2 rfl ?_
  refine g_callV 18 rfl cv_RL_152 (LZ_mm hZ2).2.1 (m_thrown (LZ_mm hZ2)) rfl rfl (by omega) (by omega) (by omega) (Nat.le_of_ble_eq_true rfl) (e_kr ?_) e_kx
  rw [hq6]
  refine g_run 19 1 rfl ?_
  refine g_icmp_eq 20 2244 rfl rfl hk hk (fun _ => ?_) (fun c => absurd rfl c)
  refine g_run 23 1 rfl ?_
  refine g_if_ne 24 2261 rfl rfl hk (fun c8 => ?_) (fun c8 => ?_)
  · skip
    refine g_run 34 1 rfl ?_
    exact G_tb tl_0 (kk _ _ _ _ _ _ _ _ _ hZ2 (by omega) (by omega))
  · have k0 : k = 0 := by omega
    obtain ⟨g, hg1, hg2⟩ := hg k0
    refine g_run 25 2 rfl ?_
    refine g_lald 27 0 rfl rfl hg1 (by decide) rfl (by decide) (by decide) ?_
    rw [hg2]
    refine g_run 28 1 rfl ?_
    refine g_i2l 29 rfl hb ?_
    refine g_lcmp 30 rfl (lcmp_self _) ?_
    refine g_if_eq 31 2261 rfl rfl (by decide) (fun _ => ?_) (fun c => absurd rfl c)
    refine g_run 34 1 rfl ?_
    exact G_tb tl_0 (kk _ _ _ _ _ _ _ _ _ hZ2 (by omega) (by omega))
def tbL_41 : List (Nat × Instr × Nat) := [(2264, .aload_n 1, 2265), (2265, .invokevirtual 287, 2268), (2268, .aload_n 2, 2269), (2269, .invokevirtual 290, 2272), (2272, .if_icmp .eq 352, 2275), (2275, .iconst 0, 2276), (2276, .ireturn, 2277)]
theorem tl_41 : e_tb cL_law tbL_41 = true := by decide +kernel
theorem law_41 (hK : KM Γ) (hP9 : PV Γ) (hB : 20 ≤ B ∧ B + 2400 ≤ 10000000) (hZ : LZ B M n q A) (hxs : ∀ j, i32 (xs j)) (h60 : Γ.cM 60 = cI 10 L xs) (i : Nat) (hi : 5 * i + 5 ≤ L) (hL : L ≤ 2560) (hkc : kc + 2 ≤ mc) (hks : ks + 200 ≤ ms) (x6 x7 x8 : Option aV) (kk : lawK r0 Γ mc ms Q B i kc ks) : G (e_L r0) Γ (lawX tbL_0) 20 mc ms Q 2264 (lawL i x6 x7 x8) [] M n kc ks := by
  refine G_tb tl_41 ?_
  obtain ⟨d1, mc1, ms1, d2, z, P, ⟨b1, b2, b3, b4⟩, hw, ⟨Q1, hC1, hQ1⟩, hY⟩ := s_renderOvens (r0 := r0) (Γ := Γ) hK hP9 hB hZ
  obtain ⟨fx, hfx⟩ := LZ_xo hZ
  refine g_run 0 1 rfl ?_
  refine g_callV 1 rfl cv_RL_287 hfx hC1 rfl rfl (by omega) (by omega) (by omega) (Nat.le_of_ble_eq_true rfl) (fun v9 M1 n1 h9 _ => ?_) (fun E M1 n1 h9 _ => by have h3 := (hQ1 _ _ _ h9).1; cases h3)
  obtain ⟨h3, hP⟩ := hQ1 _ _ _ h9
  cases h3
  obtain ⟨⟨fs9, hfs⟩, Q2, hC2, hQ2⟩ := hY M1 n1 hP
  refine g_run 2 1 rfl ?_
  refine g_callV 3 rfl cv_RL_290 hfs hC2 rfl rfl (by omega) (by omega) (by omega) (Nat.le_of_ble_eq_true rfl) (fun v9 M2 n2 h9 _ => ?_) (fun E M2 n2 h9 _ => by have h3 := (hQ2 _ _ _ h9).2.1; cases h3)
  obtain ⟨e2, h3, q2, A2, hZ2⟩ := hQ2 _ _ _ h9
  cases h3
  subst e2
  refine g_icmp_eq 4 2624 rfl rfl hw hw (fun _ => ?_) (fun c => absurd rfl c)
  exact G_tb tl_0 (kk _ _ _ _ _ _ _ _ _ hZ2 (by omega) (by omega))
def tbL_42 : List (Nat × Instr × Nat) := [(2277, .aload_n 1, 2278), (2278, .aload_n 0, 2279), (2279, .iload 5, 2281), (2281, .iconst 1, 2282), (2282, .iadd, 2283), (2283, .iaload, 2284), (2284, .aload_n 3, 2285), (2285, .invokestatic 291, 2288), (2288, .istore 6, 2290), (2290, .aload_n 2, 2291), (2291, .aload_n 0, 2292), (2292, .iload 5, 2294), (2294, .iconst 1, 2295), (2295, .iadd, 2296), (2296, .iaload, 2297), (2297, .invokevirtual 293, 2300), (2300, .istore 7, 2302), (2302, .aload_n 2, 2303), (2303, .invokevirtual 152, 2306), (2306, .iload 6, 2308), (2308, .if_icmp .eq 5, 2311), (2311, .iconst 0, 2312), (2312, .ireturn, 2313), (2313, .iload 6, 2315), (2315, .ifCond .ne 15, 2318), (2318, .aload_n 3, 2319), (2319, .iconst 0, 2320), (2320, .laload, 2321), (2321, .iload 7, 2323), (2323, .i2l, 2324), (2324, .lcmp, 2325), (2325, .ifCond .eq 5, 2328), (2328, .iconst 0, 2329), (2329, .ireturn, 2330), (2330, .goto 294, 2333)]
theorem tl_42 : e_tb cL_law tbL_42 = true := by decide +kernel
theorem law_42 (hK : KM Γ) (hP9 : PV Γ) (hB : 20 ≤ B ∧ B + 2400 ≤ 10000000) (hZ : LZ B M n q A) (hxs : ∀ j, i32 (xs j)) (h60 : Γ.cM 60 = cI 10 L xs) (i : Nat) (hi : 5 * i + 5 ≤ L) (hL : L ≤ 2560) (hkc : kc + 2 ≤ mc) (hks : ks + 200 ≤ ms) (x6 x7 x8 : Option aV) (kk : lawK r0 Γ mc ms Q B i kc ks) : G (e_L r0) Γ (lawX tbL_0) 20 mc ms Q 2277 (lawL i x6 x7 x8) [] M n kc ks := by
  refine G_tb tl_42 ?_
  obtain ⟨d1, mc1, ms1, d2, P, ⟨b1, b2, b3, b4⟩, hC1, hY⟩ := s_outputAt (r0 := r0) (Γ := Γ) hB hZ (xs (5 * i + 1)) (hxs _)
  refine g_run 0 5 rfl ?_
  refine g_low (fun hla => ?_)
  have h60a := (hla 60 (by decide)).trans h60
  refine g_iald 5 (5 * i + 1) rfl rfl h60a (by omega) (by omega) (by omega) ?_
  refine g_run 6 1 rfl ?_
  refine g_callSX 7 rfl cs_RL_291 hC1 rfl rfl (by omega) (by omega) (by omega) (Nat.le_of_ble_eq_true rfl) (fun v9 M1 n1 h9 _ => ?_) (fun E M1 n1 h9 _ => by obtain ⟨k, h3, -⟩ := h9; cases h3)
  obtain ⟨k, h3, hP⟩ := h9
  cases h3
  obtain ⟨hk, ⟨fs9, hfs⟩, Q2, hC2, hQ2⟩ := hY k M1 n1 hP
  refine g_run 8 6 rfl ?_
  refine g_low (fun hlb => ?_)
  have h60b := (hlb 60 (by decide)).trans h60
  refine g_iald 14 (5 * i + 1) rfl rfl h60b (by omega) (by omega) (by omega) ?_
  refine g_callV 15 rfl cv_RL_293 hfs hC2 rfl rfl (by omega) (by omega) (by omega) (Nat.le_of_ble_eq_true rfl) (fun v9 M2 n2 h9 _ => ?_) (fun E M2 n2 h9 _ => by obtain ⟨-, b, -, h3, -⟩ := hQ2 _ _ _ h9; cases h3)
  obtain ⟨e2, b, hb, h3, hg, q2, A2, hq6, hZ2⟩ := hQ2 _ _ _ h9
  cases h3
  subst e2
  refine g_run 16 2 rfl ?_
  refine g_callV 18 rfl cv_RL_152 (LZ_mm hZ2).2.1 (m_thrown (LZ_mm hZ2)) rfl rfl (by omega) (by omega) (by omega) (Nat.le_of_ble_eq_true rfl) (e_kr ?_) e_kx
  rw [hq6]
  refine g_run 19 1 rfl ?_
  refine g_icmp_eq 20 2313 rfl rfl hk hk (fun _ => ?_) (fun c => absurd rfl c)
  refine g_run 23 1 rfl ?_
  refine g_if_ne 24 2330 rfl rfl hk (fun c8 => ?_) (fun c8 => ?_)
  · skip
    refine g_run 34 1 rfl ?_
    exact G_tb tl_0 (kk _ _ _ _ _ _ _ _ _ hZ2 (by omega) (by omega))
  · have k0 : k = 0 := by omega
    obtain ⟨g, hg1, hg2⟩ := hg k0
    refine g_run 25 2 rfl ?_
    refine g_lald 27 0 rfl rfl hg1 (by decide) rfl (by decide) (by decide) ?_
    rw [hg2]
    refine g_run 28 1 rfl ?_
    refine g_i2l 29 rfl hb ?_
    refine g_lcmp 30 rfl (lcmp_self _) ?_
    refine g_if_eq 31 2330 rfl rfl (by decide) (fun _ => ?_) (fun c => absurd rfl c)
    refine g_run 34 1 rfl ?_
    exact G_tb tl_0 (kk _ _ _ _ _ _ _ _ _ hZ2 (by omega) (by omega))
def tbL_43 : List (Nat × Instr × Nat) := [(2333, .aload_n 1, 2334), (2334, .aload_n 0, 2335), (2335, .iload 5, 2337), (2337, .iconst 1, 2338), (2338, .iadd, 2339), (2339, .iaload, 2340), (2340, .i2c, 2341), (2341, .aload_n 3, 2342), (2342, .invokestatic 294, 2345), (2345, .istore 6, 2347), (2347, .aload_n 2, 2348), (2348, .aload_n 0, 2349), (2349, .iload 5, 2351), (2351, .iconst 1, 2352), (2352, .iadd, 2353), (2353, .iaload, 2354), (2354, .i2c, 2355), (2355, .invokevirtual 297, 2358), (2358, .istore 7, 2360), (2360, .aload_n 2, 2361), (2361, .invokevirtual 152, 2364), (2364, .iload 6, 2366), (2366, .if_icmp .eq 5, 2369), (2369, .iconst 0, 2370), (2370, .ireturn, 2371), (2371, .iload 6, 2373), (2373, .ifCond .ne 15, 2376), (2376, .aload_n 3, 2377), (2377, .iconst 0, 2378), (2378, .laload, 2379), (2379, .iload 7, 2381), (2381, .i2l, 2382), (2382, .lcmp, 2383), (2383, .ifCond .eq 5, 2386), (2386, .iconst 0, 2387), (2387, .ireturn, 2388), (2388, .goto 236, 2391)]
theorem tl_43 : e_tb cL_law tbL_43 = true := by decide +kernel
theorem law_43 (hK : KM Γ) (hP9 : PV Γ) (hB : 20 ≤ B ∧ B + 2400 ≤ 10000000) (hZ : LZ B M n q A) (hxs : ∀ j, i32 (xs j)) (h60 : Γ.cM 60 = cI 10 L xs) (i : Nat) (hi : 5 * i + 5 ≤ L) (hL : L ≤ 2560) (hkc : kc + 2 ≤ mc) (hks : ks + 200 ≤ ms) (x6 x7 x8 : Option aV) (kk : lawK r0 Γ mc ms Q B i kc ks) : G (e_L r0) Γ (lawX tbL_0) 20 mc ms Q 2333 (lawL i x6 x7 x8) [] M n kc ks := by
  refine G_tb tl_43 ?_
  obtain ⟨d1, mc1, ms1, d2, P, ⟨b1, b2, b3, b4⟩, hC1, hY⟩ := s_type (r0 := r0) (Γ := Γ) hP9 hB hZ ((xs (5 * i + 1)) % 65536) (by omega)
  refine g_run 0 5 rfl ?_
  refine g_low (fun hla => ?_)
  have h60a := (hla 60 (by decide)).trans h60
  refine g_iald 5 (5 * i + 1) rfl rfl h60a (by omega) (by omega) (by omega) ?_
  refine g_i2c 6 rfl (i2c_mod _) ?_
  refine g_run 7 1 rfl ?_
  refine g_callSX 8 rfl cs_RL_294 hC1 rfl rfl (by omega) (by omega) (by omega) (Nat.le_of_ble_eq_true rfl) (fun v9 M1 n1 h9 _ => ?_) (fun E M1 n1 h9 _ => by obtain ⟨k, h3, -⟩ := h9; cases h3)
  obtain ⟨k, h3, hP⟩ := h9
  cases h3
  obtain ⟨hk, ⟨fs9, hfs⟩, Q2, hC2, hQ2⟩ := hY k M1 n1 hP
  refine g_run 9 6 rfl ?_
  refine g_low (fun hlb => ?_)
  have h60b := (hlb 60 (by decide)).trans h60
  refine g_iald 15 (5 * i + 1) rfl rfl h60b (by omega) (by omega) (by omega) ?_
  refine g_i2c 16 rfl (i2c_mod _) ?_
  refine g_callV 17 rfl cv_RL_297 hfs hC2 rfl rfl (by omega) (by omega) (by omega) (Nat.le_of_ble_eq_true rfl) (fun v9 M2 n2 h9 _ => ?_) (fun E M2 n2 h9 _ => by obtain ⟨-, b, -, h3, -⟩ := hQ2 _ _ _ h9; cases h3)
  obtain ⟨e2, b, hb, h3, hg, q2, A2, hq6, hZ2⟩ := hQ2 _ _ _ h9
  cases h3
  subst e2
  refine g_run 18 2 rfl ?_
  refine g_callV 20 rfl cv_RL_152 (LZ_mm hZ2).2.1 (m_thrown (LZ_mm hZ2)) rfl rfl (by omega) (by omega) (by omega) (Nat.le_of_ble_eq_true rfl) (e_kr ?_) e_kx
  rw [hq6]
  refine g_run 21 1 rfl ?_
  refine g_icmp_eq 22 2371 rfl rfl hk hk (fun _ => ?_) (fun c => absurd rfl c)
  refine g_run 25 1 rfl ?_
  refine g_if_ne 26 2388 rfl rfl hk (fun c8 => ?_) (fun c8 => ?_)
  · skip
    refine g_run 36 1 rfl ?_
    exact G_tb tl_0 (kk _ _ _ _ _ _ _ _ _ hZ2 (by omega) (by omega))
  · have k0 : k = 0 := by omega
    obtain ⟨g, hg1, hg2⟩ := hg k0
    refine g_run 27 2 rfl ?_
    refine g_lald 29 0 rfl rfl hg1 (by decide) rfl (by decide) (by decide) ?_
    rw [hg2]
    refine g_run 30 1 rfl ?_
    refine g_i2l 31 rfl hb ?_
    refine g_lcmp 32 rfl (lcmp_self _) ?_
    refine g_if_eq 33 2388 rfl rfl (by decide) (fun _ => ?_) (fun c => absurd rfl c)
    refine g_run 36 1 rfl ?_
    exact G_tb tl_0 (kk _ _ _ _ _ _ _ _ _ hZ2 (by omega) (by omega))
def tbL_44 : List (Nat × Instr × Nat) := [(2391, .aload_n 1, 2392), (2392, .aload_n 3, 2393), (2393, .invokestatic 298, 2396), (2396, .istore 6, 2398), (2398, .aload_n 2, 2399), (2399, .invokevirtual 301, 2402), (2402, .istore 7, 2404), (2404, .aload_n 2, 2405), (2405, .invokevirtual 152, 2408), (2408, .iload 6, 2410), (2410, .if_icmp .eq 5, 2413), (2413, .iconst 0, 2414), (2414, .ireturn, 2415), (2415, .iload 6, 2417), (2417, .ifCond .ne 15, 2420), (2420, .aload_n 3, 2421), (2421, .iconst 0, 2422), (2422, .laload, 2423), (2423, .iload 7, 2425), (2425, .i2l, 2426), (2426, .lcmp, 2427), (2427, .ifCond .eq 5, 2430), (2430, .iconst 0, 2431), (2431, .ireturn, 2432), (2432, .goto 192, 2435)]
theorem tl_44 : e_tb cL_law tbL_44 = true := by decide +kernel
theorem law_44 (hK : KM Γ) (hP9 : PV Γ) (hB : 20 ≤ B ∧ B + 2400 ≤ 10000000) (hZ : LZ B M n q A) (hxs : ∀ j, i32 (xs j)) (h60 : Γ.cM 60 = cI 10 L xs) (i : Nat) (hi : 5 * i + 5 ≤ L) (hL : L ≤ 2560) (hkc : kc + 2 ≤ mc) (hks : ks + 200 ≤ ms) (x6 x7 x8 : Option aV) (kk : lawK r0 Γ mc ms Q B i kc ks) : G (e_L r0) Γ (lawX tbL_0) 20 mc ms Q 2391 (lawL i x6 x7 x8) [] M n kc ks := by
  refine G_tb tl_44 ?_
  obtain ⟨d1, mc1, ms1, d2, P, ⟨b1, b2, b3, b4⟩, hC1, hY⟩ := s_runScript (r0 := r0) (Γ := Γ) hK hP9 hB hZ 
  refine g_run 0 2 rfl ?_
  refine g_callSX 2 rfl cs_RL_298 hC1 rfl rfl (by omega) (by omega) (by omega) (Nat.le_of_ble_eq_true rfl) (fun v9 M1 n1 h9 _ => ?_) (fun E M1 n1 h9 _ => by obtain ⟨k, h3, -⟩ := h9; cases h3)
  obtain ⟨k, h3, hP⟩ := h9
  cases h3
  obtain ⟨hk, ⟨fs9, hfs⟩, Q2, hC2, hQ2⟩ := hY k M1 n1 hP
  refine g_run 3 2 rfl ?_
  refine g_callV 5 rfl cv_RL_301 hfs hC2 rfl rfl (by omega) (by omega) (by omega) (Nat.le_of_ble_eq_true rfl) (fun v9 M2 n2 h9 _ => ?_) (fun E M2 n2 h9 _ => by obtain ⟨-, b, -, h3, -⟩ := hQ2 _ _ _ h9; cases h3)
  obtain ⟨e2, b, hb, h3, hg, q2, A2, hq6, hZ2⟩ := hQ2 _ _ _ h9
  cases h3
  subst e2
  refine g_run 6 2 rfl ?_
  refine g_callV 8 rfl cv_RL_152 (LZ_mm hZ2).2.1 (m_thrown (LZ_mm hZ2)) rfl rfl (by omega) (by omega) (by omega) (Nat.le_of_ble_eq_true rfl) (e_kr ?_) e_kx
  rw [hq6]
  refine g_run 9 1 rfl ?_
  refine g_icmp_eq 10 2415 rfl rfl hk hk (fun _ => ?_) (fun c => absurd rfl c)
  refine g_run 13 1 rfl ?_
  refine g_if_ne 14 2432 rfl rfl hk (fun c8 => ?_) (fun c8 => ?_)
  · skip
    refine g_run 24 1 rfl ?_
    exact G_tb tl_0 (kk _ _ _ _ _ _ _ _ _ hZ2 (by omega) (by omega))
  · have k0 : k = 0 := by omega
    obtain ⟨g, hg1, hg2⟩ := hg k0
    refine g_run 15 2 rfl ?_
    refine g_lald 17 0 rfl rfl hg1 (by decide) rfl (by decide) (by decide) ?_
    rw [hg2]
    refine g_run 18 1 rfl ?_
    refine g_i2l 19 rfl hb ?_
    refine g_lcmp 20 rfl (lcmp_self _) ?_
    refine g_if_eq 21 2432 rfl rfl (by decide) (fun _ => ?_) (fun c => absurd rfl c)
    refine g_run 24 1 rfl ?_
    exact G_tb tl_0 (kk _ _ _ _ _ _ _ _ _ hZ2 (by omega) (by omega))
def tbL_45 : List (Nat × Instr × Nat) := [(2435, .aload_n 1, 2436), (2436, .aload_n 3, 2437), (2437, .invokestatic 302, 2440), (2440, .istore 6, 2442), (2442, .aload_n 2, 2443), (2443, .invokevirtual 304, 2446), (2446, .istore 7, 2448), (2448, .aload_n 2, 2449), (2449, .invokevirtual 152, 2452), (2452, .iload 6, 2454), (2454, .if_icmp .eq 5, 2457), (2457, .iconst 0, 2458), (2458, .ireturn, 2459), (2459, .iload 6, 2461), (2461, .ifCond .ne 15, 2464), (2464, .aload_n 3, 2465), (2465, .iconst 0, 2466), (2466, .laload, 2467), (2467, .iload 7, 2469), (2469, .i2l, 2470), (2470, .lcmp, 2471), (2471, .ifCond .eq 5, 2474), (2474, .iconst 0, 2475), (2475, .ireturn, 2476), (2476, .goto 148, 2479)]
theorem tl_45 : e_tb cL_law tbL_45 = true := by decide +kernel
theorem law_45 (hK : KM Γ) (hP9 : PV Γ) (hB : 20 ≤ B ∧ B + 2400 ≤ 10000000) (hZ : LZ B M n q A) (hxs : ∀ j, i32 (xs j)) (h60 : Γ.cM 60 = cI 10 L xs) (i : Nat) (hi : 5 * i + 5 ≤ L) (hL : L ≤ 2560) (hkc : kc + 2 ≤ mc) (hks : ks + 200 ≤ ms) (x6 x7 x8 : Option aV) (kk : lawK r0 Γ mc ms Q B i kc ks) : G (e_L r0) Γ (lawX tbL_0) 20 mc ms Q 2435 (lawL i x6 x7 x8) [] M n kc ks := by
  refine G_tb tl_45 ?_
  obtain ⟨d1, mc1, ms1, d2, P, ⟨b1, b2, b3, b4⟩, hC1, hY⟩ := s_errorPosition (r0 := r0) (Γ := Γ) hB hZ 
  refine g_run 0 2 rfl ?_
  refine g_callSX 2 rfl cs_RL_302 hC1 rfl rfl (by omega) (by omega) (by omega) (Nat.le_of_ble_eq_true rfl) (fun v9 M1 n1 h9 _ => ?_) (fun E M1 n1 h9 _ => by obtain ⟨k, h3, -⟩ := h9; cases h3)
  obtain ⟨k, h3, hP⟩ := h9
  cases h3
  obtain ⟨hk, ⟨fs9, hfs⟩, Q2, hC2, hQ2⟩ := hY k M1 n1 hP
  refine g_run 3 2 rfl ?_
  refine g_callV 5 rfl cv_RL_304 hfs hC2 rfl rfl (by omega) (by omega) (by omega) (Nat.le_of_ble_eq_true rfl) (fun v9 M2 n2 h9 _ => ?_) (fun E M2 n2 h9 _ => by obtain ⟨-, b, -, h3, -⟩ := hQ2 _ _ _ h9; cases h3)
  obtain ⟨e2, b, hb, h3, hg, q2, A2, hq6, hZ2⟩ := hQ2 _ _ _ h9
  cases h3
  subst e2
  refine g_run 6 2 rfl ?_
  refine g_callV 8 rfl cv_RL_152 (LZ_mm hZ2).2.1 (m_thrown (LZ_mm hZ2)) rfl rfl (by omega) (by omega) (by omega) (Nat.le_of_ble_eq_true rfl) (e_kr ?_) e_kx
  rw [hq6]
  refine g_run 9 1 rfl ?_
  refine g_icmp_eq 10 2459 rfl rfl hk hk (fun _ => ?_) (fun c => absurd rfl c)
  refine g_run 13 1 rfl ?_
  refine g_if_ne 14 2476 rfl rfl hk (fun c8 => ?_) (fun c8 => ?_)
  · skip
    refine g_run 24 1 rfl ?_
    exact G_tb tl_0 (kk _ _ _ _ _ _ _ _ _ hZ2 (by omega) (by omega))
  · have k0 : k = 0 := by omega
    obtain ⟨g, hg1, hg2⟩ := hg k0
    refine g_run 15 2 rfl ?_
    refine g_lald 17 0 rfl rfl hg1 (by decide) rfl (by decide) (by decide) ?_
    rw [hg2]
    refine g_run 18 1 rfl ?_
    refine g_i2l 19 rfl hb ?_
    refine g_lcmp 20 rfl (lcmp_self _) ?_
    refine g_if_eq 21 2476 rfl rfl (by decide) (fun _ => ?_) (fun c => absurd rfl c)
    refine g_run 24 1 rfl ?_
    exact G_tb tl_0 (kk _ _ _ _ _ _ _ _ _ hZ2 (by omega) (by omega))
def tbL_46 : List (Nat × Instr × Nat) := [(2479, .aload_n 1, 2480), (2480, .aload_n 3, 2481), (2481, .invokestatic 305, 2484), (2484, .istore 6, 2486), (2486, .aload_n 2, 2487), (2487, .invokevirtual 307, 2490), (2490, .istore 7, 2492), (2492, .aload_n 2, 2493), (2493, .invokevirtual 152, 2496), (2496, .iload 6, 2498), (2498, .if_icmp .eq 5, 2501), (2501, .iconst 0, 2502), (2502, .ireturn, 2503), (2503, .iload 6, 2505), (2505, .ifCond .ne 15, 2508), (2508, .aload_n 3, 2509), (2509, .iconst 0, 2510), (2510, .laload, 2511), (2511, .iload 7, 2513), (2513, .i2l, 2514), (2514, .lcmp, 2515), (2515, .ifCond .eq 5, 2518), (2518, .iconst 0, 2519), (2519, .ireturn, 2520), (2520, .goto 104, 2523)]
theorem tl_46 : e_tb cL_law tbL_46 = true := by decide +kernel
theorem law_46 (hK : KM Γ) (hP9 : PV Γ) (hB : 20 ≤ B ∧ B + 2400 ≤ 10000000) (hZ : LZ B M n q A) (hxs : ∀ j, i32 (xs j)) (h60 : Γ.cM 60 = cI 10 L xs) (i : Nat) (hi : 5 * i + 5 ≤ L) (hL : L ≤ 2560) (hkc : kc + 2 ≤ mc) (hks : ks + 200 ≤ ms) (x6 x7 x8 : Option aV) (kk : lawK r0 Γ mc ms Q B i kc ks) : G (e_L r0) Γ (lawX tbL_0) 20 mc ms Q 2479 (lawL i x6 x7 x8) [] M n kc ks := by
  refine G_tb tl_46 ?_
  obtain ⟨d1, mc1, ms1, d2, P, ⟨b1, b2, b3, b4⟩, hC1, hY⟩ := s_failedCommand (r0 := r0) (Γ := Γ) hB hZ 
  refine g_run 0 2 rfl ?_
  refine g_callSX 2 rfl cs_RL_305 hC1 rfl rfl (by omega) (by omega) (by omega) (Nat.le_of_ble_eq_true rfl) (fun v9 M1 n1 h9 _ => ?_) (fun E M1 n1 h9 _ => by obtain ⟨k, h3, -⟩ := h9; cases h3)
  obtain ⟨k, h3, hP⟩ := h9
  cases h3
  obtain ⟨hk, ⟨fs9, hfs⟩, Q2, hC2, hQ2⟩ := hY k M1 n1 hP
  refine g_run 3 2 rfl ?_
  refine g_callV 5 rfl cv_RL_307 hfs hC2 rfl rfl (by omega) (by omega) (by omega) (Nat.le_of_ble_eq_true rfl) (fun v9 M2 n2 h9 _ => ?_) (fun E M2 n2 h9 _ => by obtain ⟨-, b, -, h3, -⟩ := hQ2 _ _ _ h9; cases h3)
  obtain ⟨e2, b, hb, h3, hg, q2, A2, hq6, hZ2⟩ := hQ2 _ _ _ h9
  cases h3
  subst e2
  refine g_run 6 2 rfl ?_
  refine g_callV 8 rfl cv_RL_152 (LZ_mm hZ2).2.1 (m_thrown (LZ_mm hZ2)) rfl rfl (by omega) (by omega) (by omega) (Nat.le_of_ble_eq_true rfl) (e_kr ?_) e_kx
  rw [hq6]
  refine g_run 9 1 rfl ?_
  refine g_icmp_eq 10 2503 rfl rfl hk hk (fun _ => ?_) (fun c => absurd rfl c)
  refine g_run 13 1 rfl ?_
  refine g_if_ne 14 2520 rfl rfl hk (fun c8 => ?_) (fun c8 => ?_)
  · skip
    refine g_run 24 1 rfl ?_
    exact G_tb tl_0 (kk _ _ _ _ _ _ _ _ _ hZ2 (by omega) (by omega))
  · have k0 : k = 0 := by omega
    obtain ⟨g, hg1, hg2⟩ := hg k0
    refine g_run 15 2 rfl ?_
    refine g_lald 17 0 rfl rfl hg1 (by decide) rfl (by decide) (by decide) ?_
    rw [hg2]
    refine g_run 18 1 rfl ?_
    refine g_i2l 19 rfl hb ?_
    refine g_lcmp 20 rfl (lcmp_self _) ?_
    refine g_if_eq 21 2520 rfl rfl (by decide) (fun _ => ?_) (fun c => absurd rfl c)
    refine g_run 24 1 rfl ?_
    exact G_tb tl_0 (kk _ _ _ _ _ _ _ _ _ hZ2 (by omega) (by omega))
def tbL_47 : List (Nat × Instr × Nat) := [(2523, .aload_n 1, 2524), (2524, .aload_n 3, 2525), (2525, .invokestatic 308, 2528), (2528, .istore 6, 2530), (2530, .aload_n 2, 2531), (2531, .invokevirtual 310, 2534), (2534, .istore 7, 2536), (2536, .aload_n 2, 2537), (2537, .invokevirtual 152, 2540), (2540, .iload 6, 2542), (2542, .if_icmp .eq 5, 2545), (2545, .iconst 0, 2546), (2546, .ireturn, 2547), (2547, .iload 6, 2549), (2549, .ifCond .ne 15, 2552), (2552, .aload_n 3, 2553), (2553, .iconst 0, 2554), (2554, .laload, 2555), (2555, .iload 7, 2557), (2557, .i2l, 2558), (2558, .lcmp, 2559), (2559, .ifCond .eq 5, 2562), (2562, .iconst 0, 2563), (2563, .ireturn, 2564), (2564, .goto 60, 2567)]
theorem tl_47 : e_tb cL_law tbL_47 = true := by decide +kernel
theorem law_47 (hK : KM Γ) (hP9 : PV Γ) (hB : 20 ≤ B ∧ B + 2400 ≤ 10000000) (hZ : LZ B M n q A) (hxs : ∀ j, i32 (xs j)) (h60 : Γ.cM 60 = cI 10 L xs) (i : Nat) (hi : 5 * i + 5 ≤ L) (hL : L ≤ 2560) (hkc : kc + 2 ≤ mc) (hks : ks + 200 ≤ ms) (x6 x7 x8 : Option aV) (kk : lawK r0 Γ mc ms Q B i kc ks) : G (e_L r0) Γ (lawX tbL_0) 20 mc ms Q 2523 (lawL i x6 x7 x8) [] M n kc ks := by
  refine G_tb tl_47 ?_
  obtain ⟨d1, mc1, ms1, d2, P, ⟨b1, b2, b3, b4⟩, hC1, hY⟩ := s_undo (r0 := r0) (Γ := Γ) hB hZ 
  refine g_run 0 2 rfl ?_
  refine g_callSX 2 rfl cs_RL_308 hC1 rfl rfl (by omega) (by omega) (by omega) (Nat.le_of_ble_eq_true rfl) (fun v9 M1 n1 h9 _ => ?_) (fun E M1 n1 h9 _ => by obtain ⟨k, h3, -⟩ := h9; cases h3)
  obtain ⟨k, h3, hP⟩ := h9
  cases h3
  obtain ⟨hk, ⟨fs9, hfs⟩, Q2, hC2, hQ2⟩ := hY k M1 n1 hP
  refine g_run 3 2 rfl ?_
  refine g_callV 5 rfl cv_RL_310 hfs hC2 rfl rfl (by omega) (by omega) (by omega) (Nat.le_of_ble_eq_true rfl) (fun v9 M2 n2 h9 _ => ?_) (fun E M2 n2 h9 _ => by obtain ⟨-, b, -, h3, -⟩ := hQ2 _ _ _ h9; cases h3)
  obtain ⟨e2, b, hb, h3, hg, q2, A2, hq6, hZ2⟩ := hQ2 _ _ _ h9
  cases h3
  subst e2
  refine g_run 6 2 rfl ?_
  refine g_callV 8 rfl cv_RL_152 (LZ_mm hZ2).2.1 (m_thrown (LZ_mm hZ2)) rfl rfl (by omega) (by omega) (by omega) (Nat.le_of_ble_eq_true rfl) (e_kr ?_) e_kx
  rw [hq6]
  refine g_run 9 1 rfl ?_
  refine g_icmp_eq 10 2547 rfl rfl hk hk (fun _ => ?_) (fun c => absurd rfl c)
  refine g_run 13 1 rfl ?_
  refine g_if_ne 14 2564 rfl rfl hk (fun c8 => ?_) (fun c8 => ?_)
  · skip
    refine g_run 24 1 rfl ?_
    exact G_tb tl_0 (kk _ _ _ _ _ _ _ _ _ hZ2 (by omega) (by omega))
  · have k0 : k = 0 := by omega
    obtain ⟨g, hg1, hg2⟩ := hg k0
    refine g_run 15 2 rfl ?_
    refine g_lald 17 0 rfl rfl hg1 (by decide) rfl (by decide) (by decide) ?_
    rw [hg2]
    refine g_run 18 1 rfl ?_
    refine g_i2l 19 rfl hb ?_
    refine g_lcmp 20 rfl (lcmp_self _) ?_
    refine g_if_eq 21 2564 rfl rfl (by decide) (fun _ => ?_) (fun c => absurd rfl c)
    refine g_run 24 1 rfl ?_
    exact G_tb tl_0 (kk _ _ _ _ _ _ _ _ _ hZ2 (by omega) (by omega))
def tbL_48 : List (Nat × Instr × Nat) := [(2567, .aload_n 1, 2568), (2568, .invokevirtual 311, 2571), (2571, .aload_n 2, 2572), (2572, .invokevirtual 314, 2575), (2575, .if_icmp .eq 49, 2578), (2578, .iconst 0, 2579), (2579, .ireturn, 2580)]
theorem tl_48 : e_tb cL_law tbL_48 = true := by decide +kernel
theorem law_48 (hK : KM Γ) (hP9 : PV Γ) (hB : 20 ≤ B ∧ B + 2400 ≤ 10000000) (hZ : LZ B M n q A) (hxs : ∀ j, i32 (xs j)) (h60 : Γ.cM 60 = cI 10 L xs) (i : Nat) (hi : 5 * i + 5 ≤ L) (hL : L ≤ 2560) (hkc : kc + 2 ≤ mc) (hks : ks + 200 ≤ ms) (x6 x7 x8 : Option aV) (kk : lawK r0 Γ mc ms Q B i kc ks) : G (e_L r0) Γ (lawX tbL_0) 20 mc ms Q 2567 (lawL i x6 x7 x8) [] M n kc ks := by
  refine G_tb tl_48 ?_
  obtain ⟨d1, mc1, ms1, d2, z, P, ⟨b1, b2, b3, b4⟩, hw, ⟨Q1, hC1, hQ1⟩, hY⟩ := s_save (r0 := r0) (Γ := Γ) hB hZ
  obtain ⟨fx, hfx⟩ := LZ_xo hZ
  refine g_run 0 1 rfl ?_
  refine g_callV 1 rfl cv_RL_311 hfx hC1 rfl rfl (by omega) (by omega) (by omega) (Nat.le_of_ble_eq_true rfl) (fun v9 M1 n1 h9 _ => ?_) (fun E M1 n1 h9 _ => by have h3 := (hQ1 _ _ _ h9).1; cases h3)
  obtain ⟨h3, hP⟩ := hQ1 _ _ _ h9
  cases h3
  obtain ⟨⟨fs9, hfs⟩, Q2, hC2, hQ2⟩ := hY M1 n1 hP
  refine g_run 2 1 rfl ?_
  refine g_callV 3 rfl cv_RL_314 hfs hC2 rfl rfl (by omega) (by omega) (by omega) (Nat.le_of_ble_eq_true rfl) (fun v9 M2 n2 h9 _ => ?_) (fun E M2 n2 h9 _ => by have h3 := (hQ2 _ _ _ h9).2.1; cases h3)
  obtain ⟨e2, h3, q2, A2, hZ2⟩ := hQ2 _ _ _ h9
  cases h3
  subst e2
  refine g_icmp_eq 4 2624 rfl rfl hw hw (fun _ => ?_) (fun c => absurd rfl c)
  exact G_tb tl_0 (kk _ _ _ _ _ _ _ _ _ hZ2 (by omega) (by omega))
def tbL_49 : List (Nat × Instr × Nat) := [(2580, .aload_n 1, 2581), (2581, .aload_n 3, 2582), (2582, .invokestatic 315, 2585), (2585, .istore 6, 2587), (2587, .aload_n 2, 2588), (2588, .invokevirtual 317, 2591), (2591, .istore 7, 2593), (2593, .aload_n 2, 2594), (2594, .invokevirtual 152, 2597), (2597, .iload 6, 2599), (2599, .if_icmp .eq 5, 2602), (2602, .iconst 0, 2603), (2603, .ireturn, 2604), (2604, .iload 6, 2606), (2606, .ifCond .ne 15, 2609), (2609, .aload_n 3, 2610), (2610, .iconst 0, 2611), (2611, .laload, 2612), (2612, .iload 7, 2614), (2614, .i2l, 2615), (2615, .lcmp, 2616), (2616, .ifCond .eq 5, 2619), (2619, .iconst 0, 2620), (2620, .ireturn, 2621), (2621, .goto 3, 2624)]
theorem tl_49 : e_tb cL_law tbL_49 = true := by decide +kernel
theorem law_49 (hK : KM Γ) (hP9 : PV Γ) (hB : 20 ≤ B ∧ B + 2400 ≤ 10000000) (hZ : LZ B M n q A) (hxs : ∀ j, i32 (xs j)) (h60 : Γ.cM 60 = cI 10 L xs) (i : Nat) (hi : 5 * i + 5 ≤ L) (hL : L ≤ 2560) (hkc : kc + 2 ≤ mc) (hks : ks + 200 ≤ ms) (x6 x7 x8 : Option aV) (kk : lawK r0 Γ mc ms Q B i kc ks) : G (e_L r0) Γ (lawX tbL_0) 20 mc ms Q 2580 (lawL i x6 x7 x8) [] M n kc ks := by
  refine G_tb tl_49 ?_
  obtain ⟨d1, mc1, ms1, d2, P, ⟨b1, b2, b3, b4⟩, hC1, hY⟩ := s_restore (r0 := r0) (Γ := Γ) hB hZ 
  refine g_run 0 2 rfl ?_
  refine g_callSX 2 rfl cs_RL_315 hC1 rfl rfl (by omega) (by omega) (by omega) (Nat.le_of_ble_eq_true rfl) (fun v9 M1 n1 h9 _ => ?_) (fun E M1 n1 h9 _ => by obtain ⟨k, h3, -⟩ := h9; cases h3)
  obtain ⟨k, h3, hP⟩ := h9
  cases h3
  obtain ⟨hk, ⟨fs9, hfs⟩, Q2, hC2, hQ2⟩ := hY k M1 n1 hP
  refine g_run 3 2 rfl ?_
  refine g_callV 5 rfl cv_RL_317 hfs hC2 rfl rfl (by omega) (by omega) (by omega) (Nat.le_of_ble_eq_true rfl) (fun v9 M2 n2 h9 _ => ?_) (fun E M2 n2 h9 _ => by obtain ⟨-, b, -, h3, -⟩ := hQ2 _ _ _ h9; cases h3)
  obtain ⟨e2, b, hb, h3, hg, q2, A2, hq6, hZ2⟩ := hQ2 _ _ _ h9
  cases h3
  subst e2
  refine g_run 6 2 rfl ?_
  refine g_callV 8 rfl cv_RL_152 (LZ_mm hZ2).2.1 (m_thrown (LZ_mm hZ2)) rfl rfl (by omega) (by omega) (by omega) (Nat.le_of_ble_eq_true rfl) (e_kr ?_) e_kx
  rw [hq6]
  refine g_run 9 1 rfl ?_
  refine g_icmp_eq 10 2604 rfl rfl hk hk (fun _ => ?_) (fun c => absurd rfl c)
  refine g_run 13 1 rfl ?_
  refine g_if_ne 14 2621 rfl rfl hk (fun c8 => ?_) (fun c8 => ?_)
  · skip
    refine g_run 24 1 rfl ?_
    exact G_tb tl_0 (kk _ _ _ _ _ _ _ _ _ hZ2 (by omega) (by omega))
  · have k0 : k = 0 := by omega
    obtain ⟨g, hg1, hg2⟩ := hg k0
    refine g_run 15 2 rfl ?_
    refine g_lald 17 0 rfl rfl hg1 (by decide) rfl (by decide) (by decide) ?_
    rw [hg2]
    refine g_run 18 1 rfl ?_
    refine g_i2l 19 rfl hb ?_
    refine g_lcmp 20 rfl (lcmp_self _) ?_
    refine g_if_eq 21 2621 rfl rfl (by decide) (fun _ => ?_) (fun c => absurd rfl c)
    refine g_run 24 1 rfl ?_
    exact G_tb tl_0 (kk _ _ _ _ _ _ _ _ _ hZ2 (by omega) (by omega))
end LA
