/-! the law: a turn (wip/whole/gen/c_law.py prints this part) -/
abbrev lawX (tb : List (Nat × Instr × Nat)) : MD := (RL, (yL_law, (cL_law, (9, (some .boolean, ([(0, 0, 0, 0)], tb))))))
theorem G_tb {Λ : Ls} {Γ : Cx} {d mc ms : Nat} {Q : Rv → Mem → Nat → Prop} {pc : Nat} {ls : List (Option aV)} {st : List aV} {M : Mem} {n kc ks : Nat} {tb tb' : List (Nat × Instr × Nat)} (h : e_tb cL_law tb' = true) (k : G Λ Γ (lawX tb') d mc ms Q pc ls st M n kc ks) : G Λ Γ (lawX tb) d mc ms Q pc ls st M n kc ks :=
  fun hE p e R s m args below meth c H locs ad ad0 n0 lsA hF h1 h2 hX hW hS hL hs => k hE p e R s m args below meth c H locs ad ad0 n0 lsA ⟨⟨hF.1.1, hF.1.2.1, hF.1.2.2.1, hF.1.2.2.2.1, hF.1.2.2.2.2.1, hF.1.2.2.2.2.2.1, hF.1.2.2.2.2.2.2.1, hF.1.2.2.2.2.2.2.2.1, hF.1.2.2.2.2.2.2.2.2.1, h⟩, hF.2⟩ h1 h2 hX hW hS hL hs
theorem i2c_mod (a : Int) : ((iI a).toUInt32 % 65536).toInt32 = iI (a % 65536) := by
  apply Int32.toInt_inj.mp
  have h0 : 0 ≤ a % 65536 ∧ a % 65536 < 65536 := by omega
  rw [iI_toInt (by omega)]
  have h1 : (((iI a).toUInt32 % 65536).toInt32).toInt = (((iI a).toUInt32 % 65536).toNat : Int) := by
    have h2 : ((iI a).toUInt32 % 65536).toNat < 65536 := by
      rw [UInt32.toNat_mod]
      exact Nat.mod_lt _ (by decide)
    generalize (iI a).toUInt32 % 65536 = u at h2
    show (u.toBitVec.toInt) = _
    rw [BitVec.toInt_eq_toNat_of_lt]
    · rfl
    · show 2 * u.toNat < 2 ^ 32
      omega
  rw [h1, UInt32.toNat_mod]
  have h3 : (((iI a).toUInt32).toNat : Int) = a % 4294967296 := by
    show (((Int32.ofInt a).toBitVec.toNat : Nat) : Int) = _
    show (((BitVec.ofInt 32 a).toNat : Nat) : Int) = _
    rw [BitVec.toNat_ofInt]
    show (((a % 4294967296).toNat : Nat) : Int) = _
    omega
  show ((((iI a).toUInt32).toNat % 65536 : Nat) : Int) = _
  omega
theorem lcmp_self (a : Int64) : lg_cmp a a = iI 0 := by
  unfold lg_cmp
  simp
  try rfl
def tbL_0 : List (Nat × Instr × Nat) := [(0, .new 8, 3), (3, .dup, 4), (4, .invokespecial 142, 7), (7, .astore_n 1, 8), (8, .new 143, 11), (11, .dup, 12), (12, .invokespecial 145, 15), (15, .astore_n 2, 16), (16, .iconst 1, 17), (17, .newarray .long, 19), (19, .astore_n 3, 20), (20, .iconst 1, 21), (21, .newarray .double, 23), (23, .astore 4, 25), (25, .iconst 0, 26), (26, .istore 5, 28), (28, .iload 5, 30), (30, .aload_n 0, 31), (31, .arraylength, 32), (32, .iconst 5, 33), (33, .isub, 34), (34, .if_icmp .gt 2596, 37), (37, .aload_n 0, 38), (38, .iload 5, 40), (40, .iaload, 41), (41, .bipush 63, 43), (43, .iand, 44), (2624, .iinc 5 5, 2627), (2627, .goto (-2599), 2630), (2630, .iconst 1, 2631), (2631, .ireturn, 2632)]
theorem tl_0 : e_tb cL_law tbL_0 = true := by decide +kernel
theorem LZ_xo {B : Int} {M : Mem} {n : Nat} {q : Nat → Int} {A : Nat → Nat → Int} (h : LZ B M n q A) : ∃ fs : List aV, M 100 = cO 8 fs := by
  obtain ⟨-, σ, τ, ρ, r, f, c5, sv, ep, fp, v, cap, l, t, nm, pl, s, hC, -⟩ := h
  exact ⟨_, hC.1⟩
abbrev lawL (i : Nat) (y6 y7 y8 : Option aV) : List (Option aV) := [some (vR 60), some (vR 100), some (vR 373), some (vR 382), some (vR 383), some (vI (5 * (i : Int))), y6, y7, y8]
/-- how a turn goes on -/
abbrev lawK (r0 : Option Nat) (Γ : Cx) (mc ms : Nat) (Q : Rv → Mem → Nat → Prop) (B : Int) (i kc ks : Nat) : Prop := ∀ (M' : Mem) (n' : Nat) (q' : Nat → Int) (A' : Nat → Nat → Int) (kc' ks' : Nat) (y6 y7 y8 : Option aV), LZ (B + 2400) M' n' q' A' → kc' ≤ kc + 2 → ks' ≤ ks + 200 → G (e_L r0) Γ (lawX tbL_0) 20 mc ms Q 2624 (lawL i y6 y7 y8) [] M' n' kc' ks'
section LA
variable {r0 : Option Nat} {Γ : Cx} {B : Int} {M : Mem} {n kc ks mc ms L : Nat} {q : Nat → Int} {A : Nat → Nat → Int} {Q : Rv → Mem → Nat → Prop} {xs : Nat → Int}
def tbL_1 : List (Nat × Instr × Nat) := [(256, .aload_n 1, 257), (257, .aload_n 0, 258), (258, .iload 5, 260), (260, .iconst 1, 261), (261, .iadd, 262), (262, .iaload, 263), (263, .aload_n 0, 264), (264, .iload 5, 266), (266, .iconst 2, 267), (267, .iadd, 268), (268, .iaload, 269), (269, .aload_n 0, 270), (270, .iload 5, 272), (272, .iconst 3, 273), (273, .iadd, 274), (274, .iaload, 275), (275, .aload_n 3, 276), (276, .invokestatic 146, 279), (279, .istore 6, 281), (281, .aload_n 2, 282), (282, .aload_n 0, 283), (283, .iload 5, 285), (285, .iconst 1, 286), (286, .iadd, 287), (287, .iaload, 288), (288, .aload_n 0, 289), (289, .iload 5, 291), (291, .iconst 2, 292), (292, .iadd, 293), (293, .iaload, 294), (294, .aload_n 0, 295), (295, .iload 5, 297), (297, .iconst 3, 298), (298, .iadd, 299), (299, .iaload, 300), (300, .invokevirtual 151, 303), (303, .istore 7, 305), (305, .aload_n 2, 306), (306, .invokevirtual 152, 309), (309, .iload 6, 311), (311, .if_icmp .eq 5, 314), (314, .iconst 0, 315), (315, .ireturn, 316), (316, .iload 6, 318), (318, .ifCond .ne 15, 321), (321, .aload_n 3, 322), (322, .iconst 0, 323), (323, .laload, 324), (324, .iload 7, 326), (326, .i2l, 327), (327, .lcmp, 328), (328, .ifCond .eq 5, 331), (331, .iconst 0, 332), (332, .ireturn, 333), (333, .goto 2291, 336)]
theorem tl_1 : e_tb cL_law tbL_1 = true := by decide +kernel
theorem law_1 (hK : KM Γ) (hP9 : PV Γ) (hB : 20 ≤ B ∧ B + 2400 ≤ 10000000) (hZ : LZ B M n q A) (hxs : ∀ j, i32 (xs j)) (h60 : Γ.cM 60 = cI 10 L xs) (i : Nat) (hi : 5 * i + 5 ≤ L) (hL : L ≤ 2560) (hkc : kc + 2 ≤ mc) (hks : ks + 200 ≤ ms) (x6 x7 x8 : Option aV) (kk : lawK r0 Γ mc ms Q B i kc ks) : G (e_L r0) Γ (lawX tbL_0) 20 mc ms Q 256 (lawL i x6 x7 x8) [] M n kc ks := by
  refine G_tb tl_1 ?_
  obtain ⟨d1, mc1, ms1, d2, P, ⟨b1, b2, b3, b4⟩, hC1, hY⟩ := s_addDoor (r0 := r0) (Γ := Γ) hK hB hZ (xs (5 * i + 1)) (hxs _) (xs (5 * i + 2)) (hxs _) (xs (5 * i + 3)) (hxs _)
  refine g_run 0 5 rfl ?_
  refine g_low (fun hla => ?_)
  have h60a := (hla 60 (by decide)).trans h60
  refine g_iald 5 (5 * i + 1) rfl rfl h60a (by omega) (by omega) (by omega) ?_
  refine g_run 6 4 rfl ?_
  refine g_iald 10 (5 * i + 2) rfl rfl h60a (by omega) (by omega) (by omega) ?_
  refine g_run 11 4 rfl ?_
  refine g_iald 15 (5 * i + 3) rfl rfl h60a (by omega) (by omega) (by omega) ?_
  refine g_run 16 1 rfl ?_
  refine g_callSX 17 rfl cs_RL_146 hC1 rfl rfl (by omega) (by omega) (by omega) (Nat.le_of_ble_eq_true rfl) (fun v9 M1 n1 h9 _ => ?_) (fun E M1 n1 h9 _ => by obtain ⟨k, h3, -⟩ := h9; cases h3)
  obtain ⟨k, h3, hP⟩ := h9
  cases h3
  obtain ⟨hk, ⟨fs9, hfs⟩, Q2, hC2, hQ2⟩ := hY k M1 n1 hP
  refine g_run 18 6 rfl ?_
  refine g_low (fun hlb => ?_)
  have h60b := (hlb 60 (by decide)).trans h60
  refine g_iald 24 (5 * i + 1) rfl rfl h60b (by omega) (by omega) (by omega) ?_
  refine g_run 25 4 rfl ?_
  refine g_iald 29 (5 * i + 2) rfl rfl h60b (by omega) (by omega) (by omega) ?_
  refine g_run 30 4 rfl ?_
  refine g_iald 34 (5 * i + 3) rfl rfl h60b (by omega) (by omega) (by omega) ?_
  refine g_callV 35 rfl cv_RL_151 hfs hC2 rfl rfl (by omega) (by omega) (by omega) (Nat.le_of_ble_eq_true rfl) (fun v9 M2 n2 h9 _ => ?_) (fun E M2 n2 h9 _ => by obtain ⟨-, b, -, h3, -⟩ := hQ2 _ _ _ h9; cases h3)
  obtain ⟨e2, b, hb, h3, hg, q2, A2, hq6, hZ2⟩ := hQ2 _ _ _ h9
  cases h3
  subst e2
  refine g_run 36 2 rfl ?_
  refine g_callV 38 rfl cv_RL_152 (LZ_mm hZ2).2.1 (m_thrown (LZ_mm hZ2)) rfl rfl (by omega) (by omega) (by omega) (Nat.le_of_ble_eq_true rfl) (e_kr ?_) e_kx
  rw [hq6]
  refine g_run 39 1 rfl ?_
  refine g_icmp_eq 40 316 rfl rfl hk hk (fun _ => ?_) (fun c => absurd rfl c)
  refine g_run 43 1 rfl ?_
  refine g_if_ne 44 333 rfl rfl hk (fun c8 => ?_) (fun c8 => ?_)
  · skip
    refine g_run 54 1 rfl ?_
    exact G_tb tl_0 (kk _ _ _ _ _ _ _ _ _ hZ2 (by omega) (by omega))
  · have k0 : k = 0 := by omega
    obtain ⟨g, hg1, hg2⟩ := hg k0
    refine g_run 45 2 rfl ?_
    refine g_lald 47 0 rfl rfl hg1 (by decide) rfl (by decide) (by decide) ?_
    rw [hg2]
    refine g_run 48 1 rfl ?_
    refine g_i2l 49 rfl hb ?_
    refine g_lcmp 50 rfl (lcmp_self _) ?_
    refine g_if_eq 51 333 rfl rfl (by decide) (fun _ => ?_) (fun c => absurd rfl c)
    refine g_run 54 1 rfl ?_
    exact G_tb tl_0 (kk _ _ _ _ _ _ _ _ _ hZ2 (by omega) (by omega))
def tbL_2 : List (Nat × Instr × Nat) := [(336, .aload_n 1, 337), (337, .aload_n 0, 338), (338, .iload 5, 340), (340, .iconst 1, 341), (341, .iadd, 342), (342, .iaload, 343), (343, .aload_n 0, 344), (344, .iload 5, 346), (346, .iconst 2, 347), (347, .iadd, 348), (348, .iaload, 349), (349, .aload_n 0, 350), (350, .iload 5, 352), (352, .iconst 3, 353), (353, .iadd, 354), (354, .iaload, 355), (355, .aload_n 3, 356), (356, .invokestatic 155, 359), (359, .istore 6, 361), (361, .aload_n 2, 362), (362, .aload_n 0, 363), (363, .iload 5, 365), (365, .iconst 1, 366), (366, .iadd, 367), (367, .iaload, 368), (368, .aload_n 0, 369), (369, .iload 5, 371), (371, .iconst 2, 372), (372, .iadd, 373), (373, .iaload, 374), (374, .aload_n 0, 375), (375, .iload 5, 377), (377, .iconst 3, 378), (378, .iadd, 379), (379, .iaload, 380), (380, .invokevirtual 157, 383), (383, .istore 7, 385), (385, .aload_n 2, 386), (386, .invokevirtual 152, 389), (389, .iload 6, 391), (391, .if_icmp .eq 5, 394), (394, .iconst 0, 395), (395, .ireturn, 396), (396, .iload 6, 398), (398, .ifCond .ne 15, 401), (401, .aload_n 3, 402), (402, .iconst 0, 403), (403, .laload, 404), (404, .iload 7, 406), (406, .i2l, 407), (407, .lcmp, 408), (408, .ifCond .eq 5, 411), (411, .iconst 0, 412), (412, .ireturn, 413), (413, .goto 2211, 416)]
theorem tl_2 : e_tb cL_law tbL_2 = true := by decide +kernel
theorem law_2 (hK : KM Γ) (hP9 : PV Γ) (hB : 20 ≤ B ∧ B + 2400 ≤ 10000000) (hZ : LZ B M n q A) (hxs : ∀ j, i32 (xs j)) (h60 : Γ.cM 60 = cI 10 L xs) (i : Nat) (hi : 5 * i + 5 ≤ L) (hL : L ≤ 2560) (hkc : kc + 2 ≤ mc) (hks : ks + 200 ≤ ms) (x6 x7 x8 : Option aV) (kk : lawK r0 Γ mc ms Q B i kc ks) : G (e_L r0) Γ (lawX tbL_0) 20 mc ms Q 336 (lawL i x6 x7 x8) [] M n kc ks := by
  refine G_tb tl_2 ?_
  obtain ⟨d1, mc1, ms1, d2, P, ⟨b1, b2, b3, b4⟩, hC1, hY⟩ := s_turn (r0 := r0) (Γ := Γ) hK hB hZ (xs (5 * i + 1)) (hxs _) (xs (5 * i + 2)) (hxs _) (xs (5 * i + 3)) (hxs _)
  refine g_run 0 5 rfl ?_
  refine g_low (fun hla => ?_)
  have h60a := (hla 60 (by decide)).trans h60
  refine g_iald 5 (5 * i + 1) rfl rfl h60a (by omega) (by omega) (by omega) ?_
  refine g_run 6 4 rfl ?_
  refine g_iald 10 (5 * i + 2) rfl rfl h60a (by omega) (by omega) (by omega) ?_
  refine g_run 11 4 rfl ?_
  refine g_iald 15 (5 * i + 3) rfl rfl h60a (by omega) (by omega) (by omega) ?_
  refine g_run 16 1 rfl ?_
  refine g_callSX 17 rfl cs_RL_155 hC1 rfl rfl (by omega) (by omega) (by omega) (Nat.le_of_ble_eq_true rfl) (fun v9 M1 n1 h9 _ => ?_) (fun E M1 n1 h9 _ => by obtain ⟨k, h3, -⟩ := h9; cases h3)
  obtain ⟨k, h3, hP⟩ := h9
  cases h3
  obtain ⟨hk, ⟨fs9, hfs⟩, Q2, hC2, hQ2⟩ := hY k M1 n1 hP
  refine g_run 18 6 rfl ?_
  refine g_low (fun hlb => ?_)
  have h60b := (hlb 60 (by decide)).trans h60
  refine g_iald 24 (5 * i + 1) rfl rfl h60b (by omega) (by omega) (by omega) ?_
  refine g_run 25 4 rfl ?_
  refine g_iald 29 (5 * i + 2) rfl rfl h60b (by omega) (by omega) (by omega) ?_
  refine g_run 30 4 rfl ?_
  refine g_iald 34 (5 * i + 3) rfl rfl h60b (by omega) (by omega) (by omega) ?_
  refine g_callV 35 rfl cv_RL_157 hfs hC2 rfl rfl (by omega) (by omega) (by omega) (Nat.le_of_ble_eq_true rfl) (fun v9 M2 n2 h9 _ => ?_) (fun E M2 n2 h9 _ => by obtain ⟨-, b, -, h3, -⟩ := hQ2 _ _ _ h9; cases h3)
  obtain ⟨e2, b, hb, h3, hg, q2, A2, hq6, hZ2⟩ := hQ2 _ _ _ h9
  cases h3
  subst e2
  refine g_run 36 2 rfl ?_
  refine g_callV 38 rfl cv_RL_152 (LZ_mm hZ2).2.1 (m_thrown (LZ_mm hZ2)) rfl rfl (by omega) (by omega) (by omega) (Nat.le_of_ble_eq_true rfl) (e_kr ?_) e_kx
  rw [hq6]
  refine g_run 39 1 rfl ?_
  refine g_icmp_eq 40 396 rfl rfl hk hk (fun _ => ?_) (fun c => absurd rfl c)
  refine g_run 43 1 rfl ?_
  refine g_if_ne 44 413 rfl rfl hk (fun c8 => ?_) (fun c8 => ?_)
  · skip
    refine g_run 54 1 rfl ?_
    exact G_tb tl_0 (kk _ _ _ _ _ _ _ _ _ hZ2 (by omega) (by omega))
  · have k0 : k = 0 := by omega
    obtain ⟨g, hg1, hg2⟩ := hg k0
    refine g_run 45 2 rfl ?_
    refine g_lald 47 0 rfl rfl hg1 (by decide) rfl (by decide) (by decide) ?_
    rw [hg2]
    refine g_run 48 1 rfl ?_
    refine g_i2l 49 rfl hb ?_
    refine g_lcmp 50 rfl (lcmp_self _) ?_
    refine g_if_eq 51 413 rfl rfl (by decide) (fun _ => ?_) (fun c => absurd rfl c)
    refine g_run 54 1 rfl ?_
    exact G_tb tl_0 (kk _ _ _ _ _ _ _ _ _ hZ2 (by omega) (by omega))
def tbL_3 : List (Nat × Instr × Nat) := [(416, .aload_n 1, 417), (417, .aload_n 0, 418), (418, .iload 5, 420), (420, .iconst 1, 421), (421, .iadd, 422), (422, .iaload, 423), (423, .aload_n 3, 424), (424, .invokestatic 158, 427), (427, .istore 6, 429), (429, .aload_n 2, 430), (430, .aload_n 0, 431), (431, .iload 5, 433), (433, .iconst 1, 434), (434, .iadd, 435), (435, .iaload, 436), (436, .invokevirtual 161, 439), (439, .istore 7, 441), (441, .aload_n 2, 442), (442, .invokevirtual 152, 445), (445, .iload 6, 447), (447, .if_icmp .eq 5, 450), (450, .iconst 0, 451), (451, .ireturn, 452), (452, .iload 6, 454), (454, .ifCond .ne 22, 457), (457, .aload_n 3, 458), (458, .iconst 0, 459), (459, .laload, 460), (460, .iload 7, 462), (462, .ifCond .eq 7, 465), (465, .lconst 1, 466), (466, .goto 4, 469), (469, .lconst 0, 470), (470, .lcmp, 471), (471, .ifCond .eq 5, 474), (474, .iconst 0, 475), (475, .ireturn, 476), (476, .goto 2148, 479)]
theorem tl_3 : e_tb cL_law tbL_3 = true := by decide +kernel
theorem law_3 (hK : KM Γ) (hP9 : PV Γ) (hB : 20 ≤ B ∧ B + 2400 ≤ 10000000) (hZ : LZ B M n q A) (hxs : ∀ j, i32 (xs j)) (h60 : Γ.cM 60 = cI 10 L xs) (i : Nat) (hi : 5 * i + 5 ≤ L) (hL : L ≤ 2560) (hkc : kc + 2 ≤ mc) (hks : ks + 200 ≤ ms) (x6 x7 x8 : Option aV) (kk : lawK r0 Γ mc ms Q B i kc ks) : G (e_L r0) Γ (lawX tbL_0) 20 mc ms Q 416 (lawL i x6 x7 x8) [] M n kc ks := by
  refine G_tb tl_3 ?_
  obtain ⟨d1, mc1, ms1, d2, P, ⟨b1, b2, b3, b4⟩, hC1, hY⟩ := s_tryLock (r0 := r0) (Γ := Γ) hK hB hZ (xs (5 * i + 1)) (hxs _)
  refine g_run 0 5 rfl ?_
  refine g_low (fun hla => ?_)
  have h60a := (hla 60 (by decide)).trans h60
  refine g_iald 5 (5 * i + 1) rfl rfl h60a (by omega) (by omega) (by omega) ?_
  refine g_run 6 1 rfl ?_
  refine g_callSX 7 rfl cs_RL_158 hC1 rfl rfl (by omega) (by omega) (by omega) (Nat.le_of_ble_eq_true rfl) (fun v9 M1 n1 h9 _ => ?_) (fun E M1 n1 h9 _ => by obtain ⟨k, h3, -⟩ := h9; cases h3)
  obtain ⟨k, h3, hP⟩ := h9
  cases h3
  obtain ⟨hk, ⟨fs9, hfs⟩, Q2, hC2, hQ2⟩ := hY k M1 n1 hP
  refine g_run 8 6 rfl ?_
  refine g_low (fun hlb => ?_)
  have h60b := (hlb 60 (by decide)).trans h60
  refine g_iald 14 (5 * i + 1) rfl rfl h60b (by omega) (by omega) (by omega) ?_
  refine g_callV 15 rfl cv_RL_161 hfs hC2 rfl rfl (by omega) (by omega) (by omega) (Nat.le_of_ble_eq_true rfl) (fun v9 M2 n2 h9 _ => ?_) (fun E M2 n2 h9 _ => by obtain ⟨-, b, -, h3, -⟩ := hQ2 _ _ _ h9; cases h3)
  obtain ⟨e2, b, hb, h3, hg, q2, A2, hq6, hZ2⟩ := hQ2 _ _ _ h9
  cases h3
  subst e2
  refine g_run 16 2 rfl ?_
  refine g_callV 18 rfl cv_RL_152 (LZ_mm hZ2).2.1 (m_thrown (LZ_mm hZ2)) rfl rfl (by omega) (by omega) (by omega) (Nat.le_of_ble_eq_true rfl) (e_kr ?_) e_kx
  rw [hq6]
  refine g_run 19 1 rfl ?_
  refine g_icmp_eq 20 452 rfl rfl hk hk (fun _ => ?_) (fun c => absurd rfl c)
  refine g_run 23 1 rfl ?_
  refine g_if_ne 24 476 rfl rfl hk (fun c8 => ?_) (fun c8 => ?_)
  · skip
    refine g_run 37 1 rfl ?_
    exact G_tb tl_0 (kk _ _ _ _ _ _ _ _ _ hZ2 (by omega) (by omega))
  · have k0 : k = 0 := by omega
    obtain ⟨g, hg1, hg2⟩ := hg k0
    refine g_run 25 2 rfl ?_
    refine g_lald 27 0 rfl rfl hg1 (by decide) rfl (by decide) (by decide) ?_
    rw [hg2]
    rcases hb with rfl | rfl
    · refine g_run 28 1 rfl ?_
      refine g_if_eq 29 469 rfl rfl (by decide) (fun _ => ?_) (fun c => absurd rfl c)
      refine g_lconst 32 rfl ?_
      refine g_lcmp 33 (z := 0) rfl (by decide) ?_
      refine g_if_eq 34 476 rfl rfl (by decide) (fun _ => ?_) (fun c => absurd rfl c)
      refine g_run 37 1 rfl ?_
      exact G_tb tl_0 (kk _ _ _ _ _ _ _ _ _ hZ2 (by omega) (by omega))
    · refine g_run 28 1 rfl ?_
      refine g_if_eq 29 469 rfl rfl (by decide) (fun c => absurd c (by decide)) (fun _ => ?_)
      refine g_lconst 30 rfl ?_
      refine g_run 31 1 rfl ?_
      refine g_lcmp 33 (z := 0) rfl (by decide) ?_
      refine g_if_eq 34 476 rfl rfl (by decide) (fun _ => ?_) (fun c => absurd rfl c)
      refine g_run 37 1 rfl ?_
      exact G_tb tl_0 (kk _ _ _ _ _ _ _ _ _ hZ2 (by omega) (by omega))
def tbL_4 : List (Nat × Instr × Nat) := [(479, .aload_n 1, 480), (480, .aload_n 0, 481), (481, .iload 5, 483), (483, .iconst 1, 484), (484, .iadd, 485), (485, .iaload, 486), (486, .aload_n 3, 487), (487, .invokestatic 162, 490), (490, .istore 6, 492), (492, .aload_n 2, 493), (493, .aload_n 0, 494), (494, .iload 5, 496), (496, .iconst 1, 497), (497, .iadd, 498), (498, .iaload, 499), (499, .invokevirtual 164, 502), (502, .istore 7, 504), (504, .aload_n 2, 505), (505, .invokevirtual 152, 508), (508, .iload 6, 510), (510, .if_icmp .eq 5, 513), (513, .iconst 0, 514), (514, .ireturn, 515), (515, .iload 6, 517), (517, .ifCond .ne 15, 520), (520, .aload_n 3, 521), (521, .iconst 0, 522), (522, .laload, 523), (523, .iload 7, 525), (525, .i2l, 526), (526, .lcmp, 527), (527, .ifCond .eq 5, 530), (530, .iconst 0, 531), (531, .ireturn, 532), (532, .goto 2092, 535)]
theorem tl_4 : e_tb cL_law tbL_4 = true := by decide +kernel
theorem law_4 (hK : KM Γ) (hP9 : PV Γ) (hB : 20 ≤ B ∧ B + 2400 ≤ 10000000) (hZ : LZ B M n q A) (hxs : ∀ j, i32 (xs j)) (h60 : Γ.cM 60 = cI 10 L xs) (i : Nat) (hi : 5 * i + 5 ≤ L) (hL : L ≤ 2560) (hkc : kc + 2 ≤ mc) (hks : ks + 200 ≤ ms) (x6 x7 x8 : Option aV) (kk : lawK r0 Γ mc ms Q B i kc ks) : G (e_L r0) Γ (lawX tbL_0) 20 mc ms Q 479 (lawL i x6 x7 x8) [] M n kc ks := by
  refine G_tb tl_4 ?_
  obtain ⟨d1, mc1, ms1, d2, P, ⟨b1, b2, b3, b4⟩, hC1, hY⟩ := s_shut (r0 := r0) (Γ := Γ) hK hB hZ (xs (5 * i + 1)) (hxs _)
  refine g_run 0 5 rfl ?_
  refine g_low (fun hla => ?_)
  have h60a := (hla 60 (by decide)).trans h60
  refine g_iald 5 (5 * i + 1) rfl rfl h60a (by omega) (by omega) (by omega) ?_
  refine g_run 6 1 rfl ?_
  refine g_callSX 7 rfl cs_RL_162 hC1 rfl rfl (by omega) (by omega) (by omega) (Nat.le_of_ble_eq_true rfl) (fun v9 M1 n1 h9 _ => ?_) (fun E M1 n1 h9 _ => by obtain ⟨k, h3, -⟩ := h9; cases h3)
  obtain ⟨k, h3, hP⟩ := h9
  cases h3
  obtain ⟨hk, ⟨fs9, hfs⟩, Q2, hC2, hQ2⟩ := hY k M1 n1 hP
  refine g_run 8 6 rfl ?_
  refine g_low (fun hlb => ?_)
  have h60b := (hlb 60 (by decide)).trans h60
  refine g_iald 14 (5 * i + 1) rfl rfl h60b (by omega) (by omega) (by omega) ?_
  refine g_callV 15 rfl cv_RL_164 hfs hC2 rfl rfl (by omega) (by omega) (by omega) (Nat.le_of_ble_eq_true rfl) (fun v9 M2 n2 h9 _ => ?_) (fun E M2 n2 h9 _ => by obtain ⟨-, b, -, h3, -⟩ := hQ2 _ _ _ h9; cases h3)
  obtain ⟨e2, b, hb, h3, hg, q2, A2, hq6, hZ2⟩ := hQ2 _ _ _ h9
  cases h3
  subst e2
  refine g_run 16 2 rfl ?_
  refine g_callV 18 rfl cv_RL_152 (LZ_mm hZ2).2.1 (m_thrown (LZ_mm hZ2)) rfl rfl (by omega) (by omega) (by omega) (Nat.le_of_ble_eq_true rfl) (e_kr ?_) e_kx
  rw [hq6]
  refine g_run 19 1 rfl ?_
  refine g_icmp_eq 20 515 rfl rfl hk hk (fun _ => ?_) (fun c => absurd rfl c)
  refine g_run 23 1 rfl ?_
  refine g_if_ne 24 532 rfl rfl hk (fun c8 => ?_) (fun c8 => ?_)
  · skip
    refine g_run 34 1 rfl ?_
    exact G_tb tl_0 (kk _ _ _ _ _ _ _ _ _ hZ2 (by omega) (by omega))
  · have k0 : k = 0 := by omega
    obtain ⟨g, hg1, hg2⟩ := hg k0
    refine g_run 25 2 rfl ?_
    refine g_lald 27 0 rfl rfl hg1 (by decide) rfl (by decide) (by decide) ?_
    rw [hg2]
    refine g_run 28 1 rfl ?_
    refine g_i2l 29 rfl hb ?_
    refine g_lcmp 30 rfl (lcmp_self _) ?_
    refine g_if_eq 31 532 rfl rfl (by decide) (fun _ => ?_) (fun c => absurd rfl c)
    refine g_run 34 1 rfl ?_
    exact G_tb tl_0 (kk _ _ _ _ _ _ _ _ _ hZ2 (by omega) (by omega))
def tbL_5 : List (Nat × Instr × Nat) := [(535, .aload_n 1, 536), (536, .aload_n 0, 537), (537, .iload 5, 539), (539, .iconst 1, 540), (540, .iadd, 541), (541, .iaload, 542), (542, .aload_n 0, 543), (543, .iload 5, 545), (545, .iconst 2, 546), (546, .iadd, 547), (547, .iaload, 548), (548, .aload_n 0, 549), (549, .iload 5, 551), (551, .iconst 3, 552), (552, .iadd, 553), (553, .iaload, 554), (554, .aload_n 0, 555), (555, .iload 5, 557), (557, .iconst 4, 558), (558, .iadd, 559), (559, .iaload, 560), (560, .aload_n 3, 561), (561, .invokestatic 165, 564), (564, .istore 6, 566), (566, .aload_n 2, 567), (567, .aload_n 0, 568), (568, .iload 5, 570), (570, .iconst 1, 571), (571, .iadd, 572), (572, .iaload, 573), (573, .aload_n 0, 574), (574, .iload 5, 576), (576, .iconst 2, 577), (577, .iadd, 578), (578, .iaload, 579), (579, .aload_n 0, 580), (580, .iload 5, 582), (582, .iconst 3, 583), (583, .iadd, 584), (584, .iaload, 585), (585, .aload_n 0, 586), (586, .iload 5, 588), (588, .iconst 4, 589), (589, .iadd, 590), (590, .iaload, 591), (591, .invokevirtual 168, 594), (594, .istore 7, 596), (596, .aload_n 2, 597), (597, .invokevirtual 152, 600), (600, .iload 6, 602), (602, .if_icmp .eq 5, 605), (605, .iconst 0, 606), (606, .ireturn, 607), (607, .iload 6, 609), (609, .ifCond .ne 15, 612), (612, .aload_n 3, 613), (613, .iconst 0, 614), (614, .laload, 615), (615, .iload 7, 617), (617, .i2l, 618), (618, .lcmp, 619), (619, .ifCond .eq 5, 622), (622, .iconst 0, 623), (623, .ireturn, 624), (624, .goto 2000, 627)]
theorem tl_5 : e_tb cL_law tbL_5 = true := by decide +kernel
theorem law_5 (hK : KM Γ) (hP9 : PV Γ) (hB : 20 ≤ B ∧ B + 2400 ≤ 10000000) (hZ : LZ B M n q A) (hxs : ∀ j, i32 (xs j)) (h60 : Γ.cM 60 = cI 10 L xs) (i : Nat) (hi : 5 * i + 5 ≤ L) (hL : L ≤ 2560) (hkc : kc + 2 ≤ mc) (hks : ks + 200 ≤ ms) (x6 x7 x8 : Option aV) (kk : lawK r0 Γ mc ms Q B i kc ks) : G (e_L r0) Γ (lawX tbL_0) 20 mc ms Q 535 (lawL i x6 x7 x8) [] M n kc ks := by
  refine G_tb tl_5 ?_
  obtain ⟨d1, mc1, ms1, d2, P, ⟨b1, b2, b3, b4⟩, hC1, hY⟩ := s_setCombination (r0 := r0) (Γ := Γ) hK hB hZ (xs (5 * i + 1)) (hxs _) (xs (5 * i + 2)) (hxs _) (xs (5 * i + 3)) (hxs _) (xs (5 * i + 4)) (hxs _)
  refine g_run 0 5 rfl ?_
  refine g_low (fun hla => ?_)
  have h60a := (hla 60 (by decide)).trans h60
  refine g_iald 5 (5 * i + 1) rfl rfl h60a (by omega) (by omega) (by omega) ?_
  refine g_run 6 4 rfl ?_
  refine g_iald 10 (5 * i + 2) rfl rfl h60a (by omega) (by omega) (by omega) ?_
  refine g_run 11 4 rfl ?_
  refine g_iald 15 (5 * i + 3) rfl rfl h60a (by omega) (by omega) (by omega) ?_
  refine g_run 16 4 rfl ?_
  refine g_iald 20 (5 * i + 4) rfl rfl h60a (by omega) (by omega) (by omega) ?_
  refine g_run 21 1 rfl ?_
  refine g_callSX 22 rfl cs_RL_165 hC1 rfl rfl (by omega) (by omega) (by omega) (Nat.le_of_ble_eq_true rfl) (fun v9 M1 n1 h9 _ => ?_) (fun E M1 n1 h9 _ => by obtain ⟨k, h3, -⟩ := h9; cases h3)
  obtain ⟨k, h3, hP⟩ := h9
  cases h3
  obtain ⟨hk, ⟨fs9, hfs⟩, Q2, hC2, hQ2⟩ := hY k M1 n1 hP
  refine g_run 23 6 rfl ?_
  refine g_low (fun hlb => ?_)
  have h60b := (hlb 60 (by decide)).trans h60
  refine g_iald 29 (5 * i + 1) rfl rfl h60b (by omega) (by omega) (by omega) ?_
  refine g_run 30 4 rfl ?_
  refine g_iald 34 (5 * i + 2) rfl rfl h60b (by omega) (by omega) (by omega) ?_
  refine g_run 35 4 rfl ?_
  refine g_iald 39 (5 * i + 3) rfl rfl h60b (by omega) (by omega) (by omega) ?_
  refine g_run 40 4 rfl ?_
  refine g_iald 44 (5 * i + 4) rfl rfl h60b (by omega) (by omega) (by omega) ?_
  refine g_callV 45 rfl cv_RL_168 hfs hC2 rfl rfl (by omega) (by omega) (by omega) (Nat.le_of_ble_eq_true rfl) (fun v9 M2 n2 h9 _ => ?_) (fun E M2 n2 h9 _ => by obtain ⟨-, b, -, h3, -⟩ := hQ2 _ _ _ h9; cases h3)
  obtain ⟨e2, b, hb, h3, hg, q2, A2, hq6, hZ2⟩ := hQ2 _ _ _ h9
  cases h3
  subst e2
  refine g_run 46 2 rfl ?_
  refine g_callV 48 rfl cv_RL_152 (LZ_mm hZ2).2.1 (m_thrown (LZ_mm hZ2)) rfl rfl (by omega) (by omega) (by omega) (Nat.le_of_ble_eq_true rfl) (e_kr ?_) e_kx
  rw [hq6]
  refine g_run 49 1 rfl ?_
  refine g_icmp_eq 50 607 rfl rfl hk hk (fun _ => ?_) (fun c => absurd rfl c)
  refine g_run 53 1 rfl ?_
  refine g_if_ne 54 624 rfl rfl hk (fun c8 => ?_) (fun c8 => ?_)
  · skip
    refine g_run 64 1 rfl ?_
    exact G_tb tl_0 (kk _ _ _ _ _ _ _ _ _ hZ2 (by omega) (by omega))
  · have k0 : k = 0 := by omega
    obtain ⟨g, hg1, hg2⟩ := hg k0
    refine g_run 55 2 rfl ?_
    refine g_lald 57 0 rfl rfl hg1 (by decide) rfl (by decide) (by decide) ?_
    rw [hg2]
    refine g_run 58 1 rfl ?_
    refine g_i2l 59 rfl hb ?_
    refine g_lcmp 60 rfl (lcmp_self _) ?_
    refine g_if_eq 61 624 rfl rfl (by decide) (fun _ => ?_) (fun c => absurd rfl c)
    refine g_run 64 1 rfl ?_
    exact G_tb tl_0 (kk _ _ _ _ _ _ _ _ _ hZ2 (by omega) (by omega))
def tbL_6 : List (Nat × Instr × Nat) := [(627, .aload_n 1, 628), (628, .aload_n 0, 629), (629, .iload 5, 631), (631, .iconst 1, 632), (632, .iadd, 633), (633, .iaload, 634), (634, .aload_n 3, 635), (635, .invokestatic 169, 638), (638, .istore 6, 640), (640, .aload_n 2, 641), (641, .aload_n 0, 642), (642, .iload 5, 644), (644, .iconst 1, 645), (645, .iadd, 646), (646, .iaload, 647), (647, .invokevirtual 171, 650), (650, .istore 7, 652), (652, .aload_n 2, 653), (653, .invokevirtual 152, 656), (656, .iload 6, 658), (658, .if_icmp .eq 5, 661), (661, .iconst 0, 662), (662, .ireturn, 663), (663, .iload 6, 665), (665, .ifCond .ne 15, 668), (668, .aload_n 3, 669), (669, .iconst 0, 670), (670, .laload, 671), (671, .iload 7, 673), (673, .i2l, 674), (674, .lcmp, 675), (675, .ifCond .eq 5, 678), (678, .iconst 0, 679), (679, .ireturn, 680), (680, .goto 1944, 683)]
theorem tl_6 : e_tb cL_law tbL_6 = true := by decide +kernel
theorem law_6 (hK : KM Γ) (hP9 : PV Γ) (hB : 20 ≤ B ∧ B + 2400 ≤ 10000000) (hZ : LZ B M n q A) (hxs : ∀ j, i32 (xs j)) (h60 : Γ.cM 60 = cI 10 L xs) (i : Nat) (hi : 5 * i + 5 ≤ L) (hL : L ≤ 2560) (hkc : kc + 2 ≤ mc) (hks : ks + 200 ≤ ms) (x6 x7 x8 : Option aV) (kk : lawK r0 Γ mc ms Q B i kc ks) : G (e_L r0) Γ (lawX tbL_0) 20 mc ms Q 627 (lawL i x6 x7 x8) [] M n kc ks := by
  refine G_tb tl_6 ?_
  obtain ⟨d1, mc1, ms1, d2, P, ⟨b1, b2, b3, b4⟩, hC1, hY⟩ := s_setDamp (r0 := r0) (Γ := Γ) hK hB hZ (xs (5 * i + 1)) (hxs _)
  refine g_run 0 5 rfl ?_
  refine g_low (fun hla => ?_)
  have h60a := (hla 60 (by decide)).trans h60
  refine g_iald 5 (5 * i + 1) rfl rfl h60a (by omega) (by omega) (by omega) ?_
  refine g_run 6 1 rfl ?_
  refine g_callSX 7 rfl cs_RL_169 hC1 rfl rfl (by omega) (by omega) (by omega) (Nat.le_of_ble_eq_true rfl) (fun v9 M1 n1 h9 _ => ?_) (fun E M1 n1 h9 _ => by obtain ⟨k, h3, -⟩ := h9; cases h3)
  obtain ⟨k, h3, hP⟩ := h9
  cases h3
  obtain ⟨hk, ⟨fs9, hfs⟩, Q2, hC2, hQ2⟩ := hY k M1 n1 hP
  refine g_run 8 6 rfl ?_
  refine g_low (fun hlb => ?_)
  have h60b := (hlb 60 (by decide)).trans h60
  refine g_iald 14 (5 * i + 1) rfl rfl h60b (by omega) (by omega) (by omega) ?_
  refine g_callV 15 rfl cv_RL_171 hfs hC2 rfl rfl (by omega) (by omega) (by omega) (Nat.le_of_ble_eq_true rfl) (fun v9 M2 n2 h9 _ => ?_) (fun E M2 n2 h9 _ => by obtain ⟨-, b, -, h3, -⟩ := hQ2 _ _ _ h9; cases h3)
  obtain ⟨e2, b, hb, h3, hg, q2, A2, hq6, hZ2⟩ := hQ2 _ _ _ h9
  cases h3
  subst e2
  refine g_run 16 2 rfl ?_
  refine g_callV 18 rfl cv_RL_152 (LZ_mm hZ2).2.1 (m_thrown (LZ_mm hZ2)) rfl rfl (by omega) (by omega) (by omega) (Nat.le_of_ble_eq_true rfl) (e_kr ?_) e_kx
  rw [hq6]
  refine g_run 19 1 rfl ?_
  refine g_icmp_eq 20 663 rfl rfl hk hk (fun _ => ?_) (fun c => absurd rfl c)
  refine g_run 23 1 rfl ?_
  refine g_if_ne 24 680 rfl rfl hk (fun c8 => ?_) (fun c8 => ?_)
  · skip
    refine g_run 34 1 rfl ?_
    exact G_tb tl_0 (kk _ _ _ _ _ _ _ _ _ hZ2 (by omega) (by omega))
  · have k0 : k = 0 := by omega
    obtain ⟨g, hg1, hg2⟩ := hg k0
    refine g_run 25 2 rfl ?_
    refine g_lald 27 0 rfl rfl hg1 (by decide) rfl (by decide) (by decide) ?_
    rw [hg2]
    refine g_run 28 1 rfl ?_
    refine g_i2l 29 rfl hb ?_
    refine g_lcmp 30 rfl (lcmp_self _) ?_
    refine g_if_eq 31 680 rfl rfl (by decide) (fun _ => ?_) (fun c => absurd rfl c)
    refine g_run 34 1 rfl ?_
    exact G_tb tl_0 (kk _ _ _ _ _ _ _ _ _ hZ2 (by omega) (by omega))
def tbL_7 : List (Nat × Instr × Nat) := [(683, .aload_n 1, 684), (684, .aload_n 0, 685), (685, .iload 5, 687), (687, .iconst 1, 688), (688, .iadd, 689), (689, .iaload, 690), (690, .aload_n 0, 691), (691, .iload 5, 693), (693, .iconst 2, 694), (694, .iadd, 695), (695, .iaload, 696), (696, .aload_n 3, 697), (697, .invokestatic 172, 700), (700, .istore 6, 702), (702, .aload_n 2, 703), (703, .aload_n 0, 704), (704, .iload 5, 706), (706, .iconst 1, 707), (707, .iadd, 708), (708, .iaload, 709), (709, .aload_n 0, 710), (710, .iload 5, 712), (712, .iconst 2, 713), (713, .iadd, 714), (714, .iaload, 715), (715, .invokevirtual 175, 718), (718, .istore 7, 720), (720, .aload_n 2, 721), (721, .invokevirtual 152, 724), (724, .iload 6, 726), (726, .if_icmp .eq 5, 729), (729, .iconst 0, 730), (730, .ireturn, 731), (731, .iload 6, 733), (733, .ifCond .ne 15, 736), (736, .aload_n 3, 737), (737, .iconst 0, 738), (738, .laload, 739), (739, .iload 7, 741), (741, .i2l, 742), (742, .lcmp, 743), (743, .ifCond .eq 5, 746), (746, .iconst 0, 747), (747, .ireturn, 748), (748, .goto 1876, 751)]
theorem tl_7 : e_tb cL_law tbL_7 = true := by decide +kernel
theorem law_7 (hK : KM Γ) (hP9 : PV Γ) (hB : 20 ≤ B ∧ B + 2400 ≤ 10000000) (hZ : LZ B M n q A) (hxs : ∀ j, i32 (xs j)) (h60 : Γ.cM 60 = cI 10 L xs) (i : Nat) (hi : 5 * i + 5 ≤ L) (hL : L ≤ 2560) (hkc : kc + 2 ≤ mc) (hks : ks + 200 ≤ ms) (x6 x7 x8 : Option aV) (kk : lawK r0 Γ mc ms Q B i kc ks) : G (e_L r0) Γ (lawX tbL_0) 20 mc ms Q 683 (lawL i x6 x7 x8) [] M n kc ks := by
  refine G_tb tl_7 ?_
  obtain ⟨d1, mc1, ms1, d2, P, ⟨b1, b2, b3, b4⟩, hC1, hY⟩ := s_bake (r0 := r0) (Γ := Γ) hK hB hZ (xs (5 * i + 1)) (hxs _) (xs (5 * i + 2)) (hxs _)
  refine g_run 0 5 rfl ?_
  refine g_low (fun hla => ?_)
  have h60a := (hla 60 (by decide)).trans h60
  refine g_iald 5 (5 * i + 1) rfl rfl h60a (by omega) (by omega) (by omega) ?_
  refine g_run 6 4 rfl ?_
  refine g_iald 10 (5 * i + 2) rfl rfl h60a (by omega) (by omega) (by omega) ?_
  refine g_run 11 1 rfl ?_
  refine g_callSX 12 rfl cs_RL_172 hC1 rfl rfl (by omega) (by omega) (by omega) (Nat.le_of_ble_eq_true rfl) (fun v9 M1 n1 h9 _ => ?_) (fun E M1 n1 h9 _ => by obtain ⟨k, h3, -⟩ := h9; cases h3)
  obtain ⟨k, h3, hP⟩ := h9
  cases h3
  obtain ⟨hk, ⟨fs9, hfs⟩, Q2, hC2, hQ2⟩ := hY k M1 n1 hP
  refine g_run 13 6 rfl ?_
  refine g_low (fun hlb => ?_)
  have h60b := (hlb 60 (by decide)).trans h60
  refine g_iald 19 (5 * i + 1) rfl rfl h60b (by omega) (by omega) (by omega) ?_
  refine g_run 20 4 rfl ?_
  refine g_iald 24 (5 * i + 2) rfl rfl h60b (by omega) (by omega) (by omega) ?_
  refine g_callV 25 rfl cv_RL_175 hfs hC2 rfl rfl (by omega) (by omega) (by omega) (Nat.le_of_ble_eq_true rfl) (fun v9 M2 n2 h9 _ => ?_) (fun E M2 n2 h9 _ => by obtain ⟨-, b, -, h3, -⟩ := hQ2 _ _ _ h9; cases h3)
  obtain ⟨e2, b, hb, h3, hg, q2, A2, hq6, hZ2⟩ := hQ2 _ _ _ h9
  cases h3
  subst e2
  refine g_run 26 2 rfl ?_
  refine g_callV 28 rfl cv_RL_152 (LZ_mm hZ2).2.1 (m_thrown (LZ_mm hZ2)) rfl rfl (by omega) (by omega) (by omega) (Nat.le_of_ble_eq_true rfl) (e_kr ?_) e_kx
  rw [hq6]
  refine g_run 29 1 rfl ?_
  refine g_icmp_eq 30 731 rfl rfl hk hk (fun _ => ?_) (fun c => absurd rfl c)
  refine g_run 33 1 rfl ?_
  refine g_if_ne 34 748 rfl rfl hk (fun c8 => ?_) (fun c8 => ?_)
  · skip
    refine g_run 44 1 rfl ?_
    exact G_tb tl_0 (kk _ _ _ _ _ _ _ _ _ hZ2 (by omega) (by omega))
  · have k0 : k = 0 := by omega
    obtain ⟨g, hg1, hg2⟩ := hg k0
    refine g_run 35 2 rfl ?_
    refine g_lald 37 0 rfl rfl hg1 (by decide) rfl (by decide) (by decide) ?_
    rw [hg2]
    refine g_run 38 1 rfl ?_
    refine g_i2l 39 rfl hb ?_
    refine g_lcmp 40 rfl (lcmp_self _) ?_
    refine g_if_eq 41 748 rfl rfl (by decide) (fun _ => ?_) (fun c => absurd rfl c)
    refine g_run 44 1 rfl ?_
    exact G_tb tl_0 (kk _ _ _ _ _ _ _ _ _ hZ2 (by omega) (by omega))
def tbL_8 : List (Nat × Instr × Nat) := [(751, .aload_n 1, 752), (752, .aload_n 0, 753), (753, .iload 5, 755), (755, .iconst 1, 756), (756, .iadd, 757), (757, .iaload, 758), (758, .aload_n 3, 759), (759, .invokestatic 176, 762), (762, .istore 6, 764), (764, .aload_n 2, 765), (765, .aload_n 0, 766), (766, .iload 5, 768), (768, .iconst 1, 769), (769, .iadd, 770), (770, .iaload, 771), (771, .invokevirtual 178, 774), (774, .istore 7, 776), (776, .aload_n 2, 777), (777, .invokevirtual 152, 780), (780, .iload 6, 782), (782, .if_icmp .eq 5, 785), (785, .iconst 0, 786), (786, .ireturn, 787), (787, .iload 6, 789), (789, .ifCond .ne 15, 792), (792, .aload_n 3, 793), (793, .iconst 0, 794), (794, .laload, 795), (795, .iload 7, 797), (797, .i2l, 798), (798, .lcmp, 799), (799, .ifCond .eq 5, 802), (802, .iconst 0, 803), (803, .ireturn, 804), (804, .goto 1820, 807)]
theorem tl_8 : e_tb cL_law tbL_8 = true := by decide +kernel
theorem law_8 (hK : KM Γ) (hP9 : PV Γ) (hB : 20 ≤ B ∧ B + 2400 ≤ 10000000) (hZ : LZ B M n q A) (hxs : ∀ j, i32 (xs j)) (h60 : Γ.cM 60 = cI 10 L xs) (i : Nat) (hi : 5 * i + 5 ≤ L) (hL : L ≤ 2560) (hkc : kc + 2 ≤ mc) (hks : ks + 200 ≤ ms) (x6 x7 x8 : Option aV) (kk : lawK r0 Γ mc ms Q B i kc ks) : G (e_L r0) Γ (lawX tbL_0) 20 mc ms Q 751 (lawL i x6 x7 x8) [] M n kc ks := by
  refine G_tb tl_8 ?_
  obtain ⟨d1, mc1, ms1, d2, P, ⟨b1, b2, b3, b4⟩, hC1, hY⟩ := s_passHours (r0 := r0) (Γ := Γ) hK hB hZ (xs (5 * i + 1)) (hxs _)
  refine g_run 0 5 rfl ?_
  refine g_low (fun hla => ?_)
  have h60a := (hla 60 (by decide)).trans h60
  refine g_iald 5 (5 * i + 1) rfl rfl h60a (by omega) (by omega) (by omega) ?_
  refine g_run 6 1 rfl ?_
  refine g_callSX 7 rfl cs_RL_176 hC1 rfl rfl (by omega) (by omega) (by omega) (Nat.le_of_ble_eq_true rfl) (fun v9 M1 n1 h9 _ => ?_) (fun E M1 n1 h9 _ => by obtain ⟨k, h3, -⟩ := h9; cases h3)
  obtain ⟨k, h3, hP⟩ := h9
  cases h3
  obtain ⟨hk, ⟨fs9, hfs⟩, Q2, hC2, hQ2⟩ := hY k M1 n1 hP
  refine g_run 8 6 rfl ?_
  refine g_low (fun hlb => ?_)
  have h60b := (hlb 60 (by decide)).trans h60
  refine g_iald 14 (5 * i + 1) rfl rfl h60b (by omega) (by omega) (by omega) ?_
  refine g_callV 15 rfl cv_RL_178 hfs hC2 rfl rfl (by omega) (by omega) (by omega) (Nat.le_of_ble_eq_true rfl) (fun v9 M2 n2 h9 _ => ?_) (fun E M2 n2 h9 _ => by obtain ⟨-, b, -, h3, -⟩ := hQ2 _ _ _ h9; cases h3)
  obtain ⟨e2, b, hb, h3, hg, q2, A2, hq6, hZ2⟩ := hQ2 _ _ _ h9
  cases h3
  subst e2
  refine g_run 16 2 rfl ?_
  refine g_callV 18 rfl cv_RL_152 (LZ_mm hZ2).2.1 (m_thrown (LZ_mm hZ2)) rfl rfl (by omega) (by omega) (by omega) (Nat.le_of_ble_eq_true rfl) (e_kr ?_) e_kx
  rw [hq6]
  refine g_run 19 1 rfl ?_
  refine g_icmp_eq 20 787 rfl rfl hk hk (fun _ => ?_) (fun c => absurd rfl c)
  refine g_run 23 1 rfl ?_
  refine g_if_ne 24 804 rfl rfl hk (fun c8 => ?_) (fun c8 => ?_)
  · skip
    refine g_run 34 1 rfl ?_
    exact G_tb tl_0 (kk _ _ _ _ _ _ _ _ _ hZ2 (by omega) (by omega))
  · have k0 : k = 0 := by omega
    obtain ⟨g, hg1, hg2⟩ := hg k0
    refine g_run 25 2 rfl ?_
    refine g_lald 27 0 rfl rfl hg1 (by decide) rfl (by decide) (by decide) ?_
    rw [hg2]
    refine g_run 28 1 rfl ?_
    refine g_i2l 29 rfl hb ?_
    refine g_lcmp 30 rfl (lcmp_self _) ?_
    refine g_if_eq 31 804 rfl rfl (by decide) (fun _ => ?_) (fun c => absurd rfl c)
    refine g_run 34 1 rfl ?_
    exact G_tb tl_0 (kk _ _ _ _ _ _ _ _ _ hZ2 (by omega) (by omega))
def tbL_9 : List (Nat × Instr × Nat) := [(807, .aload_n 1, 808), (808, .invokevirtual 179, 811), (811, .aload_n 2, 812), (812, .invokevirtual 182, 815), (815, .if_icmp .eq 1809, 818), (818, .iconst 0, 819), (819, .ireturn, 820)]
theorem tl_9 : e_tb cL_law tbL_9 = true := by decide +kernel
theorem law_9 (hK : KM Γ) (hP9 : PV Γ) (hB : 20 ≤ B ∧ B + 2400 ≤ 10000000) (hZ : LZ B M n q A) (hxs : ∀ j, i32 (xs j)) (h60 : Γ.cM 60 = cI 10 L xs) (i : Nat) (hi : 5 * i + 5 ≤ L) (hL : L ≤ 2560) (hkc : kc + 2 ≤ mc) (hks : ks + 200 ≤ ms) (x6 x7 x8 : Option aV) (kk : lawK r0 Γ mc ms Q B i kc ks) : G (e_L r0) Γ (lawX tbL_0) 20 mc ms Q 807 (lawL i x6 x7 x8) [] M n kc ks := by
  refine G_tb tl_9 ?_
  obtain ⟨d1, mc1, ms1, d2, z, P, ⟨b1, b2, b3, b4⟩, hw, ⟨Q1, hC1, hQ1⟩, hY⟩ := s_doorCount (r0 := r0) (Γ := Γ) hB hZ
  obtain ⟨fx, hfx⟩ := LZ_xo hZ
  refine g_run 0 1 rfl ?_
  refine g_callV 1 rfl cv_RL_179 hfx hC1 rfl rfl (by omega) (by omega) (by omega) (Nat.le_of_ble_eq_true rfl) (fun v9 M1 n1 h9 _ => ?_) (fun E M1 n1 h9 _ => by have h3 := (hQ1 _ _ _ h9).1; cases h3)
  obtain ⟨h3, hP⟩ := hQ1 _ _ _ h9
  cases h3
  obtain ⟨⟨fs9, hfs⟩, Q2, hC2, hQ2⟩ := hY M1 n1 hP
  refine g_run 2 1 rfl ?_
  refine g_callV 3 rfl cv_RL_182 hfs hC2 rfl rfl (by omega) (by omega) (by omega) (Nat.le_of_ble_eq_true rfl) (fun v9 M2 n2 h9 _ => ?_) (fun E M2 n2 h9 _ => by have h3 := (hQ2 _ _ _ h9).2.1; cases h3)
  obtain ⟨e2, h3, q2, A2, hZ2⟩ := hQ2 _ _ _ h9
  cases h3
  subst e2
  refine g_icmp_eq 4 2624 rfl rfl hw hw (fun _ => ?_) (fun c => absurd rfl c)
  exact G_tb tl_0 (kk _ _ _ _ _ _ _ _ _ hZ2 (by omega) (by omega))
def tbL_10 : List (Nat × Instr × Nat) := [(820, .aload_n 1, 821), (821, .aload_n 0, 822), (822, .iload 5, 824), (824, .iconst 1, 825), (825, .iadd, 826), (826, .iaload, 827), (827, .aload_n 0, 828), (828, .iload 5, 830), (830, .iconst 2, 831), (831, .iadd, 832), (832, .iaload, 833), (833, .aload_n 3, 834), (834, .invokestatic 183, 837), (837, .istore 6, 839), (839, .aload_n 2, 840), (840, .aload_n 0, 841), (841, .iload 5, 843), (843, .iconst 1, 844), (844, .iadd, 845), (845, .iaload, 846), (846, .aload_n 0, 847), (847, .iload 5, 849), (849, .iconst 2, 850), (850, .iadd, 851), (851, .iaload, 852), (852, .invokevirtual 185, 855), (855, .istore 7, 857), (857, .aload_n 2, 858), (858, .invokevirtual 152, 861), (861, .iload 6, 863), (863, .if_icmp .eq 5, 866), (866, .iconst 0, 867), (867, .ireturn, 868), (868, .iload 6, 870), (870, .ifCond .ne 15, 873), (873, .aload_n 3, 874), (874, .iconst 0, 875), (875, .laload, 876), (876, .iload 7, 878), (878, .i2l, 879), (879, .lcmp, 880), (880, .ifCond .eq 5, 883), (883, .iconst 0, 884), (884, .ireturn, 885), (885, .goto 1739, 888)]
theorem tl_10 : e_tb cL_law tbL_10 = true := by decide +kernel
theorem law_10 (hK : KM Γ) (hP9 : PV Γ) (hB : 20 ≤ B ∧ B + 2400 ≤ 10000000) (hZ : LZ B M n q A) (hxs : ∀ j, i32 (xs j)) (h60 : Γ.cM 60 = cI 10 L xs) (i : Nat) (hi : 5 * i + 5 ≤ L) (hL : L ≤ 2560) (hkc : kc + 2 ≤ mc) (hks : ks + 200 ≤ ms) (x6 x7 x8 : Option aV) (kk : lawK r0 Γ mc ms Q B i kc ks) : G (e_L r0) Γ (lawX tbL_0) 20 mc ms Q 820 (lawL i x6 x7 x8) [] M n kc ks := by
  refine G_tb tl_10 ?_
  obtain ⟨d1, mc1, ms1, d2, P, ⟨b1, b2, b3, b4⟩, hC1, hY⟩ := s_dial (r0 := r0) (Γ := Γ) hB hZ (xs (5 * i + 1)) (hxs _) (xs (5 * i + 2)) (hxs _)
  refine g_run 0 5 rfl ?_
  refine g_low (fun hla => ?_)
  have h60a := (hla 60 (by decide)).trans h60
  refine g_iald 5 (5 * i + 1) rfl rfl h60a (by omega) (by omega) (by omega) ?_
  refine g_run 6 4 rfl ?_
  refine g_iald 10 (5 * i + 2) rfl rfl h60a (by omega) (by omega) (by omega) ?_
  refine g_run 11 1 rfl ?_
  refine g_callSX 12 rfl cs_RL_183 hC1 rfl rfl (by omega) (by omega) (by omega) (Nat.le_of_ble_eq_true rfl) (fun v9 M1 n1 h9 _ => ?_) (fun E M1 n1 h9 _ => by obtain ⟨k, h3, -⟩ := h9; cases h3)
  obtain ⟨k, h3, hP⟩ := h9
  cases h3
  obtain ⟨hk, ⟨fs9, hfs⟩, Q2, hC2, hQ2⟩ := hY k M1 n1 hP
  refine g_run 13 6 rfl ?_
  refine g_low (fun hlb => ?_)
  have h60b := (hlb 60 (by decide)).trans h60
  refine g_iald 19 (5 * i + 1) rfl rfl h60b (by omega) (by omega) (by omega) ?_
  refine g_run 20 4 rfl ?_
  refine g_iald 24 (5 * i + 2) rfl rfl h60b (by omega) (by omega) (by omega) ?_
  refine g_callV 25 rfl cv_RL_185 hfs hC2 rfl rfl (by omega) (by omega) (by omega) (Nat.le_of_ble_eq_true rfl) (fun v9 M2 n2 h9 _ => ?_) (fun E M2 n2 h9 _ => by obtain ⟨-, b, -, h3, -⟩ := hQ2 _ _ _ h9; cases h3)
  obtain ⟨e2, b, hb, h3, hg, q2, A2, hq6, hZ2⟩ := hQ2 _ _ _ h9
  cases h3
  subst e2
  refine g_run 26 2 rfl ?_
  refine g_callV 28 rfl cv_RL_152 (LZ_mm hZ2).2.1 (m_thrown (LZ_mm hZ2)) rfl rfl (by omega) (by omega) (by omega) (Nat.le_of_ble_eq_true rfl) (e_kr ?_) e_kx
  rw [hq6]
  refine g_run 29 1 rfl ?_
  refine g_icmp_eq 30 868 rfl rfl hk hk (fun _ => ?_) (fun c => absurd rfl c)
  refine g_run 33 1 rfl ?_
  refine g_if_ne 34 885 rfl rfl hk (fun c8 => ?_) (fun c8 => ?_)
  · skip
    refine g_run 44 1 rfl ?_
    exact G_tb tl_0 (kk _ _ _ _ _ _ _ _ _ hZ2 (by omega) (by omega))
  · have k0 : k = 0 := by omega
    obtain ⟨g, hg1, hg2⟩ := hg k0
    refine g_run 35 2 rfl ?_
    refine g_lald 37 0 rfl rfl hg1 (by decide) rfl (by decide) (by decide) ?_
    rw [hg2]
    refine g_run 38 1 rfl ?_
    refine g_i2l 39 rfl hb ?_
    refine g_lcmp 40 rfl (lcmp_self _) ?_
    refine g_if_eq 41 885 rfl rfl (by decide) (fun _ => ?_) (fun c => absurd rfl c)
    refine g_run 44 1 rfl ?_
    exact G_tb tl_0 (kk _ _ _ _ _ _ _ _ _ hZ2 (by omega) (by omega))
def tbL_11 : List (Nat × Instr × Nat) := [(888, .aload_n 1, 889), (889, .aload_n 0, 890), (890, .iload 5, 892), (892, .iconst 1, 893), (893, .iadd, 894), (894, .iaload, 895), (895, .aload_n 0, 896), (896, .iload 5, 898), (898, .iconst 2, 899), (899, .iadd, 900), (900, .iaload, 901), (901, .aload_n 3, 902), (902, .invokestatic 186, 905), (905, .istore 6, 907), (907, .aload_n 2, 908), (908, .aload_n 0, 909), (909, .iload 5, 911), (911, .iconst 1, 912), (912, .iadd, 913), (913, .iaload, 914), (914, .aload_n 0, 915), (915, .iload 5, 917), (917, .iconst 2, 918), (918, .iadd, 919), (919, .iaload, 920), (920, .invokevirtual 188, 923), (923, .istore 7, 925), (925, .aload_n 2, 926), (926, .invokevirtual 152, 929), (929, .iload 6, 931), (931, .if_icmp .eq 5, 934), (934, .iconst 0, 935), (935, .ireturn, 936), (936, .iload 6, 938), (938, .ifCond .ne 15, 941), (941, .aload_n 3, 942), (942, .iconst 0, 943), (943, .laload, 944), (944, .iload 7, 946), (946, .i2l, 947), (947, .lcmp, 948), (948, .ifCond .eq 5, 951), (951, .iconst 0, 952), (952, .ireturn, 953), (953, .goto 1671, 956)]
theorem tl_11 : e_tb cL_law tbL_11 = true := by decide +kernel
theorem law_11 (hK : KM Γ) (hP9 : PV Γ) (hB : 20 ≤ B ∧ B + 2400 ≤ 10000000) (hZ : LZ B M n q A) (hxs : ∀ j, i32 (xs j)) (h60 : Γ.cM 60 = cI 10 L xs) (i : Nat) (hi : 5 * i + 5 ≤ L) (hL : L ≤ 2560) (hkc : kc + 2 ≤ mc) (hks : ks + 200 ≤ ms) (x6 x7 x8 : Option aV) (kk : lawK r0 Γ mc ms Q B i kc ks) : G (e_L r0) Γ (lawX tbL_0) 20 mc ms Q 888 (lawL i x6 x7 x8) [] M n kc ks := by
  refine G_tb tl_11 ?_
  obtain ⟨d1, mc1, ms1, d2, P, ⟨b1, b2, b3, b4⟩, hC1, hY⟩ := s_combination (r0 := r0) (Γ := Γ) hB hZ (xs (5 * i + 1)) (hxs _) (xs (5 * i + 2)) (hxs _)
  refine g_run 0 5 rfl ?_
  refine g_low (fun hla => ?_)
  have h60a := (hla 60 (by decide)).trans h60
  refine g_iald 5 (5 * i + 1) rfl rfl h60a (by omega) (by omega) (by omega) ?_
  refine g_run 6 4 rfl ?_
  refine g_iald 10 (5 * i + 2) rfl rfl h60a (by omega) (by omega) (by omega) ?_
  refine g_run 11 1 rfl ?_
  refine g_callSX 12 rfl cs_RL_186 hC1 rfl rfl (by omega) (by omega) (by omega) (Nat.le_of_ble_eq_true rfl) (fun v9 M1 n1 h9 _ => ?_) (fun E M1 n1 h9 _ => by obtain ⟨k, h3, -⟩ := h9; cases h3)
  obtain ⟨k, h3, hP⟩ := h9
  cases h3
  obtain ⟨hk, ⟨fs9, hfs⟩, Q2, hC2, hQ2⟩ := hY k M1 n1 hP
  refine g_run 13 6 rfl ?_
  refine g_low (fun hlb => ?_)
  have h60b := (hlb 60 (by decide)).trans h60
  refine g_iald 19 (5 * i + 1) rfl rfl h60b (by omega) (by omega) (by omega) ?_
  refine g_run 20 4 rfl ?_
  refine g_iald 24 (5 * i + 2) rfl rfl h60b (by omega) (by omega) (by omega) ?_
  refine g_callV 25 rfl cv_RL_188 hfs hC2 rfl rfl (by omega) (by omega) (by omega) (Nat.le_of_ble_eq_true rfl) (fun v9 M2 n2 h9 _ => ?_) (fun E M2 n2 h9 _ => by obtain ⟨-, b, -, h3, -⟩ := hQ2 _ _ _ h9; cases h3)
  obtain ⟨e2, b, hb, h3, hg, q2, A2, hq6, hZ2⟩ := hQ2 _ _ _ h9
  cases h3
  subst e2
  refine g_run 26 2 rfl ?_
  refine g_callV 28 rfl cv_RL_152 (LZ_mm hZ2).2.1 (m_thrown (LZ_mm hZ2)) rfl rfl (by omega) (by omega) (by omega) (Nat.le_of_ble_eq_true rfl) (e_kr ?_) e_kx
  rw [hq6]
  refine g_run 29 1 rfl ?_
  refine g_icmp_eq 30 936 rfl rfl hk hk (fun _ => ?_) (fun c => absurd rfl c)
  refine g_run 33 1 rfl ?_
  refine g_if_ne 34 953 rfl rfl hk (fun c8 => ?_) (fun c8 => ?_)
  · skip
    refine g_run 44 1 rfl ?_
    exact G_tb tl_0 (kk _ _ _ _ _ _ _ _ _ hZ2 (by omega) (by omega))
  · have k0 : k = 0 := by omega
    obtain ⟨g, hg1, hg2⟩ := hg k0
    refine g_run 35 2 rfl ?_
    refine g_lald 37 0 rfl rfl hg1 (by decide) rfl (by decide) (by decide) ?_
    rw [hg2]
    refine g_run 38 1 rfl ?_
    refine g_i2l 39 rfl hb ?_
    refine g_lcmp 40 rfl (lcmp_self _) ?_
    refine g_if_eq 41 953 rfl rfl (by decide) (fun _ => ?_) (fun c => absurd rfl c)
    refine g_run 44 1 rfl ?_
    exact G_tb tl_0 (kk _ _ _ _ _ _ _ _ _ hZ2 (by omega) (by omega))
def tbL_12 : List (Nat × Instr × Nat) := [(956, .aload_n 1, 957), (957, .aload_n 0, 958), (958, .iload 5, 960), (960, .iconst 1, 961), (961, .iadd, 962), (962, .iaload, 963), (963, .aload_n 3, 964), (964, .invokestatic 189, 967), (967, .istore 6, 969), (969, .aload_n 2, 970), (970, .aload_n 0, 971), (971, .iload 5, 973), (973, .iconst 1, 974), (974, .iadd, 975), (975, .iaload, 976), (976, .invokevirtual 191, 979), (979, .istore 7, 981), (981, .aload_n 2, 982), (982, .invokevirtual 152, 985), (985, .iload 6, 987), (987, .if_icmp .eq 5, 990), (990, .iconst 0, 991), (991, .ireturn, 992), (992, .iload 6, 994), (994, .ifCond .ne 22, 997), (997, .aload_n 3, 998), (998, .iconst 0, 999), (999, .laload, 1000), (1000, .iload 7, 1002), (1002, .ifCond .eq 7, 1005), (1005, .lconst 1, 1006), (1006, .goto 4, 1009), (1009, .lconst 0, 1010), (1010, .lcmp, 1011), (1011, .ifCond .eq 5, 1014), (1014, .iconst 0, 1015), (1015, .ireturn, 1016), (1016, .goto 1608, 1019)]
theorem tl_12 : e_tb cL_law tbL_12 = true := by decide +kernel
theorem law_12 (hK : KM Γ) (hP9 : PV Γ) (hB : 20 ≤ B ∧ B + 2400 ≤ 10000000) (hZ : LZ B M n q A) (hxs : ∀ j, i32 (xs j)) (h60 : Γ.cM 60 = cI 10 L xs) (i : Nat) (hi : 5 * i + 5 ≤ L) (hL : L ≤ 2560) (hkc : kc + 2 ≤ mc) (hks : ks + 200 ≤ ms) (x6 x7 x8 : Option aV) (kk : lawK r0 Γ mc ms Q B i kc ks) : G (e_L r0) Γ (lawX tbL_0) 20 mc ms Q 956 (lawL i x6 x7 x8) [] M n kc ks := by
  refine G_tb tl_12 ?_
  obtain ⟨d1, mc1, ms1, d2, P, ⟨b1, b2, b3, b4⟩, hC1, hY⟩ := s_isOpen (r0 := r0) (Γ := Γ) hB hZ (xs (5 * i + 1)) (hxs _)
  refine g_run 0 5 rfl ?_
  refine g_low (fun hla => ?_)
  have h60a := (hla 60 (by decide)).trans h60
  refine g_iald 5 (5 * i + 1) rfl rfl h60a (by omega) (by omega) (by omega) ?_
  refine g_run 6 1 rfl ?_
  refine g_callSX 7 rfl cs_RL_189 hC1 rfl rfl (by omega) (by omega) (by omega) (Nat.le_of_ble_eq_true rfl) (fun v9 M1 n1 h9 _ => ?_) (fun E M1 n1 h9 _ => by obtain ⟨k, h3, -⟩ := h9; cases h3)
  obtain ⟨k, h3, hP⟩ := h9
  cases h3
  obtain ⟨hk, ⟨fs9, hfs⟩, Q2, hC2, hQ2⟩ := hY k M1 n1 hP
  refine g_run 8 6 rfl ?_
  refine g_low (fun hlb => ?_)
  have h60b := (hlb 60 (by decide)).trans h60
  refine g_iald 14 (5 * i + 1) rfl rfl h60b (by omega) (by omega) (by omega) ?_
  refine g_callV 15 rfl cv_RL_191 hfs hC2 rfl rfl (by omega) (by omega) (by omega) (Nat.le_of_ble_eq_true rfl) (fun v9 M2 n2 h9 _ => ?_) (fun E M2 n2 h9 _ => by obtain ⟨-, b, -, h3, -⟩ := hQ2 _ _ _ h9; cases h3)
  obtain ⟨e2, b, hb, h3, hg, q2, A2, hq6, hZ2⟩ := hQ2 _ _ _ h9
  cases h3
  subst e2
  refine g_run 16 2 rfl ?_
  refine g_callV 18 rfl cv_RL_152 (LZ_mm hZ2).2.1 (m_thrown (LZ_mm hZ2)) rfl rfl (by omega) (by omega) (by omega) (Nat.le_of_ble_eq_true rfl) (e_kr ?_) e_kx
  rw [hq6]
  refine g_run 19 1 rfl ?_
  refine g_icmp_eq 20 992 rfl rfl hk hk (fun _ => ?_) (fun c => absurd rfl c)
  refine g_run 23 1 rfl ?_
  refine g_if_ne 24 1016 rfl rfl hk (fun c8 => ?_) (fun c8 => ?_)
  · skip
    refine g_run 37 1 rfl ?_
    exact G_tb tl_0 (kk _ _ _ _ _ _ _ _ _ hZ2 (by omega) (by omega))
  · have k0 : k = 0 := by omega
    obtain ⟨g, hg1, hg2⟩ := hg k0
    refine g_run 25 2 rfl ?_
    refine g_lald 27 0 rfl rfl hg1 (by decide) rfl (by decide) (by decide) ?_
    rw [hg2]
    rcases hb with rfl | rfl
    · refine g_run 28 1 rfl ?_
      refine g_if_eq 29 1009 rfl rfl (by decide) (fun _ => ?_) (fun c => absurd rfl c)
      refine g_lconst 32 rfl ?_
      refine g_lcmp 33 (z := 0) rfl (by decide) ?_
      refine g_if_eq 34 1016 rfl rfl (by decide) (fun _ => ?_) (fun c => absurd rfl c)
      refine g_run 37 1 rfl ?_
      exact G_tb tl_0 (kk _ _ _ _ _ _ _ _ _ hZ2 (by omega) (by omega))
    · refine g_run 28 1 rfl ?_
      refine g_if_eq 29 1009 rfl rfl (by decide) (fun c => absurd c (by decide)) (fun _ => ?_)
      refine g_lconst 30 rfl ?_
      refine g_run 31 1 rfl ?_
      refine g_lcmp 33 (z := 0) rfl (by decide) ?_
      refine g_if_eq 34 1016 rfl rfl (by decide) (fun _ => ?_) (fun c => absurd rfl c)
      refine g_run 37 1 rfl ?_
      exact G_tb tl_0 (kk _ _ _ _ _ _ _ _ _ hZ2 (by omega) (by omega))
def tbL_13 : List (Nat × Instr × Nat) := [(1019, .aload_n 1, 1020), (1020, .aload_n 0, 1021), (1021, .iload 5, 1023), (1023, .iconst 1, 1024), (1024, .iadd, 1025), (1025, .iaload, 1026), (1026, .aload_n 3, 1027), (1027, .invokestatic 192, 1030), (1030, .istore 6, 1032), (1032, .aload_n 2, 1033), (1033, .aload_n 0, 1034), (1034, .iload 5, 1036), (1036, .iconst 1, 1037), (1037, .iadd, 1038), (1038, .iaload, 1039), (1039, .invokevirtual 194, 1042), (1042, .istore 7, 1044), (1044, .aload_n 2, 1045), (1045, .invokevirtual 152, 1048), (1048, .iload 6, 1050), (1050, .if_icmp .eq 5, 1053), (1053, .iconst 0, 1054), (1054, .ireturn, 1055), (1055, .iload 6, 1057), (1057, .ifCond .ne 22, 1060), (1060, .aload_n 3, 1061), (1061, .iconst 0, 1062), (1062, .laload, 1063), (1063, .iload 7, 1065), (1065, .ifCond .eq 7, 1068), (1068, .lconst 1, 1069), (1069, .goto 4, 1072), (1072, .lconst 0, 1073), (1073, .lcmp, 1074), (1074, .ifCond .eq 5, 1077), (1077, .iconst 0, 1078), (1078, .ireturn, 1079), (1079, .goto 1545, 1082)]
theorem tl_13 : e_tb cL_law tbL_13 = true := by decide +kernel
theorem law_13 (hK : KM Γ) (hP9 : PV Γ) (hB : 20 ≤ B ∧ B + 2400 ≤ 10000000) (hZ : LZ B M n q A) (hxs : ∀ j, i32 (xs j)) (h60 : Γ.cM 60 = cI 10 L xs) (i : Nat) (hi : 5 * i + 5 ≤ L) (hL : L ≤ 2560) (hkc : kc + 2 ≤ mc) (hks : ks + 200 ≤ ms) (x6 x7 x8 : Option aV) (kk : lawK r0 Γ mc ms Q B i kc ks) : G (e_L r0) Γ (lawX tbL_0) 20 mc ms Q 1019 (lawL i x6 x7 x8) [] M n kc ks := by
  refine G_tb tl_13 ?_
  obtain ⟨d1, mc1, ms1, d2, P, ⟨b1, b2, b3, b4⟩, hC1, hY⟩ := s_isBroken (r0 := r0) (Γ := Γ) hB hZ (xs (5 * i + 1)) (hxs _)
  refine g_run 0 5 rfl ?_
  refine g_low (fun hla => ?_)
  have h60a := (hla 60 (by decide)).trans h60
  refine g_iald 5 (5 * i + 1) rfl rfl h60a (by omega) (by omega) (by omega) ?_
  refine g_run 6 1 rfl ?_
  refine g_callSX 7 rfl cs_RL_192 hC1 rfl rfl (by omega) (by omega) (by omega) (Nat.le_of_ble_eq_true rfl) (fun v9 M1 n1 h9 _ => ?_) (fun E M1 n1 h9 _ => by obtain ⟨k, h3, -⟩ := h9; cases h3)
  obtain ⟨k, h3, hP⟩ := h9
  cases h3
  obtain ⟨hk, ⟨fs9, hfs⟩, Q2, hC2, hQ2⟩ := hY k M1 n1 hP
  refine g_run 8 6 rfl ?_
  refine g_low (fun hlb => ?_)
  have h60b := (hlb 60 (by decide)).trans h60
  refine g_iald 14 (5 * i + 1) rfl rfl h60b (by omega) (by omega) (by omega) ?_
  refine g_callV 15 rfl cv_RL_194 hfs hC2 rfl rfl (by omega) (by omega) (by omega) (Nat.le_of_ble_eq_true rfl) (fun v9 M2 n2 h9 _ => ?_) (fun E M2 n2 h9 _ => by obtain ⟨-, b, -, h3, -⟩ := hQ2 _ _ _ h9; cases h3)
  obtain ⟨e2, b, hb, h3, hg, q2, A2, hq6, hZ2⟩ := hQ2 _ _ _ h9
  cases h3
  subst e2
  refine g_run 16 2 rfl ?_
  refine g_callV 18 rfl cv_RL_152 (LZ_mm hZ2).2.1 (m_thrown (LZ_mm hZ2)) rfl rfl (by omega) (by omega) (by omega) (Nat.le_of_ble_eq_true rfl) (e_kr ?_) e_kx
  rw [hq6]
  refine g_run 19 1 rfl ?_
  refine g_icmp_eq 20 1055 rfl rfl hk hk (fun _ => ?_) (fun c => absurd rfl c)
  refine g_run 23 1 rfl ?_
  refine g_if_ne 24 1079 rfl rfl hk (fun c8 => ?_) (fun c8 => ?_)
  · skip
    refine g_run 37 1 rfl ?_
    exact G_tb tl_0 (kk _ _ _ _ _ _ _ _ _ hZ2 (by omega) (by omega))
  · have k0 : k = 0 := by omega
    obtain ⟨g, hg1, hg2⟩ := hg k0
    refine g_run 25 2 rfl ?_
    refine g_lald 27 0 rfl rfl hg1 (by decide) rfl (by decide) (by decide) ?_
    rw [hg2]
    rcases hb with rfl | rfl
    · refine g_run 28 1 rfl ?_
      refine g_if_eq 29 1072 rfl rfl (by decide) (fun _ => ?_) (fun c => absurd rfl c)
      refine g_lconst 32 rfl ?_
      refine g_lcmp 33 (z := 0) rfl (by decide) ?_
      refine g_if_eq 34 1079 rfl rfl (by decide) (fun _ => ?_) (fun c => absurd rfl c)
      refine g_run 37 1 rfl ?_
      exact G_tb tl_0 (kk _ _ _ _ _ _ _ _ _ hZ2 (by omega) (by omega))
    · refine g_run 28 1 rfl ?_
      refine g_if_eq 29 1072 rfl rfl (by decide) (fun c => absurd c (by decide)) (fun _ => ?_)
      refine g_lconst 30 rfl ?_
      refine g_run 31 1 rfl ?_
      refine g_lcmp 33 (z := 0) rfl (by decide) ?_
      refine g_if_eq 34 1079 rfl rfl (by decide) (fun _ => ?_) (fun c => absurd rfl c)
      refine g_run 37 1 rfl ?_
      exact G_tb tl_0 (kk _ _ _ _ _ _ _ _ _ hZ2 (by omega) (by omega))
def tbL_14 : List (Nat × Instr × Nat) := [(1082, .aload_n 1, 1083), (1083, .aload_n 0, 1084), (1084, .iload 5, 1086), (1086, .iconst 1, 1087), (1087, .iadd, 1088), (1088, .iaload, 1089), (1089, .aload_n 3, 1090), (1090, .invokestatic 195, 1093), (1093, .istore 6, 1095), (1095, .aload_n 2, 1096), (1096, .aload_n 0, 1097), (1097, .iload 5, 1099), (1099, .iconst 1, 1100), (1100, .iadd, 1101), (1101, .iaload, 1102), (1102, .invokevirtual 197, 1105), (1105, .istore 7, 1107), (1107, .aload_n 2, 1108), (1108, .invokevirtual 152, 1111), (1111, .iload 6, 1113), (1113, .if_icmp .eq 5, 1116), (1116, .iconst 0, 1117), (1117, .ireturn, 1118), (1118, .iload 6, 1120), (1120, .ifCond .ne 15, 1123), (1123, .aload_n 3, 1124), (1124, .iconst 0, 1125), (1125, .laload, 1126), (1126, .iload 7, 1128), (1128, .i2l, 1129), (1129, .lcmp, 1130), (1130, .ifCond .eq 5, 1133), (1133, .iconst 0, 1134), (1134, .ireturn, 1135), (1135, .goto 1489, 1138)]
theorem tl_14 : e_tb cL_law tbL_14 = true := by decide +kernel
theorem law_14 (hK : KM Γ) (hP9 : PV Γ) (hB : 20 ≤ B ∧ B + 2400 ≤ 10000000) (hZ : LZ B M n q A) (hxs : ∀ j, i32 (xs j)) (h60 : Γ.cM 60 = cI 10 L xs) (i : Nat) (hi : 5 * i + 5 ≤ L) (hL : L ≤ 2560) (hkc : kc + 2 ≤ mc) (hks : ks + 200 ≤ ms) (x6 x7 x8 : Option aV) (kk : lawK r0 Γ mc ms Q B i kc ks) : G (e_L r0) Γ (lawX tbL_0) 20 mc ms Q 1082 (lawL i x6 x7 x8) [] M n kc ks := by
  refine G_tb tl_14 ?_
  obtain ⟨d1, mc1, ms1, d2, P, ⟨b1, b2, b3, b4⟩, hC1, hY⟩ := s_crumbs (r0 := r0) (Γ := Γ) hB hZ (xs (5 * i + 1)) (hxs _)
  refine g_run 0 5 rfl ?_
  refine g_low (fun hla => ?_)
  have h60a := (hla 60 (by decide)).trans h60
  refine g_iald 5 (5 * i + 1) rfl rfl h60a (by omega) (by omega) (by omega) ?_
  refine g_run 6 1 rfl ?_
  refine g_callSX 7 rfl cs_RL_195 hC1 rfl rfl (by omega) (by omega) (by omega) (Nat.le_of_ble_eq_true rfl) (fun v9 M1 n1 h9 _ => ?_) (fun E M1 n1 h9 _ => by obtain ⟨k, h3, -⟩ := h9; cases h3)
  obtain ⟨k, h3, hP⟩ := h9
  cases h3
  obtain ⟨hk, ⟨fs9, hfs⟩, Q2, hC2, hQ2⟩ := hY k M1 n1 hP
  refine g_run 8 6 rfl ?_
  refine g_low (fun hlb => ?_)
  have h60b := (hlb 60 (by decide)).trans h60
  refine g_iald 14 (5 * i + 1) rfl rfl h60b (by omega) (by omega) (by omega) ?_
  refine g_callV 15 rfl cv_RL_197 hfs hC2 rfl rfl (by omega) (by omega) (by omega) (Nat.le_of_ble_eq_true rfl) (fun v9 M2 n2 h9 _ => ?_) (fun E M2 n2 h9 _ => by obtain ⟨-, b, -, h3, -⟩ := hQ2 _ _ _ h9; cases h3)
  obtain ⟨e2, b, hb, h3, hg, q2, A2, hq6, hZ2⟩ := hQ2 _ _ _ h9
  cases h3
  subst e2
  refine g_run 16 2 rfl ?_
  refine g_callV 18 rfl cv_RL_152 (LZ_mm hZ2).2.1 (m_thrown (LZ_mm hZ2)) rfl rfl (by omega) (by omega) (by omega) (Nat.le_of_ble_eq_true rfl) (e_kr ?_) e_kx
  rw [hq6]
  refine g_run 19 1 rfl ?_
  refine g_icmp_eq 20 1118 rfl rfl hk hk (fun _ => ?_) (fun c => absurd rfl c)
  refine g_run 23 1 rfl ?_
  refine g_if_ne 24 1135 rfl rfl hk (fun c8 => ?_) (fun c8 => ?_)
  · skip
    refine g_run 34 1 rfl ?_
    exact G_tb tl_0 (kk _ _ _ _ _ _ _ _ _ hZ2 (by omega) (by omega))
  · have k0 : k = 0 := by omega
    obtain ⟨g, hg1, hg2⟩ := hg k0
    refine g_run 25 2 rfl ?_
    refine g_lald 27 0 rfl rfl hg1 (by decide) rfl (by decide) (by decide) ?_
    rw [hg2]
    refine g_run 28 1 rfl ?_
    refine g_i2l 29 rfl hb ?_
    refine g_lcmp 30 rfl (lcmp_self _) ?_
    refine g_if_eq 31 1135 rfl rfl (by decide) (fun _ => ?_) (fun c => absurd rfl c)
    refine g_run 34 1 rfl ?_
    exact G_tb tl_0 (kk _ _ _ _ _ _ _ _ _ hZ2 (by omega) (by omega))
def tbL_15 : List (Nat × Instr × Nat) := [(1138, .aload_n 1, 1139), (1139, .aload_n 0, 1140), (1140, .iload 5, 1142), (1142, .iconst 1, 1143), (1143, .iadd, 1144), (1144, .iaload, 1145), (1145, .aload_n 3, 1146), (1146, .invokestatic 198, 1149), (1149, .istore 6, 1151), (1151, .aload_n 2, 1152), (1152, .aload_n 0, 1153), (1153, .iload 5, 1155), (1155, .iconst 1, 1156), (1156, .iadd, 1157), (1157, .iaload, 1158), (1158, .invokevirtual 200, 1161), (1161, .istore 7, 1163), (1163, .aload_n 2, 1164), (1164, .invokevirtual 152, 1167), (1167, .iload 6, 1169), (1169, .if_icmp .eq 5, 1172), (1172, .iconst 0, 1173), (1173, .ireturn, 1174), (1174, .iload 6, 1176), (1176, .ifCond .ne 15, 1179), (1179, .aload_n 3, 1180), (1180, .iconst 0, 1181), (1181, .laload, 1182), (1182, .iload 7, 1184), (1184, .i2l, 1185), (1185, .lcmp, 1186), (1186, .ifCond .eq 5, 1189), (1189, .iconst 0, 1190), (1190, .ireturn, 1191), (1191, .goto 1433, 1194)]
theorem tl_15 : e_tb cL_law tbL_15 = true := by decide +kernel
theorem law_15 (hK : KM Γ) (hP9 : PV Γ) (hB : 20 ≤ B ∧ B + 2400 ≤ 10000000) (hZ : LZ B M n q A) (hxs : ∀ j, i32 (xs j)) (h60 : Γ.cM 60 = cI 10 L xs) (i : Nat) (hi : 5 * i + 5 ≤ L) (hL : L ≤ 2560) (hkc : kc + 2 ≤ mc) (hks : ks + 200 ≤ ms) (x6 x7 x8 : Option aV) (kk : lawK r0 Γ mc ms Q B i kc ks) : G (e_L r0) Γ (lawX tbL_0) 20 mc ms Q 1138 (lawL i x6 x7 x8) [] M n kc ks := by
  refine G_tb tl_15 ?_
  obtain ⟨d1, mc1, ms1, d2, P, ⟨b1, b2, b3, b4⟩, hC1, hY⟩ := s_play (r0 := r0) (Γ := Γ) hB hZ (xs (5 * i + 1)) (hxs _)
  refine g_run 0 5 rfl ?_
  refine g_low (fun hla => ?_)
  have h60a := (hla 60 (by decide)).trans h60
  refine g_iald 5 (5 * i + 1) rfl rfl h60a (by omega) (by omega) (by omega) ?_
  refine g_run 6 1 rfl ?_
  refine g_callSX 7 rfl cs_RL_198 hC1 rfl rfl (by omega) (by omega) (by omega) (Nat.le_of_ble_eq_true rfl) (fun v9 M1 n1 h9 _ => ?_) (fun E M1 n1 h9 _ => by obtain ⟨k, h3, -⟩ := h9; cases h3)
  obtain ⟨k, h3, hP⟩ := h9
  cases h3
  obtain ⟨hk, ⟨fs9, hfs⟩, Q2, hC2, hQ2⟩ := hY k M1 n1 hP
  refine g_run 8 6 rfl ?_
  refine g_low (fun hlb => ?_)
  have h60b := (hlb 60 (by decide)).trans h60
  refine g_iald 14 (5 * i + 1) rfl rfl h60b (by omega) (by omega) (by omega) ?_
  refine g_callV 15 rfl cv_RL_200 hfs hC2 rfl rfl (by omega) (by omega) (by omega) (Nat.le_of_ble_eq_true rfl) (fun v9 M2 n2 h9 _ => ?_) (fun E M2 n2 h9 _ => by obtain ⟨-, b, -, h3, -⟩ := hQ2 _ _ _ h9; cases h3)
  obtain ⟨e2, b, hb, h3, hg, q2, A2, hq6, hZ2⟩ := hQ2 _ _ _ h9
  cases h3
  subst e2
  refine g_run 16 2 rfl ?_
  refine g_callV 18 rfl cv_RL_152 (LZ_mm hZ2).2.1 (m_thrown (LZ_mm hZ2)) rfl rfl (by omega) (by omega) (by omega) (Nat.le_of_ble_eq_true rfl) (e_kr ?_) e_kx
  rw [hq6]
  refine g_run 19 1 rfl ?_
  refine g_icmp_eq 20 1174 rfl rfl hk hk (fun _ => ?_) (fun c => absurd rfl c)
  refine g_run 23 1 rfl ?_
  refine g_if_ne 24 1191 rfl rfl hk (fun c8 => ?_) (fun c8 => ?_)
  · skip
    refine g_run 34 1 rfl ?_
    exact G_tb tl_0 (kk _ _ _ _ _ _ _ _ _ hZ2 (by omega) (by omega))
  · have k0 : k = 0 := by omega
    obtain ⟨g, hg1, hg2⟩ := hg k0
    refine g_run 25 2 rfl ?_
    refine g_lald 27 0 rfl rfl hg1 (by decide) rfl (by decide) (by decide) ?_
    rw [hg2]
    refine g_run 28 1 rfl ?_
    refine g_i2l 29 rfl hb ?_
    refine g_lcmp 30 rfl (lcmp_self _) ?_
    refine g_if_eq 31 1191 rfl rfl (by decide) (fun _ => ?_) (fun c => absurd rfl c)
    refine g_run 34 1 rfl ?_
    exact G_tb tl_0 (kk _ _ _ _ _ _ _ _ _ hZ2 (by omega) (by omega))
def tbL_16 : List (Nat × Instr × Nat) := [(1194, .aload_n 1, 1195), (1195, .aload_n 0, 1196), (1196, .iload 5, 1198), (1198, .iconst 1, 1199), (1199, .iadd, 1200), (1200, .iaload, 1201), (1201, .aload_n 3, 1202), (1202, .invokestatic 201, 1205), (1205, .istore 6, 1207), (1207, .aload_n 2, 1208), (1208, .aload_n 0, 1209), (1209, .iload 5, 1211), (1211, .iconst 1, 1212), (1212, .iadd, 1213), (1213, .iaload, 1214), (1214, .invokevirtual 203, 1217), (1217, .istore 7, 1219), (1219, .aload_n 2, 1220), (1220, .invokevirtual 152, 1223), (1223, .iload 6, 1225), (1225, .if_icmp .eq 5, 1228), (1228, .iconst 0, 1229), (1229, .ireturn, 1230), (1230, .iload 6, 1232), (1232, .ifCond .ne 15, 1235), (1235, .aload_n 3, 1236), (1236, .iconst 0, 1237), (1237, .laload, 1238), (1238, .iload 7, 1240), (1240, .i2l, 1241), (1241, .lcmp, 1242), (1242, .ifCond .eq 5, 1245), (1245, .iconst 0, 1246), (1246, .ireturn, 1247), (1247, .goto 1377, 1250)]
theorem tl_16 : e_tb cL_law tbL_16 = true := by decide +kernel
theorem law_16 (hK : KM Γ) (hP9 : PV Γ) (hB : 20 ≤ B ∧ B + 2400 ≤ 10000000) (hZ : LZ B M n q A) (hxs : ∀ j, i32 (xs j)) (h60 : Γ.cM 60 = cI 10 L xs) (i : Nat) (hi : 5 * i + 5 ≤ L) (hL : L ≤ 2560) (hkc : kc + 2 ≤ mc) (hks : ks + 200 ≤ ms) (x6 x7 x8 : Option aV) (kk : lawK r0 Γ mc ms Q B i kc ks) : G (e_L r0) Γ (lawX tbL_0) 20 mc ms Q 1194 (lawL i x6 x7 x8) [] M n kc ks := by
  refine G_tb tl_16 ?_
  obtain ⟨d1, mc1, ms1, d2, P, ⟨b1, b2, b3, b4⟩, hC1, hY⟩ := s_fittingDials (r0 := r0) (Γ := Γ) hB hZ (xs (5 * i + 1)) (hxs _)
  refine g_run 0 5 rfl ?_
  refine g_low (fun hla => ?_)
  have h60a := (hla 60 (by decide)).trans h60
  refine g_iald 5 (5 * i + 1) rfl rfl h60a (by omega) (by omega) (by omega) ?_
  refine g_run 6 1 rfl ?_
  refine g_callSX 7 rfl cs_RL_201 hC1 rfl rfl (by omega) (by omega) (by omega) (Nat.le_of_ble_eq_true rfl) (fun v9 M1 n1 h9 _ => ?_) (fun E M1 n1 h9 _ => by obtain ⟨k, h3, -⟩ := h9; cases h3)
  obtain ⟨k, h3, hP⟩ := h9
  cases h3
  obtain ⟨hk, ⟨fs9, hfs⟩, Q2, hC2, hQ2⟩ := hY k M1 n1 hP
  refine g_run 8 6 rfl ?_
  refine g_low (fun hlb => ?_)
  have h60b := (hlb 60 (by decide)).trans h60
  refine g_iald 14 (5 * i + 1) rfl rfl h60b (by omega) (by omega) (by omega) ?_
  refine g_callV 15 rfl cv_RL_203 hfs hC2 rfl rfl (by omega) (by omega) (by omega) (Nat.le_of_ble_eq_true rfl) (fun v9 M2 n2 h9 _ => ?_) (fun E M2 n2 h9 _ => by obtain ⟨-, b, -, h3, -⟩ := hQ2 _ _ _ h9; cases h3)
  obtain ⟨e2, b, hb, h3, hg, q2, A2, hq6, hZ2⟩ := hQ2 _ _ _ h9
  cases h3
  subst e2
  refine g_run 16 2 rfl ?_
  refine g_callV 18 rfl cv_RL_152 (LZ_mm hZ2).2.1 (m_thrown (LZ_mm hZ2)) rfl rfl (by omega) (by omega) (by omega) (Nat.le_of_ble_eq_true rfl) (e_kr ?_) e_kx
  rw [hq6]
  refine g_run 19 1 rfl ?_
  refine g_icmp_eq 20 1230 rfl rfl hk hk (fun _ => ?_) (fun c => absurd rfl c)
  refine g_run 23 1 rfl ?_
  refine g_if_ne 24 1247 rfl rfl hk (fun c8 => ?_) (fun c8 => ?_)
  · skip
    refine g_run 34 1 rfl ?_
    exact G_tb tl_0 (kk _ _ _ _ _ _ _ _ _ hZ2 (by omega) (by omega))
  · have k0 : k = 0 := by omega
    obtain ⟨g, hg1, hg2⟩ := hg k0
    refine g_run 25 2 rfl ?_
    refine g_lald 27 0 rfl rfl hg1 (by decide) rfl (by decide) (by decide) ?_
    rw [hg2]
    refine g_run 28 1 rfl ?_
    refine g_i2l 29 rfl hb ?_
    refine g_lcmp 30 rfl (lcmp_self _) ?_
    refine g_if_eq 31 1247 rfl rfl (by decide) (fun _ => ?_) (fun c => absurd rfl c)
    refine g_run 34 1 rfl ?_
    exact G_tb tl_0 (kk _ _ _ _ _ _ _ _ _ hZ2 (by omega) (by omega))
end LA
