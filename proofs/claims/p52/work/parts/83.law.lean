/-! the law: the switch of acts, the body (wip/p52/gen/c_law52.py prints this part) -/
theorem lc_RL_273 : Cond.constant RL 273 (iI (-900000)) ∈ e_WS := (e_w1 1273 (by decide +kernel) rfl)
theorem g_ldcwI {Λ : Ls} {Γ : Cx} {X : MD} {d mc ms : Nat} {Q : Rv → Mem → Nat → Prop} {pc pc' : Nat} {ls : List (Option aV)} {st : List aV} {M : Mem} {n kc ks : Nat} (i : Nat) {idx : Nat} {z : Int} (hd : X.tb[i]? = some (pc, .ldc_w idx, pc')) (hl : Cond.constant X.own idx (iI z) ∈ e_WS) (kk : G Λ Γ X d mc ms Q pc' ls (vI z :: st) M n kc ks) : G Λ Γ X d mc ms Q pc ls st M n kc ks := by
  intro hE p e R s m args below meth c H locs ad ad0 n0 lsA hF h1 h2 hX hW hS hL hs
  obtain ⟨hdd, rfl⟩ := e_dec hF.1 hd
  exact lv_ldcw hF.1.1 hF.1.2.1 hF.1.2.2.2.2.2.1 (e_w hF hl) hdd (kk hE p e R s m args below meth c H locs ad ad0 n0 lsA hF h1 h2 hX hW hS hL ⟨trivial, hs⟩)
section AS
variable {r0 : Option Nat} {Γ : Cx} {M : Mem} {n : Nat} {B : Int} {σ ρ : HS} {r : Nat → HS} {f c5 : Nat} {sv : Int}
theorem as_sw (hP : PV Γ) (hS : KS Γ) (h : PZ B M n σ ρ r f c5 sv) (hB : B + 2400 ≤ 100000) (i a b c : Int) (ha : 0 ≤ a ∧ a < 7) (hb : 0 ≤ b ∧ b < 10) (hc : 0 ≤ c ∧ c < 60) (y : Int) (hy : 0 ≤ y ∧ y < 26) : G (e_L r0) Γ mL_acts 12 100 4000 (DE B M n σ ρ r f c5 sv) 39 [some (vR 100), some (vR 60), some (vI i), some (vI a), some (vI b), some (vI c)] [vI y] M n 0 0 := by
  have hZ := h
  obtain ⟨hn, pb, τ, ep, fp, v, cap, t, nm, pl, s, hx, hH, a3, a4, a5, a6, a7, a8, a9⟩ := hZ
  have hr := pb.2.1.1
  have q6 := hr.2.1
  have q0 := hr.1 0 (by decide)
  have T0 : G (e_L r0) Γ mL_acts 12 100 4000 (DE B M n σ ρ r f c5 sv) 140 [some (vR 100), some (vR 60), some (vI i), some (vI a), some (vI b), some (vI c)] [] M n 0 0 := by
    refine g_run 25 5 rfl ?_
    refine g_irem 30 rfl (by omega) (by omega) ?_
    refine g_callSX 31 rfl cs_RL_107 (l_addDoor (KS_KM hS) h (by omega) a (by omega) b (by omega) (c % 11) (by omega)) rfl rfl (by decide) (by omega) (by omega) (Nat.le_of_ble_eq_true rfl) (e_kz fun z M2 n2 q => ?_) e_kzx
    exact g_iret 32 rfl rfl trivial ⟨z, rfl, CHp_DEp h hB q⟩
  have T1 : G (e_L r0) Γ mL_acts 12 100 4000 (DE B M n σ ρ r f c5 sv) 153 [some (vR 100), some (vR 60), some (vI i), some (vI a), some (vI b), some (vI c)] [] M n 0 0 := by
    refine g_run 33 4 rfl ?_
    refine g_irem 37 rfl (by omega) (by omega) ?_
    refine g_run 38 2 rfl ?_
    refine g_irem 40 rfl (by omega) (by omega) ?_
    refine g_run 41 2 rfl ?_
    refine g_callSX 43 rfl cs_RL_110 (l_turn (KS_KM hS) h (by omega) a (by omega) (b % 4) (by omega) (c % 21 - 10) (by omega)) rfl rfl (by decide) (by omega) (by omega) (Nat.le_of_ble_eq_true rfl) (e_kz fun z M2 n2 q => ?_) e_kzx
    exact g_iret 44 rfl rfl trivial ⟨z, rfl, CHp_DEp h hB q⟩
  have T4 : G (e_L r0) Γ mL_acts 12 100 4000 (DE B M n σ ρ r f c5 sv) 171 [some (vR 100), some (vR 60), some (vI i), some (vI a), some (vI b), some (vI c)] [] M n 0 0 := by
    refine g_run 45 2 rfl ?_
    refine g_callV 47 rfl cv_RL_123 hx (x_doorCount hx hH hr) rfl rfl (by decide) (by omega) (by omega) (Nat.le_of_ble_eq_true rfl) (e_kr ?_) e_kx
    refine g_icmp_ge 48 216 rfl rfl (by omega) (by omega) (fun c1 => ?_) (fun c1 => ?_)
    · refine g_run 73 4 rfl ?_
      refine g_callSX 77 rfl cs_RL_110 (l_turn (KS_KM hS) h (by omega) a (by omega) b (by omega) 1 (by omega)) rfl rfl (by decide) (by omega) (by omega) (Nat.le_of_ble_eq_true rfl) (e_kz fun z M2 n2 q => ?_) e_kzx
      exact g_iret 78 rfl rfl trivial ⟨z, rfl, CHp_DEp h hB q⟩
    · have ql := (hr.2.2.2.2 a.toNat (by omega)).2.2 (b % 3).toNat (by omega)
      refine g_run 49 4 rfl ?_
      refine g_irem 53 rfl (by omega) (by omega) ?_
      refine g_run 54 4 rfl ?_
      refine g_irem 58 rfl (by omega) (by omega) ?_
      refine g_callV 59 rfl cv_RL_126 hx (x_combination hx hH hr a (by omega) (b % 3) (by omega) ⟨by omega, by omega⟩ (by omega)) rfl rfl (by decide) (by omega) (by omega) (Nat.le_of_ble_eq_true rfl) (e_kr ?_) e_kx
      refine g_run 60 4 rfl ?_
      refine g_irem 64 rfl (by omega) (by omega) ?_
      refine g_callV 65 rfl cv_RL_129 hx (x_dial hx hH hr a (by omega) (b % 3) (by omega) ⟨by omega, by omega⟩ (by omega)) rfl rfl (by decide) (by omega) (by omega) (Nat.le_of_ble_eq_true rfl) (e_kr ?_) e_kx
      refine g_run 66 4 rfl ?_
      refine g_irem 70 rfl (by omega) (by omega) ?_
      refine g_callSX 71 rfl cs_RL_110 (l_turn (KS_KM hS) h (by omega) a (by omega) (b % 3) (by omega) _ (by omega)) rfl rfl (by decide) (by omega) (by omega) (Nat.le_of_ble_eq_true rfl) (e_kz fun z M2 n2 q => ?_) e_kzx
      refine g_run 72 1 rfl ?_
      exact g_iret 78 rfl rfl trivial ⟨z, rfl, CHp_DEp h hB q⟩
  have T6 : G (e_L r0) Γ mL_acts 12 100 4000 (DE B M n σ ρ r f c5 sv) 225 [some (vR 100), some (vR 60), some (vI i), some (vI a), some (vI b), some (vI c)] [] M n 0 0 := by
    refine g_run 79 2 rfl ?_
    refine g_callSX 81 rfl cs_RL_115 (l_tryLock (KS_KM hS) h (by omega) a (by omega)) rfl rfl (by decide) (by omega) (by omega) (Nat.le_of_ble_eq_true rfl) (e_kz fun z M2 n2 q => ?_) e_kzx
    exact g_iret 82 rfl rfl trivial ⟨z, rfl, CHp_DEp h hB q⟩
  have T11 : G (e_L r0) Γ mL_acts 12 100 4000 (DE B M n σ ρ r f c5 sv) 231 [some (vR 100), some (vR 60), some (vI i), some (vI a), some (vI b), some (vI c)] [] M n 0 0 := by
    refine g_run 83 2 rfl ?_
    refine g_callSX 85 rfl cs_RL_132 (l_shut (KS_KM hS) h (by omega) a (by omega)) rfl rfl (by decide) (by omega) (by omega) (Nat.le_of_ble_eq_true rfl) (e_kz fun z M2 n2 q => ?_) e_kzx
    exact g_iret 86 rfl rfl trivial ⟨z, rfl, CHp_DEp h hB q⟩
  have T14 : G (e_L r0) Γ mL_acts 12 100 4000 (DE B M n σ ρ r f c5 sv) 237 [some (vR 100), some (vR 60), some (vI i), some (vI a), some (vI b), some (vI c)] [] M n 0 0 := by
    refine g_run 87 5 rfl ?_
    refine g_irem 92 rfl (by omega) (by omega) ?_
    refine g_run 93 1 rfl ?_
    refine g_callSX 94 rfl cs_RL_134 (l_setCombination (KS_KM hS) h (by omega) a (by omega) b (by omega) (c % 11) (by omega) a (by omega)) rfl rfl (by decide) (by omega) (by omega) (Nat.le_of_ble_eq_true rfl) (e_kz fun z M2 n2 q => ?_) e_kzx
    exact g_iret 95 rfl rfl trivial ⟨z, rfl, CHp_DEp h hB q⟩
  have T15 : G (e_L r0) Γ mL_acts 12 100 4000 (DE B M n σ ρ r f c5 sv) 251 [some (vR 100), some (vR 60), some (vI i), some (vI a), some (vI b), some (vI c)] [] M n 0 0 := by
    refine g_run 96 4 rfl ?_
    refine g_irem 100 rfl (by omega) (by omega) ?_
    refine g_run 101 1 rfl ?_
    refine g_callSX 102 rfl cs_RL_112 (l_setDamp (KS_KM hS) h (by omega) (b + c % 2) (by omega)) rfl rfl (by decide) (by omega) (by omega) (Nat.le_of_ble_eq_true rfl) (e_kz fun z M2 n2 q => ?_) e_kzx
    exact g_iret 103 rfl rfl trivial ⟨z, rfl, CHp_DEp h hB q⟩
  have T17 : G (e_L r0) Γ mL_acts 12 100 4000 (DE B M n σ ρ r f c5 sv) 263 [some (vR 100), some (vR 60), some (vI i), some (vI a), some (vI b), some (vI c)] [] M n 0 0 := by
    refine g_run 104 4 rfl ?_
    refine g_irem 108 rfl (by omega) (by omega) ?_
    refine g_callSX 109 rfl cs_RL_117 (l_bake (KS_KM hS) h (by omega) a (by omega) (c % 3) (by omega)) rfl rfl (by decide) (by omega) (by omega) (Nat.le_of_ble_eq_true rfl) (e_kz fun z M2 n2 q => ?_) e_kzx
    exact g_iret 110 rfl rfl trivial ⟨z, rfl, CHp_DEp h hB q⟩
  have T19 : G (e_L r0) Γ mL_acts 12 100 4000 (DE B M n σ ρ r f c5 sv) 273 [some (vR 100), some (vR 60), some (vI i), some (vI a), some (vI b), some (vI c)] [] M n 0 0 := by
    refine g_run 111 3 rfl ?_
    refine g_irem 114 rfl (by omega) (by omega) ?_
    refine g_if_ne 115 286 rfl rfl (by omega) (fun c1 => ?_) (fun c1 => ?_)
    · refine g_run 118 2 rfl ?_
      refine g_irem 120 rfl (by omega) (by omega) ?_
      refine g_callSX 121 rfl cs_RL_120 (l_passHours (KS_KM hS) h (by omega) (c % 7) (by omega)) rfl rfl (by decide) (by omega) (by omega) (Nat.le_of_ble_eq_true rfl) (e_kz fun z M2 n2 q => ?_) e_kzx
      exact g_iret 122 rfl rfl trivial ⟨z, rfl, CHp_DEp h hB q⟩
    · refine g_run 116 2 rfl ?_
      refine g_callSX 121 rfl cs_RL_120 (l_passHours (KS_KM hS) h (by omega) c (by omega)) rfl rfl (by decide) (by omega) (by omega) (Nat.le_of_ble_eq_true rfl) (e_kz fun z M2 n2 q => ?_) e_kzx
      exact g_iret 122 rfl rfl trivial ⟨z, rfl, CHp_DEp h hB q⟩
  have T22 : G (e_L r0) Γ mL_acts 12 100 4000 (DE B M n σ ρ r f c5 sv) 295 [some (vR 100), some (vR 60), some (vI i), some (vI a), some (vI b), some (vI c)] [] M n 0 0 := at_t hP hS h hB i a b c ha hb hc
  by_cases e9 : 22 ≤ y
  · exact g_tswD 295 dw_L_acts_39 (Or.inr (by omega)) (by omega) rfl T22
  by_cases e0 : y = 0
  · subst e0; exact g_tsw 140 0 dw_L_acts_39 rfl (by decide) (by decide) rfl rfl T0
  by_cases e1 : y = 1
  · subst e1; exact g_tsw 153 1 dw_L_acts_39 rfl (by decide) (by decide) rfl rfl T1
  by_cases e2 : y = 2
  · subst e2; exact g_tsw 153 2 dw_L_acts_39 rfl (by decide) (by decide) rfl rfl T1
  by_cases e3 : y = 3
  · subst e3; exact g_tsw 153 3 dw_L_acts_39 rfl (by decide) (by decide) rfl rfl T1
  by_cases e4 : y = 4
  · subst e4; exact g_tsw 171 4 dw_L_acts_39 rfl (by decide) (by decide) rfl rfl T4
  by_cases e5 : y = 5
  · subst e5; exact g_tsw 171 5 dw_L_acts_39 rfl (by decide) (by decide) rfl rfl T4
  by_cases e6 : y = 6
  · subst e6; exact g_tsw 225 6 dw_L_acts_39 rfl (by decide) (by decide) rfl rfl T6
  by_cases e7 : y = 7
  · subst e7; exact g_tsw 225 7 dw_L_acts_39 rfl (by decide) (by decide) rfl rfl T6
  by_cases e8 : y = 8
  · subst e8; exact g_tsw 225 8 dw_L_acts_39 rfl (by decide) (by decide) rfl rfl T6
  by_cases e9 : y = 9
  · subst e9; exact g_tsw 225 9 dw_L_acts_39 rfl (by decide) (by decide) rfl rfl T6
  by_cases e10 : y = 10
  · subst e10; exact g_tsw 225 10 dw_L_acts_39 rfl (by decide) (by decide) rfl rfl T6
  by_cases e11 : y = 11
  · subst e11; exact g_tsw 231 11 dw_L_acts_39 rfl (by decide) (by decide) rfl rfl T11
  by_cases e12 : y = 12
  · subst e12; exact g_tsw 231 12 dw_L_acts_39 rfl (by decide) (by decide) rfl rfl T11
  by_cases e13 : y = 13
  · subst e13; exact g_tsw 231 13 dw_L_acts_39 rfl (by decide) (by decide) rfl rfl T11
  by_cases e14 : y = 14
  · subst e14; exact g_tsw 237 14 dw_L_acts_39 rfl (by decide) (by decide) rfl rfl T14
  by_cases e15 : y = 15
  · subst e15; exact g_tsw 251 15 dw_L_acts_39 rfl (by decide) (by decide) rfl rfl T15
  by_cases e16 : y = 16
  · subst e16; exact g_tsw 251 16 dw_L_acts_39 rfl (by decide) (by decide) rfl rfl T15
  by_cases e17 : y = 17
  · subst e17; exact g_tsw 263 17 dw_L_acts_39 rfl (by decide) (by decide) rfl rfl T17
  by_cases e18 : y = 18
  · subst e18; exact g_tsw 263 18 dw_L_acts_39 rfl (by decide) (by decide) rfl rfl T17
  by_cases e19 : y = 19
  · subst e19; exact g_tsw 273 19 dw_L_acts_39 rfl (by decide) (by decide) rfl rfl T19
  by_cases e20 : y = 20
  · subst e20; exact g_tsw 273 20 dw_L_acts_39 rfl (by decide) (by decide) rfl rfl T19
  by_cases e21 : y = 21
  · subst e21; exact g_tsw 273 21 dw_L_acts_39 rfl (by decide) (by decide) rfl rfl T19
  exfalso; omega
theorem l_acts (hP : PV Γ) (hS : KS Γ) (h : PZ B M n σ ρ r f c5 sv) (hB : B + 2400 ≤ 100000) (i : Int) (hi : 0 ≤ i ∧ i ≤ 900) : Ct (e_L r0) Γ mL_acts 12 100 4000 [vR 100, vR 60, vI i] M n (DE B M n σ ρ r f c5 sv) := by
  refine g_start ok_L_acts rfl rfl ?_
  refine g_run 0 5 rfl ?_
  refine g_callS 5 rfl cs_RL_103 (l_in hS (i + 1) (7) (by omega) (by omega)) rfl rfl (by decide) (by omega) (by omega) (Nat.le_of_ble_eq_true rfl) (e_kq fun a ha => ?_) e_kqx
  refine g_run 6 6 rfl ?_
  refine g_callS 12 rfl cs_RL_103 (l_in hS (i + 2) (10) (by omega) (by omega)) rfl rfl (by decide) (by omega) (by omega) (Nat.le_of_ble_eq_true rfl) (e_kq fun b hb => ?_) e_kqx
  refine g_run 13 6 rfl ?_
  refine g_callS 19 rfl cs_RL_103 (l_in hS (i + 3) (60) (by omega) (by omega)) rfl rfl (by decide) (by omega) (by omega) (Nat.le_of_ble_eq_true rfl) (e_kq fun c hc => ?_) e_kqx
  refine g_run 20 4 rfl ?_
  refine g_callS 24 rfl cs_RL_103 (l_in hS (i) (26) (by omega) (by omega)) rfl rfl (by decide) (by omega) (by omega) (Nat.le_of_ble_eq_true rfl) (e_kq fun y hy => ?_) e_kqx
  exact as_sw hP hS h hB i a b c ha hb hc y hy
end AS
def tbL : List (Nat × Instr × Nat) := [(0, .aload_n 0, 1), (1, .invokestatic 257, 4), (4, .astore_n 1, 5), (5, .aload_n 1, 6), (6, .ifnull 10, 9), (9, .aload_n 1, 10), (10, .invokestatic 261, 13), (13, .ifCond .ne 5, 16), (16, .iconst 0, 17), (17, .ireturn, 18), (18, .iconst 0, 19), (19, .istore_n 2, 20), (20, .iload_n 2, 21), (21, .bipush 12, 23), (23, .if_icmp .ge 102, 26), (26, .aload_n 1, 27), (27, .invokestatic 265, 30), (30, .astore_n 3, 31), (31, .aload_n 1, 32), (32, .aload_n 0, 33), (33, .bipush 52, 35), (35, .iconst 4, 36), (36, .iload_n 2, 37), (37, .imul, 38), (38, .iadd, 39), (39, .invokestatic 269, 42), (42, .istore 4, 44), (44, .aload_n 1, 45), (45, .invokestatic 261, 48), (48, .ifCond .eq 29, 51), (51, .iload 4, 53), (53, .ldc 98, 55), (55, .if_icmp .eq 22, 58), (58, .iload 4, 60), (60, .ldc_w 273, 63), (63, .if_icmp .gt 16, 66), (66, .aload_n 3, 67), (67, .aload_n 1, 68), (68, .invokestatic 265, 71), (71, .invokestatic 274, 74), (74, .ifCond .ne 5, 77), (77, .iconst 0, 78), (78, .ireturn, 79), (79, .iload 4, 81), (81, .ldc_w 273, 84), (84, .if_icmp .le 35, 87), (87, .aload_n 0, 88), (88, .bipush 101, 90), (90, .iload_n 2, 91), (91, .iadd, 92), (92, .iconst 5, 93), (93, .invokestatic 103, 96), (96, .ifCond .ne 23, 99), (99, .aload_n 1, 100), (100, .invokestatic 278, 103), (103, .ifCond .lt 14, 106), (106, .aload_n 3, 107), (107, .aload_n 1, 108), (108, .invokestatic 265, 111), (111, .invokestatic 274, 114), (114, .ifCond .ne 5, 117), (117, .iconst 0, 118), (118, .ireturn, 119), (119, .iinc 2 1, 122), (122, .goto (-102), 125), (125, .aload_n 1, 126), (126, .invokestatic 265, 129), (129, .astore_n 2, 130), (130, .aload_n 1, 131), (131, .invokevirtual 280, 134), (134, .istore_n 3, 135), (135, .aload_n 1, 136), (136, .iconst 0, 137), (137, .invokestatic 283, 140), (140, .aload_n 1, 141), (141, .iconst 0, 142), (142, .iconst 1, 143), (143, .bipush 33, 145), (145, .invokestatic 285, 148), (148, .iadd, 149), (149, .aload_n 1, 150), (150, .iconst 1, 151), (151, .invokestatic 287, 154), (154, .iadd, 155), (155, .aload_n 1, 156), (156, .iconst 0, 157), (157, .invokevirtual 289, 160), (160, .iadd, 161), (161, .aload_n 1, 162), (162, .invokevirtual 292, 165), (165, .iadd, 166), (166, .istore 4, 168), (168, .aload_n 2, 169), (169, .aload_n 1, 170), (170, .invokestatic 265, 173), (173, .invokestatic 274, 176), (176, .ifCond .ne 5, 179), (179, .iconst 0, 180), (180, .ireturn, 181), (181, .iload 4, 183), (183, .aload_n 1, 184), (184, .bipush 12, 186), (186, .invokestatic 120, 189), (189, .aload_n 1, 190), (190, .iconst 0, 191), (191, .invokestatic 115, 194), (194, .iadd, 195), (195, .aload_n 1, 196), (196, .iconst 4, 197), (197, .invokestatic 112, 200), (200, .iadd, 201), (201, .aload_n 1, 202), (202, .iconst 1, 203), (203, .iconst 1, 204), (204, .invokestatic 117, 207), (207, .iadd, 208), (208, .aload_n 1, 209), (209, .iconst 0, 210), (210, .iconst 0, 211), (211, .iconst 3, 212), (212, .invokestatic 110, 215), (215, .iadd, 216), (216, .iadd, 217), (217, .istore 4, 219), (219, .iload 4, 221), (221, .ldc 122, 223), (223, .if_icmp .le 35, 226), (226, .aload_n 1, 227), (227, .invokestatic 295, 230), (230, .iload_n 3, 231), (231, .if_icmp .ne 27, 234), (234, .aload_n 2, 235), (235, .aload_n 1, 236), (236, .invokestatic 265, 239), (239, .invokestatic 274, 242), (242, .ifCond .eq 16, 245), (245, .aload_n 1, 246), (246, .invokestatic 278, 249), (249, .ldc 17, 251), (251, .if_icmp .ne 7, 254), (254, .iconst 1, 255), (255, .goto 4, 258), (258, .iconst 0, 259), (259, .ireturn, 260)]
theorem tl_L : e_tb cL_law tbL = true := by decide +kernel
abbrev lawX : MD := (RL, (yL_law, (cL_law, (5, (some .boolean, ([(0, 0, 0, 0)], tbL))))))
section LW9
variable {r0 : Option Nat} {Γ : Cx} {M M' : Mem} {n n' : Nat} {B : Int} {σ ρ : HS} {r : Nat → HS} {f c5 : Nat} {sv : Int} {Q : Rv → Mem → Nat → Prop}
theorem PZ_bt (h : PZ B M n σ ρ r f c5 sv) {s' : TS} (hb : BT M' 371 372 16 s') (hf : e_fr 371 373 M M') : PZ B M' n σ ρ r f c5 sv := by
  obtain ⟨hn, pb, τ, ep, fp, v, cap, t, nm, pl, s, a1, a2, a3, a4, a5, a6, a7, a8, a9⟩ := h
  exact ⟨hn, pb, τ, ep, fp, v, cap, t, nm, pl, s', (hf _ (by omega)).trans a1, HM_fr hf (by omega) a2, HM_fr hf (by omega) a3, HM_fr hf (by omega) a4, YM_fr hf (by omega) a5, SM_fr a6 (fun k hk => hf k (by omega)), hb, a8, a9⟩
theorem CHp_any {c : Nat} {a b x y z : Int} (h : PZ B M n σ ρ r f c5 sv) (hB : B + 181 ≤ 100000) (q : CHp B M n σ ρ r f c5 sv c a b x y z M' n') : (-900003 ≤ z ∧ z ≤ 1000000) ∧ n' = n ∧ (∀ k, 373 ≤ k → M' k = M k) ∧ ∃ (σ' : HS) (r' : Nat → HS) (f' c' : Nat), PZ (B + 181) M' n σ' ρ r' f' c' sv := by
  obtain ⟨e, hf, ⟨-, hz, hZ⟩ | ⟨-, hz, e2⟩⟩ := q
  · exact ⟨by omega, e, hf, _, _, _, _, hZ⟩
  · subst e2
    exact ⟨by omega, e, hf, _, _, _, _, PZ_up h (by omega) hB⟩
abbrev lawG (r0 : Option Nat) (Γ : Cx) (Q : Rv → Mem → Nat → Prop) (pc : Nat) (ls : List (Option aV)) (st : List aV) (M : Mem) (n kc ks : Nat) : Prop := G (e_L r0) Γ lawX 20 600312 7292578 Q pc ls st M n kc ks
theorem law_end (hP : PV Γ) (hS : KS Γ) (hQ : ∀ M' n', Q (.inl (some (vI 1))) M' n') (h : PZ B M n σ ρ r f c5 sv) (hB : B ≤ 90000) (h2 : 2 ≤ σ.sc 0) (kc ks : Nat) (hkc : kc ≤ 5000) (hks : ks ≤ 100000) (y2 y3 y4 : Option aV) : lawG r0 Γ Q 125 [some (vR 60), some (vR 100), y2, y3, y4] [] M n kc ks := by
  have hn := h.1
  have hb6 := h.2.1.2.1.1.2.1
  refine g_run 65 1 rfl ?_
  refine g_callS 66 rfl cs_RL_265 (l_seen h) rfl rfl (by decide) (by omega) (by omega) (Nat.le_of_ble_eq_true rfl) (fun v9 M1 n9 h9 _ => ?_) (fun E M9 n9 h9 _ => by cases h9.1)
  obtain ⟨e9, e8, hI⟩ := h9
  cases e9
  subst e8
  have kb1 := hI.1
  have hZ1 := SI_Z hI h
  obtain ⟨-, pb, τ, ep, fp, v, cap, t, nm, pl, s, a1, a2, a3, a4, a5, a6, a7, a8, a9⟩ := id hZ1
  refine g_run 67 2 rfl ?_
  refine g_callV 69 rfl cv_RL_280 a1 (x_save a1 a2 pb.2.1.1 a4) rfl rfl (by decide) (by omega) (by omega) (Nat.le_of_ble_eq_true rfl) (e_kw fun M2 hq2 => ?_) e_kwx
  have hZ2 : PZ B M2 (n + 1) σ σ r f c5 1 := PZ_save hZ1.1 pb a2 a3 a5 a6 a7 a8 a9 hq2.1 hq2.2.1 hq2.2.2
  have kb2 : M2 n = cI 0 110 (SV σ) := (hq2.2.2 n (by omega) (by omega)).trans kb1
  refine g_run 70 3 rfl ?_
  refine g_callSX 73 rfl cs_RL_283 (l_triesUntilBroken hZ2 0 (by omega) ⟨by omega, by omega⟩) rfl rfl (by decide) (by omega) (by omega) (Nat.le_of_ble_eq_true rfl) (e_kz fun z1 M3 n3 q => ?_) e_kzx
  obtain ⟨hz1, hs3⟩ := q
  have hZ3 := PZ_spq hZ2 hs3
  have kb3 := (SPq_fr hs3 n (by omega)).trans kb2
  have e3 := hs3.1
  subst e3
  refine g_run 74 4 rfl ?_
  refine g_callSX 78 rfl cs_RL_285 (l_dialAfter hZ3 0 1 33 (by omega) ⟨by omega, by omega⟩ (by omega) (by omega)) rfl rfl (by decide) (by omega) (by omega) (Nat.le_of_ble_eq_true rfl) (e_kz fun z2 M4 n4 q => ?_) e_kzx
  obtain ⟨hz2, hs4⟩ := q
  have hZ4 := PZ_spq hZ3 hs4
  have kb4 := (SPq_fr hs4 n (by omega)).trans kb3
  have e4 := hs4.1
  subst e4
  refine g_run 79 3 rfl ?_
  refine g_callSX 82 rfl cs_RL_287 (l_hoursUntilFitting hZ4 1 (by omega) ⟨by omega, by omega⟩) rfl rfl (by decide) (by omega) (by omega) (Nat.le_of_ble_eq_true rfl) (e_kz fun z3 M5 n5 q => ?_) e_kzx
  obtain ⟨hz3, hs5⟩ := q
  have hZ5 := PZ_spq hZ4 hs5
  have kb5 := (SPq_fr hs5 n (by omega)).trans kb4
  have e5 := hs5.1
  subst e5
  refine g_run 83 3 rfl ?_
  obtain ⟨-, pb5, τ5, ep5, fp5, v5, cap5, t5, nm5, pl5, s5, b1, b2, b3, b4, b5, b6, b7, b8, b9⟩ := id hZ5
  refine g_callV 86 rfl cv_RL_289 b1 (x_renderLock (KS_KM hS) hP b1 b2 pb5.2.1.1 b7 0 (by omega) ⟨by omega, by omega⟩) rfl rfl (by decide) (by omega) (by omega) (Nat.le_of_ble_eq_true rfl) (e_kw fun M6 hq6 => ?_) e_kwx
  have hZ6 := PZ_bt hZ5 hq6.1 hq6.2
  have hl6 := hq6.1.2.2.2.2.1
  have kb6 := (hq6.2 n (by omega)).trans kb5
  refine g_run 87 2 rfl ?_
  obtain ⟨-, pb6, τ6, ep6, fp6, v6, cap6, t6, nm6, pl6, s6, d1, d2, d3, d4, d5, d6, d7, d8, d9⟩ := id hZ6
  refine g_callV 89 rfl cv_RL_292 d1 (x_renderOvens (KS_KM hS) hP d1 d2 pb6.2.1.1 d7) rfl rfl (by decide) (by omega) (by omega) (Nat.le_of_ble_eq_true rfl) (e_kw fun M7 hq7 => ?_) e_kwx
  have hZ7 := PZ_bt hZ6 hq7.1 hq7.2
  have hl7 := hq7.1.2.2.2.2.1
  have kb7 := (hq7.2 n (by omega)).trans kb6
  refine g_run 90 4 rfl ?_
  refine g_callS 94 rfl cs_RL_265 (l_seen hZ7) rfl rfl (by decide) (by omega) (by omega) (Nat.le_of_ble_eq_true rfl) (fun v9 M8 n9 h9 _ => ?_) (fun E M9 n9 h9 _ => by cases h9.1)
  obtain ⟨e9, e8, hI8⟩ := h9
  cases e9
  subst e8
  have hZ8 := SI_Z hI8 hZ7
  have kb8 := (hI8.2 n (by omega)).trans kb7
  refine g_callS 95 rfl cs_RL_274 (l_areAlike _ _ (SV σ) kb8 hI8.1) rfl rfl (by decide) (by omega) (by omega) (Nat.le_of_ble_eq_true rfl) (e_kr ?_) e_kx
  refine g_if_ne 96 181 rfl rfl (by decide) (fun _ => ?_) (fun c => absurd c (by decide))
  refine g_run 99 3 rfl ?_
  refine g_callSX 102 rfl cs_RL_120 (l_passHours (KS_KM hS) hZ8 (by omega) 12 (by omega)) rfl rfl (by decide) (by omega) (by omega) (Nat.le_of_ble_eq_true rfl) (e_kz fun w1 M9 n9 q => ?_) e_kzx
  obtain ⟨hw1, e9, hf9, σ9, r9, f9, c9, hZ9⟩ := CHp_any hZ8 (by omega) q
  subst e9
  have kb9 := (hf9 n (by omega)).trans kb8
  refine g_run 103 2 rfl ?_
  refine g_callSX 105 rfl cs_RL_115 (l_tryLock (KS_KM hS) hZ9 (by omega) 0 (by omega)) rfl rfl (by decide) (by omega) (by omega) (Nat.le_of_ble_eq_true rfl) (e_kz fun w2 MA nA q => ?_) e_kzx
  obtain ⟨hw2, eA, hfA, σA, rA, fA, cA, hZA⟩ := CHp_any hZ9 (by omega) q
  subst eA
  have kbA := (hfA n (by omega)).trans kb9
  refine g_run 106 3 rfl ?_
  refine g_callSX 109 rfl cs_RL_112 (l_setDamp (KS_KM hS) hZA (by omega) 4 (by omega)) rfl rfl (by decide) (by omega) (by omega) (Nat.le_of_ble_eq_true rfl) (e_kz fun w3 MB nB q => ?_) e_kzx
  obtain ⟨hw3, eB, hfB, σB, rB, fB, cB, hZB⟩ := CHp_any hZA (by omega) q
  subst eB
  have kbB := (hfB n (by omega)).trans kbA
  refine g_run 110 4 rfl ?_
  refine g_callSX 114 rfl cs_RL_117 (l_bake (KS_KM hS) hZB (by omega) 1 (by omega) 1 (by omega)) rfl rfl (by decide) (by omega) (by omega) (Nat.le_of_ble_eq_true rfl) (e_kz fun w4 MC nC q => ?_) e_kzx
  obtain ⟨hw4, eC, hfC, σC, rC, fC, cC, hZC⟩ := CHp_any hZB (by omega) q
  subst eC
  have kbC := (hfC n (by omega)).trans kbB
  refine g_run 115 5 rfl ?_
  refine g_callSX 120 rfl cs_RL_110 (l_turn (KS_KM hS) hZC (by omega) 0 (by omega) 0 (by omega) 3 (by omega)) rfl rfl (by decide) (by omega) (by omega) (Nat.le_of_ble_eq_true rfl) (e_kz fun w5 MD nD q => ?_) e_kzx
  obtain ⟨hw5, eD, hfD, σD, rD, fD, cD, hZD⟩ := CHp_any hZC (by omega) q
  subst eD
  have kbD := (hfD n (by omega)).trans kbC
  refine g_run 121 4 rfl ?_
  refine g_ldcI 125 rfl lc_RL_122 ?_
  refine g_icmp_le 126 258 rfl rfl (by omega) (by omega) (fun c => absurd c (by omega)) (fun _ => ?_)
  refine g_run 127 1 rfl ?_
  refine g_callSX 128 rfl cs_RL_295 (l_restore hZD rfl) rfl rfl (by decide) (by omega) (by omega) (Nat.le_of_ble_eq_true rfl) (e_kz fun w6 ME nE q => ?_) e_kzx
  obtain ⟨hw6, eE, hfE, hZE⟩ := q
  subst eE
  have kbE := (hfE n (by omega)).trans kbD
  have hr0 := h.2.1.2.1.1.1 0 (by decide)
  rw [hw6]
  refine g_run 129 1 rfl ?_
  refine g_icmp_ne 130 258 rfl rfl (by omega) (by omega) (fun c => absurd rfl c) (fun _ => ?_)
  refine g_run 131 2 rfl ?_
  refine g_callS 133 rfl cs_RL_265 (l_seen hZE) rfl rfl (by decide) (by omega) (by omega) (Nat.le_of_ble_eq_true rfl) (fun v9 MF n9 h9 _ => ?_) (fun E M9 n9 h9 _ => by cases h9.1)
  obtain ⟨e9, e8, hIF⟩ := h9
  cases e9
  subst e8
  have hZF := SI_Z hIF hZE
  have kbF := (hIF.2 n (by omega)).trans kbE
  refine g_callS 134 rfl cs_RL_274 (l_areAlike _ _ (SV σ) kbF hIF.1) rfl rfl (by decide) (by omega) (by omega) (Nat.le_of_ble_eq_true rfl) (e_kr ?_) e_kx
  refine g_if_eq 135 258 rfl rfl (by decide) (fun c => absurd c (by decide)) (fun _ => ?_)
  refine g_run 136 1 rfl ?_
  refine g_callSX 137 rfl cs_RL_278 (l_undoX hZF rfl) rfl rfl (by decide) (by omega) (by omega) (Nat.le_of_ble_eq_true rfl) (e_kz fun w7 MG nG q => ?_) e_kzx
  rw [q.1]
  refine g_ldcI 138 rfl lc_RL_17 ?_
  refine g_icmp_ne 139 258 rfl rfl (by decide) (by decide) (fun c => absurd rfl c) (fun _ => ?_)
  refine g_run 140 2 rfl ?_
  exact g_iret 143 rfl rfl (Or.inr rfl) (hQ _ _)
theorem yR_top : yR f c5 r σ ((yF f c5 + (yC c5 - 1)) % 8) = σ := by
  unfold yR
  rw [va_up_self]
theorem yC_pos : 0 < yC c5 := by
  unfold yC
  split <;> omega
/-- one deed -/
theorem law_deed (hP : PV Γ) (hS : KS Γ) (k : Nat) (hk : k < 12) (h : PZ B M n σ ρ r f c5 sv) (hB : B + 2400 ≤ 90000) (h2 : 2 ≤ σ.sc 0) (kc ks : Nat) (hkc : kc ≤ 5000) (hks : ks ≤ 100000) (y3 y4 : Option aV)
    (hend : ∀ (M' : Mem) (n' : Nat) (σ' : HS) (r' : Nat → HS) (f' c' kc' ks' : Nat) (y3 y4 : Option aV), PZ (B + 2400) M' n' σ' ρ r' f' c' sv → 2 ≤ σ'.sc 0 → kc' ≤ kc + 200 → ks' ≤ ks + 6000 → lawG r0 Γ Q 119 [some (vR 60), some (vR 100), some (vI (k : Int)), y3, y4] [] M' n' kc' ks') : lawG r0 Γ Q 26 [some (vR 60), some (vR 100), some (vI (k : Int)), y3, y4] [] M n kc ks := by
  have hn := h.1
  refine g_run 15 1 rfl ?_
  refine g_callS 16 rfl cs_RL_265 (l_seen h) rfl rfl (by decide) (by omega) (by omega) (Nat.le_of_ble_eq_true rfl) (fun v9 M1 n9 h9 _ => ?_) (fun E M9 n9 h9 _ => by cases h9.1)
  obtain ⟨e9, e8, hI⟩ := h9
  cases e9
  subst e8
  have hZ1 := SI_Z hI h
  refine g_run 17 8 rfl ?_
  refine g_callS 25 rfl cs_RL_269 (l_acts hP hS hZ1 (by omega) (52 + 4 * (k : Int)) (by omega)) rfl rfl (by decide) (by omega) (by omega) (Nat.le_of_ble_eq_true rfl) (e_kz fun z M2 n2 q => ?_) e_kzx
  obtain ⟨hn2, hfr, hq⟩ := q
  have kb2 : M2 n = cI 0 110 (SV σ) := (hfr n _ (by omega) (by omega) hI.1).trans hI.1
  refine g_run 26 2 rfl ?_
  rcases hq with ⟨hz, σ', hs, hZ2⟩ | ⟨hz, hZ2⟩
  · refine g_callS 28 rfl cs_RL_261 (l_isWell hZ2) rfl rfl (by decide) (by omega) (by omega) (Nat.le_of_ble_eq_true rfl) (e_kz fun z3 M3 n3 q3 => ?_) e_kzx
    obtain ⟨hz3, hs3⟩ := q3
    have hZ3 := PZ_spq hZ2 hs3
    have kb3 := (SPq_fr hs3 n (by omega)).trans kb2
    have e3 := hs3.1
    subst e3
    rw [hz3]
    refine g_if_eq 29 77 rfl rfl (by decide) (fun c => absurd c (by decide)) (fun _ => ?_)
    refine g_run 30 1 rfl ?_
    refine g_ldcI 31 rfl lc_RL_98 ?_
    refine g_icmp_eq 32 77 rfl rfl (by omega) (by omega) (fun c => absurd c (by omega)) (fun _ => ?_)
    refine g_run 33 1 rfl ?_
    refine g_ldcwI 34 rfl lc_RL_273 ?_
    refine g_icmp_gt 35 79 rfl rfl (by omega) (by omega) (fun _ => ?_) (fun c => absurd c (by omega))
    refine g_run 43 1 rfl ?_
    refine g_ldcwI 44 rfl lc_RL_273 ?_
    refine g_icmp_le 45 119 rfl rfl (by omega) (by omega) (fun c => absurd c (by omega)) (fun _ => ?_)
    refine g_run 46 5 rfl ?_
    refine g_callS 51 rfl cs_RL_103 (l_in hS (101 + (k : Int)) (5) (by omega) (by omega)) rfl rfl (by decide) (by omega) (by omega) (Nat.le_of_ble_eq_true rfl) (e_kq fun y hy => ?_) e_kqx
    refine g_if_ne 52 119 rfl rfl (by omega) (fun _ => ?_) (fun _ => ?_)
    · exact hend _ _ _ _ _ _ _ _ _ _ hZ3 (by omega) (by omega) (by omega)
    · refine g_run 53 1 rfl ?_
      refine g_callSX 54 rfl cs_RL_278 (l_undo hZ3 yC_pos) rfl rfl (by decide) (by omega) (by omega) (Nat.le_of_ble_eq_true rfl) (e_kz fun z4 M4 n4 q4 => ?_) e_kzx
      obtain ⟨hz4, e4, hf4, hZ4⟩ := q4
      subst e4
      rw [yR_top] at hZ4
      have kb4 := (hf4 n (by omega)).trans kb3
      have hyc : yC c5 ≤ 8 := hZ3.2.1.2.2.2.2.2
      have hyp : 0 < yC c5 := yC_pos
      rw [hz4]
      refine g_if_lt 55 117 rfl rfl (by omega) (fun c => absurd c (by omega)) (fun _ => ?_)
      refine g_run 56 2 rfl ?_
      refine g_callS 58 rfl cs_RL_265 (l_seen hZ4) rfl rfl (by decide) (by omega) (by omega) (Nat.le_of_ble_eq_true rfl) (fun v9 M5 n9 h9 _ => ?_) (fun E M9 n9 h9 _ => by cases h9.1)
      obtain ⟨e9, e8, hI5⟩ := h9
      cases e9
      subst e8
      have hZ5 := SI_Z hI5 hZ4
      have kb5 := (hI5.2 n (by omega)).trans kb4
      refine g_callS 59 rfl cs_RL_274 (l_areAlike _ _ (SV σ) kb5 hI5.1) rfl rfl (by decide) (by omega) (by omega) (Nat.le_of_ble_eq_true rfl) (e_kr ?_) e_kx
      refine g_if_ne 60 119 rfl rfl (by decide) (fun _ => ?_) (fun c => absurd c (by decide))
      exact hend _ _ _ _ _ _ _ _ _ _ hZ5 h2 (by omega) (by omega)
  · refine g_callS 28 rfl cs_RL_261 (l_isWell hZ2) rfl rfl (by decide) (by omega) (by omega) (Nat.le_of_ble_eq_true rfl) (e_kz fun z3 M3 n3 q3 => ?_) e_kzx
    obtain ⟨hz3, hs3⟩ := q3
    have hZ3 := PZ_spq hZ2 hs3
    have kb3 := (SPq_fr hs3 n (by omega)).trans kb2
    have e3 := hs3.1
    subst e3
    rw [hz3]
    refine g_if_eq 29 77 rfl rfl (by decide) (fun c => absurd c (by decide)) (fun _ => ?_)
    refine g_run 30 1 rfl ?_
    refine g_ldcI 31 rfl lc_RL_98 ?_
    refine g_icmp_eq 32 77 rfl rfl (by omega) (by omega) (fun c => absurd c (by omega)) (fun _ => ?_)
    refine g_run 33 1 rfl ?_
    refine g_ldcwI 34 rfl lc_RL_273 ?_
    refine g_icmp_gt 35 79 rfl rfl (by omega) (by omega) (fun c => absurd c (by omega)) (fun _ => ?_)
    refine g_run 36 2 rfl ?_
    refine g_callS 38 rfl cs_RL_265 (l_seen hZ3) rfl rfl (by decide) (by omega) (by omega) (Nat.le_of_ble_eq_true rfl) (fun v9 M5 n9 h9 _ => ?_) (fun E M9 n9 h9 _ => by cases h9.1)
    obtain ⟨e9, e8, hI5⟩ := h9
    cases e9
    subst e8
    have hZ5 := SI_Z hI5 hZ3
    have kb5 := (hI5.2 n (by omega)).trans kb3
    refine g_callS 39 rfl cs_RL_274 (l_areAlike _ _ (SV σ) kb5 hI5.1) rfl rfl (by decide) (by omega) (by omega) (Nat.le_of_ble_eq_true rfl) (e_kr ?_) e_kx
    refine g_if_ne 40 79 rfl rfl (by decide) (fun _ => ?_) (fun c => absurd c (by decide))
    refine g_run 43 1 rfl ?_
    refine g_ldcwI 44 rfl lc_RL_273 ?_
    refine g_icmp_le 45 119 rfl rfl (by omega) (by omega) (fun _ => ?_) (fun c => absurd c (by omega))
    exact hend _ _ _ _ _ _ _ _ _ _ hZ5 h2 (by omega) (by omega)
theorem law_start (hP : PV Γ) (hS : KS Γ) (hQ : ∀ M' n', Q (.inl (some (vI 1))) M' n') : lawG r0 Γ Q 0 [some (vR 60), none, none, none, none] [] M 100 0 0 := by
  refine g_run 0 1 rfl ?_
  refine g_callS 1 rfl cs_RL_257 (l_begun hS) rfl rfl (by decide) (by omega) (by omega) (Nat.le_of_ble_eq_true rfl) (fun v9 M1 n1 h9 _ => ?_) (fun E M1 n1 h9 _ => by cases h9.1)
  obtain ⟨e9, e8, σ, r, f, c5, h2, hZ⟩ := h9
  cases e9
  subst e8
  refine g_run 2 2 rfl ?_
  refine g_ifnull 4 16 rfl rfl (fun z => absurd z (by simp)) (fun _ _ => ?_)
  refine g_run 5 1 rfl ?_
  refine g_callS 6 rfl cs_RL_261 (l_isWell hZ) rfl rfl (by decide) (by omega) (by omega) (Nat.le_of_ble_eq_true rfl) (e_kz fun z3 M3 n3 q3 => ?_) e_kzx
  obtain ⟨hz3, hs3⟩ := q3
  have hZ3 := PZ_spq hZ hs3
  have e3 := hs3.1
  subst e3
  rw [hz3]
  refine g_if_ne 7 18 rfl rfl (by decide) (fun _ => ?_) (fun c => absurd c (by decide))
  refine g_run 10 2 rfl ?_
  refine e_down (P := fun k => ∀ (M' : Mem) (n' kc ks : Nat) (σ : HS) (r : Nat → HS) (f c5 : Nat) (y3 y4 : Option aV), PZ (10000 + 2400 * (k : Int)) M' n' σ H0 r f c5 0 → 2 ≤ σ.sc 0 → (kc : Int) ≤ 500 + 200 * (k : Int) → (ks : Int) ≤ 4000 + 6000 * (k : Int) → lawG r0 Γ Q 20 [some (vR 60), some (vR 100), some (vI (k : Int)), y3, y4] [] M' n' kc ks) 12 ?_ 0 (by omega) M3 _ _ _ σ r f c5 none none (PZ_up hZ3 (by omega) (by omega)) h2 (by omega) (by omega)
  intro k hk ih M' n' kc ks σ r f c5 y3 y4 hZ h2 hkc hks
  refine g_run 12 2 rfl ?_
  refine g_icmp_ge 14 125 rfl rfl (by omega) (by omega) (fun c => ?_) (fun c => ?_)
  · exact law_end hP hS hQ hZ (by omega) h2 kc ks (by omega) (by omega) _ _ _
  · refine law_deed hP hS k (by omega) hZ (by omega) h2 kc ks (by omega) (by omega) _ _ (fun M2 n2 σ2 r2 f2 c2 kc2 ks2 y3 y4 hZ2 h22 u1 u2 => ?_)
    refine g_run 63 2 rfl ?_
    have ih2 := ih (by omega) M2 n2 kc2 ks2 σ2 r2 f2 c2 y3 y4 (PZ_up hZ2 (by omega) (by omega)) h22 (by omega) (by omega)
    rw [show ((k + 1 : Nat) : Int) = (k : Int) + 1 from by omega] at ih2
    exact ih2
end LW9
