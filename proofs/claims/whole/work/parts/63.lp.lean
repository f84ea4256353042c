/-! the law: its start and its loop (wip/whole/gen/c_lp.py prints this part) -/
theorem and_63 (a : Int) : iI a &&& iI 63 = iI (a % 64) := by
  apply Int32.toBitVec_inj.mp
  apply BitVec.eq_of_toNat_eq
  show ((BitVec.ofInt 32 a) &&& (BitVec.ofInt 32 63)).toNat = (BitVec.ofInt 32 (a % 64)).toNat
  rw [BitVec.toNat_and, BitVec.toNat_ofInt, BitVec.toNat_ofInt, BitVec.toNat_ofInt]
  show (a % 4294967296).toNat &&& (2 ^ 6 - 1) = (a % 64 % 4294967296).toNat
  rw [Nat.and_two_pow_sub_one_eq_mod]
  omega
section LP
variable {r0 : Option Nat} {Γ : Cx} {M : Mem} {n kc ks L : Nat} {q : Nat → Int} {A : Nat → Nat → Int} {Q : Rv → Mem → Nat → Prop} {xs : Nat → Int}
theorem law_sw (hK : KM Γ) (hP9 : PV Γ) {B : Int} (hB : 20 ≤ B ∧ B + 2400 ≤ 10000000) (hZ : LZ B M n q A) (hxs : ∀ j, i32 (xs j)) (h60 : Γ.cM 60 = cI 10 L xs) (i : Nat) (hi : 5 * i + 5 ≤ L) (hL : L ≤ 2560) {mc ms : Nat} (hkc : kc + 2 ≤ mc) (hks : ks + 200 ≤ ms) (x6 x7 x8 : Option aV) (kk : lawK r0 Γ mc ms Q B i kc ks) (z : Int) (hz : 0 ≤ z ∧ z ≤ 63) : G (e_L r0) Γ (lawX tbL_0) 20 mc ms Q 44 (lawL i x6 x7 x8) [vI z] M n kc ks := by
  by_cases h : 49 ≤ z
  · refine g_tswD 2624 dw_L_law_44 (Or.inr (by omega)) (by omega) rfl ?_
    exact kk M n q A kc ks x6 x7 x8 (LZ_q hZ (fun _ _ => rfl) (LZ_mm hZ) ⟨rfl, rfl, rfl, rfl, rfl, rfl⟩ ⟨rfl, rfl, rfl, rfl, rfl⟩ (by omega) hB.2) (by omega) (by omega)
  · skip
    by_cases e0 : z = 0
    · subst e0; exact g_tsw 256 0 dw_L_law_44 rfl (by decide) (by decide) rfl rfl (law_1 hK hP9 hB hZ hxs h60 i hi hL hkc hks x6 x7 x8 kk)
    by_cases e1 : z = 1
    · subst e1; exact g_tsw 336 1 dw_L_law_44 rfl (by decide) (by decide) rfl rfl (law_2 hK hP9 hB hZ hxs h60 i hi hL hkc hks x6 x7 x8 kk)
    by_cases e2 : z = 2
    · subst e2; exact g_tsw 416 2 dw_L_law_44 rfl (by decide) (by decide) rfl rfl (law_3 hK hP9 hB hZ hxs h60 i hi hL hkc hks x6 x7 x8 kk)
    by_cases e3 : z = 3
    · subst e3; exact g_tsw 479 3 dw_L_law_44 rfl (by decide) (by decide) rfl rfl (law_4 hK hP9 hB hZ hxs h60 i hi hL hkc hks x6 x7 x8 kk)
    by_cases e4 : z = 4
    · subst e4; exact g_tsw 535 4 dw_L_law_44 rfl (by decide) (by decide) rfl rfl (law_5 hK hP9 hB hZ hxs h60 i hi hL hkc hks x6 x7 x8 kk)
    by_cases e5 : z = 5
    · subst e5; exact g_tsw 627 5 dw_L_law_44 rfl (by decide) (by decide) rfl rfl (law_6 hK hP9 hB hZ hxs h60 i hi hL hkc hks x6 x7 x8 kk)
    by_cases e6 : z = 6
    · subst e6; exact g_tsw 683 6 dw_L_law_44 rfl (by decide) (by decide) rfl rfl (law_7 hK hP9 hB hZ hxs h60 i hi hL hkc hks x6 x7 x8 kk)
    by_cases e7 : z = 7
    · subst e7; exact g_tsw 751 7 dw_L_law_44 rfl (by decide) (by decide) rfl rfl (law_8 hK hP9 hB hZ hxs h60 i hi hL hkc hks x6 x7 x8 kk)
    by_cases e8 : z = 8
    · subst e8; exact g_tsw 807 8 dw_L_law_44 rfl (by decide) (by decide) rfl rfl (law_9 hK hP9 hB hZ hxs h60 i hi hL hkc hks x6 x7 x8 kk)
    by_cases e9 : z = 9
    · subst e9; exact g_tsw 820 9 dw_L_law_44 rfl (by decide) (by decide) rfl rfl (law_10 hK hP9 hB hZ hxs h60 i hi hL hkc hks x6 x7 x8 kk)
    by_cases e10 : z = 10
    · subst e10; exact g_tsw 888 10 dw_L_law_44 rfl (by decide) (by decide) rfl rfl (law_11 hK hP9 hB hZ hxs h60 i hi hL hkc hks x6 x7 x8 kk)
    by_cases e11 : z = 11
    · subst e11; exact g_tsw 956 11 dw_L_law_44 rfl (by decide) (by decide) rfl rfl (law_12 hK hP9 hB hZ hxs h60 i hi hL hkc hks x6 x7 x8 kk)
    by_cases e12 : z = 12
    · subst e12; exact g_tsw 1019 12 dw_L_law_44 rfl (by decide) (by decide) rfl rfl (law_13 hK hP9 hB hZ hxs h60 i hi hL hkc hks x6 x7 x8 kk)
    by_cases e13 : z = 13
    · subst e13; exact g_tsw 1082 13 dw_L_law_44 rfl (by decide) (by decide) rfl rfl (law_14 hK hP9 hB hZ hxs h60 i hi hL hkc hks x6 x7 x8 kk)
    by_cases e14 : z = 14
    · subst e14; exact g_tsw 1138 14 dw_L_law_44 rfl (by decide) (by decide) rfl rfl (law_15 hK hP9 hB hZ hxs h60 i hi hL hkc hks x6 x7 x8 kk)
    by_cases e15 : z = 15
    · subst e15; exact g_tsw 1194 15 dw_L_law_44 rfl (by decide) (by decide) rfl rfl (law_16 hK hP9 hB hZ hxs h60 i hi hL hkc hks x6 x7 x8 kk)
    by_cases e16 : z = 16
    · subst e16; exact g_tsw 1250 16 dw_L_law_44 rfl (by decide) (by decide) rfl rfl (law_17 hK hP9 hB hZ hxs h60 i hi hL hkc hks x6 x7 x8 kk)
    by_cases e17 : z = 17
    · subst e17; exact g_tsw 1306 17 dw_L_law_44 rfl (by decide) (by decide) rfl rfl (law_18 hK hP9 hB hZ hxs h60 i hi hL hkc hks x6 x7 x8 kk)
    by_cases e18 : z = 18
    · subst e18; exact g_tsw 1362 18 dw_L_law_44 rfl (by decide) (by decide) rfl rfl (law_19 hK hP9 hB hZ hxs h60 i hi hL hkc hks x6 x7 x8 kk)
    by_cases e19 : z = 19
    · subst e19; exact g_tsw 1418 19 dw_L_law_44 rfl (by decide) (by decide) rfl rfl (law_20 hK hP9 hB hZ hxs h60 i hi hL hkc hks x6 x7 x8 kk)
    by_cases e20 : z = 20
    · subst e20; exact g_tsw 1474 20 dw_L_law_44 rfl (by decide) (by decide) rfl rfl (law_21 hK hP9 hB hZ hxs h60 i hi hL hkc hks x6 x7 x8 kk)
    by_cases e21 : z = 21
    · subst e21; exact g_tsw 1554 21 dw_L_law_44 rfl (by decide) (by decide) rfl rfl (law_22 hK hP9 hB hZ hxs h60 i hi hL hkc hks x6 x7 x8 kk)
    by_cases e22 : z = 22
    · subst e22; exact g_tsw 1610 22 dw_L_law_44 rfl (by decide) (by decide) rfl rfl (law_23 hK hP9 hB hZ hxs h60 i hi hL hkc hks x6 x7 x8 kk)
    by_cases e23 : z = 23
    · subst e23; exact g_tsw 1666 23 dw_L_law_44 rfl (by decide) (by decide) rfl rfl (law_24 hK hP9 hB hZ hxs h60 i hi hL hkc hks x6 x7 x8 kk)
    by_cases e24 : z = 24
    · subst e24; exact g_tsw 1722 24 dw_L_law_44 rfl (by decide) (by decide) rfl rfl (law_25 hK hP9 hB hZ hxs h60 i hi hL hkc hks x6 x7 x8 kk)
    by_cases e25 : z = 25
    · subst e25; exact g_tsw 1785 25 dw_L_law_44 rfl (by decide) (by decide) rfl rfl (law_26 hK hP9 hB hZ hxs h60 i hi hL hkc hks x6 x7 x8 kk)
    by_cases e26 : z = 26
    · subst e26; exact g_tsw 1841 26 dw_L_law_44 rfl (by decide) (by decide) rfl rfl (law_27 hK hP9 hB hZ hxs h60 i hi hL hkc hks x6 x7 x8 kk)
    by_cases e27 : z = 27
    · subst e27; exact g_tsw 1854 27 dw_L_law_44 rfl (by decide) (by decide) rfl rfl (law_28 hK hP9 hB hZ hxs h60 i hi hL hkc hks x6 x7 x8 kk)
    by_cases e28 : z = 28
    · subst e28; exact g_tsw 1910 28 dw_L_law_44 rfl (by decide) (by decide) rfl rfl (law_29 hK hP9 hB hZ hxs h60 i hi hL hkc hks x6 x7 x8 kk)
    by_cases e29 : z = 29
    · subst e29; exact g_tsw 1973 29 dw_L_law_44 rfl (by decide) (by decide) rfl rfl (law_30 hK hP9 hB hZ hxs h60 i hi hL hkc hks x6 x7 x8 kk)
    by_cases e30 : z = 30
    · subst e30; exact g_tsw 1986 30 dw_L_law_44 rfl (by decide) (by decide) rfl rfl (law_31 hK hP9 hB hZ hxs h60 i hi hL hkc hks x6 x7 x8 kk)
    by_cases e31 : z = 31
    · subst e31; exact g_tsw 1999 31 dw_L_law_44 rfl (by decide) (by decide) rfl rfl (law_32 hK hP9 hB hZ hxs h60 i hi hL hkc hks x6 x7 x8 kk)
    by_cases e32 : z = 32
    · subst e32; exact g_tsw 2012 32 dw_L_law_44 rfl (by decide) (by decide) rfl rfl (law_33 hK hP9 hB hZ hxs h60 i hi hL hkc hks x6 x7 x8 kk)
    by_cases e33 : z = 33
    · subst e33; exact g_tsw 2025 33 dw_L_law_44 rfl (by decide) (by decide) rfl rfl (law_34 hK hP9 hB hZ hxs h60 i hi hL hkc hks x6 x7 x8 kk)
    by_cases e34 : z = 34
    · subst e34; exact g_tsw 2038 34 dw_L_law_44 rfl (by decide) (by decide) rfl rfl (law_35 hK hP9 hB hZ hxs h60 i hi hL hkc hks x6 x7 x8 kk)
    by_cases e35 : z = 35
    · subst e35; exact g_tsw 2051 35 dw_L_law_44 rfl (by decide) (by decide) rfl rfl (law_36 hK hP9 hB hZ hxs h60 i hi hL hkc hks x6 x7 x8 kk)
    by_cases e36 : z = 36
    · subst e36; exact g_tsw 2064 36 dw_L_law_44 rfl (by decide) (by decide) rfl rfl (law_37 hK hP9 hB hZ hxs h60 i hi hL hkc hks x6 x7 x8 kk)
    by_cases e37 : z = 37
    · subst e37; exact g_tsw 2129 37 dw_L_law_44 rfl (by decide) (by decide) rfl rfl (law_38 hK hP9 hB hZ hxs h60 i hi hL hkc hks x6 x7 x8 kk)
    by_cases e38 : z = 38
    · subst e38; exact g_tsw 2195 38 dw_L_law_44 rfl (by decide) (by decide) rfl rfl (law_39 hK hP9 hB hZ hxs h60 i hi hL hkc hks x6 x7 x8 kk)
    by_cases e39 : z = 39
    · subst e39; exact g_tsw 2208 39 dw_L_law_44 rfl (by decide) (by decide) rfl rfl (law_40 hK hP9 hB hZ hxs h60 i hi hL hkc hks x6 x7 x8 kk)
    by_cases e40 : z = 40
    · subst e40; exact g_tsw 2264 40 dw_L_law_44 rfl (by decide) (by decide) rfl rfl (law_41 hK hP9 hB hZ hxs h60 i hi hL hkc hks x6 x7 x8 kk)
    by_cases e41 : z = 41
    · subst e41; exact g_tsw 2277 41 dw_L_law_44 rfl (by decide) (by decide) rfl rfl (law_42 hK hP9 hB hZ hxs h60 i hi hL hkc hks x6 x7 x8 kk)
    by_cases e42 : z = 42
    · subst e42; exact g_tsw 2333 42 dw_L_law_44 rfl (by decide) (by decide) rfl rfl (law_43 hK hP9 hB hZ hxs h60 i hi hL hkc hks x6 x7 x8 kk)
    by_cases e43 : z = 43
    · subst e43; exact g_tsw 2391 43 dw_L_law_44 rfl (by decide) (by decide) rfl rfl (law_44 hK hP9 hB hZ hxs h60 i hi hL hkc hks x6 x7 x8 kk)
    by_cases e44 : z = 44
    · subst e44; exact g_tsw 2435 44 dw_L_law_44 rfl (by decide) (by decide) rfl rfl (law_45 hK hP9 hB hZ hxs h60 i hi hL hkc hks x6 x7 x8 kk)
    by_cases e45 : z = 45
    · subst e45; exact g_tsw 2479 45 dw_L_law_44 rfl (by decide) (by decide) rfl rfl (law_46 hK hP9 hB hZ hxs h60 i hi hL hkc hks x6 x7 x8 kk)
    by_cases e46 : z = 46
    · subst e46; exact g_tsw 2523 46 dw_L_law_44 rfl (by decide) (by decide) rfl rfl (law_47 hK hP9 hB hZ hxs h60 i hi hL hkc hks x6 x7 x8 kk)
    by_cases e47 : z = 47
    · subst e47; exact g_tsw 2567 47 dw_L_law_44 rfl (by decide) (by decide) rfl rfl (law_48 hK hP9 hB hZ hxs h60 i hi hL hkc hks x6 x7 x8 kk)
    by_cases e48 : z = 48
    · subst e48; exact g_tsw 2580 48 dw_L_law_44 rfl (by decide) (by decide) rfl rfl (law_49 hK hP9 hB hZ hxs h60 i hi hL hkc hks x6 x7 x8 kk)
    exfalso; omega
theorem law_loop (hK : KM Γ) (hP9 : PV Γ) (hxs : ∀ j, i32 (xs j)) (h60 : Γ.cM 60 = cI 10 L xs) (hL : L ≤ 2560) (hQ : ∀ M' n', Q (.inl (some (vI 1))) M' n') (hZ : LZ 20 M n q A) (hkc : kc ≤ 300) (hks : ks ≤ 3000) (x6 x7 x8 : Option aV) : G (e_L r0) Γ (lawX tbL_0) 20 603072 7207018 Q 28 (lawL 0 x6 x7 x8) [] M n kc ks := by
  refine e_down (P := fun k => ∀ (M' : Mem) (n' : Nat) (q' : Nat → Int) (A' : Nat → Nat → Int) (kc' ks' : Nat) (y6 y7 y8 : Option aV), LZ (20 + 2400 * (k : Int)) M' n' q' A' → kc' ≤ 300 + 2 * k → ks' ≤ 3000 + 200 * k → G (e_L r0) Γ (lawX tbL_0) 20 603072 7207018 Q 28 (lawL k y6 y7 y8) [] M' n' kc' ks') 512 ?_ 0 (by omega) M n q A kc ks x6 x7 x8 (by rw [show (20 : Int) + 2400 * ((0 : Nat) : Int) = 20 from by omega]; exact hZ) (by omega) (by omega)
  intro k hk ih M2 n2 q2 A2 kc2 ks2 y6 y7 y8 hZ2 h1 h2
  refine g_low (fun hl => ?_)
  have h60m := (hl 60 (by decide)).trans h60
  refine g_run 16 2 rfl ?_
  refine g_alen 18 rfl h60m ?_
  refine g_run 19 2 rfl ?_
  refine g_icmp_gt 21 2630 rfl rfl ⟨by omega, by omega⟩ ⟨by omega, by omega⟩ (fun c34 => ?_) (fun c34 => ?_)
  · refine g_run 29 1 rfl ?_
    exact g_iret 30 rfl rfl (Or.inr rfl) (hQ _ _)
  · refine g_run 22 2 rfl ?_
    refine g_iald 24 (5 * k) rfl rfl h60m (by omega) (by omega) (by omega) ?_
    refine g_run 25 1 rfl ?_
    refine g_iand 26 rfl (and_63 _) ?_
    refine law_sw hK hP9 (B := 20 + 2400 * (k : Int)) ⟨by omega, by omega⟩ hZ2 hxs h60 k (by omega) hL (by omega) (by omega) y6 y7 y8 (fun M' n' q' A' kc' ks' z6 z7 z8 hZ' a1 a2 => ?_) (xs (5 * k) % 64) ⟨by omega, by omega⟩
    refine g_run 27 2 rfl ?_
    have ih2 := ih (by omega) M' n' q' A' kc' ks' z6 z7 z8 (by rw [show 20 + 2400 * ((k + 1 : Nat) : Int) = 20 + 2400 * (k : Int) + 2400 from by omega]; exact hZ') (by omega) (by omega)
    rw [show lawL (k + 1) z6 z7 z8 = [some (vR 60), some (vR 100), some (vR 373), some (vR 382), some (vR 383), some (vI (5 * (k : Int) + 5)), z6, z7, z8] from by show [_, _, _, _, _, some (vI (5 * ((k + 1 : Nat) : Int))), _, _, _] = _; rw [show 5 * ((k + 1 : Nat) : Int) = 5 * (k : Int) + 5 from by omega]] at ih2
    exact ih2
theorem law_start (hK : KM Γ) (hP9 : PV Γ) (hxs : ∀ j, i32 (xs j)) (h60 : Γ.cM 60 = cI 10 L xs) (hL : L ≤ 2560) (hQ : ∀ M' n', Q (.inl (some (vI 1))) M' n') : G (e_L r0) Γ (lawX tbL_0) 20 603072 7207018 Q 0 [some (vR 60), none, none, none, none, none, none, none, none] [] M 100 0 0 := by
  refine g_new 0 rfl nw_RL_8 (by omega) (by omega) (fun M0 hM0 => ?_)
  have k0 := (congrFun hM0 100).trans (va_up_self _ _ _)
  refine g_run 1 1 rfl ?_
  refine g_callI 2 rfl ci_RL_142 (x_init (by decide) rfl k0) rfl rfl (by omega) (by omega) (by omega) (Nat.le_of_ble_eq_true rfl) (e_kw fun M1 hq1 => ?_) e_kwx
  obtain ⟨a1, a2, a3, a4, a5, a6, a7, -⟩ := hq1
  refine g_run 3 1 rfl ?_
  refine g_new 4 rfl nw_RL_143 (by omega) (by omega) (fun M2 hM2 => ?_)
  have k2 := (congrFun hM2 373).trans (va_up_self _ _ _)
  have f2 : ∀ k, k ≠ 373 → M2 k = M1 k := fun k hk => by rw [hM2]; exact va_up_ne _ _ hk
  refine g_run 5 1 rfl ?_
  refine g_callI 6 rfl ci_RL_145 (m_init (by decide) rfl k2) rfl rfl (by omega) (by omega) (by omega) (Nat.le_of_ble_eq_true rfl) (e_kw fun M3 hq3 => ?_) e_kwx
  obtain ⟨b1, b2⟩ := hq3
  refine g_run 7 2 rfl ?_
  refine g_newaL (kd := 3) 9 1 rfl rfl rfl ac_J rfl (by omega) (by omega) (by omega) (fun M4 hM4 => ?_)
  have f4 : ∀ k, k ≠ 382 → M4 k = M3 k := fun k hk => by rw [hM4]; exact va_up_ne _ _ hk
  have k4 := (congrFun hM4 382).trans (va_up_self _ _ _)
  refine g_run 10 2 rfl ?_
  refine g_newaD (kd := 4) 12 1 rfl rfl rfl ac_D rfl (by omega) (by omega) (by omega) (fun M5 hM5 => ?_)
  have f5 : ∀ k, k ≠ 383 → M5 k = M4 k := fun k hk => by rw [hM5]; exact va_up_ne _ _ hk
  have k5 := (congrFun hM5 383).trans (va_up_self _ _ _)
  refine g_run 13 3 rfl ?_
  have ff : ∀ k, k < 373 → M5 k = M1 k := fun k hk => (f5 k (by omega)).trans ((f4 k (by omega)).trans ((b2 k (by omega)).trans (f2 k (by omega))))
  have fm : ∀ k, k < 382 → M5 k = M3 k := fun k hk => (f5 k (by omega)).trans (f4 k (by omega))
  have hZ : LZ 20 M5 384 (fun k => if k = 7 ∨ k = 8 then -1 else 0) (fun _ _ => 0) := by
    refine ⟨Nat.le_refl _, H0, H0, H0, (fun _ => H0), 0, 0, 0, -1, -1, 369, 16, 0, (fun _ => 0), (fun _ => 0), 0, (0, fun _ => 0), ⟨(ff _ (by omega)).trans a1, HM_e (fun k h1 h2 => ff k (by omega)) a2, HM_e (fun k h1 h2 => ff k (by omega)) a3, HM_e (fun k h1 h2 => ff k (by omega)) a4, YM_e (fun k h1 h2 => ff k (by omega)) a5, SM_fr a6 (fun k hk => ff k (by omega)), BM_fr a7 (ff _ (by omega)) (ff _ (by omega)), Or.inl rfl⟩, ?_, ?_, ?_⟩
    · have h0 : Hok 20 H0 := Hok_mono Hok_0 (by decide)
      exact ⟨⟨by decide, by decide⟩, ⟨h0, HI_0⟩, ⟨h0, HI_0⟩, fun _ _ => ⟨h0, HI_0⟩, by decide, by decide, by decide, fun p _ => by show (-3000 : Int) ≤ 0 ∧ (0 : Int) ≤ 3000; decide⟩
    · exact ⟨RV_0, RV_0, fun i hi => absurd hi (Nat.not_lt_zero i), ⟨rfl, rfl, rfl, rfl, rfl⟩, ⟨Or.inl rfl, ⟨by decide, by decide⟩, ⟨by decide, by decide⟩⟩, fun j hj => absurd hj (Nat.not_lt_zero j), rfl, fun j hj => absurd hj (Nat.not_lt_zero j)⟩
    · exact ⟨MM_fr (a := 382) (b := 384) (M := M3) (fun k hk => by rcases hk with h | h; exact fm k h; exact (f5 k (by omega)).trans (f4 k (by omega))) (by omega) b1, ⟨_, (f5 382 (by decide)).trans k4⟩, _, k5⟩
  exact law_loop hK hP9 hxs h60 hL hQ hZ (by omega) (by omega) none none none
end LP
