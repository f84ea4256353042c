/-! the law's begun (wip/p52/gen/c_begun.py prints this part) -/
abbrev BNq : Rv → Mem → Nat → Prop := fun r' M' n' => r' = .inl (some (vR 100)) ∧ n' = 373 ∧ ∃ (σ : HS) (r : Nat → HS) (f c5 : Nat), 2 ≤ σ.sc 0 ∧ PZ 10000 M' 373 σ H0 r f c5 0
def BGn (i kc ks : Nat) (w : Int) : Prop := i ≤ 30 ∧ kc ≤ 273 + i ∧ ks ≤ 1211 + 6 * i ∧ (-1000000 * (i : Int) ≤ w ∧ w ≤ 1000000 * (i : Int))
def BG (i : Nat) (M' : Mem) (kc ks : Nat) (w : Int) : Prop := BGn i kc ks w ∧ ∃ (σ : HS) (r : Nat → HS) (f c5 : Nat), 2 ≤ σ.sc 0 ∧ PZ (20 + 181 * (i : Int)) M' 373 σ H0 r f c5 0
section BN
variable {r0 : Option Nat} {Γ : Cx} {M1 M2 : Mem} {n2 : Nat} {σ : HS} {r : Nat → HS} {f c5 : Nat} {i kc ks : Nat} {w z : Int}
theorem BG_ch {c : Nat} {a b x y : Int} (hZ : PZ (20 + 181 * (i : Int)) M1 373 σ H0 r f c5 0) (h2 : 2 ≤ σ.sc 0) (h1 : BGn i kc ks w) (hi : i < 30) (q : CHp (20 + 181 * (i : Int)) M1 373 σ H0 r f c5 0 c a b x y z M2 n2) : n2 = 373 ∧ BG (i + 1) M2 (kc + 1) (ks + 6) (w + z) := by
  obtain ⟨e, -, q⟩ := q
  have hs := sc0_run σ c a b x y
  unfold BGn at h1
  rcases q with ⟨-, hz, hZ2⟩ | ⟨-, hz, rfl⟩
  · exact ⟨e, ⟨by omega, by omega, by omega, by omega, by omega⟩, _, _, _, _, Int.le_trans h2 hs, PZ_up hZ2 (by omega) (by omega)⟩
  · exact ⟨e, ⟨by omega, by omega, by omega, by omega, by omega⟩, _, _, _, _, h2, PZ_up hZ (by omega) (by omega)⟩
theorem bn_6 (hS : KS Γ) (dn : Int) (hd : 2 ≤ dn ∧ dn ≤ 5) (w1 : Int) (hb : BG i M1 kc ks (w + w1)) (y3 y4 : Option aV) : G (e_L r0) Γ mL_begun 9 400 3000 BNq 242 [some (vR 60), some (vR 100), some (vI dn), y3, y4] [vI w1, vI w] M1 373 kc ks := by
  obtain ⟨h1, σ, r, f, c5, h2, hZ⟩ := hb
  have h1n := h1
  unfold BGn at h1n
  refine g_run 138 3 rfl ?_
  refine g_ldcI 141 rfl lc_RL_122 ?_
  refine g_icmp_ge 142 254 rfl rfl (by omega) (by omega) (fun c => ?_) (fun c => absurd c (by omega))
  refine g_run 145 1 rfl ?_
  exact g_aret 146 rfl rfl (by first | exact Or.inl ⟨_, rfl⟩ | exact Or.inr ⟨_, rfl⟩) ⟨rfl, rfl, σ, r, f, c5, h2, PZ_up hZ (by omega) (by omega)⟩
theorem bn_5 (hS : KS Γ) (dn : Int) (hd : 2 ≤ dn ∧ dn ≤ 5) (w1 : Int) (hb : BG i M1 kc ks (w + w1)) (hi : i < 30) (y3 y4 : Option aV) : G (e_L r0) Γ mL_begun 9 400 3000 BNq 211 [some (vR 60), some (vR 100), some (vI dn), y3, y4] [vI w1, vI w] M1 373 kc ks := by
  have hb2 : BG i M1 kc ks (w + w1 + 0) := by rw [Int.add_zero]; exact hb
  obtain ⟨h1, σ, r, f, c5, h2, hZ⟩ := hb
  have h1n := h1
  unfold BGn at h1n
  refine g_run 120 6 rfl ?_
  refine g_callS 126 rfl cs_RL_103 (l_in hS (50) (2) (by omega) (by omega)) rfl rfl (by decide) (by omega) (by omega) (Nat.le_of_ble_eq_true rfl) (e_kq fun y1 hy1 => ?_) e_kqx
  refine g_if_ne 127 241 rfl rfl (by omega) (fun _ => ?_) (fun _ => ?_)
  · refine g_run 137 1 rfl ?_
    exact bn_6 hS dn hd 0 hb2 _ _
  · refine g_run 128 5 rfl ?_
    refine g_callS 133 rfl cs_RL_103 (l_in hS (51) (9) (by omega) (by omega)) rfl rfl (by decide) (by omega) (by omega) (Nat.le_of_ble_eq_true rfl) (e_kq fun y2 hy2 => ?_) e_kqx
    refine g_run 134 1 rfl ?_
    refine g_callSX 135 rfl cs_RL_120 (l_passHours (KS_KM hS) hZ (by omega) (1 + y2) (by omega)) rfl rfl (by decide) (by omega) (by omega) (Nat.le_of_ble_eq_true rfl) (e_kz fun z M2 n2 q => ?_) e_kzx
    obtain ⟨e2, hb3⟩ := BG_ch hZ h2 h1 hi q
    rw [e2]
    refine g_run 136 1 rfl ?_
    exact bn_6 hS dn hd z hb3 _ _
theorem bn_4 (hS : KS Γ) (dn : Int) (hd : 2 ≤ dn ∧ dn ≤ 5) (hb : BG i M1 kc ks w) (hi : i < 29) (y4 : Option aV) : G (e_L r0) Γ mL_begun 9 400 3000 BNq 184 [some (vR 60), some (vR 100), some (vI dn), some (vI w), y4] [] M1 373 kc ks := by
  have hb2 : BG i M1 kc ks (w + 0) := by rw [Int.add_zero]; exact hb
  obtain ⟨h1, σ, r, f, c5, h2, hZ⟩ := hb
  have h1n := h1
  unfold BGn at h1n
  refine g_run 105 4 rfl ?_
  refine g_callS 109 rfl cs_RL_103 (l_in hS (48) (2) (by omega) (by omega)) rfl rfl (by decide) (by omega) (by omega) (Nat.le_of_ble_eq_true rfl) (e_kq fun y1 hy1 => ?_) e_kqx
  refine g_if_ne 110 210 rfl rfl (by omega) (fun _ => ?_) (fun _ => ?_)
  · refine g_run 119 1 rfl ?_
    exact bn_5 hS dn hd 0 hb2 (by omega) _ _
  · refine g_run 111 4 rfl ?_
    refine g_callS 115 rfl cs_RL_103 (l_in hS (49) (dn) (by omega) (by omega)) rfl rfl (by decide) (by omega) (by omega) (Nat.le_of_ble_eq_true rfl) (e_kq fun y2 hy2 => ?_) e_kqx
    refine g_run 116 1 rfl ?_
    refine g_callSX 117 rfl cs_RL_117 (l_bake (KS_KM hS) hZ (by omega) y2 (by omega) 0 (by omega)) rfl rfl (by decide) (by omega) (by omega) (Nat.le_of_ble_eq_true rfl) (e_kz fun z M2 n2 q => ?_) e_kzx
    obtain ⟨e2, hb3⟩ := BG_ch hZ h2 h1 (by omega) q
    rw [e2]
    refine g_run 118 1 rfl ?_
    exact bn_5 hS dn hd z hb3 (by omega) _ _
theorem bn_3 (hS : KS Γ) (dn : Int) (hd : 2 ≤ dn ∧ dn ≤ 5) (hb : BG i M1 kc ks w) (hi : i ≤ 18) : G (e_L r0) Γ mL_begun 9 400 3000 BNq 148 [some (vR 60), some (vR 100), some (vI dn), some (vI w), some (vI 0)] [] M1 373 kc ks := by
  refine e_down (P := fun k => ∀ (M1 : Mem) (kc ks : Nat) (w : Int), BG (i + k) M1 kc ks w → G (e_L r0) Γ mL_begun 9 400 3000 BNq 148 [some (vR 60), some (vR 100), some (vI dn), some (vI w), some (vI (k : Int))] [] M1 373 kc ks) 9 ?_ 0 (by omega) M1 kc ks w hb
  intro k hk ih M1 kc ks w hb
  have hb2 := hb
  obtain ⟨h1, σ, r, f, c5, h2, hZ⟩ := hb
  have h1n := h1
  unfold BGn at h1n
  refine g_run 86 4 rfl ?_
  refine g_callS 90 rfl cs_RL_103 (l_in hS (38) (9) (by omega) (by omega)) rfl rfl (by decide) (by omega) (by omega) (Nat.le_of_ble_eq_true rfl) (e_kq fun y1 hy1 => ?_) e_kqx
  refine g_icmp_ge 91 184 rfl rfl (by omega) (by omega) (fun c => ?_) (fun c => ?_)
  · exact bn_4 hS dn hd hb2 (by omega) _
  · refine g_run 92 7 rfl ?_
    refine g_callS 99 rfl cs_RL_103 (l_in hS (39 + (k : Int)) (dn) (by omega) (by omega)) rfl rfl (by decide) (by omega) (by omega) (Nat.le_of_ble_eq_true rfl) (e_kq fun y2 hy2 => ?_) e_kqx
    refine g_callSX 100 rfl cs_RL_115 (l_tryLock (KS_KM hS) hZ (by omega) y2 (by omega)) rfl rfl (by decide) (by omega) (by omega) (Nat.le_of_ble_eq_true rfl) (e_kz fun z M2 n2 q => ?_) e_kzx
    obtain ⟨e2, hb3⟩ := BG_ch hZ h2 h1 (by omega) q
    rw [e2]
    refine g_run 101 4 rfl ?_
    exact ih (by omega) M2 _ _ _ hb3
theorem bn_2 (hS : KS Γ) (dn : Int) (hd : 2 ≤ dn ∧ dn ≤ 5) (hb : BG i M1 kc ks w) (hi : i ≤ 17) (y4 : Option aV) : G (e_L r0) Γ mL_begun 9 400 3000 BNq 130 [some (vR 60), some (vR 100), some (vI dn), some (vI w), y4] [] M1 373 kc ks := by
  obtain ⟨h1, σ, r, f, c5, h2, hZ⟩ := hb
  have h1n := h1
  unfold BGn at h1n
  refine g_run 75 5 rfl ?_
  refine g_callS 80 rfl cs_RL_103 (l_in hS (37) (10) (by omega) (by omega)) rfl rfl (by decide) (by omega) (by omega) (Nat.le_of_ble_eq_true rfl) (e_kq fun y1 hy1 => ?_) e_kqx
  refine g_callSX 81 rfl cs_RL_112 (l_setDamp (KS_KM hS) hZ (by omega) y1 (by omega)) rfl rfl (by decide) (by omega) (by omega) (Nat.le_of_ble_eq_true rfl) (e_kz fun z M2 n2 q => ?_) e_kzx
  obtain ⟨e2, hb3⟩ := BG_ch hZ h2 h1 (by omega) q
  rw [e2]
  refine g_run 82 4 rfl ?_
  exact bn_3 hS dn hd hb3 (by omega)
theorem bn_1 (hS : KS Γ) (dn : Int) (hd : 2 ≤ dn ∧ dn ≤ 5) (hb : BG i M1 kc ks w) (hi : i ≤ 11) (y4 : Option aV) : G (e_L r0) Γ mL_begun 9 400 3000 BNq 73 [some (vR 60), some (vR 100), some (vI dn), some (vI w), y4] [] M1 373 kc ks := by
  refine g_run 43 2 rfl ?_
  refine e_down (P := fun k => ∀ (M1 : Mem) (kc ks : Nat) (w : Int), BG (i + k) M1 kc ks w → G (e_L r0) Γ mL_begun 9 400 3000 BNq 76 [some (vR 60), some (vR 100), some (vI dn), some (vI w), some (vI (k : Int))] [] M1 373 kc ks) 6 ?_ 0 (by omega) M1 kc ks w hb
  intro k hk ih M1 kc ks w hb
  have hb2 := hb
  obtain ⟨h1, σ, r, f, c5, h2, hZ⟩ := hb
  have h1n := h1
  unfold BGn at h1n
  refine g_run 45 2 rfl ?_
  refine g_icmp_ge 47 130 rfl rfl (by omega) (by omega) (fun c => ?_) (fun c => ?_)
  · exact bn_2 hS dn hd hb2 (by omega) _
  · refine g_run 48 7 rfl ?_
    refine g_callS 55 rfl cs_RL_103 (l_in hS (19 + (k : Int)) (dn) (by omega) (by omega)) rfl rfl (by decide) (by omega) (by omega) (Nat.le_of_ble_eq_true rfl) (e_kq fun y1 hy1 => ?_) e_kqx
    refine g_run 56 5 rfl ?_
    refine g_callS 61 rfl cs_RL_103 (l_in hS (25 + (k : Int)) (3) (by omega) (by omega)) rfl rfl (by decide) (by omega) (by omega) (Nat.le_of_ble_eq_true rfl) (e_kq fun y2 hy2 => ?_) e_kqx
    refine g_run 62 5 rfl ?_
    refine g_callS 67 rfl cs_RL_103 (l_in hS (31 + (k : Int)) (19) (by omega) (by omega)) rfl rfl (by decide) (by omega) (by omega) (Nat.le_of_ble_eq_true rfl) (e_kq fun y3 hy3 => ?_) e_kqx
    refine g_run 68 2 rfl ?_
    refine g_callSX 70 rfl cs_RL_110 (l_turn (KS_KM hS) hZ (by omega) y1 (by omega) y2 (by omega) (y3 - 9) (by omega)) rfl rfl (by decide) (by omega) (by omega) (Nat.le_of_ble_eq_true rfl) (e_kz fun z M2 n2 q => ?_) e_kzx
    obtain ⟨e2, hb3⟩ := BG_ch hZ h2 h1 (by omega) q
    rw [e2]
    refine g_run 71 4 rfl ?_
    exact ih (by omega) M2 _ _ _ hb3
/-- the doors: each is made -/
theorem bn_0 (hS : KS Γ) (dn : Int) (hd : 2 ≤ dn ∧ dn ≤ 5) (hZ0 : PZ 20 M1 373 H0 H0 (fun _ => H0) 0 0 0) : G (e_L r0) Γ mL_begun 9 400 3000 BNq 22 [some (vR 60), some (vR 100), some (vI dn), some (vI 0), some (vI 0)] [] M1 373 273 1211 := by
  refine e_down (P := fun k => ∀ (M1 : Mem) (kc ks : Nat) (w : Int) (σ : HS) (r : Nat → HS) (f c5 : Nat), BGn k kc ks w → σ.sc 0 = (k : Int) → PZ (20 + 181 * (k : Int)) M1 373 σ H0 r f c5 0 → G (e_L r0) Γ mL_begun 9 400 3000 BNq 22 [some (vR 60), some (vR 100), some (vI dn), some (vI w), some (vI (k : Int))] [] M1 373 kc ks) dn.toNat ?_ 0 (by omega) M1 273 1211 0 H0 (fun _ => H0) 0 0 ⟨by omega, by omega, by omega, by omega, by omega⟩ rfl (PZ_up hZ0 (by omega) (by omega))
  intro k hk ih M1 kc ks w σ r f c5 h1 h2 hZ
  have h1n := h1
  unfold BGn at h1n
  refine g_run 15 2 rfl ?_
  refine g_icmp_ge 17 73 rfl rfl (by omega) (by omega) (fun c => ?_) (fun c => ?_)
  · exact bn_1 hS dn hd ⟨h1, σ, r, f, c5, by omega, hZ⟩ (by omega) _
  · refine g_run 18 7 rfl ?_
    refine g_callS 25 rfl cs_RL_103 (l_in hS (1 + (k : Int)) (10) (by omega) (by omega)) rfl rfl (by decide) (by omega) (by omega) (Nat.le_of_ble_eq_true rfl) (e_kq fun y1 hy1 => ?_) e_kqx
    refine g_run 26 5 rfl ?_
    refine g_callS 31 rfl cs_RL_103 (l_in hS (7 + (k : Int)) (10) (by omega) (by omega)) rfl rfl (by decide) (by omega) (by omega) (Nat.le_of_ble_eq_true rfl) (e_kq fun y2 hy2 => ?_) e_kqx
    refine g_run 32 5 rfl ?_
    refine g_callS 37 rfl cs_RL_103 (l_in hS (13 + (k : Int)) (10) (by omega) (by omega)) rfl rfl (by decide) (by omega) (by omega) (Nat.le_of_ble_eq_true rfl) (e_kq fun y3 hy3 => ?_) e_kqx
    refine g_callSX 38 rfl cs_RL_107 (l_addDoor (KS_KM hS) hZ (by omega) y1 (by omega) y2 (by omega) y3 (by omega)) rfl rfl (by decide) (by omega) (by omega) (Nat.le_of_ble_eq_true rfl) (e_kz fun z M2 n2 q => ?_) e_kzx
    have h0 : rf σ 0 y1 y2 y3 0 = 0 := by
      show rfDoor σ y1 y2 y3 = 0
      unfold rfDoor
      (repeat' split) <;> first | rfl | (exfalso; omega)
    obtain ⟨e2, -, ⟨-, hz, hZ2⟩ | ⟨hf, -⟩⟩ := q
    · rw [e2]
      refine g_run 39 4 rfl ?_
      exact ih (by omega) M2 _ _ _ _ _ _ _ ⟨by omega, by omega, by omega, by omega, by omega⟩ ((sc0_door σ y1 y2 y3 0).trans (by omega)) (PZ_up hZ2 (by omega) (by omega))
    · exact absurd h0 hf
theorem l_begun (hS : KS Γ) {M : Mem} : Ct (e_L r0) Γ mL_begun 9 400 3000 [vR 60] M 100 BNq := by
  refine g_start ok_L_begun rfl rfl ?_
  refine g_new 0 rfl nw_RL_10 (by omega) (by omega) (fun M0 hM0 => ?_)
  refine g_run 1 1 rfl ?_
  refine g_callI 2 rfl ci_RL_102 (x_init (by omega) rfl ((congrFun hM0 100).trans (va_up_self _ _ _))) rfl rfl (by decide) (by omega) (by omega) (Nat.le_of_ble_eq_true rfl) (e_kw fun M1 hq => ?_) e_kwx
  obtain ⟨k1, k2, k3, k4, k5, k6, k7, -⟩ := hq
  refine g_run 3 5 rfl ?_
  refine g_callS 8 rfl cs_RL_103 (l_in hS (0) (4) (by omega) (by omega)) rfl rfl (by decide) (by omega) (by omega) (Nat.le_of_ble_eq_true rfl) (e_kq fun y1 hy1 => ?_) e_kqx
  refine g_run 9 6 rfl ?_
  exact bn_0 hS (2 + y1) (by omega) ⟨Nat.le_refl _, ⟨by omega, ⟨Hok_mono Hok_0 (by omega), HJ_0⟩, ⟨Hok_mono Hok_0 (by omega), HJ_0⟩, fun _ _ => ⟨Hok_mono Hok_0 (by omega), HJ_0⟩, by omega, by omega⟩, H0, -1, -1, 369, 16, fun _ => 0, fun _ => 0, 0, (0, fun _ => 0), k1, k2, k3, k4, k5, k6, k7, Or.inl rfl, fun _ _ => by show -3000 ≤ (0 : Int) ∧ (0 : Int) ≤ 3000; decide, Or.inl rfl, fun j hj => absurd hj (by omega)⟩
end BN
