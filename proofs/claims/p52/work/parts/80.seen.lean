/-! the law's seen: a row that the house alone decides (wip/p52/gen/c_seen.py prints this part) -/
def sv0 (σ : HS) : Nat → Int := (va_up (va_up (va_up (va_up (va_up (va_up (va_up (va_up (fun _ => 0) 0 (σ.sc 2)) 1 (σ.sc 1)) 2 (σ.sc 0)) 3 (σ.sc 3)) 4 (σ.sc 4)) 5 (σ.sc 8)) 6 ((if 10 < σ.sc 3 then 10 else σ.sc 3))) 7 (nShut σ.lk (σ.sc 0).toNat))
def svD (σ : HS) (k : Nat) (g : Nat → Int) : Nat → Nat → Int
  | 0 => g
  | d + 1 => va_up (va_up (svD σ k g d) (10 + 10 * k + d) ((σ.lk k).dl d)) (10 + 10 * k + 3 + d) ((σ.lk k).cb d)
def svK (σ : HS) : Nat → Nat → Int
  | 0 => sv0 σ
  | k + 1 => va_up (va_up (svD σ k (svK σ k) 3) (10 + 10 * k + 6) ((σ.lk k).cr)) (10 + 10 * k + 7) ((if (σ.lk k).op = 0 then 0 else 1) + (if hOven σ (k : Int) then 2 else 0))
def svO (σ : HS) : Nat → Nat → Int
  | 0 => svK σ (σ.sc 0).toNat
  | o + 1 => va_up (va_up (svO σ o) (75 + 2 * o) (if σ.od o = -1 then -900002 else σ.od o)) (76 + 2 * o) (σ.oh o)
def svT (σ : HS) : Nat → Nat → Int
  | 0 => svO σ 2
  | j + 1 => va_up (va_up (svT σ j) (80 + 2 * j) (σ.td j)) (81 + 2 * j) (if σ.ty j = 0 then 0 else 1)
def SV (σ : HS) : Nat → Int := svT σ (if 10 < σ.sc 3 then 10 else σ.sc 3).toNat
/-- the row lies at n, all older cells are as they were -/
def SI (M : Mem) (n : Nat) (g : Nat → Int) (M1 : Mem) : Prop := M1 n = cI 0 110 g ∧ ∀ k, k < n → M1 k = M k
abbrev SEq (M : Mem) (n : Nat) (σ : HS) : Rv → Mem → Nat → Prop := fun r' M' n' => r' = .inl (some (vR n)) ∧ n' = n + 1 ∧ SI M n (SV σ) M'
section SE
variable {r0 : Option Nat} {Γ : Cx} {M M1 M2 : Mem} {n : Nat} {B : Int} {σ ρ : HS} {r : Nat → HS} {f c5 : Nat} {sv ep fp : Int} {g g' : Nat → Int}
theorem SI_up (h : SI M n g M1) (hM : M2 = va_up M1 n (cI 0 110 g')) : SI M n g' M2 := ⟨by rw [hM, va_up_self], fun k hk => by rw [hM, va_up_ne _ _ (by omega)]; exact h.2 k hk⟩
theorem SI_x (h : SI M n g M1) (hn : 373 ≤ n) (hx : XO M 100 sv ep fp) : XO M1 100 sv ep fp := (h.2 100 (by omega)).trans hx
theorem SI_h (h : SI M n g M1) (hn : 373 ≤ n) (hH : HM M 101 σ) : HM M1 101 σ := HM_e (fun k _ _ => h.2 k (by omega)) hH
theorem SI_Z (h : SI M n g M1) (hZ : PZ B M n σ ρ r f c5 sv) : PZ B M1 (n + 1) σ ρ r f c5 sv := PZ_fr hZ (fun k _ hk => h.2 k hk) (Nat.le_succ n)
theorem se_3 (h : PZ B M n σ ρ r f c5 sv) (hI : SI M n (svO σ 2) M1) (kc ks : Nat) (hkc : kc ≤ 3) (hks : ks ≤ 122) (y2 y3 y4 : Option aV) : G (e_L r0) Γ mL_seen 5 20 300 (SEq M n σ) 213 [some (vR 100), some (vR n), y2, y3, y4] [] M1 (n + 1) kc ks := by
  have hZ := h
  obtain ⟨hn, pb, τ, ep, fp, v, cap, t, nm, pl, s, a1, a2, a3, a4, a5, a6, a7, a8, a9⟩ := h
  have hr := pb.2.1.1
  have q6 := hr.2.1
  have q0 := hr.1 0 (by decide)
  have q3 := hr.1 3 (by decide)
  have qB := pb.1
  have hrm : 0 ≤ (if 10 < σ.sc 3 then 10 else σ.sc 3) ∧ (if 10 < σ.sc 3 then 10 else σ.sc 3) ≤ 10 := by split <;> omega
  refine g_run 139 2 rfl ?_
  refine e_down (P := fun j => ∀ (M1 : Mem) (kc ks : Nat), SI M n (svT σ j) M1 → kc ≤ 3 + j → ks ≤ 122 + 6 * j → G (e_L r0) Γ mL_seen 5 20 300 (SEq M n σ) 215 [some (vR 100), some (vR n), some (vI (j : Int)), y3, y4] [] M1 (n + 1) kc ks) (if 10 < σ.sc 3 then 10 else σ.sc 3).toNat ?_ 0 (by omega) M1 kc ks hI (by omega) (by omega)
  intro j hj ih M1 kc ks hI hkc hks
  have hx := SI_x hI hn a1
  have hH := SI_h hI hn a2
  refine g_run 141 2 rfl ?_
  refine g_callV 143 rfl cv_RL_190 hx (x_rememberedTries hx hH hr (by omega)) rfl rfl (by decide) (by omega) (by omega) (Nat.le_of_ble_eq_true rfl) (e_kr ?_) e_kx
  refine g_icmp_ge 144 263 rfl rfl (by omega) (by omega) (fun c => ?_) (fun c => ?_)
  · obtain rfl : j = (if 10 < σ.sc 3 then 10 else σ.sc 3).toNat := by omega
    refine g_run 171 1 rfl ?_
    exact g_aret 172 rfl rfl (by first | exact Or.inl ⟨_, rfl⟩ | exact Or.inr ⟨_, rfl⟩) ⟨rfl, rfl, hI⟩
  · have hj10 : j < 10 := by omega
    have qt := hr.2.2.2.1 j hj10
    refine g_run 145 8 rfl ?_
    refine g_callSX 153 rfl cs_RL_210 (l_triedDoor (SI_Z hI hZ) j (by omega)) rfl rfl (by decide) (by omega) (by omega) (Nat.le_of_ble_eq_true rfl) (e_kz fun z M2 n2 q => ?_) e_kzx
    obtain ⟨hz, e1, e2⟩ := q
    rw [e1, e2, hz]
    refine g_iast 154 (80 + 2 * j) rfl rfl (by decide) hI.1 (by omega) (by omega) (by decide) (fun M2 hM2 => ?_)
    have hI2 := SI_up hI hM2
    have hx2 := SI_x hI2 hn a1
    have hH2 := SI_h hI2 hn a2
    have T : ∀ b : Int, b = (if σ.ty j = 0 then 0 else 1) → G (e_L r0) Γ mL_seen 5 20 300 (SEq M n σ) 256 [some (vR 100), some (vR n), some (vI (j : Int)), y3, y4] [vI b, vI (81 + 2 * (j : Int)), vR n] M2 (n + 1) (kc + 1) (ks + 6) := fun b hb => by
      subst hb
      refine g_iast 168 (81 + 2 * j) rfl rfl (by decide) hI2.1 (by omega) (by omega) (by decide) (fun M3 hM3 => ?_)
      refine g_run 169 2 rfl ?_
      exact ih (by omega) M3 _ _ (SI_up hI2 hM3) (by omega) (by omega)
    refine g_run 155 8 rfl ?_
    refine g_callV 163 rfl cv_RL_212 hx2 (x_didOpen hx2 hH2 hr (by omega) (j : Int) (by omega) ⟨by omega, by omega⟩) rfl rfl (by decide) (by omega) (by omega) (Nat.le_of_ble_eq_true rfl) (e_kr ?_) e_kx
    refine g_if_eq 164 255 rfl rfl (by show -2147483648 ≤ σ.ty j ∧ σ.ty j ≤ 2147483647; omega) (fun c9 => ?_) (fun c9 => ?_)
    · refine g_run 167 1 rfl ?_
      exact T 0 (if_pos c9).symm
    · refine g_run 165 2 rfl ?_
      exact T 1 (if_neg c9).symm
theorem se_2 (h : PZ B M n σ ρ r f c5 sv) (hI : SI M n (svK σ (σ.sc 0).toNat) M1) (y2 y3 y4 : Option aV) : G (e_L r0) Γ mL_seen 5 20 300 (SEq M n σ) 174 [some (vR 100), some (vR n), y2, y3, y4] [] M1 (n + 1) 1 110 := by
  have hZ := h
  obtain ⟨hn, pb, τ, ep, fp, v, cap, t, nm, pl, s, a1, a2, a3, a4, a5, a6, a7, a8, a9⟩ := h
  have hr := pb.2.1.1
  have q6 := hr.2.1
  have q0 := hr.1 0 (by decide)
  have q3 := hr.1 3 (by decide)
  have qB := pb.1
  refine g_run 112 2 rfl ?_
  refine e_down (P := fun o => ∀ (M1 : Mem) (kc ks : Nat), SI M n (svO σ o) M1 → kc ≤ 1 + o → ks ≤ 110 + 6 * o → G (e_L r0) Γ mL_seen 5 20 300 (SEq M n σ) 176 [some (vR 100), some (vR n), some (vI (o : Int)), y3, y4] [] M1 (n + 1) kc ks) 2 ?_ 0 (by omega) M1 1 110 hI (by omega) (by omega)
  intro o ho ih M1 kc ks hI hkc hks
  have hx := SI_x hI hn a1
  have hH := SI_h hI hn a2
  refine g_run 114 2 rfl ?_
  refine g_icmp_ge 116 213 rfl rfl (by omega) (by omega) (fun c => ?_) (fun c => ?_)
  · obtain rfl : o = 2 := by omega
    exact se_3 hZ hI kc ks hkc hks _ _ _
  · have ho2 : o < 2 := by omega
    refine g_run 117 8 rfl ?_
    refine g_callSX 125 rfl cs_RL_205 (l_bakedDoor (SI_Z hI hZ) o ho2) rfl rfl (by decide) (by omega) (by omega) (Nat.le_of_ble_eq_true rfl) (e_kz fun z M2 n2 q => ?_) e_kzx
    obtain ⟨hz, e1, e2⟩ := q
    rw [e1, e2, hz]
    refine g_iast 126 (75 + 2 * o) rfl rfl (by decide) hI.1 (by omega) (by omega) (by decide) (fun M2 hM2 => ?_)
    have hI2 := SI_up hI hM2
    have hx2 := SI_x hI2 hn a1
    have hH2 := SI_h hI2 hn a2
    refine g_run 127 8 rfl ?_
    refine g_callV 135 rfl cv_RL_207 hx2 (q_bakingHours hx2 hH2 hr o ho2) rfl rfl (by decide) (by omega) (by omega) (Nat.le_of_ble_eq_true rfl) (e_kr ?_) e_kx
    refine g_iast 136 (76 + 2 * o) rfl rfl (by decide) hI2.1 (by omega) (by omega) (by decide) (fun M3 hM3 => ?_)
    refine g_run 137 2 rfl ?_
    exact ih (by omega) M3 _ _ (SI_up hI2 hM3) (by omega) (by omega)
theorem se_d (h : PZ B M n σ ρ r f c5 sv) (k : Nat) (hk : (k : Int) < σ.sc 0) (hI : SI M n g M1) (hend : ∀ (M2 : Mem) (y4 : Option aV), SI M n (svD σ k g 3) M2 → G (e_L r0) Γ mL_seen 5 20 300 (SEq M n σ) 124 [some (vR 100), some (vR n), some (vI (k : Int)), some (vI (10 + 10 * (k : Int))), y4] [] M2 (n + 1) 1 110) : G (e_L r0) Γ mL_seen 5 20 300 (SEq M n σ) 84 [some (vR 100), some (vR n), some (vI (k : Int)), some (vI (10 + 10 * (k : Int))), some (vI 0)] [] M1 (n + 1) 1 110 := by
  have hZ := h
  obtain ⟨hn, pb, τ, ep, fp, v, cap, t, nm, pl, s, a1, a2, a3, a4, a5, a6, a7, a8, a9⟩ := h
  have hr := pb.2.1.1
  have q6 := hr.2.1
  have q0 := hr.1 0 (by decide)
  have q3 := hr.1 3 (by decide)
  have qB := pb.1
  refine e_down (P := fun d => ∀ (M1 : Mem), SI M n (svD σ k g d) M1 → G (e_L r0) Γ mL_seen 5 20 300 (SEq M n σ) 84 [some (vR 100), some (vR n), some (vI (k : Int)), some (vI (10 + 10 * (k : Int))), some (vI (d : Int))] [] M1 (n + 1) 1 110) 3 ?_ 0 (by omega) M1 hI
  intro d hd ih M1 hI
  have hx := SI_x hI hn a1
  have hH := SI_h hI hn a2
  refine g_run 57 2 rfl ?_
  refine g_icmp_ge 59 124 rfl rfl (by omega) (by omega) (fun c => ?_) (fun c => ?_)
  · obtain rfl : d = 3 := by omega
    exact hend _ _ hI
  · refine g_run 60 7 rfl ?_
    refine g_callV 67 rfl cv_RL_129 hx (q_dial hx hH hr k d hk (by omega)) rfl rfl (by decide) (by omega) (by omega) (Nat.le_of_ble_eq_true rfl) (e_kr ?_) e_kx
    refine g_iast 68 (10 + 10 * k + d) rfl rfl (by decide) hI.1 (by omega) (by omega) (by decide) (fun M2 hM2 => ?_)
    have hI2 := SI_up hI hM2
    have hx2 := SI_x hI2 hn a1
    have hH2 := SI_h hI2 hn a2
    refine g_run 69 9 rfl ?_
    refine g_callV 78 rfl cv_RL_126 hx2 (q_combination hx2 hH2 hr k d hk (by omega)) rfl rfl (by decide) (by omega) (by omega) (Nat.le_of_ble_eq_true rfl) (e_kr ?_) e_kx
    refine g_iast 79 (10 + 10 * k + 3 + d) rfl rfl (by decide) hI2.1 (by omega) (by omega) (by decide) (fun M3 hM3 => ?_)
    refine g_run 80 2 rfl ?_
    exact ih (by omega) M3 (SI_up hI2 hM3)
theorem se_1 (h : PZ B M n σ ρ r f c5 sv) (hI : SI M n (sv0 σ) M1) (y2 y3 y4 : Option aV) : G (e_L r0) Γ mL_seen 5 20 300 (SEq M n σ) 63 [some (vR 100), some (vR n), y2, y3, y4] [] M1 (n + 1) 1 110 := by
  have hZ := h
  obtain ⟨hn, pb, τ, ep, fp, v, cap, t, nm, pl, s, a1, a2, a3, a4, a5, a6, a7, a8, a9⟩ := h
  have hr := pb.2.1.1
  have q6 := hr.2.1
  have q0 := hr.1 0 (by decide)
  have q3 := hr.1 3 (by decide)
  have qB := pb.1
  refine g_run 43 2 rfl ?_
  refine e_down (P := fun k => ∀ (M1 : Mem) (y3 y4 : Option aV), SI M n (svK σ k) M1 → G (e_L r0) Γ mL_seen 5 20 300 (SEq M n σ) 65 [some (vR 100), some (vR n), some (vI (k : Int)), y3, y4] [] M1 (n + 1) 1 110) (σ.sc 0).toNat ?_ 0 (by omega) M1 _ _ hI
  intro k hk ih M1 y3 y4 hI
  have hx := SI_x hI hn a1
  have hH := SI_h hI hn a2
  refine g_run 45 2 rfl ?_
  refine g_callV 47 rfl cv_RL_123 hx (x_doorCount hx hH hr) rfl rfl (by decide) (by omega) (by omega) (Nat.le_of_ble_eq_true rfl) (e_kr ?_) e_kx
  refine g_icmp_ge 48 174 rfl rfl (by omega) (by omega) (fun c => ?_) (fun c => ?_)
  · obtain rfl : k = (σ.sc 0).toNat := by omega
    exact se_2 hZ hI _ _ _
  · have hk9 : (k : Int) < σ.sc 0 := by omega
    have hop := (hr.2.2.2.2 k (by omega)).1
    refine g_run 49 8 rfl ?_
    refine se_d hZ k hk9 hI (fun M2 y4 hI2 => ?_)
    have hx2 := SI_x hI2 hn a1
    have hH2 := SI_h hI2 hn a2
    refine g_run 82 6 rfl ?_
    refine g_callV 88 rfl cv_RL_196 hx2 (q_crumbs hx2 hH2 hr k hk9) rfl rfl (by decide) (by omega) (by omega) (Nat.le_of_ble_eq_true rfl) (e_kr ?_) e_kx
    refine g_iast 89 (10 + 10 * k + 6) rfl rfl (by decide) hI2.1 (by omega) (by omega) (by decide) (fun M3 hM3 => ?_)
    have hI3 := SI_up hI2 hM3
    have hx3 := SI_x hI3 hn a1
    have hH3 := SI_h hI3 hn a2
    have T2 : ∀ b c : Int, b = (if (σ.lk k).op = 0 then 0 else 1) → c = (if hOven σ (k : Int) then 2 else 0) → G (e_L r0) Γ mL_seen 5 20 300 (SEq M n σ) 166 [some (vR 100), some (vR n), some (vI (k : Int)), some (vI (10 + 10 * (k : Int))), y4] [vI c, vI b, vI (10 + 10 * (k : Int) + 7), vR n] M3 (n + 1) 1 110 := fun b c hb hc => by
      subst hb hc
      refine g_run 108 1 rfl ?_
      refine g_iast 109 (10 + 10 * k + 7) rfl rfl (by decide) hI3.1 (by omega) (by omega) (by decide) (fun M4 hM4 => ?_)
      refine g_run 110 2 rfl ?_
      exact ih (by omega) M4 _ _ (SI_up hI3 hM4)
    have T1 : ∀ b : Int, b = (if (σ.lk k).op = 0 then 0 else 1) → G (e_L r0) Γ mL_seen 5 20 300 (SEq M n σ) 153 [some (vR 100), some (vR n), some (vI (k : Int)), some (vI (10 + 10 * (k : Int))), y4] [vI b, vI (10 + 10 * (k : Int) + 7), vR n] M3 (n + 1) 1 110 := fun b hb => by
      refine g_run 101 2 rfl ?_
      refine g_callV 103 rfl cv_RL_202 hx3 (q_isBaking hx3 hH3 hr k hk9) rfl rfl (by decide) (by omega) (by omega) (Nat.le_of_ble_eq_true rfl) (e_kr ?_) e_kx
      refine g_if_eq 104 165 rfl rfl b_r (fun c9 => ?_) (fun c9 => ?_)
      · refine g_run 107 1 rfl ?_
        exact T2 b 0 hb (if_neg (b_0.mp c9)).symm
      · refine g_run 105 2 rfl ?_
        exact T2 b 2 hb (if_pos (b_1.mp c9)).symm
    refine g_run 90 6 rfl ?_
    refine g_callV 96 rfl cv_RL_199 hx3 (q_isOpen hx3 hH3 hr k hk9) rfl rfl (by decide) (by omega) (by omega) (Nat.le_of_ble_eq_true rfl) (e_kr ?_) e_kx
    refine g_if_eq 97 152 rfl rfl (by omega) (fun c9 => ?_) (fun c9 => ?_)
    · refine g_run 100 1 rfl ?_
      exact T1 0 (if_pos c9).symm
    · refine g_run 98 2 rfl ?_
      exact T1 1 (if_neg c9).symm
theorem l_seen (h : PZ B M n σ ρ r f c5 sv) : Ct (e_L r0) Γ mL_seen 5 20 300 [vR 100] M n (SEq M n σ) := by
  have hZ := h
  obtain ⟨hn, pb, τ, ep, fp, v, cap, t, nm, pl, s, a1, a2, a3, a4, a5, a6, a7, a8, a9⟩ := h
  have hr := pb.2.1.1
  have q6 := hr.2.1
  have q0 := hr.1 0 (by decide)
  have q3 := hr.1 3 (by decide)
  have qB := pb.1
  refine g_start ok_L_seen rfl rfl ?_
  refine g_run 0 1 rfl ?_
  refine g_newaI (kd := 0) 1 110 rfl (by decide) rfl ac_I rfl (by omega) (by omega) (by omega) (fun M0 hM0 => ?_)
  have hI0 : SI M n (fun _ => 0) M0 := ⟨by rw [hM0, va_up_self], fun k hk => by rw [hM0, va_up_ne _ _ (by omega)]⟩
  refine g_run 2 1 rfl ?_
  have hx0 := SI_x hI0 hn a1
  have hH0 := SI_h hI0 hn a2
  refine g_run 3 3 rfl ?_
  refine g_callV 6 rfl cv_RL_175 hx0 (x_hour hx0 hH0 hr) rfl rfl (by decide) (by omega) (by omega) (Nat.le_of_ble_eq_true rfl) (e_kr ?_) e_kx
  refine g_iast 7 0 rfl rfl (by decide) hI0.1 rfl (by decide) (by decide) (fun M1 hM1 => ?_)
  have hI1 := SI_up hI0 hM1
  have hx1 := SI_x hI1 hn a1
  have hH1 := SI_h hI1 hn a2
  refine g_run 8 3 rfl ?_
  refine g_callV 11 rfl cv_RL_178 hx1 (x_damp hx1 hH1 hr) rfl rfl (by decide) (by omega) (by omega) (Nat.le_of_ble_eq_true rfl) (e_kr ?_) e_kx
  refine g_iast 12 1 rfl rfl (by decide) hI1.1 rfl (by decide) (by decide) (fun M2 hM2 => ?_)
  have hI2 := SI_up hI1 hM2
  have hx2 := SI_x hI2 hn a1
  have hH2 := SI_h hI2 hn a2
  refine g_run 13 3 rfl ?_
  refine g_callV 16 rfl cv_RL_123 hx2 (x_doorCount hx2 hH2 hr) rfl rfl (by decide) (by omega) (by omega) (Nat.le_of_ble_eq_true rfl) (e_kr ?_) e_kx
  refine g_iast 17 2 rfl rfl (by decide) hI2.1 rfl (by decide) (by decide) (fun M3 hM3 => ?_)
  have hI3 := SI_up hI2 hM3
  have hx3 := SI_x hI3 hn a1
  have hH3 := SI_h hI3 hn a2
  refine g_run 18 3 rfl ?_
  refine g_callV 21 rfl cv_RL_181 hx3 (x_tryTotal hx3 hH3 hr) rfl rfl (by decide) (by omega) (by omega) (Nat.le_of_ble_eq_true rfl) (e_kr ?_) e_kx
  refine g_iast 22 3 rfl rfl (by decide) hI3.1 rfl (by decide) (by decide) (fun M4 hM4 => ?_)
  have hI4 := SI_up hI3 hM4
  have hx4 := SI_x hI4 hn a1
  have hH4 := SI_h hI4 hn a2
  refine g_run 23 3 rfl ?_
  refine g_callV 26 rfl cv_RL_184 hx4 (x_openedTotal hx4 hH4 hr) rfl rfl (by decide) (by omega) (by omega) (Nat.le_of_ble_eq_true rfl) (e_kr ?_) e_kx
  refine g_iast 27 4 rfl rfl (by decide) hI4.1 rfl (by decide) (by decide) (fun M5 hM5 => ?_)
  have hI5 := SI_up hI4 hM5
  have hx5 := SI_x hI5 hn a1
  have hH5 := SI_h hI5 hn a2
  refine g_run 28 3 rfl ?_
  refine g_callV 31 rfl cv_RL_187 hx5 (x_bakedTotal hx5 hH5 hr) rfl rfl (by decide) (by omega) (by omega) (Nat.le_of_ble_eq_true rfl) (e_kr ?_) e_kx
  refine g_iast 32 5 rfl rfl (by decide) hI5.1 rfl (by decide) (by decide) (fun M6 hM6 => ?_)
  have hI6 := SI_up hI5 hM6
  have hx6 := SI_x hI6 hn a1
  have hH6 := SI_h hI6 hn a2
  refine g_run 33 3 rfl ?_
  refine g_callV 36 rfl cv_RL_190 hx6 (x_rememberedTries hx6 hH6 hr (by omega)) rfl rfl (by decide) (by omega) (by omega) (Nat.le_of_ble_eq_true rfl) (e_kr ?_) e_kx
  refine g_iast 37 6 rfl rfl (by decide) hI6.1 rfl (by decide) (by decide) (fun M7 hM7 => ?_)
  have hI7 := SI_up hI6 hM7
  have hx7 := SI_x hI7 hn a1
  have hH7 := SI_h hI7 hn a2
  refine g_run 38 3 rfl ?_
  refine g_callV 41 rfl cv_RL_193 hx7 (x_shutLocks hx7 hH7 hr) rfl rfl (by decide) (by omega) (by omega) (Nat.le_of_ble_eq_true rfl) (e_kr ?_) e_kx
  refine g_iast 42 7 rfl rfl (by decide) hI7.1 rfl (by decide) (by decide) (fun M8 hM8 => ?_)
  have hI8 := SI_up hI7 hM8
  exact se_1 hZ hI8 _ _ _
end SE
