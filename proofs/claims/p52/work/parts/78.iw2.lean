/-! the law's isWell, the rest (wip/p52/gen/c_iw2.py prints this part) -/
section IX
variable {r0 : Option Nat} {Γ : Cx} {M : Mem} {n : Nat} {B : Int} {σ ρ : HS} {r : Nat → HS} {f c5 : Nat} {sv ep fp : Int}
theorem iw_A {Q : Rv → Mem → Nat → Prop} (hx : XO M 100 sv ep fp) (hH : HM M 101 σ) (hr : Hok B σ) (k : Nat) (hk : (k : Int) < σ.sc 0) (s1 s2 st se : Int) (y6 y7 y8 y9 : Option aV) (hend : G (e_L r0) Γ mL_isWell 8 4 30 Q 158 [some (vR 100), some (vI (s1 + (if (σ.lk k).op = 0 then 1 else 0))), some (vI (s2 + (if hOven σ (k : Int) then 1 else 0))), some (vI (k : Int)), some (vI st), some (vI se), y6, y7, y8, y9] [] M n 0 0) : G (e_L r0) Γ mL_isWell 8 4 30 Q 126 [some (vR 100), some (vI s1), some (vI s2), some (vI (k : Int)), some (vI st), some (vI se), y6, y7, y8, y9] [] M n 0 0 := by
  have q6 := hr.2.1
  have hL := hr.2.2.2.2 k (by omega)
  have hcr := hL.2.1
  have hop := hL.1
  have T2 : ∀ b : Int, b = (if hOven σ (k : Int) then 1 else 0) → G (e_L r0) Γ mL_isWell 8 4 30 Q 156 [some (vR 100), some (vI (s1 + (if (σ.lk k).op = 0 then 1 else 0))), some (vI s2), some (vI (k : Int)), some (vI st), some (vI se), y6, y7, y8, y9] [vI b, vI s2] M n 0 0 := fun b hb => by
    subst hb
    refine g_run 88 2 rfl ?_
    exact hend
  have T1 : ∀ b : Int, b = (if (σ.lk k).op = 0 then 1 else 0) → G (e_L r0) Γ mL_isWell 8 4 30 Q 140 [some (vR 100), some (vI s1), some (vI s2), some (vI (k : Int)), some (vI st), some (vI se), y6, y7, y8, y9] [vI b, vI s1] M n 0 0 := fun b hb => by
    subst hb
    refine g_run 78 5 rfl ?_
    refine g_callV 83 rfl cv_RL_202 hx (q_isBaking hx hH hr k hk) rfl rfl (by decide) (by omega) (by omega) (Nat.le_of_ble_eq_true rfl) (e_kr ?_) e_kx
    refine g_if_eq 84 155 rfl rfl b_r (fun c148 => ?_) (fun c148 => ?_)
    · refine g_run 87 1 rfl ?_
      exact T2 0 (if_neg (b_0.mp c148)).symm
    · refine g_run 85 2 rfl ?_
      exact T2 1 (if_pos (b_1.mp c148)).symm
  refine g_run 70 3 rfl ?_
  refine g_callV 73 rfl cv_RL_199 hx (q_isOpen hx hH hr k hk) rfl rfl (by decide) (by omega) (by omega) (Nat.le_of_ble_eq_true rfl) (e_kr ?_) e_kx
  refine g_if_eq 74 139 rfl rfl (by omega) (fun c132 => ?_) (fun c132 => ?_)
  · refine g_run 77 1 rfl ?_
    exact T1 1 (if_pos c132).symm
  · refine g_run 75 2 rfl ?_
    exact T1 0 (if_neg c132).symm
theorem iw_B {Q : Rv → Mem → Nat → Prop} (hx : XO M 100 sv ep fp) (hH : HM M 101 σ) (hr : Hok B σ) (k : Nat) (hk : (k : Int) < σ.sc 0) (s1 s2 st se : Int) (y6 y7 y8 y9 : Option aV) (hend : G (e_L r0) Γ mL_isWell 8 4 30 Q 214 [some (vR 100), some (vI s1), some (vI s2), some (vI (k : Int)), some (vI st), some (vI se), y6, y7, y8, y9] [] M n 0 0) : G (e_L r0) Γ mL_isWell 8 4 30 Q 158 [some (vR 100), some (vI s1), some (vI s2), some (vI (k : Int)), some (vI st), some (vI se), y6, y7, y8, y9] [] M n 0 0 := by
  have q6 := hr.2.1
  have hL := hr.2.2.2.2 k (by omega)
  have hcr := hL.2.1
  have hop := hL.1
  refine g_run 90 2 rfl ?_
  refine g_callV 92 rfl cv_RL_196 hx (q_crumbs hx hH hr k hk) rfl rfl (by decide) (by omega) (by omega) (Nat.le_of_ble_eq_true rfl) (e_kr ?_) e_kx
  refine g_if_lt 93 323 rfl rfl (by omega) (fun c => absurd c (by omega)) (fun _ => ?_)
  refine g_run 94 2 rfl ?_
  refine g_callV 96 rfl cv_RL_196 hx (q_crumbs hx hH hr k hk) rfl rfl (by decide) (by omega) (by omega) (Nat.le_of_ble_eq_true rfl) (e_kr ?_) e_kx
  refine g_run 97 1 rfl ?_
  refine g_icmp_gt 98 323 rfl rfl (by omega) (by omega) (fun c => absurd c (by omega)) (fun _ => ?_)
  refine g_run 99 2 rfl ?_
  refine g_callV 101 rfl cv_RL_226 hx (q_play hx hH hr k hk) rfl rfl (by decide) (by omega) (by omega) (Nat.le_of_ble_eq_true rfl) (e_kr ?_) e_kx
  refine g_run 102 2 rfl ?_
  refine g_callV 104 rfl cv_RL_196 hx (q_crumbs hx hH hr k hk) rfl rfl (by decide) (by omega) (by omega) (Nat.le_of_ble_eq_true rfl) (e_kr ?_) e_kx
  refine g_run 105 1 rfl ?_
  refine g_idiv 106 rfl (by omega) (by omega) ?_
  refine g_icmp_ne 107 323 rfl rfl (by omega) (by omega) (fun c => absurd rfl c) (fun _ => ?_)
  refine g_run 108 2 rfl ?_
  refine g_callV 110 rfl cv_RL_232 hx (q_isBroken hx hH hr k hk) rfl rfl (by decide) (by omega) (by omega) (Nat.le_of_ble_eq_true rfl) (e_kr ?_) e_kx
  refine g_run 111 2 rfl ?_
  refine g_callV 113 rfl cv_RL_196 hx (q_crumbs hx hH hr k hk) rfl rfl (by decide) (by omega) (by omega) (Nat.le_of_ble_eq_true rfl) (e_kr ?_) e_kx
  refine g_run 114 1 rfl ?_
  refine g_icmp_ne 115 210 rfl rfl (by omega) (by omega) (fun c203 => ?_) (fun c203 => ?_)
  · rw [if_neg c203]
    refine g_run 118 1 rfl ?_
    refine g_icmp_ne 119 323 rfl rfl (by omega) (by omega) (fun c => absurd rfl c) (fun _ => ?_)
    exact hend
  · rw [if_pos c203]
    refine g_run 116 2 rfl ?_
    refine g_icmp_ne 119 323 rfl rfl (by omega) (by omega) (fun c => absurd rfl c) (fun _ => ?_)
    exact hend
theorem iw_C {Q : Rv → Mem → Nat → Prop} (hx : XO M 100 sv ep fp) (hH : HM M 101 σ) (hr : Hok B σ) (k : Nat) (hk : (k : Int) < σ.sc 0) (s1 s2 st se : Int) (y6 y7 y8 y9 : Option aV) (hj : HJ σ) (hend : G (e_L r0) Γ mL_isWell 8 4 30 Q 246 [some (vR 100), some (vI s1), some (vI s2), some (vI (k : Int)), some (vI st), some (vI se), y6, y7, y8, y9] [] M n 0 0) : G (e_L r0) Γ mL_isWell 8 4 30 Q 214 [some (vR 100), some (vI s1), some (vI s2), some (vI (k : Int)), some (vI st), some (vI se), y6, y7, y8, y9] [] M n 0 0 := by
  have q6 := hr.2.1
  have hL := hr.2.2.2.2 k (by omega)
  have hcr := hL.2.1
  have hop := hL.1
  have hbk := hj.2.1 k (by omega)
  have hov := hj.1.2.2.2.1
  have T : G (e_L r0) Γ mL_isWell 8 4 30 Q 230 [some (vR 100), some (vI s1), some (vI s2), some (vI (k : Int)), some (vI st), some (vI se), y6, y7, y8, y9] [] M n 0 0 := by
    refine g_run 128 2 rfl ?_
    refine g_callV 130 rfl cv_RL_202 hx (q_isBaking hx hH hr k hk) rfl rfl (by decide) (by omega) (by omega) (Nat.le_of_ble_eq_true rfl) (e_kr ?_) e_kx
    refine g_if_eq 131 246 rfl rfl b_r (fun _ => hend) (fun c235 => ?_)
    have c := b_1.mp c235
    have h1 : (σ.lk k).op = 1 := by
      rcases c with c | c
      · have q := hov 0 (by decide) (by omega)
        rw [c, Int.toNat_natCast] at q
        exact q
      · have q := hov 1 (by decide) (by omega)
        rw [c, Int.toNat_natCast] at q
        exact q
    refine g_run 132 2 rfl ?_
    refine g_callV 134 rfl cv_RL_199 hx (q_isOpen hx hH hr k hk) rfl rfl (by decide) (by omega) (by omega) (Nat.le_of_ble_eq_true rfl) (e_kr ?_) e_kx
    refine g_if_eq 135 323 rfl rfl (by omega) (fun c => absurd c (by omega)) (fun _ => hend)
  refine g_run 120 2 rfl ?_
  refine g_callV 122 rfl cv_RL_232 hx (q_isBroken hx hH hr k hk) rfl rfl (by decide) (by omega) (by omega) (Nat.le_of_ble_eq_true rfl) (e_kr ?_) e_kx
  refine g_if_eq 123 230 rfl rfl b_r (fun _ => T) (fun c219 => ?_)
  have h1 := hbk (b_1.mp c219)
  refine g_run 124 2 rfl ?_
  refine g_callV 126 rfl cv_RL_199 hx (q_isOpen hx hH hr k hk) rfl rfl (by decide) (by omega) (by omega) (Nat.le_of_ble_eq_true rfl) (e_kr ?_) e_kx
  refine g_if_eq 127 323 rfl rfl (by omega) (fun c => absurd c (by omega)) (fun _ => T)
theorem iw_E {Q : Rv → Mem → Nat → Prop} (hx : XO M 100 sv ep fp) (hH : HM M 101 σ) (hr : Hok B σ) (k : Nat) (hk : (k : Int) < σ.sc 0) (s1 s2 : Int) (y6 y7 y8 y9 : Option aV) (hend : G (e_L r0) Γ mL_isWell 8 4 30 Q 325 [some (vR 100), some (vI s1), some (vI s2), some (vI (k : Int)), some (vI (p_stepN (σ.lk k).dl (σ.lk k).cb ((σ.lk k).cr / 5) 3)), some (vI (p_set (2 * ((σ.lk k).cr / 5) + 1) 3)), y6, y7, y8, y9] [] M n 0 0) : G (e_L r0) Γ mL_isWell 8 4 30 Q 296 [some (vR 100), some (vI s1), some (vI s2), some (vI (k : Int)), some (vI (p_stepN (σ.lk k).dl (σ.lk k).cb ((σ.lk k).cr / 5) 3)), some (vI (p_set (2 * ((σ.lk k).cr / 5) + 1) 3)), y6, y7, y8, y9] [] M n 0 0 := by
  have q6 := hr.2.1
  have hL := hr.2.2.2.2 k (by omega)
  have hcr := hL.2.1
  have hop := hL.1
  have hfs := fit_steps hL
  have hst := p_stepN_rng (σ.lk k).dl (σ.lk k).cb ((σ.lk k).cr / 5) (by omega) 3
  have hfi := p_fitN_rng (σ.lk k).dl (σ.lk k).cb ((σ.lk k).cr / 5) 3
  have T : ∀ b : Int, b = (if p_fitN (σ.lk k).dl (σ.lk k).cb ((σ.lk k).cr / 5) 3 = 3 then 1 else 0) → G (e_L r0) Γ mL_isWell 8 4 30 Q 306 [some (vR 100), some (vI s1), some (vI s2), some (vI (k : Int)), some (vI (p_stepN (σ.lk k).dl (σ.lk k).cb ((σ.lk k).cr / 5) 3)), some (vI (p_set (2 * ((σ.lk k).cr / 5) + 1) 3)), y6, y7, y8, y9] [vI b] M n 0 0 := fun b hb => by
    subst hb
    refine g_run 168 2 rfl ?_
    refine g_callV 170 rfl cv_RL_244 hx (q_fittingDials hx hH hr k hk) rfl rfl (by decide) (by omega) (by omega) (Nat.le_of_ble_eq_true rfl) (e_kr ?_) e_kx
    refine g_run 171 1 rfl ?_
    refine g_icmp_ne 172 319 rfl rfl (by show -2147483648 ≤ p_fitN (σ.lk k).dl (σ.lk k).cb ((σ.lk k).cr / 5) 3 ∧ p_fitN (σ.lk k).dl (σ.lk k).cb ((σ.lk k).cr / 5) 3 ≤ 2147483647; omega) (by omega) (fun c312 => ?_) (fun c312 => ?_)
    · rw [if_neg (show ¬ p_fitN (σ.lk k).dl (σ.lk k).cb ((σ.lk k).cr / 5) 3 = 3 from c312)]
      refine g_run 175 1 rfl ?_
      refine g_icmp_same 176 325 rfl rfl ?_
      exact hend
    · rw [if_pos (show p_fitN (σ.lk k).dl (σ.lk k).cb ((σ.lk k).cr / 5) 3 = 3 from c312)]
      refine g_run 173 2 rfl ?_
      refine g_icmp_same 176 325 rfl rfl ?_
      exact hend
  refine g_run 163 1 rfl ?_
  refine g_if_ne 164 305 rfl rfl (by omega) (fun c298 => ?_) (fun c298 => ?_)
  · refine g_run 167 1 rfl ?_
    exact T 0 (if_neg (fun e => c298 (hfs.mpr e))).symm
  · refine g_run 165 2 rfl ?_
    exact T 1 (if_pos (hfs.mp c298)).symm
theorem iw_D {Q : Rv → Mem → Nat → Prop} (hx : XO M 100 sv ep fp) (hH : HM M 101 σ) (hr : Hok B σ) (k : Nat) (hk : (k : Int) < σ.sc 0) (s1 s2 : Int) (y6 y7 y8 y9 : Option aV) (τ : HS) (hT : HM M 125 τ) (hend : ∀ M1, SP 100 M M1 → G (e_L r0) Γ mL_isWell 8 4 30 Q 325 [some (vR 100), some (vI s1), some (vI s2), some (vI (k : Int)), some (vI (p_stepN (σ.lk k).dl (σ.lk k).cb ((σ.lk k).cr / 5) 3)), some (vI (p_set (2 * ((σ.lk k).cr / 5) + 1) 3)), y6, y7, y8, y9] [] M1 n 0 0) : G (e_L r0) Γ mL_isWell 8 4 30 Q 246 [some (vR 100), some (vI s1), some (vI s2), some (vI (k : Int)), some (vI (p_stepN (σ.lk k).dl (σ.lk k).cb ((σ.lk k).cr / 5) 3)), some (vI (p_set (2 * ((σ.lk k).cr / 5) + 1) 3)), y6, y7, y8, y9] [] M n 0 0 := by
  have q6 := hr.2.1
  have hL := hr.2.2.2.2 k (by omega)
  have hcr := hL.2.1
  have hop := hL.1
  have hst := p_stepN_rng (σ.lk k).dl (σ.lk k).cb ((σ.lk k).cr / 5) (by omega) 3
  have hfi := p_fitN_rng (σ.lk k).dl (σ.lk k).cb ((σ.lk k).cr / 5) 3
  have hmi := p_mis_eq (σ.lk k).dl (σ.lk k).cb ((σ.lk k).cr / 5) 3
  have hsr : -2147483648 ≤ lSteps (σ.lk k) ∧ lSteps (σ.lk k) ≤ 2147483647 := by
    show -2147483648 ≤ p_stepN (σ.lk k).dl (σ.lk k).cb ((σ.lk k).cr / 5) 3 ∧ p_stepN (σ.lk k).dl (σ.lk k).cb ((σ.lk k).cr / 5) 3 ≤ 2147483647
    omega
  have hfr : -2147483648 ≤ lFit (σ.lk k) ∧ lFit (σ.lk k) ≤ 2147483647 := by
    show -2147483648 ≤ p_fitN (σ.lk k).dl (σ.lk k).cb ((σ.lk k).cr / 5) 3 ∧ p_fitN (σ.lk k).dl (σ.lk k).cb ((σ.lk k).cr / 5) 3 ≤ 2147483647
    omega
  refine g_run 136 2 rfl ?_
  refine g_callV 138 rfl cv_RL_235 hx (q_stepsToOpen hx hH hr k hk) rfl rfl (by decide) (by omega) (by omega) (Nat.le_of_ble_eq_true rfl) (e_kr ?_) e_kx
  refine g_run 139 1 rfl ?_
  refine g_icmp_ne 140 323 rfl rfl hsr (by omega) (fun c => absurd rfl c) (fun _ => ?_)
  refine g_run 141 2 rfl ?_
  refine g_callV 143 rfl cv_RL_238 hx (q_steps2 hx hH hr hT k hk) rfl rfl (by decide) (by omega) (by omega) (Nat.le_of_ble_eq_true rfl) (e_kw fun M1 hS => ?_) e_kwx
  have hx1 : XO M1 100 sv ep fp := SPT_x (Or.inr hS) hx
  have hH1 : HM M1 101 σ := SPT_h (Or.inr hS) hH
  refine g_run 144 1 rfl ?_
  refine g_icmp_ne 145 323 rfl rfl hsr (by omega) (fun c => absurd rfl c) (fun _ => ?_)
  refine g_run 146 2 rfl ?_
  refine g_callV 148 rfl cv_RL_241 hx1 (q_openingSettings hx1 hH1 hr k hk) rfl rfl (by decide) (by omega) (by omega) (Nat.le_of_ble_eq_true rfl) (e_kr ?_) e_kx
  rw [← p_set_3]
  refine g_run 149 1 rfl ?_
  have hse : -2147483648 ≤ p_set (2 * ((σ.lk k).cr / 5) + 1) 3 ∧ p_set (2 * ((σ.lk k).cr / 5) + 1) 3 ≤ 2147483647 := by
    rw [p_set_3]
    have h5 : (σ.lk k).cr / 5 = 0 ∨ (σ.lk k).cr / 5 = 1 ∨ (σ.lk k).cr / 5 = 2 ∨ (σ.lk k).cr / 5 = 3 ∨ (σ.lk k).cr / 5 = 4 := by omega
    rcases h5 with e | e | e | e | e <;> rw [e] <;> decide
  refine g_icmp_ne 150 323 rfl rfl hse hse (fun c => absurd rfl c) (fun _ => ?_)
  refine g_run 151 2 rfl ?_
  refine g_callV 153 rfl cv_RL_244 hx1 (q_fittingDials hx1 hH1 hr k hk) rfl rfl (by decide) (by omega) (by omega) (Nat.le_of_ble_eq_true rfl) (e_kr ?_) e_kx
  refine g_run 154 5 rfl ?_
  refine g_callV 159 rfl cv_RL_226 hx1 (q_play hx1 hH1 hr k hk) rfl rfl (by decide) (by omega) (by omega) (Nat.le_of_ble_eq_true rfl) (e_kr ?_) e_kx
  refine g_callS 160 rfl cs_RL_247 (l_misfits hx1 hH1 hr k hk ((σ.lk k).cr / 5) (by omega)) rfl rfl (by decide) (by omega) (by omega) (Nat.le_of_ble_eq_true rfl) (e_kr ?_) e_kx
  refine g_run 161 1 rfl ?_
  refine g_icmp_ne 162 323 rfl rfl hfr (by omega) (fun c => absurd (show p_fitN (σ.lk k).dl (σ.lk k).cb ((σ.lk k).cr / 5) 3 = 3 - p_mis (σ.lk k).dl (σ.lk k).cb ((σ.lk k).cr / 5) 3 by omega) c) (fun _ => ?_)
  exact iw_E hx1 hH1 hr k hk s1 s2 y6 y7 y8 y9 (hend M1 hS)
end IX
