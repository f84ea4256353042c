/-! the law's isWell (wip/p52/gen/c_iw.py prints this part) -/
section QC
variable {r0 : Option Nat} {Γ : Cx} {M : Mem} {n : Nat} {B : Int} {σ τ : HS} {sv ep fp : Int}
theorem q_isOpen (hx : XO M 100 sv ep fp) (hH : HM M 101 σ) (hr : Hok B σ) (k : Nat) (hk : (k : Int) < σ.sc 0) : Ct (e_L r0) Γ mX7_isOpen 2 0 0 [vR 100, vI (k : Int)] M n (e_rt (.inl (some (vI ((σ.lk k).op)))) M n) := x_isOpen hx hH hr (k : Int) (by have := hr.2.1; omega) ⟨by omega, hk⟩
theorem q_isBroken (hx : XO M 100 sv ep fp) (hH : HM M 101 σ) (hr : Hok B σ) (k : Nat) (hk : (k : Int) < σ.sc 0) : Ct (e_L r0) Γ mX7_isBroken 2 0 0 [vR 100, vI (k : Int)] M n (e_rt (.inl (some (vI (if (σ.lk k).cr = 20 then 1 else 0)))) M n) := x_isBroken hx hH hr (k : Int) (by have := hr.2.1; omega) ⟨by omega, hk⟩
theorem q_crumbs (hx : XO M 100 sv ep fp) (hH : HM M 101 σ) (hr : Hok B σ) (k : Nat) (hk : (k : Int) < σ.sc 0) : Ct (e_L r0) Γ mX7_crumbs 2 0 0 [vR 100, vI (k : Int)] M n (e_rt (.inl (some (vI ((σ.lk k).cr)))) M n) := x_crumbs hx hH hr (k : Int) (by have := hr.2.1; omega) ⟨by omega, hk⟩
theorem q_play (hx : XO M 100 sv ep fp) (hH : HM M 101 σ) (hr : Hok B σ) (k : Nat) (hk : (k : Int) < σ.sc 0) : Ct (e_L r0) Γ mX7_play 2 0 0 [vR 100, vI (k : Int)] M n (e_rt (.inl (some (vI ((σ.lk k).cr / 5)))) M n) := x_play hx hH hr (k : Int) (by have := hr.2.1; omega) ⟨by omega, hk⟩
theorem q_fittingDials (hx : XO M 100 sv ep fp) (hH : HM M 101 σ) (hr : Hok B σ) (k : Nat) (hk : (k : Int) < σ.sc 0) : Ct (e_L r0) Γ mX7_fittingDials 2 0 0 [vR 100, vI (k : Int)] M n (e_rt (.inl (some (vI (lFit (σ.lk k))))) M n) := x_fittingDials hx hH hr (k : Int) (by have := hr.2.1; omega) ⟨by omega, hk⟩
theorem q_stepsToOpen (hx : XO M 100 sv ep fp) (hH : HM M 101 σ) (hr : Hok B σ) (k : Nat) (hk : (k : Int) < σ.sc 0) : Ct (e_L r0) Γ mX7_stepsToOpen 2 0 0 [vR 100, vI (k : Int)] M n (e_rt (.inl (some (vI (lSteps (σ.lk k))))) M n) := x_stepsToOpen hx hH hr (k : Int) (by have := hr.2.1; omega) ⟨by omega, hk⟩
theorem q_openingSettings (hx : XO M 100 sv ep fp) (hH : HM M 101 σ) (hr : Hok B σ) (k : Nat) (hk : (k : Int) < σ.sc 0) : Ct (e_L r0) Γ mX7_openingSettings 2 0 0 [vR 100, vI (k : Int)] M n (e_rt (.inl (some (vI ((2 * ((σ.lk k).cr / 5) + 1) * (2 * ((σ.lk k).cr / 5) + 1) * (2 * ((σ.lk k).cr / 5) + 1))))) M n) := x_openingSettings hx hH hr (k : Int) (by have := hr.2.1; omega) ⟨by omega, hk⟩
theorem q_isBaking (hx : XO M 100 sv ep fp) (hH : HM M 101 σ) (hr : Hok B σ) (k : Nat) (hk : (k : Int) < σ.sc 0) : Ct (e_L r0) Γ mX7_isBaking 2 0 0 [vR 100, vI (k : Int)] M n (e_rt (.inl (some (vI (if hOven σ (k : Int) then 1 else 0)))) M n) := x_isBaking hx hH hr (k : Int) (by have := hr.2.1; omega) ⟨by omega, hk⟩
theorem q_steps2 (hx : XO M 100 sv ep fp) (hH : HM M 101 σ) (hr : Hok B σ) (hT : HM M 125 τ) (k : Nat) (hk : (k : Int) < σ.sc 0) : Ct (e_L r0) Γ mX7_stepsToOpenByTurning 3 0 0 [vR 100, vI (k : Int)] M n (e_wr (some (vI (lSteps (σ.lk k)))) n fun M' => SP 100 M M') := x_stepsToOpen2 hx hH hr hT (k : Int) (by have := hr.2.1; omega) ⟨by omega, hk⟩
theorem q_dial (hx : XO M 100 sv ep fp) (hH : HM M 101 σ) (hr : Hok B σ) (k d : Nat) (hk : (k : Int) < σ.sc 0) (hd : d < 3) : Ct (e_L r0) Γ mX7_dial 2 0 0 [vR 100, vI (k : Int), vI (d : Int)] M n (e_rt (.inl (some (vI ((σ.lk k).dl d)))) M n) := x_dial hx hH hr (k : Int) (by have := hr.2.1; omega) (d : Int) (by omega) ⟨by omega, hk⟩ (by omega)
theorem q_combination (hx : XO M 100 sv ep fp) (hH : HM M 101 σ) (hr : Hok B σ) (k d : Nat) (hk : (k : Int) < σ.sc 0) (hd : d < 3) : Ct (e_L r0) Γ mX7_combination 2 0 0 [vR 100, vI (k : Int), vI (d : Int)] M n (e_rt (.inl (some (vI ((σ.lk k).cb d)))) M n) := x_combination hx hH hr (k : Int) (by have := hr.2.1; omega) (d : Int) (by omega) ⟨by omega, hk⟩ (by omega)
theorem q_bakingHours (hx : XO M 100 sv ep fp) (hH : HM M 101 σ) (hr : Hok B σ) (o : Nat) (ho : o < 2) : Ct (e_L r0) Γ mX7_bakingHours 2 0 0 [vR 100, vI (o : Int)] M n (e_rt (.inl (some (vI (σ.oh o)))) M n) := x_bakingHours hx hH hr (o : Int) (by omega) (by omega)
/-- the spare house may have changed -/
abbrev SPT (M M' : Mem) : Prop := M' = M ∨ SP 100 M M'
theorem SPT_tr {M1 M2 : Mem} (h : SPT M M1) (h2 : SP 100 M1 M2) : SPT M M2 := by
  rcases h with rfl | h
  · exact Or.inr h2
  · exact Or.inr ⟨h2.1, e_fr_tr h.2 h2.2⟩
theorem SPT_x {M1 : Mem} (h : SPT M M1) (hx : XO M 100 sv ep fp) : XO M1 100 sv ep fp := by
  rcases h with rfl | h
  · exact hx
  · exact (h.2 100 (by omega)).trans hx
theorem SPT_h {M1 : Mem} (h : SPT M M1) (hH : HM M 101 σ) : HM M1 101 σ := by
  rcases h with rfl | h
  · exact hH
  · exact HM_fr h.2 (by omega) hH
theorem SPT_t {M1 : Mem} (h : SPT M M1) (hT : HM M 125 τ) : ∃ τ', HM M1 125 τ' := by
  rcases h with rfl | h
  · exact ⟨τ, hT⟩
  · exact h.1
end QC
theorem bb {p : Prop} [Decidable p] {b : Int} (h : b = if p then 1 else 0) : 0 ≤ b ∧ b ≤ 1 := by rw [h]; split <;> omega
section IW
variable {r0 : Option Nat} {Γ : Cx} {M : Mem} {n : Nat} {B : Int} {σ ρ : HS} {r : Nat → HS} {f c5 : Nat} {sv ep fp : Int}
theorem iw_pos {Q : Rv → Mem → Nat → Prop} (hx : XO M 100 sv ep fp) (hH : HM M 101 σ) (hr : Hok B σ) (k d : Nat) (hk : (k : Int) < σ.sc 0) (hd : d < 3) (s1 s2 st se : Int) (hend : ∀ y8 y9, G (e_L r0) Γ mL_isWell 8 4 30 Q 113 [some (vR 100), some (vI s1), some (vI s2), some (vI (k : Int)), some (vI st), some (vI se), some (vI (d : Int)), some (vI (p_opn ((σ.lk k).cb d) ((σ.lk k).cr / 5) 10)), y8, y9] [] M n 0 0) (y9 : Option aV) : G (e_L r0) Γ mL_isWell 8 4 30 Q 57 [some (vR 100), some (vI s1), some (vI s2), some (vI (k : Int)), some (vI st), some (vI se), some (vI (d : Int)), some (vI 0), some (vI 0), y9] [] M n 0 0 := by
  have q6 := hr.2.1
  have hL := hr.2.2.2.2 k (by omega)
  have hc := (hL.2.2 d hd).2.2
  have hcr := hL.2.1
  refine e_down (P := fun p => ∀ y9, G (e_L r0) Γ mL_isWell 8 4 30 Q 57 [some (vR 100), some (vI s1), some (vI s2), some (vI (k : Int)), some (vI st), some (vI se), some (vI (d : Int)), some (vI (p_opn ((σ.lk k).cb d) ((σ.lk k).cr / 5) p)), some (vI (p : Int)), y9] [] M n 0 0) 10 ?_ 0 (by omega) y9
  intro p hp ih y9
  refine g_run 36 2 rfl ?_
  refine g_icmp_ge 38 113 rfl rfl (by omega) (by omega) (fun c61 => ?_) (fun c61 => ?_)
  · obtain rfl : p = 10 := by omega
    exact hend _ _
  · have ih9 := ih (by omega)
    refine g_run 39 4 rfl ?_
    refine g_callV 43 rfl cv_RL_126 hx (q_combination hx hH hr k d hk hd) rfl rfl (by decide) (by omega) (by omega) (Nat.le_of_ble_eq_true rfl) (e_kr ?_) e_kx
    refine g_run 44 1 rfl ?_
    refine g_abs 45 rfl ab_RL_215 (by omega) (Nat.le_of_ble_eq_true rfl) ?_
    have h9 : 0 ≤ (if 0 ≤ (p : Int) - (σ.lk k).cb d then (p : Int) - (σ.lk k).cb d else 0 - ((p : Int) - (σ.lk k).cb d)) ∧ (if 0 ≤ (p : Int) - (σ.lk k).cb d then (p : Int) - (σ.lk k).cb d else 0 - ((p : Int) - (σ.lk k).cb d)) ≤ 20 := by split <;> omega
    refine g_run 46 6 rfl ?_
    refine g_min 52 rfl cm_RL_220 (by omega) (by omega) (Nat.le_of_ble_eq_true rfl) ?_
    refine g_run 53 2 rfl ?_
    refine g_callV 55 rfl cv_RL_226 hx (q_play hx hH hr k hk) rfl rfl (by decide) (by omega) (by omega) (Nat.le_of_ble_eq_true rfl) (e_kr ?_) e_kx
    have h8 : -30 ≤ p_ab (p : Int) ((σ.lk k).cb d) ∧ p_ab (p : Int) ((σ.lk k).cb d) ≤ 30 := by unfold p_ab; (repeat' split) <;> omega
    refine g_icmp_gt 56 103 rfl rfl (by show -2147483648 ≤ p_ab (p : Int) ((σ.lk k).cb d) ∧ p_ab (p : Int) ((σ.lk k).cb d) ≤ 2147483647; omega) (by omega) (fun c96 => ?_) (fun c96 => ?_)
    · replace c96 : (σ.lk k).cr / 5 < p_ab (p : Int) ((σ.lk k).cb d) := c96
      rw [show p_opn ((σ.lk k).cb d) ((σ.lk k).cr / 5) (p + 1) = p_opn ((σ.lk k).cb d) ((σ.lk k).cr / 5) p + 0 from by rw [p_opn, if_neg (by omega)]] at ih9
      refine g_run 59 5 rfl ?_
      exact ih9 _
    · replace c96 : ¬ (σ.lk k).cr / 5 < p_ab (p : Int) ((σ.lk k).cb d) := c96
      rw [show p_opn ((σ.lk k).cb d) ((σ.lk k).cr / 5) (p + 1) = p_opn ((σ.lk k).cb d) ((σ.lk k).cr / 5) p + 1 from by rw [p_opn, if_pos (by omega)]] at ih9
      refine g_run 57 2 rfl ?_
      refine g_run 60 4 rfl ?_
      exact ih9 _
theorem iw_dial {Q : Rv → Mem → Nat → Prop} (hx : XO M 100 sv ep fp) (hH : HM M 101 σ) (hr : Hok B σ) (k : Nat) (hk : (k : Int) < σ.sc 0) (s1 s2 : Int) (hend : ∀ y6 y7 y8 y9, G (e_L r0) Γ mL_isWell 8 4 30 Q 126 [some (vR 100), some (vI s1), some (vI s2), some (vI (k : Int)), some (vI (p_stepN (σ.lk k).dl (σ.lk k).cb ((σ.lk k).cr / 5) 3)), some (vI (p_set (2 * ((σ.lk k).cr / 5) + 1) 3)), y6, y7, y8, y9] [] M n 0 0) (y7 y8 y9 : Option aV) : G (e_L r0) Γ mL_isWell 8 4 30 Q 23 [some (vR 100), some (vI s1), some (vI s2), some (vI (k : Int)), some (vI 0), some (vI 1), some (vI 0), y7, y8, y9] [] M n 0 0 := by
  have q6 := hr.2.1
  have hL := hr.2.2.2.2 k (by omega)
  have hcr := hL.2.1
  refine e_down (P := fun d => ∀ y7 y8 y9, G (e_L r0) Γ mL_isWell 8 4 30 Q 23 [some (vR 100), some (vI s1), some (vI s2), some (vI (k : Int)), some (vI (p_stepN (σ.lk k).dl (σ.lk k).cb ((σ.lk k).cr / 5) d)), some (vI (p_set (2 * ((σ.lk k).cr / 5) + 1) d)), some (vI (d : Int)), y7, y8, y9] [] M n 0 0) 3 ?_ 0 (by omega) y7 y8 y9
  intro d hd ih y7 y8 y9
  refine g_run 16 2 rfl ?_
  refine g_icmp_ge 18 126 rfl rfl (by omega) (by omega) (fun c26 => ?_) (fun c26 => ?_)
  · obtain rfl : d = 3 := by omega
    exact hend _ _ _ _
  · have ih9 := ih (by omega)
    have hq := p_dist_rng ((σ.lk k).cb d) ((σ.lk k).dl d)
    refine g_run 19 7 rfl ?_
    refine g_callS 26 rfl cs_RL_223 (l_away hx hH hr k d hk (by omega)) rfl rfl (by decide) (by omega) (by omega) (Nat.le_of_ble_eq_true rfl) (e_kr ?_) e_kx
    refine g_run 27 2 rfl ?_
    refine g_callV 29 rfl cv_RL_226 hx (q_play hx hH hr k hk) rfl rfl (by decide) (by omega) (by omega) (Nat.le_of_ble_eq_true rfl) (e_kr ?_) e_kx
    refine g_run 30 1 rfl ?_
    refine g_max 31 rfl cm_RL_229 (by omega) (by omega) (Nat.le_of_ble_eq_true rfl) ?_
    refine g_run 32 4 rfl ?_
    refine iw_pos hx hH hr k d hk (by omega) s1 s2 _ _ (fun y8 y9 => ?_) y9
    rw [p_opn_eq (hL.2.2 d (by omega)).2.2 (by omega)]
    refine g_run 64 6 rfl ?_
    exact ih9 _ _ _
end IW
