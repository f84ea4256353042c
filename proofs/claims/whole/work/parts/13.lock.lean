/-! Lock: contracts (wip/whole/gen/c_lock.py prints this part) -/
/-- a lock at a: open, crumbs, dials, combination -/
def LM (M : Mem) (a : Nat) (op cr : Int) (dl cb : Nat → Int) : Prop := M a = cO 6 [vR (a + 1), vR (a + 2), vI op, vI cr] ∧ M (a + 1) = cI 0 3 dl ∧ M (a + 2) = cI 0 3 cb
def Lok (op cr : Int) (dl cb : Nat → Int) : Prop := (op = 0 ∨ op = 1) ∧ (0 ≤ cr ∧ cr ≤ 20) ∧ ∀ j, j < 3 → 0 ≤ dl j ∧ dl j ≤ 9 ∧ 0 ≤ cb j ∧ cb j ≤ 9
def p_up (c d : Int) : Int := (c - d + 10) % 10
def p_dist (c d : Int) : Int := if p_up c d < 10 - p_up c d then p_up c d else 10 - p_up c d
theorem p_dist_rng (c d : Int) : 0 ≤ p_dist c d ∧ p_dist c d ≤ 10 := by
  unfold p_dist p_up
  split <;> omega
def p_fitN (dl cb : Nat → Int) (pl : Int) : Nat → Int
  | 0 => 0
  | k + 1 => p_fitN dl cb pl k + (if p_dist (cb k) (dl k) ≤ pl then 1 else 0)
theorem p_fitN_rng (dl cb : Nat → Int) (pl : Int) : ∀ k : Nat, 0 ≤ p_fitN dl cb pl k ∧ p_fitN dl cb pl k ≤ k
  | 0 => by simp [p_fitN]
  | k + 1 => by
    have := p_fitN_rng dl cb pl k
    unfold p_fitN
    split <;> omega
def p_stepN (dl cb : Nat → Int) (pl : Int) : Nat → Int
  | 0 => 0
  | k + 1 => p_stepN dl cb pl k + (if 0 < p_dist (cb k) (dl k) - pl then p_dist (cb k) (dl k) - pl else 0)
section CL
variable {r0 : Option Nat} {Γ : Cx} {M : Mem} {n a : Nat} {op cr : Int} {dl cb : Nat → Int}
theorem c_hasMostCrumbs (h : LM M a op cr dl cb) (hr : 0 ≤ cr ∧ cr ≤ 20) : Ct (e_L r0) Γ mX4_hasMostCrumbs 0 0 0 [vR a] M n (e_rt (.inl (some (vI (if cr = 20 then 1 else 0)))) M n) := by
  refine g_start ok_X4_hasMostCrumbs rfl rfl ?_
  refine g_run 0 1 rfl ?_
  refine g_get 1 rfl fl_RX4_22 h.1 rfl ?_
  refine g_run 2 1 rfl ?_
  refine g_icmp_ne 3 13 rfl rfl (by omega) (by omega) (fun c6 => ?_) (fun c6 => ?_)
  · rw [if_neg c6]
    refine g_run 6 1 rfl ?_
    exact g_iret 7 rfl rfl (by first | exact trivial | exact Or.inl rfl | exact Or.inr rfl | (show _ ∨ _; omega)) ⟨rfl, rfl, rfl⟩
  · rw [if_pos c6]
    refine g_run 4 2 rfl ?_
    exact g_iret 7 rfl rfl (by first | exact trivial | exact Or.inl rfl | exact Or.inr rfl | (show _ ∨ _; omega)) ⟨rfl, rfl, rfl⟩
theorem c_playNow (h : LM M a op cr dl cb) (hr : 0 ≤ cr ∧ cr ≤ 20) : Ct (e_L r0) Γ mX4_playNow 0 0 0 [vR a] M n (e_rt (.inl (some (vI (cr / 5)))) M n) := by
  refine g_start ok_X4_playNow rfl rfl ?_
  refine g_run 0 1 rfl ?_
  refine g_get 1 rfl fl_RX4_22 h.1 rfl ?_
  refine g_run 2 1 rfl ?_
  refine g_idiv 3 rfl (by omega) (by omega) ?_
  exact g_iret 4 rfl rfl (by first | exact trivial | exact Or.inl rfl | exact Or.inr rfl | (show _ ∨ _; omega)) ⟨rfl, rfl, rfl⟩
theorem c_distanceOf (h : LM M a op cr dl cb) (hr : Lok op cr dl cb) (d : Nat) (hd : d < 3) : Ct (e_L r0) Γ mX4_distanceOf 0 0 0 [vR a, vI (d : Int)] M n (e_rt (.inl (some (vI (p_dist (cb d) (dl d))))) M n) := by
  have q := hr.2.2 d hd
  refine g_start ok_X4_distanceOf rfl rfl ?_
  refine g_run 0 1 rfl ?_
  refine g_get 1 rfl fl_RX4_15 h.1 rfl ?_
  refine g_run 2 1 rfl ?_
  refine g_iald 3 d rfl rfl h.2.2 rfl (by omega) (by decide) ?_
  refine g_run 4 1 rfl ?_
  refine g_get 5 rfl fl_RX4_9 h.1 rfl ?_
  refine g_run 6 1 rfl ?_
  refine g_iald 7 d rfl rfl h.2.1 rfl (by omega) (by decide) ?_
  refine g_run 8 4 rfl ?_
  refine g_irem 12 rfl (by omega) (by omega) ?_
  refine g_run 13 7 rfl ?_
  refine g_icmp_ge 20 34 rfl rfl (by omega) (by omega) (fun c27 => ?_) (fun c27 => ?_)
  · rw [show p_dist (cb d) (dl d) = 10 - (cb d - dl d + 10) % 10 from if_neg (by unfold p_up; omega)]
    refine g_run 23 1 rfl ?_
    exact g_iret 24 rfl rfl (by first | exact trivial | exact Or.inl rfl | exact Or.inr rfl | (show _ ∨ _; omega)) ⟨rfl, rfl, rfl⟩
  · rw [show p_dist (cb d) (dl d) = (cb d - dl d + 10) % 10 from if_pos (by unfold p_up; omega)]
    refine g_run 21 2 rfl ?_
    exact g_iret 24 rfl rfl (by first | exact trivial | exact Or.inl rfl | exact Or.inr rfl | (show _ ∨ _; omega)) ⟨rfl, rfl, rfl⟩
theorem c_countFitting (h : LM M a op cr dl cb) (hr : Lok op cr dl cb) : Ct (e_L r0) Γ mX4_countFitting 1 0 0 [vR a] M n (e_rt (.inl (some (vI (p_fitN dl cb (cr / 5) 3)))) M n) := by
  have q := hr.2.1
  refine g_start ok_X4_countFitting rfl rfl ?_
  refine g_run 0 3 rfl ?_
  refine g_callV 3 rfl cv_RX4_32 h.1 (c_playNow h hr.2.1) rfl rfl (by decide) (by omega) (by omega) (Nat.le_of_ble_eq_true rfl) (e_kr ?_) e_kx
  refine g_run 4 3 rfl ?_
  refine e_down (P := fun k => G (e_L r0) Γ mX4_countFitting 1 0 0 _ 9 [some (vR a), some (vI (p_fitN dl cb (cr / 5) k)), some (vI (cr / 5)), some (vI (k : Int))] [] M n 0 0) 3 ?_ 0 (by omega)
  intro k hk ih
  refine g_run 7 2 rfl ?_
  refine g_icmp_ge 9 32 rfl rfl (by omega) (by omega) (fun c11 => ?_) (fun c11 => ?_)
  · obtain rfl : k = 3 := by omega
    refine g_run 18 1 rfl ?_
    exact g_iret 19 rfl rfl (by first | exact trivial | exact Or.inl rfl | exact Or.inr rfl | (show _ ∨ _; omega)) ⟨rfl, rfl, rfl⟩
  · refine g_run 10 2 rfl ?_
    refine g_callV 12 rfl cv_RX4_36 h.1 (c_distanceOf h hr k (by omega)) rfl rfl (by decide) (by omega) (by omega) (Nat.le_of_ble_eq_true rfl) (e_kr ?_) e_kx
    have qd := p_dist_rng (cb k) (dl k)
    refine g_run 13 1 rfl ?_
    refine g_icmp_gt 14 26 rfl rfl (by omega) (by omega) (fun c20 => ?_) (fun c20 => ?_)
    · have ih9 := ih (by omega)
      rw [show p_fitN dl cb (cr / 5) (k + 1) = p_fitN dl cb (cr / 5) k from by rw [p_fitN, if_neg (by omega)]; omega] at ih9
      refine g_run 16 2 rfl ?_
      exact ih9
    · have ih9 := ih (by omega)
      rw [show p_fitN dl cb (cr / 5) (k + 1) = p_fitN dl cb (cr / 5) k + 1 from by rw [p_fitN, if_pos (by omega)]] at ih9
      refine g_run 15 3 rfl ?_
      exact ih9
theorem c_stepsByDistances (h : LM M a op cr dl cb) (hr : Lok op cr dl cb) : Ct (e_L r0) Γ mX4_stepsByDistances 1 0 0 [vR a] M n (e_rt (.inl (some (vI (p_stepN dl cb (cr / 5) 3)))) M n) := by
  have q := hr.2.1
  refine g_start ok_X4_stepsByDistances rfl rfl ?_
  refine g_run 0 4 rfl ?_
  refine e_down (P := fun k => G (e_L r0) Γ mX4_stepsByDistances 1 0 0 _ 4 [some (vR a), some (vI (p_stepN dl cb (cr / 5) k)), some (vI (k : Int))] [] M n 0 0) 3 ?_ 0 (by omega)
  intro k hk ih
  refine g_run 4 2 rfl ?_
  refine g_icmp_ge 6 32 rfl rfl (by omega) (by omega) (fun c6 => ?_) (fun c6 => ?_)
  · obtain rfl : k = 3 := by omega
    refine g_run 20 1 rfl ?_
    exact g_iret 21 rfl rfl (by first | exact trivial | exact Or.inl rfl | exact Or.inr rfl | (show _ ∨ _; omega)) ⟨rfl, rfl, rfl⟩
  · refine g_run 7 4 rfl ?_
    refine g_callV 11 rfl cv_RX4_36 h.1 (c_distanceOf h hr k (by omega)) rfl rfl (by decide) (by omega) (by omega) (Nat.le_of_ble_eq_true rfl) (e_kr ?_) e_kx
    have qd := p_dist_rng (cb k) (dl k)
    refine g_run 12 1 rfl ?_
    refine g_callV 13 rfl cv_RX4_32 h.1 (c_playNow h hr.2.1) rfl rfl (by decide) (by omega) (by omega) (Nat.le_of_ble_eq_true rfl) (e_kr ?_) e_kx
    refine g_run 14 1 rfl ?_
    refine g_max 15 rfl cm_RX4_40 (by omega) (by omega) (Nat.le_of_ble_eq_true rfl) ?_
    refine g_run 16 4 rfl ?_
    exact ih (by omega)
end CL
