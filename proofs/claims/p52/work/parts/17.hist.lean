/-! History (wip/whole/gen/c_hist.py prints this part) -/
theorem Hok_0 : Hok 0 H0 := ⟨fun i _ => by show (0 : Int) ≤ 0 ∧ (0 : Int) ≤ 0; omega, by show (0 : Int) ≤ 6 ∧ (0 : Int) ≤ 9; omega, fun o _ => by show (-1 : Int) ≤ -1 ∧ (-1 : Int) ≤ 5 ∧ (0 : Int) ≤ 0 ∧ (0 : Int) ≤ 6 ∧ ((-1 : Int) = -1 ∨ (1 : Int) ≤ 0) ∧ (-1 : Int) < 0; omega, fun j _ => by show (0 : Int) ≤ 0 ∧ (0 : Int) ≤ 5 ∧ ((0 : Int) = 0 ∨ (0 : Int) = 1); omega, fun _ _ => Lok_0⟩
theorem Hok_mono {B B' : Int} {σ : HS} (h : Hok B σ) (hB : B ≤ B') : Hok B' σ := ⟨fun i hi => by have := h.1 i hi; omega, h.2⟩
def hR (y : Nat) (d : Nat) : Option Nat := if d < 8 then some (y + 2 + 24 * d) else none
theorem hR_at {y d : Nat} (hd : d < 8) : hR y d = some (y + 2 + 24 * d) := if_pos hd
def YF (M : Mem) (y : Nat) (r : Nat → HS) : Prop := ∀ j, j < 8 → HM M (y + 2 + 24 * j) (r j)
/-- the history at y: the place of the first, how many, the ring -/
def YM (M : Mem) (y f c : Nat) (r : Nat → HS) : Prop := 100 ≤ y ∧ M y = cO 4 [vR (y + 1), vI (f : Int), vI (c : Int)] ∧ M (y + 1) = cR 6 8 (hR y) ∧ YF M y r
theorem YF_fr {a b y : Nat} {M M' : Mem} {r : Nat → HS} (hf : e_fr a b M M') (hx : y + 194 ≤ a ∨ b ≤ y + 2) (q : YF M y r) : YF M' y r := fun d hd => HM_fr hf (by omega) (q d hd)
theorem YM_fr {a b y f c : Nat} {M M' : Mem} {r : Nat → HS} (hf : e_fr a b M M') (hx : y + 194 ≤ a ∨ b ≤ y) (q : YM M y f c r) : YM M' y f c r := ⟨q.1, (hf _ (by omega)).trans q.2.1, (hf _ (by omega)).trans q.2.2.1, YF_fr hf (by omega) q.2.2.2⟩
theorem YF_up {y d : Nat} {M M' : Mem} {r : Nat → HS} {σ : HS} (hf : e_fr (y + 2 + 24 * d) (y + 2 + 24 * d + 24) M M') (hL : HM M' (y + 2 + 24 * d) σ) (q : YF M y r) : YF M' y (va_up r d σ) := by
  intro j hj
  by_cases e : j = d
  · subst e; rw [va_up_self]; exact hL
  · rw [va_up_ne _ _ e]; exact HM_fr hf (by omega) (q j hj)
def yF (f c : Nat) : Nat := if c = 8 then (f + 1) % 8 else f
def yC (c : Nat) : Nat := if c = 8 then 8 else c + 1
def yR (f c : Nat) (r : Nat → HS) (σ : HS) : Nat → HS := va_up r ((yF f c + (yC c - 1)) % 8) σ
section CY
variable {r0 : Option Nat} {Γ : Cx} {M : Mem} {n y h f c : Nat} {σ : HS} {r : Nat → HS} {B : Int}
/-- the second half of push: room is there -/
theorem c_push2 {Q : Rv → Mem → Nat → Prop} {M : Mem} (Y : YM M y f c r) (H : HM M h σ) (hr : Hok B σ) (hd : y + 194 ≤ h ∨ h + 24 ≤ y) (hf : f < 8) (hc : c < 8) (hQ : ∀ M', YM M' y f (c + 1) (va_up r ((f + c) % 8) σ) → e_fr y (y + 194) M M' → Q (.inl none) M' n) : G (e_L r0) Γ mX2_push 2 0 0 Q 32 [some (vR y), some (vR h)] [] M n 0 0 := by
  have fr0 : e_fr y (y + 194) M M := e_fr_refl
  refine g_run 18 1 rfl ?_
  refine g_get 19 rfl fl_RX2_11 Y.2.1 rfl ?_
  refine g_run 20 1 rfl ?_
  refine g_get 21 rfl fl_RX2_17 Y.2.1 rfl ?_
  refine g_run 22 1 rfl ?_
  refine g_get 23 rfl fl_RX2_21 Y.2.1 rfl ?_
  refine g_run 24 2 rfl ?_
  refine g_irem 26 rfl (by omega) (by omega) ?_
  refine g_aald 27 ((f + c) % 8) rfl rfl Y.2.2.1 (by first | rfl | omega) (by omega) (by decide) ?_
  rw [hR_at (by omega)]
  have kl48 := Y.2.2.2 ((f + c) % 8) (by omega)
  refine g_run 28 1 rfl ?_
  refine g_callV 29 rfl cv_RX2_25 kl48.2.1 (c_houseCopy kl48 H (by omega) hr) rfl rfl (by decide) (by omega) (by omega) (Nat.le_of_ble_eq_true rfl) (e_kw fun M50 hq50 => ?_) e_kwx
  have k50_this := (hq50.2 y (by omega)).trans Y.2.1
  have k50_this_states := (hq50.2 (y + 1) (by omega)).trans Y.2.2.1
  have k50_house := (hq50.2 h (by omega)).trans H.2.1
  have k50_HM := HM_fr hq50.2 (by omega) H
  have fr50 := e_fr_tr fr0 (e_fr_w hq50.2 (by omega))
  have k50_YF := YF_up hq50.2 hq50.1 Y.2.2.2
  refine g_run 30 2 rfl ?_
  refine g_get 32 rfl fl_RX2_21 k50_this rfl ?_
  refine g_run 33 2 rfl ?_
  refine g_put 35 rfl fp_RX2_21 k50_this rfl trivial (fun M60 hM60 => ?_)
  have k60_this := (congrFun hM60 y).trans (va_up_self _ _ _)
  have k60_this_states := (congrFun hM60 (y + 1)).trans ((va_up_ne _ _ (by omega)).trans k50_this_states)
  have k60_house := (congrFun hM60 h).trans ((va_up_ne _ _ (by omega)).trans k50_house)
  have k60_HM := HM_fr (e_fr_up (a := y) (b := y + 1) hM60 (by omega)) (by omega) k50_HM
  have fr60 := e_fr_tr fr50 (e_fr_up hM60 (by omega))
  exact g_vret 36 rfl rfl (hQ M60 ⟨Y.1, k60_this, k60_this_states, YF_fr (e_fr_up (a := y) (b := y + 1) hM60 (by omega)) (by omega) k50_YF⟩ fr60)
theorem c_push (Y : YM M y f c r) (H : HM M h σ) (hr : Hok B σ) (hd : y + 194 ≤ h ∨ h + 24 ≤ y) (hf : f < 8) (hc : c ≤ 8) : Ct (e_L r0) Γ mX2_push 2 0 0 [vR y, vR h] M n (e_wr none n fun M' => YM M' y (yF f c) (yC c) (yR f c r σ) ∧ e_fr y (y + 194) M M') := by
  have fr0 : e_fr y (y + 194) M M := e_fr_refl
  refine g_start ok_X2_push rfl rfl ?_
  refine g_run 0 1 rfl ?_
  refine g_get 1 rfl fl_RX2_21 Y.2.1 rfl ?_
  refine g_run 2 1 rfl ?_
  refine g_icmp_ne 3 32 rfl rfl (by omega) (by omega) (fun c6 => ?_) (fun c6 => ?_)
  · have e6 : c ≠ 8 := by omega
    exact c_push2 Y H hr hd hf (by omega) (fun M' h1 h2 => ⟨rfl, rfl, by
      rw [show yF f c = f from if_neg e6, show yC c = c + 1 from if_neg e6, show yR f c r σ = va_up r ((f + c) % 8) σ from by unfold yR; rw [show yF f c = f from if_neg e6, show yC c = c + 1 from if_neg e6]; rfl]
      exact h1, h2⟩)
  · have e6 : c = 8 := by omega
    refine g_run 4 2 rfl ?_
    refine g_get 6 rfl fl_RX2_17 Y.2.1 rfl ?_
    refine g_run 7 3 rfl ?_
    refine g_irem 10 rfl (by omega) (by omega) ?_
    refine g_put 11 rfl fp_RX2_17 Y.2.1 rfl trivial (fun M19 hM19 => ?_)
    have k19_this := (congrFun hM19 y).trans (va_up_self _ _ _)
    have k19_this_states := (congrFun hM19 (y + 1)).trans ((va_up_ne _ _ (by omega)).trans Y.2.2.1)
    have k19_YF := YF_fr (e_fr_up (a := y) (b := y + 1) hM19 (by omega)) (by omega) Y.2.2.2
    have k19_house := (congrFun hM19 h).trans ((va_up_ne _ _ (by omega)).trans H.2.1)
    have k19_HM := HM_fr (e_fr_up (a := y) (b := y + 1) hM19 (by omega)) (by omega) H
    have fr19 := e_fr_tr fr0 (e_fr_up hM19 (by omega))
    refine g_run 12 2 rfl ?_
    refine g_get 14 rfl fl_RX2_21 k19_this rfl ?_
    refine g_run 15 2 rfl ?_
    refine g_put 17 rfl fp_RX2_21 k19_this rfl trivial (fun M29 hM29 => ?_)
    have k29_this := (congrFun hM29 y).trans (va_up_self _ _ _)
    have k29_this_states := (congrFun hM29 (y + 1)).trans ((va_up_ne _ _ (by omega)).trans k19_this_states)
    have k29_YF := YF_fr (e_fr_up (a := y) (b := y + 1) hM29 (by omega)) (by omega) k19_YF
    have k29_house := (congrFun hM29 h).trans ((va_up_ne _ _ (by omega)).trans k19_house)
    have k29_HM := HM_fr (e_fr_up (a := y) (b := y + 1) hM29 (by omega)) (by omega) k19_HM
    have fr29 := e_fr_tr fr19 (e_fr_up hM29 (by omega))
    have e19 : (((f : Int) + 1) % 8) = (((f + 1) % 8 : Nat) : Int) := by omega
    have e20 : (c : Int) - 1 = ((7 : Nat) : Int) := by omega
    rw [e19, e20] at k29_this
    exact c_push2 (f := (f + 1) % 8) (c := 7) ⟨Y.1, k29_this, k29_this_states, k29_YF⟩ k29_HM hr hd (by omega) (by omega) (fun M' h1 h2 => ⟨rfl, rfl, by
      rw [show yF f c = (f + 1) % 8 from if_pos e6, show yC c = 8 from if_pos e6, show yR f c r σ = va_up r (((f + 1) % 8 + 7) % 8) σ from by unfold yR; rw [show yF f c = (f + 1) % 8 from if_pos e6, show yC c = 8 from if_pos e6]]
      exact h1, e_fr_tr fr29 h2⟩)
theorem c_pop (Y : YM M y f c r) (H : HM M h σ) (hr : ∀ j, j < 8 → Hok B (r j)) (hd : y + 194 ≤ h ∨ h + 24 ≤ y) (hf : f < 8) (hc : c ≤ 8) (h0 : 0 < c) : Ct (e_L r0) Γ mX2_popInto 2 0 0 [vR y, vR h] M n (e_wr none n fun M' => YM M' y f (c - 1) r ∧ HM M' h (r ((f + (c - 1)) % 8)) ∧ ∀ k, (k < y ∨ y + 194 ≤ k) → (k < h ∨ h + 24 ≤ k) → M' k = M k) := by
  refine g_start ok_X2_popInto rfl rfl ?_
  refine g_run 0 1 rfl ?_
  refine g_get 1 rfl fl_RX2_21 Y.2.1 rfl ?_
  refine g_if_le 2 38 rfl rfl (by omega) (fun c4 => ?_) (fun c4 => ?_)
  · exact absurd c4 (by omega)
  · refine g_run 3 2 rfl ?_
    refine g_get 5 rfl fl_RX2_21 Y.2.1 rfl ?_
    refine g_run 6 2 rfl ?_
    refine g_put 8 rfl fp_RX2_21 Y.2.1 rfl trivial (fun M14 hM14 => ?_)
    have k14_this := (congrFun hM14 y).trans (va_up_self _ _ _)
    have k14_this_states := (congrFun hM14 (y + 1)).trans ((va_up_ne _ _ (by omega)).trans Y.2.2.1)
    have k14_YF := YF_fr (e_fr_up (a := y) (b := y + 1) hM14 (by omega)) (by omega) Y.2.2.2
    have k14_house := (congrFun hM14 h).trans ((va_up_ne _ _ (by omega)).trans H.2.1)
    have k14_HM := HM_fr (e_fr_up (a := y) (b := y + 1) hM14 (by omega)) (by omega) H
    have e14 : (c : Int) - 1 = ((c - 1 : Nat) : Int) := by omega
    rw [e14] at k14_this
    refine g_run 9 2 rfl ?_
    refine g_get 11 rfl fl_RX2_11 k14_this rfl ?_
    refine g_run 12 1 rfl ?_
    refine g_get 13 rfl fl_RX2_17 k14_this rfl ?_
    refine g_run 14 1 rfl ?_
    refine g_get 15 rfl fl_RX2_21 k14_this rfl ?_
    refine g_run 16 2 rfl ?_
    refine g_irem 18 rfl (by omega) (by omega) ?_
    refine g_aald 19 ((f + (c - 1)) % 8) rfl rfl k14_this_states (by first | rfl | omega) (by omega) (by decide) ?_
    rw [hR_at (by omega)]
    have kl34 := k14_YF ((f + (c - 1)) % 8) (by omega)
    refine g_callV 20 rfl cv_RX2_25 k14_house (c_houseCopy k14_HM kl34 (by omega) (hr _ (by omega))) rfl rfl (by decide) (by omega) (by omega) (Nat.le_of_ble_eq_true rfl) (e_kw fun M35 hq35 => ?_) e_kwx
    have k35_this := (hq35.2 y (by omega)).trans k14_this
    have k35_this_states := (hq35.2 (y + 1) (by omega)).trans k14_this_states
    have k35_YF := YF_fr hq35.2 (by omega) k14_YF
    exact g_vret 21 rfl rfl ⟨rfl, rfl, ⟨Y.1, k35_this, k35_this_states, k35_YF⟩, hq35.1, fun k h1 h2 => (hq35.2 k h2).trans ((congrFun hM14 k).trans (va_up_ne _ _ (by omega)))⟩
theorem c_histInit (hh : 100 ≤ y) (hn : n = y + 1) (hO : M y = cO 4 [vN, vI 0, vI 0]) : Ct (e_L r0) Γ mX2_init 2 193 840 [vR y] M n (e_wr none (y + 194) fun M' => YM M' y 0 0 (fun _ => H0) ∧ e_fr y (y + 194) M M') := by
  have fr0 : e_fr y (y + 194) M M := e_fr_refl
  subst hn
  refine g_start ok_X2_init rfl rfl ?_
  refine g_run 0 1 rfl ?_
  refine g_obj 1 rfl co_RX2_3 (Nat.le_of_ble_eq_true rfl) ?_
  refine g_run 2 2 rfl ?_
  refine g_newq (kd := 6) 4 8 rfl (Or.inr rfl) rfl cl_RX2_9 (show Cond.arrayOver (.object "BiscuitLocks$House") ∈ e_WN by decide +kernel) rfl (by omega) (by omega) (by omega) (fun M7 hM7 => ?_)
  have k7_this := (congrFun hM7 y).trans ((va_up_ne _ _ (by omega)).trans hO)
  have fr7 := e_fr_tr fr0 (e_fr_up hM7 (by omega))
  have k7_this_states := (congrFun hM7 (y + 1)).trans (va_up_self _ _ _)
  refine g_putF 5 rfl fp_RX2_11 rfl k7_this rfl trivial (fun M10 hM10 => ?_)
  have k10_this := (congrFun hM10 y).trans (va_up_self _ _ _)
  have fr10 := e_fr_tr fr7 (e_fr_up hM10 (by omega))
  have k10_this_states := (congrFun hM10 (y + 1)).trans ((va_up_ne _ _ (by omega)).trans k7_this_states)
  refine g_run 6 2 rfl ?_
  refine g_put 8 rfl fp_RX2_17 k10_this rfl trivial (fun M15 hM15 => ?_)
  have k15_this := (congrFun hM15 y).trans (va_up_self _ _ _)
  have fr15 := e_fr_tr fr10 (e_fr_up hM15 (by omega))
  have k15_this_states := (congrFun hM15 (y + 1)).trans ((va_up_ne _ _ (by omega)).trans k10_this_states)
  refine g_run 9 2 rfl ?_
  refine g_put 11 rfl fp_RX2_21 k15_this rfl trivial (fun M20 hM20 => ?_)
  have k20_this := (congrFun hM20 y).trans (va_up_self _ _ _)
  have fr20 := e_fr_tr fr15 (e_fr_up hM20 (by omega))
  have k20_this_states := (congrFun hM20 (y + 1)).trans ((va_up_ne _ _ (by omega)).trans k15_this_states)
  refine g_run 12 2 rfl ?_
  refine e_down (P := fun k => ∀ (M' : Mem) (n' kc ks : Nat), n' = y + 2 + 24 * k → kc = 1 + 24 * k → ks = 8 + 104 * k → M' y = cO 4 [vR (y + 1), vI 0, vI 0] → M' (y + 1) = cR 6 8 (fun j => if j < k then some (y + 2 + 24 * j) else none) → (∀ j, j < k → HM M' (y + 2 + 24 * j) H0) → e_fr y (y + 194) M M' → G (e_L r0) Γ mX2_init 2 193 840 _ 25 [some (vR y), some (vI (k : Int))] [] M' n' kc ks) 8 ?_ 0 (by omega) M20 _ _ _ (by omega) (by omega) (by omega) k20_this (k20_this_states.trans (congrArg (cR 6 8) (funext fun j => (if_neg (by omega)).symm))) (fun j hj => absurd hj (by omega)) fr20
  clear hO
  intro k hk ih M2 n2 kc ks en ekc eks h0 h1 hL fr2
  refine g_run 14 2 rfl ?_
  refine g_icmp_ge 16 50 rfl rfl (by omega) (by omega) (fun c28 => ?_) (fun c28 => ?_)
  · obtain rfl : k = 8 := by omega
    subst en
    exact g_vret 26 rfl rfl ⟨rfl, by omega, ⟨hh, h0, h1, hL⟩, fr2⟩
  · subst en
    refine g_run 17 1 rfl ?_
    refine g_get 18 rfl fl_RX2_11 h0 rfl ?_
    refine g_run 19 1 rfl ?_
    refine g_new 20 rfl nw_RX2_9 (by omega) (by omega) (fun M36 hM36 => ?_)
    have k36_this := (congrFun hM36 y).trans ((va_up_ne _ _ (by omega)).trans h0)
    have k36_this_states := (congrFun hM36 (y + 1)).trans ((va_up_ne _ _ (by omega)).trans h1)
    have fr36 := e_fr_tr fr2 (e_fr_up hM36 (by omega))
    have k36_st := (congrFun hM36 (y + 2 + 24 * k)).trans (va_up_self _ _ _)
    refine g_run 21 1 rfl ?_
    refine g_callI 22 rfl ci_RX2_24 (c_houseInit (by omega) rfl k36_st) rfl rfl (by decide) (by omega) (by omega) (Nat.le_of_ble_eq_true rfl) (e_kw fun M40 hq40 => ?_) e_kwx
    have k40_this := (hq40.2 y (by omega)).trans k36_this
    have k40_this_states := (hq40.2 (y + 1) (by omega)).trans k36_this_states
    have fr40 := e_fr_tr fr36 (e_fr_w hq40.2 (by omega))
    refine g_aast 23 k rfl rfl (by decide) (r := (RX3, TX3, 14)) (ci := 5) rfl (by decide) k40_this_states hq40.1.2.1 (by first | rfl | omega) (by omega) (by decide) (fun M43 hM43 => ?_)
    have k43_this := (congrFun hM43 y).trans ((va_up_ne _ _ (by omega)).trans k40_this)
    have k43_this_states := (congrFun hM43 (y + 1)).trans (va_up_self _ _ _)
    have fr43 := e_fr_tr fr40 (e_fr_up hM43 (by omega))
    have k43_st := (congrFun hM43 (y + 2 + 24 * k)).trans ((va_up_ne _ _ (by omega)).trans hq40.1.2.1)
    refine g_run 24 2 rfl ?_
    refine ih (by omega) M43 _ _ _ (by omega) (by omega) (by omega) k43_this (k43_this_states.trans (congrArg (cR 6 8) (funext fun j => ?_))) (fun j hj => ?_) fr43
    · by_cases e : j = k
      · subst e; rw [va_up_self, if_pos (by omega)]
      · rw [va_up_ne _ _ e]
        by_cases e2 : j < k
        · rw [if_pos e2, if_pos (by omega)]
        · rw [if_neg e2, if_neg (by omega)]
    · refine HM_fr (e_fr_up (a := y + 1) (b := y + 2) hM43 (by omega)) (by omega) ?_
      by_cases e : j = k
      · subst e; exact hq40.1
      · exact HM_fr hq40.2 (by omega) (HM_fr (e_fr_up (a := y + 2 + 24 * k) (b := y + 2 + 24 * k + 1) hM36 (by omega)) (by omega) (hL j (by omega)))
end CY
