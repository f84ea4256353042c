/-! the class's face: the object and its queries (wip/whole/gen/c_xq.py prints this part) -/
abbrev XO (M : Mem) (x : Nat) (sv ep fp : Int) : Prop := M x = cO 8 [vR (x + 1), vR (x + 25), vR (x + 49), vR (x + 73), vR (x + 267), vR (x + 271), vI sv, vI ep, vI fp]
section XC
variable {Λ : Ls} {Γ : Cx} {X : MD} {d mc ms : Nat} {Q : Rv → Mem → Nat → Prop} {pc : Nat} {ls : List (Option aV)} {st : List aV} {M : Mem} {n kc ks : Nat}
theorem e_krx {E : String} {pc' mc' ms' : Nat} {st' : List aV} : ∀ v' M' n', e_rt (.inr E) M n (.inl v') M' n' → n ≤ n' → G Λ Γ X d mc ms Q pc' ls (v'.toList ++ st') M' n' (kc + mc') (ks + ms') := by
  rintro v' M' n' ⟨h1, -, -⟩
  cases h1
theorem e_kxr {E : String} {mc' ms' : Nat} (kk : GX Λ Γ X d mc ms Q E pc ls M n (kc + mc') (ks + ms')) : ∀ E' M' n', e_rt (.inr E) M n (.inr E') M' n' → n ≤ n' → GX Λ Γ X d mc ms Q E' pc ls M' n' (kc + mc') (ks + ms') := by
  rintro E' M' n' ⟨h1, rfl, rfl⟩ -
  cases h1
  exact kk
end XC
section XQ
variable {r0 : Option Nat} {Γ : Cx} {M : Mem} {n x : Nat} {σ τ : HS} {B : Int} {sv ep fp : Int}
theorem x_lockOf (hx : XO M x sv ep fp) (hH : HM M (x + 1) σ) (hr : Hok B σ) (z : Int) (hz : i32 z) (hd : hDoor σ z) : Ct (e_L r0) Γ mX7_lockOf 1 0 0 [vR x, vI z] M n (e_rt (.inl (some (vR (x + 1 + 6 + 3 * z.toNat)))) M n) := by
  have q2 := hr.2.1
  have q0 := hr.1 0 (by decide)
  refine g_start ok_X7_lockOf rfl rfl ?_
  refine g_run 0 1 rfl ?_
  refine g_get 1 rfl fl_RX7_10 hx rfl ?_
  refine g_run 2 1 rfl ?_
  refine g_callV 3 rfl cv_RX7_180 hH.2.1 (c_hasDoor hH hr z hz) rfl rfl (by decide) (by omega) (by omega) (Nat.le_of_ble_eq_true rfl) (e_kr ?_) e_kx
  refine g_if_ne 4 21 rfl rfl b_r (fun c8 => ?_) (fun c8 => ?_)
  · replace c8 := b_1.mp c8
    refine g_run 10 1 rfl ?_
    refine g_get 11 rfl fl_RX7_10 hx rfl ?_
    refine g_get 12 rfl fl_RX7_172 hH.2.1 rfl ?_
    refine g_run 13 1 rfl ?_
    refine g_aald 14 z.toNat rfl rfl hH.2.2.1 (by omega) (by omega) (by decide) ?_
    rw [lkR_at (by omega)]
    have kl29 := hH.2.2.2.2.2.2.2 z.toNat (by omega)
    exact g_aret 15 rfl rfl (by first | exact Or.inl ⟨_, rfl⟩ | exact Or.inr ⟨_, rfl⟩) ⟨rfl, rfl, rfl⟩
  · replace c8 := b_0.mp c8
    exact absurd hd c8
theorem x_lockOfX (hx : XO M x sv ep fp) (hH : HM M (x + 1) σ) (hr : Hok B σ) (z : Int) (hz : i32 z) (hd : ¬ hDoor σ z) : Ct (e_L r0) Γ mX7_lockOf 1 1 6 [vR x, vI z] M n (e_rt (.inr "java/lang/IndexOutOfBoundsException") M n) := by
  have q2 := hr.2.1
  have q0 := hr.1 0 (by decide)
  refine g_start ok_X7_lockOf rfl rfl ?_
  refine g_run 0 1 rfl ?_
  refine g_get 1 rfl fl_RX7_10 hx rfl ?_
  refine g_run 2 1 rfl ?_
  refine g_callV 3 rfl cv_RX7_180 hH.2.1 (c_hasDoor hH hr z hz) rfl rfl (by decide) (by omega) (by omega) (Nat.le_of_ble_eq_true rfl) (e_kr ?_) e_kx
  refine g_if_ne 4 21 rfl rfl b_r (fun c8 => ?_) (fun c8 => ?_)
  · replace c8 := b_1.mp c8
    exact absurd c8 hd
  · replace c8 := b_0.mp c8
    exact g_throw 5 (th_RX7_112_184_116 r0) rfl rfl rfl rfl rfl rfl (Nat.le_of_ble_eq_true rfl) (by omega) (by omega) ⟨rfl, rfl, rfl⟩
theorem x_requireDial (z : Int) (hz : i32 z) (h : 0 ≤ z ∧ z ≤ 2) : Ct (e_L r0) Γ mX7_requireDial 1 0 0 [vI z] M n (e_rt (.inl none) M n) := by
  refine g_start ok_X7_requireDial rfl rfl ?_
  refine g_run 0 1 rfl ?_
  refine g_callS 1 rfl cs_RX7_186 (c_isDial z hz) rfl rfl (by decide) (by omega) (by omega) (Nat.le_of_ble_eq_true rfl) (e_kr ?_) e_kx
  refine g_if_ne 2 17 rfl rfl b_r (fun c4 => ?_) (fun c4 => ?_)
  · replace c4 := b_1.mp c4
    exact g_vret 8 rfl rfl ⟨rfl, rfl, rfl⟩
  · replace c4 := b_0.mp c4
    exact absurd h c4
theorem x_requireDialX (z : Int) (hz : i32 z) (h : ¬ (0 ≤ z ∧ z ≤ 2)) : Ct (e_L r0) Γ mX7_requireDial 1 1 6 [vI z] M n (e_rt (.inr "java/lang/IndexOutOfBoundsException") M n) := by
  refine g_start ok_X7_requireDial rfl rfl ?_
  refine g_run 0 1 rfl ?_
  refine g_callS 1 rfl cs_RX7_186 (c_isDial z hz) rfl rfl (by decide) (by omega) (by omega) (Nat.le_of_ble_eq_true rfl) (e_kr ?_) e_kx
  refine g_if_ne 2 17 rfl rfl b_r (fun c4 => ?_) (fun c4 => ?_)
  · replace c4 := b_1.mp c4
    exact absurd c4 h
  · replace c4 := b_0.mp c4
    exact g_throw 3 (th_RX7_112_189_116 r0) rfl rfl rfl rfl rfl rfl (Nat.le_of_ble_eq_true rfl) (by omega) (by omega) ⟨rfl, rfl, rfl⟩
theorem x_requireOven (z : Int) (hz : i32 z) (h : 0 ≤ z ∧ z ≤ 1) : Ct (e_L r0) Γ mX7_requireOven 1 0 0 [vI z] M n (e_rt (.inl none) M n) := by
  refine g_start ok_X7_requireOven rfl rfl ?_
  refine g_run 0 1 rfl ?_
  refine g_callS 1 rfl cs_RX7_230 (c_isOven z hz) rfl rfl (by decide) (by omega) (by omega) (Nat.le_of_ble_eq_true rfl) (e_kr ?_) e_kx
  refine g_if_ne 2 17 rfl rfl b_r (fun c4 => ?_) (fun c4 => ?_)
  · replace c4 := b_1.mp c4
    exact g_vret 8 rfl rfl ⟨rfl, rfl, rfl⟩
  · replace c4 := b_0.mp c4
    exact absurd h c4
theorem x_requireOvenX (z : Int) (hz : i32 z) (h : ¬ (0 ≤ z ∧ z ≤ 1)) : Ct (e_L r0) Γ mX7_requireOven 1 1 6 [vI z] M n (e_rt (.inr "java/lang/IndexOutOfBoundsException") M n) := by
  refine g_start ok_X7_requireOven rfl rfl ?_
  refine g_run 0 1 rfl ?_
  refine g_callS 1 rfl cs_RX7_230 (c_isOven z hz) rfl rfl (by decide) (by omega) (by omega) (Nat.le_of_ble_eq_true rfl) (e_kr ?_) e_kx
  refine g_if_ne 2 17 rfl rfl b_r (fun c4 => ?_) (fun c4 => ?_)
  · replace c4 := b_1.mp c4
    exact absurd c4 h
  · replace c4 := b_0.mp c4
    exact g_throw 3 (th_RX7_112_233_116 r0) rfl rfl rfl rfl rfl rfl (Nat.le_of_ble_eq_true rfl) (by omega) (by omega) ⟨rfl, rfl, rfl⟩
theorem x_isOpen (hx : XO M x sv ep fp) (hH : HM M (x + 1) σ) (hr : Hok B σ) (z : Int) (hz : i32 z) (hd : hDoor σ z) : Ct (e_L r0) Γ mX7_isOpen 2 0 0 [vR x, vI z] M n (e_rt (.inl (some (vI ((σ.lk z.toNat).op)))) M n) := by
  have q2 := hr.2.1
  have q0 := hr.1 0 (by decide)
  refine g_start ok_X7_isOpen rfl rfl ?_
  refine g_run 0 2 rfl ?_
  refine g_callV 2 rfl cv_RX7_137 hx (x_lockOf hx hH hr z hz hd) rfl rfl (by decide) (by omega) (by omega) (Nat.le_of_ble_eq_true rfl) (e_kr ?_) e_kx
  have kl := hH.2.2.2.2.2.2.2 z.toNat (by omega)
  have kr := hr.2.2.2.2 z.toNat (by omega)
  refine g_get 3 rfl fl_RX7_153 kl.2.1 rfl ?_
  exact g_iret 4 rfl rfl kr.1 ⟨rfl, rfl, rfl⟩
theorem x_isOpenX (hx : XO M x sv ep fp) (hH : HM M (x + 1) σ) (hr : Hok B σ) (z : Int) (hz : i32 z) (hd : ¬ hDoor σ z) : Ct (e_L r0) Γ mX7_isOpen 2 1 6 [vR x, vI z] M n (e_rt (.inr "java/lang/IndexOutOfBoundsException") M n) := by
  have q2 := hr.2.1
  have q0 := hr.1 0 (by decide)
  refine g_start ok_X7_isOpen rfl rfl ?_
  refine g_run 0 2 rfl ?_
  refine g_callV 2 rfl cv_RX7_137 hx (x_lockOfX hx hH hr z hz hd) rfl rfl (by decide) (by omega) (by omega) (Nat.le_of_ble_eq_true rfl) e_krx (e_kxr (gx_out rfl ⟨rfl, rfl, rfl⟩))
theorem x_isBroken (hx : XO M x sv ep fp) (hH : HM M (x + 1) σ) (hr : Hok B σ) (z : Int) (hz : i32 z) (hd : hDoor σ z) : Ct (e_L r0) Γ mX7_isBroken 2 0 0 [vR x, vI z] M n (e_rt (.inl (some (vI (if (σ.lk z.toNat).cr = 20 then 1 else 0)))) M n) := by
  have q2 := hr.2.1
  have q0 := hr.1 0 (by decide)
  refine g_start ok_X7_isBroken rfl rfl ?_
  refine g_run 0 2 rfl ?_
  refine g_callV 2 rfl cv_RX7_137 hx (x_lockOf hx hH hr z hz hd) rfl rfl (by decide) (by omega) (by omega) (Nat.le_of_ble_eq_true rfl) (e_kr ?_) e_kx
  have kl := hH.2.2.2.2.2.2.2 z.toNat (by omega)
  have kr := hr.2.2.2.2 z.toNat (by omega)
  refine g_callV 3 rfl cv_RX7_156 kl.2.1 (c_hasMostCrumbs kl kr.2.1) rfl rfl (by decide) (by omega) (by omega) (Nat.le_of_ble_eq_true rfl) (e_kr ?_) e_kx
  exact g_iret 4 rfl rfl b_01 ⟨rfl, rfl, rfl⟩
theorem x_isBrokenX (hx : XO M x sv ep fp) (hH : HM M (x + 1) σ) (hr : Hok B σ) (z : Int) (hz : i32 z) (hd : ¬ hDoor σ z) : Ct (e_L r0) Γ mX7_isBroken 2 1 6 [vR x, vI z] M n (e_rt (.inr "java/lang/IndexOutOfBoundsException") M n) := by
  have q2 := hr.2.1
  have q0 := hr.1 0 (by decide)
  refine g_start ok_X7_isBroken rfl rfl ?_
  refine g_run 0 2 rfl ?_
  refine g_callV 2 rfl cv_RX7_137 hx (x_lockOfX hx hH hr z hz hd) rfl rfl (by decide) (by omega) (by omega) (Nat.le_of_ble_eq_true rfl) e_krx (e_kxr (gx_out rfl ⟨rfl, rfl, rfl⟩))
theorem x_crumbs (hx : XO M x sv ep fp) (hH : HM M (x + 1) σ) (hr : Hok B σ) (z : Int) (hz : i32 z) (hd : hDoor σ z) : Ct (e_L r0) Γ mX7_crumbs 2 0 0 [vR x, vI z] M n (e_rt (.inl (some (vI ((σ.lk z.toNat).cr)))) M n) := by
  have q2 := hr.2.1
  have q0 := hr.1 0 (by decide)
  refine g_start ok_X7_crumbs rfl rfl ?_
  refine g_run 0 2 rfl ?_
  refine g_callV 2 rfl cv_RX7_137 hx (x_lockOf hx hH hr z hz hd) rfl rfl (by decide) (by omega) (by omega) (Nat.le_of_ble_eq_true rfl) (e_kr ?_) e_kx
  have kl := hH.2.2.2.2.2.2.2 z.toNat (by omega)
  have kr := hr.2.2.2.2 z.toNat (by omega)
  refine g_get 3 rfl fl_RX7_160 kl.2.1 rfl ?_
  exact g_iret 4 rfl rfl (by first | exact trivial | exact Or.inl rfl | exact Or.inr rfl | (show _ ∨ _; omega)) ⟨rfl, rfl, rfl⟩
theorem x_crumbsX (hx : XO M x sv ep fp) (hH : HM M (x + 1) σ) (hr : Hok B σ) (z : Int) (hz : i32 z) (hd : ¬ hDoor σ z) : Ct (e_L r0) Γ mX7_crumbs 2 1 6 [vR x, vI z] M n (e_rt (.inr "java/lang/IndexOutOfBoundsException") M n) := by
  have q2 := hr.2.1
  have q0 := hr.1 0 (by decide)
  refine g_start ok_X7_crumbs rfl rfl ?_
  refine g_run 0 2 rfl ?_
  refine g_callV 2 rfl cv_RX7_137 hx (x_lockOfX hx hH hr z hz hd) rfl rfl (by decide) (by omega) (by omega) (Nat.le_of_ble_eq_true rfl) e_krx (e_kxr (gx_out rfl ⟨rfl, rfl, rfl⟩))
theorem x_play (hx : XO M x sv ep fp) (hH : HM M (x + 1) σ) (hr : Hok B σ) (z : Int) (hz : i32 z) (hd : hDoor σ z) : Ct (e_L r0) Γ mX7_play 2 0 0 [vR x, vI z] M n (e_rt (.inl (some (vI ((σ.lk z.toNat).cr / 5)))) M n) := by
  have q2 := hr.2.1
  have q0 := hr.1 0 (by decide)
  refine g_start ok_X7_play rfl rfl ?_
  refine g_run 0 2 rfl ?_
  refine g_callV 2 rfl cv_RX7_137 hx (x_lockOf hx hH hr z hz hd) rfl rfl (by decide) (by omega) (by omega) (Nat.le_of_ble_eq_true rfl) (e_kr ?_) e_kx
  have kl := hH.2.2.2.2.2.2.2 z.toNat (by omega)
  have kr := hr.2.2.2.2 z.toNat (by omega)
  refine g_callV 3 rfl cv_RX7_163 kl.2.1 (c_playNow kl kr.2.1) rfl rfl (by decide) (by omega) (by omega) (Nat.le_of_ble_eq_true rfl) (e_kr ?_) e_kx
  exact g_iret 4 rfl rfl (by first | exact trivial | exact Or.inl rfl | exact Or.inr rfl | (show _ ∨ _; omega)) ⟨rfl, rfl, rfl⟩
theorem x_playX (hx : XO M x sv ep fp) (hH : HM M (x + 1) σ) (hr : Hok B σ) (z : Int) (hz : i32 z) (hd : ¬ hDoor σ z) : Ct (e_L r0) Γ mX7_play 2 1 6 [vR x, vI z] M n (e_rt (.inr "java/lang/IndexOutOfBoundsException") M n) := by
  have q2 := hr.2.1
  have q0 := hr.1 0 (by decide)
  refine g_start ok_X7_play rfl rfl ?_
  refine g_run 0 2 rfl ?_
  refine g_callV 2 rfl cv_RX7_137 hx (x_lockOfX hx hH hr z hz hd) rfl rfl (by decide) (by omega) (by omega) (Nat.le_of_ble_eq_true rfl) e_krx (e_kxr (gx_out rfl ⟨rfl, rfl, rfl⟩))
theorem x_fittingDials (hx : XO M x sv ep fp) (hH : HM M (x + 1) σ) (hr : Hok B σ) (z : Int) (hz : i32 z) (hd : hDoor σ z) : Ct (e_L r0) Γ mX7_fittingDials 2 0 0 [vR x, vI z] M n (e_rt (.inl (some (vI (lFit (σ.lk z.toNat))))) M n) := by
  have q2 := hr.2.1
  have q0 := hr.1 0 (by decide)
  refine g_start ok_X7_fittingDials rfl rfl ?_
  refine g_run 0 2 rfl ?_
  refine g_callV 2 rfl cv_RX7_137 hx (x_lockOf hx hH hr z hz hd) rfl rfl (by decide) (by omega) (by omega) (Nat.le_of_ble_eq_true rfl) (e_kr ?_) e_kx
  have kl := hH.2.2.2.2.2.2.2 z.toNat (by omega)
  have kr := hr.2.2.2.2 z.toNat (by omega)
  refine g_callV 3 rfl cv_RX7_166 kl.2.1 (c_countFitting kl kr) rfl rfl (by decide) (by omega) (by omega) (Nat.le_of_ble_eq_true rfl) (e_kr ?_) e_kx
  exact g_iret 4 rfl rfl (by first | exact trivial | exact Or.inl rfl | exact Or.inr rfl | (show _ ∨ _; omega)) ⟨rfl, rfl, rfl⟩
theorem x_fittingDialsX (hx : XO M x sv ep fp) (hH : HM M (x + 1) σ) (hr : Hok B σ) (z : Int) (hz : i32 z) (hd : ¬ hDoor σ z) : Ct (e_L r0) Γ mX7_fittingDials 2 1 6 [vR x, vI z] M n (e_rt (.inr "java/lang/IndexOutOfBoundsException") M n) := by
  have q2 := hr.2.1
  have q0 := hr.1 0 (by decide)
  refine g_start ok_X7_fittingDials rfl rfl ?_
  refine g_run 0 2 rfl ?_
  refine g_callV 2 rfl cv_RX7_137 hx (x_lockOfX hx hH hr z hz hd) rfl rfl (by decide) (by omega) (by omega) (Nat.le_of_ble_eq_true rfl) e_krx (e_kxr (gx_out rfl ⟨rfl, rfl, rfl⟩))
theorem x_stepsToOpen (hx : XO M x sv ep fp) (hH : HM M (x + 1) σ) (hr : Hok B σ) (z : Int) (hz : i32 z) (hd : hDoor σ z) : Ct (e_L r0) Γ mX7_stepsToOpen 2 0 0 [vR x, vI z] M n (e_rt (.inl (some (vI (lSteps (σ.lk z.toNat))))) M n) := by
  have q2 := hr.2.1
  have q0 := hr.1 0 (by decide)
  refine g_start ok_X7_stepsToOpen rfl rfl ?_
  refine g_run 0 2 rfl ?_
  refine g_callV 2 rfl cv_RX7_137 hx (x_lockOf hx hH hr z hz hd) rfl rfl (by decide) (by omega) (by omega) (Nat.le_of_ble_eq_true rfl) (e_kr ?_) e_kx
  have kl := hH.2.2.2.2.2.2.2 z.toNat (by omega)
  have kr := hr.2.2.2.2 z.toNat (by omega)
  refine g_callV 3 rfl cv_RX7_169 kl.2.1 (c_stepsByDistances kl kr) rfl rfl (by decide) (by omega) (by omega) (Nat.le_of_ble_eq_true rfl) (e_kr ?_) e_kx
  exact g_iret 4 rfl rfl (by first | exact trivial | exact Or.inl rfl | exact Or.inr rfl | (show _ ∨ _; omega)) ⟨rfl, rfl, rfl⟩
theorem x_stepsToOpenX (hx : XO M x sv ep fp) (hH : HM M (x + 1) σ) (hr : Hok B σ) (z : Int) (hz : i32 z) (hd : ¬ hDoor σ z) : Ct (e_L r0) Γ mX7_stepsToOpen 2 1 6 [vR x, vI z] M n (e_rt (.inr "java/lang/IndexOutOfBoundsException") M n) := by
  have q2 := hr.2.1
  have q0 := hr.1 0 (by decide)
  refine g_start ok_X7_stepsToOpen rfl rfl ?_
  refine g_run 0 2 rfl ?_
  refine g_callV 2 rfl cv_RX7_137 hx (x_lockOfX hx hH hr z hz hd) rfl rfl (by decide) (by omega) (by omega) (Nat.le_of_ble_eq_true rfl) e_krx (e_kxr (gx_out rfl ⟨rfl, rfl, rfl⟩))
theorem x_openingSettings (hx : XO M x sv ep fp) (hH : HM M (x + 1) σ) (hr : Hok B σ) (z : Int) (hz : i32 z) (hd : hDoor σ z) : Ct (e_L r0) Γ mX7_openingSettings 2 0 0 [vR x, vI z] M n (e_rt (.inl (some (vI ((2 * ((σ.lk z.toNat).cr / 5) + 1) * (2 * ((σ.lk z.toNat).cr / 5) + 1) * (2 * ((σ.lk z.toNat).cr / 5) + 1))))) M n) := by
  have q2 := hr.2.1
  have q0 := hr.1 0 (by decide)
  refine g_start ok_X7_openingSettings rfl rfl ?_
  refine g_run 0 3 rfl ?_
  refine g_callV 3 rfl cv_RX7_137 hx (x_lockOf hx hH hr z hz hd) rfl rfl (by decide) (by omega) (by omega) (Nat.le_of_ble_eq_true rfl) (e_kr ?_) e_kx
  have kl := hH.2.2.2.2.2.2.2 z.toNat (by omega)
  have kr := hr.2.2.2.2 z.toNat (by omega)
  refine g_callV 4 rfl cv_RX7_163 kl.2.1 (c_playNow kl kr.2.1) rfl rfl (by decide) (by omega) (by omega) (Nat.le_of_ble_eq_true rfl) (e_kr ?_) e_kx
  refine g_run 5 9 rfl ?_
  exact g_iret 14 rfl rfl (by first | exact trivial | exact Or.inl rfl | exact Or.inr rfl | (show _ ∨ _; omega)) ⟨rfl, rfl, rfl⟩
theorem x_openingSettingsX (hx : XO M x sv ep fp) (hH : HM M (x + 1) σ) (hr : Hok B σ) (z : Int) (hz : i32 z) (hd : ¬ hDoor σ z) : Ct (e_L r0) Γ mX7_openingSettings 2 1 6 [vR x, vI z] M n (e_rt (.inr "java/lang/IndexOutOfBoundsException") M n) := by
  have q2 := hr.2.1
  have q0 := hr.1 0 (by decide)
  refine g_start ok_X7_openingSettings rfl rfl ?_
  refine g_run 0 3 rfl ?_
  refine g_callV 3 rfl cv_RX7_137 hx (x_lockOfX hx hH hr z hz hd) rfl rfl (by decide) (by omega) (by omega) (Nat.le_of_ble_eq_true rfl) e_krx (e_kxr (gx_out rfl ⟨rfl, rfl, rfl⟩))
theorem x_isBaking (hx : XO M x sv ep fp) (hH : HM M (x + 1) σ) (hr : Hok B σ) (z : Int) (hz : i32 z) (hd : hDoor σ z) : Ct (e_L r0) Γ mX7_isBaking 2 0 0 [vR x, vI z] M n (e_rt (.inl (some (vI (if hOven σ z then 1 else 0)))) M n) := by
  have q2 := hr.2.1
  have q0 := hr.1 0 (by decide)
  refine g_start ok_X7_isBaking rfl rfl ?_
  refine g_run 0 2 rfl ?_
  refine g_callV 2 rfl cv_RX7_137 hx (x_lockOf hx hH hr z hz hd) rfl rfl (by decide) (by omega) (by omega) (Nat.le_of_ble_eq_true rfl) (e_kr ?_) e_kx
  have kl := hH.2.2.2.2.2.2.2 z.toNat (by omega)
  have kr := hr.2.2.2.2 z.toNat (by omega)
  refine g_run 3 2 rfl ?_
  refine g_get 5 rfl fl_RX7_10 hx rfl ?_
  refine g_run 6 1 rfl ?_
  refine g_callV 7 rfl cv_RX7_227 hH.2.1 (c_isInOven hH hr z hz) rfl rfl (by decide) (by omega) (by omega) (Nat.le_of_ble_eq_true rfl) (e_kr ?_) e_kx
  exact g_iret 8 rfl rfl b_01 ⟨rfl, rfl, rfl⟩
theorem x_isBakingX (hx : XO M x sv ep fp) (hH : HM M (x + 1) σ) (hr : Hok B σ) (z : Int) (hz : i32 z) (hd : ¬ hDoor σ z) : Ct (e_L r0) Γ mX7_isBaking 2 1 6 [vR x, vI z] M n (e_rt (.inr "java/lang/IndexOutOfBoundsException") M n) := by
  have q2 := hr.2.1
  have q0 := hr.1 0 (by decide)
  refine g_start ok_X7_isBaking rfl rfl ?_
  refine g_run 0 2 rfl ?_
  refine g_callV 2 rfl cv_RX7_137 hx (x_lockOfX hx hH hr z hz hd) rfl rfl (by decide) (by omega) (by omega) (Nat.le_of_ble_eq_true rfl) e_krx (e_kxr (gx_out rfl ⟨rfl, rfl, rfl⟩))
theorem x_dial (hx : XO M x sv ep fp) (hH : HM M (x + 1) σ) (hr : Hok B σ) (z : Int) (hz : i32 z) (y : Int) (hy : i32 y) (hd : hDoor σ z) (h2 : 0 ≤ y ∧ y ≤ 2) : Ct (e_L r0) Γ mX7_dial 2 0 0 [vR x, vI z, vI y] M n (e_rt (.inl (some (vI ((σ.lk z.toNat).dl y.toNat)))) M n) := by
  have q2 := hr.2.1
  have q0 := hr.1 0 (by decide)
  refine g_start ok_X7_dial rfl rfl ?_
  refine g_run 0 2 rfl ?_
  refine g_callV 2 rfl cv_RX7_137 hx (x_lockOf hx hH hr z hz hd) rfl rfl (by decide) (by omega) (by omega) (Nat.le_of_ble_eq_true rfl) (e_kr ?_) e_kx
  have kl := hH.2.2.2.2.2.2.2 z.toNat (by omega)
  have kr := hr.2.2.2.2 z.toNat (by omega)
  refine g_run 3 2 rfl ?_
  refine g_callS 5 rfl cs_RX7_141 (x_requireDial y hy h2) rfl rfl (by decide) (by omega) (by omega) (Nat.le_of_ble_eq_true rfl) (e_kr ?_) e_kx
  refine g_run 6 1 rfl ?_
  refine g_get 7 rfl fl_RX7_145 kl.2.1 rfl ?_
  refine g_run 8 1 rfl ?_
  refine g_iald 9 y.toNat rfl rfl kl.2.2.1 (by omega) (by omega) (by decide) ?_
  exact g_iret 10 rfl rfl (by first | exact trivial | exact Or.inl rfl | exact Or.inr rfl | (show _ ∨ _; omega)) ⟨rfl, rfl, rfl⟩
theorem x_dialX (hx : XO M x sv ep fp) (hH : HM M (x + 1) σ) (hr : Hok B σ) (z : Int) (hz : i32 z) (y : Int) (hy : i32 y) (hd : ¬ hDoor σ z) : Ct (e_L r0) Γ mX7_dial 2 1 6 [vR x, vI z, vI y] M n (e_rt (.inr "java/lang/IndexOutOfBoundsException") M n) := by
  have q2 := hr.2.1
  have q0 := hr.1 0 (by decide)
  refine g_start ok_X7_dial rfl rfl ?_
  refine g_run 0 2 rfl ?_
  refine g_callV 2 rfl cv_RX7_137 hx (x_lockOfX hx hH hr z hz hd) rfl rfl (by decide) (by omega) (by omega) (Nat.le_of_ble_eq_true rfl) e_krx (e_kxr (gx_out rfl ⟨rfl, rfl, rfl⟩))
theorem x_dialY (hx : XO M x sv ep fp) (hH : HM M (x + 1) σ) (hr : Hok B σ) (z : Int) (hz : i32 z) (y : Int) (hy : i32 y) (hd : hDoor σ z) (h2 : ¬ (0 ≤ y ∧ y ≤ 2)) : Ct (e_L r0) Γ mX7_dial 2 1 6 [vR x, vI z, vI y] M n (e_rt (.inr "java/lang/IndexOutOfBoundsException") M n) := by
  have q2 := hr.2.1
  have q0 := hr.1 0 (by decide)
  refine g_start ok_X7_dial rfl rfl ?_
  refine g_run 0 2 rfl ?_
  refine g_callV 2 rfl cv_RX7_137 hx (x_lockOf hx hH hr z hz hd) rfl rfl (by decide) (by omega) (by omega) (Nat.le_of_ble_eq_true rfl) (e_kr ?_) e_kx
  have kl := hH.2.2.2.2.2.2.2 z.toNat (by omega)
  have kr := hr.2.2.2.2 z.toNat (by omega)
  refine g_run 3 2 rfl ?_
  refine g_callS 5 rfl cs_RX7_141 (x_requireDialX y hy h2) rfl rfl (by decide) (by omega) (by omega) (Nat.le_of_ble_eq_true rfl) e_krx (e_kxr (gx_out rfl ⟨rfl, rfl, rfl⟩))
theorem x_combination (hx : XO M x sv ep fp) (hH : HM M (x + 1) σ) (hr : Hok B σ) (z : Int) (hz : i32 z) (y : Int) (hy : i32 y) (hd : hDoor σ z) (h2 : 0 ≤ y ∧ y ≤ 2) : Ct (e_L r0) Γ mX7_combination 2 0 0 [vR x, vI z, vI y] M n (e_rt (.inl (some (vI ((σ.lk z.toNat).cb y.toNat)))) M n) := by
  have q2 := hr.2.1
  have q0 := hr.1 0 (by decide)
  refine g_start ok_X7_combination rfl rfl ?_
  refine g_run 0 2 rfl ?_
  refine g_callV 2 rfl cv_RX7_137 hx (x_lockOf hx hH hr z hz hd) rfl rfl (by decide) (by omega) (by omega) (Nat.le_of_ble_eq_true rfl) (e_kr ?_) e_kx
  have kl := hH.2.2.2.2.2.2.2 z.toNat (by omega)
  have kr := hr.2.2.2.2 z.toNat (by omega)
  refine g_run 3 2 rfl ?_
  refine g_callS 5 rfl cs_RX7_141 (x_requireDial y hy h2) rfl rfl (by decide) (by omega) (by omega) (Nat.le_of_ble_eq_true rfl) (e_kr ?_) e_kx
  refine g_run 6 1 rfl ?_
  refine g_get 7 rfl fl_RX7_150 kl.2.1 rfl ?_
  refine g_run 8 1 rfl ?_
  refine g_iald 9 y.toNat rfl rfl kl.2.2.2 (by omega) (by omega) (by decide) ?_
  exact g_iret 10 rfl rfl (by first | exact trivial | exact Or.inl rfl | exact Or.inr rfl | (show _ ∨ _; omega)) ⟨rfl, rfl, rfl⟩
theorem x_combinationX (hx : XO M x sv ep fp) (hH : HM M (x + 1) σ) (hr : Hok B σ) (z : Int) (hz : i32 z) (y : Int) (hy : i32 y) (hd : ¬ hDoor σ z) : Ct (e_L r0) Γ mX7_combination 2 1 6 [vR x, vI z, vI y] M n (e_rt (.inr "java/lang/IndexOutOfBoundsException") M n) := by
  have q2 := hr.2.1
  have q0 := hr.1 0 (by decide)
  refine g_start ok_X7_combination rfl rfl ?_
  refine g_run 0 2 rfl ?_
  refine g_callV 2 rfl cv_RX7_137 hx (x_lockOfX hx hH hr z hz hd) rfl rfl (by decide) (by omega) (by omega) (Nat.le_of_ble_eq_true rfl) e_krx (e_kxr (gx_out rfl ⟨rfl, rfl, rfl⟩))
theorem x_combinationY (hx : XO M x sv ep fp) (hH : HM M (x + 1) σ) (hr : Hok B σ) (z : Int) (hz : i32 z) (y : Int) (hy : i32 y) (hd : hDoor σ z) (h2 : ¬ (0 ≤ y ∧ y ≤ 2)) : Ct (e_L r0) Γ mX7_combination 2 1 6 [vR x, vI z, vI y] M n (e_rt (.inr "java/lang/IndexOutOfBoundsException") M n) := by
  have q2 := hr.2.1
  have q0 := hr.1 0 (by decide)
  refine g_start ok_X7_combination rfl rfl ?_
  refine g_run 0 2 rfl ?_
  refine g_callV 2 rfl cv_RX7_137 hx (x_lockOf hx hH hr z hz hd) rfl rfl (by decide) (by omega) (by omega) (Nat.le_of_ble_eq_true rfl) (e_kr ?_) e_kx
  have kl := hH.2.2.2.2.2.2.2 z.toNat (by omega)
  have kr := hr.2.2.2.2 z.toNat (by omega)
  refine g_run 3 2 rfl ?_
  refine g_callS 5 rfl cs_RX7_141 (x_requireDialX y hy h2) rfl rfl (by decide) (by omega) (by omega) (Nat.le_of_ble_eq_true rfl) e_krx (e_kxr (gx_out rfl ⟨rfl, rfl, rfl⟩))
theorem x_bakingHours (hx : XO M x sv ep fp) (hH : HM M (x + 1) σ) (hr : Hok B σ) (o : Int) (ho : i32 o) (h : 0 ≤ o ∧ o ≤ 1) : Ct (e_L r0) Γ mX7_bakingHours 2 0 0 [vR x, vI o] M n (e_rt (.inl (some (vI (σ.oh o.toNat)))) M n) := by
  have q2 := hr.2.1
  have q0 := hr.1 0 (by decide)
  have q3 := hr.2.2.1 o.toNat (by omega)
  refine g_start ok_X7_bakingHours rfl rfl ?_
  refine g_run 0 1 rfl ?_
  refine g_callS 1 rfl cs_RX7_216 (x_requireOven o ho h) rfl rfl (by decide) (by omega) (by omega) (Nat.le_of_ble_eq_true rfl) (e_kr ?_) e_kx
  refine g_run 2 1 rfl ?_
  refine g_get 3 rfl fl_RX7_10 hx rfl ?_
  refine g_get 4 rfl fl_RX7_224 hH.2.1 rfl ?_
  refine g_run 5 1 rfl ?_
  refine g_iald 6 o.toNat rfl rfl hH.2.2.2.2.1 (by omega) (by omega) (by decide) ?_
  exact g_iret 7 rfl rfl (by first | exact trivial | exact Or.inl rfl | exact Or.inr rfl | (show _ ∨ _; omega)) ⟨rfl, rfl, rfl⟩
theorem x_bakingHoursX (hx : XO M x sv ep fp) (hH : HM M (x + 1) σ) (hr : Hok B σ) (o : Int) (ho : i32 o) (h : ¬ (0 ≤ o ∧ o ≤ 1)) : Ct (e_L r0) Γ mX7_bakingHours 2 1 6 [vR x, vI o] M n (e_rt (.inr "java/lang/IndexOutOfBoundsException") M n) := by
  refine g_start ok_X7_bakingHours rfl rfl ?_
  refine g_run 0 1 rfl ?_
  refine g_callS 1 rfl cs_RX7_216 (x_requireOvenX o ho h) rfl rfl (by decide) (by omega) (by omega) (Nat.le_of_ble_eq_true rfl) e_krx (e_kxr (gx_out rfl ⟨rfl, rfl, rfl⟩))
theorem x_bakedDoor (hx : XO M x sv ep fp) (hH : HM M (x + 1) σ) (hr : Hok B σ) (o : Int) (ho : i32 o) (h : 0 ≤ o ∧ o ≤ 1) (hb : σ.od o.toNat ≠ -1) : Ct (e_L r0) Γ mX7_bakedDoor 2 0 0 [vR x, vI o] M n (e_rt (.inl (some (vI (σ.od o.toNat)))) M n) := by
  have q2 := hr.2.1
  have q0 := hr.1 0 (by decide)
  have q3 := hr.2.2.1 o.toNat (by omega)
  refine g_start ok_X7_bakedDoor rfl rfl ?_
  refine g_run 0 1 rfl ?_
  refine g_callS 1 rfl cs_RX7_216 (x_requireOven o ho h) rfl rfl (by decide) (by omega) (by omega) (Nat.le_of_ble_eq_true rfl) (e_kr ?_) e_kx
  refine g_run 2 1 rfl ?_
  refine g_get 3 rfl fl_RX7_10 hx rfl ?_
  refine g_get 4 rfl fl_RX7_219 hH.2.1 rfl ?_
  refine g_run 5 1 rfl ?_
  refine g_iald 6 o.toNat rfl rfl hH.2.2.2.1 (by omega) (by omega) (by decide) ?_
  refine g_run 7 3 rfl ?_
  refine g_icmp_ne 10 29 rfl rfl (by omega) (by omega) (fun c16 => ?_) (fun c16 => ?_)
  · refine g_run 16 1 rfl ?_
    exact g_iret 17 rfl rfl (by first | exact trivial | exact Or.inl rfl | exact Or.inr rfl | (show _ ∨ _; omega)) ⟨rfl, rfl, rfl⟩
  · exact absurd c16 hb
theorem x_bakedDoorX (hx : XO M x sv ep fp) (hH : HM M (x + 1) σ) (hr : Hok B σ) (o : Int) (ho : i32 o) (h : ¬ (0 ≤ o ∧ o ≤ 1)) : Ct (e_L r0) Γ mX7_bakedDoor 2 1 6 [vR x, vI o] M n (e_rt (.inr "java/lang/IndexOutOfBoundsException") M n) := by
  refine g_start ok_X7_bakedDoor rfl rfl ?_
  refine g_run 0 1 rfl ?_
  refine g_callS 1 rfl cs_RX7_216 (x_requireOvenX o ho h) rfl rfl (by decide) (by omega) (by omega) (Nat.le_of_ble_eq_true rfl) e_krx (e_kxr (gx_out rfl ⟨rfl, rfl, rfl⟩))
theorem x_bakedDoorY (hx : XO M x sv ep fp) (hH : HM M (x + 1) σ) (hr : Hok B σ) (o : Int) (ho : i32 o) (h : 0 ≤ o ∧ o ≤ 1) (hb : σ.od o.toNat = -1) : Ct (e_L r0) Γ mX7_bakedDoor 2 1 6 [vR x, vI o] M n (e_rt (.inr "java/util/NoSuchElementException") M n) := by
  have q2 := hr.2.1
  have q0 := hr.1 0 (by decide)
  have q3 := hr.2.2.1 o.toNat (by omega)
  refine g_start ok_X7_bakedDoor rfl rfl ?_
  refine g_run 0 1 rfl ?_
  refine g_callS 1 rfl cs_RX7_216 (x_requireOven o ho h) rfl rfl (by decide) (by omega) (by omega) (Nat.le_of_ble_eq_true rfl) (e_kr ?_) e_kx
  refine g_run 2 1 rfl ?_
  refine g_get 3 rfl fl_RX7_10 hx rfl ?_
  refine g_get 4 rfl fl_RX7_219 hH.2.1 rfl ?_
  refine g_run 5 1 rfl ?_
  refine g_iald 6 o.toNat rfl rfl hH.2.2.2.1 (by omega) (by omega) (by decide) ?_
  refine g_run 7 3 rfl ?_
  refine g_icmp_ne 10 29 rfl rfl (by omega) (by omega) (fun c16 => ?_) (fun c16 => ?_)
  · exact absurd hb c16
  · exact g_throwX 11 (th_RX7_198_222_202 r0) rfl rfl rfl rfl rfl rfl (Nat.le_of_ble_eq_true rfl) (by omega) (by omega) ⟨rfl, rfl, rfl⟩
theorem x_reqRem (hx : XO M x sv ep fp) (hH : HM M (x + 1) σ) (hr : Hok B σ) (hB : B ≤ 2000000000) (o : Int) (ho : i32 o) (h : 0 ≤ o ∧ o < (if 10 < σ.sc 3 then 10 else σ.sc 3)) : Ct (e_L r0) Γ mX7_requireRemembered 1 0 0 [vR x, vI o] M n (e_rt (.inl none) M n) := by
  have q2 := hr.2.1
  have q0 := hr.1 0 (by decide)
  have q3 := hr.1 3 (by decide)
  have q4 : (if 10 < σ.sc 3 then 10 else σ.sc 3) ≤ 10 := by split <;> omega
  refine g_start ok_X7_requireRemembered rfl rfl ?_
  refine g_run 0 1 rfl ?_
  refine g_if_lt 1 15 rfl rfl (by omega) (fun c1 => ?_) (fun c1 => ?_)
  · exact absurd c1 (by omega)
  · refine g_run 2 2 rfl ?_
    refine g_get 4 rfl fl_RX7_10 hx rfl ?_
    refine g_callV 5 rfl cv_RX7_240 hH.2.1 (c_countRemembered hH hr hB) rfl rfl (by decide) (by omega) (by omega) (Nat.le_of_ble_eq_true rfl) (e_kr ?_) e_kx
    refine g_icmp_lt 6 25 rfl rfl (by omega) (by omega) (fun c12 => ?_) (fun c12 => ?_)
    · exact g_vret 12 rfl rfl ⟨rfl, rfl, rfl⟩
    · exact absurd h.2 c12
theorem x_reqRemX (hx : XO M x sv ep fp) (hH : HM M (x + 1) σ) (hr : Hok B σ) (hB : B ≤ 2000000000) (o : Int) (ho : i32 o) (h : ¬ (0 ≤ o ∧ o < (if 10 < σ.sc 3 then 10 else σ.sc 3))) : Ct (e_L r0) Γ mX7_requireRemembered 1 1 6 [vR x, vI o] M n (e_rt (.inr "java/util/NoSuchElementException") M n) := by
  have q2 := hr.2.1
  have q0 := hr.1 0 (by decide)
  have q3 := hr.1 3 (by decide)
  have q4 : (if 10 < σ.sc 3 then 10 else σ.sc 3) ≤ 10 ∧ 0 ≤ (if 10 < σ.sc 3 then 10 else σ.sc 3) := by split <;> omega
  refine g_start ok_X7_requireRemembered rfl rfl ?_
  refine g_run 0 1 rfl ?_
  refine g_if_lt 1 15 rfl rfl (by omega) (fun c1 => ?_) (fun c1 => ?_)
  · exact g_throwX 7 (th_RX7_198_253_202 r0) rfl rfl rfl rfl rfl rfl (Nat.le_of_ble_eq_true rfl) (by omega) (by omega) ⟨rfl, rfl, rfl⟩
  · refine g_run 2 2 rfl ?_
    refine g_get 4 rfl fl_RX7_10 hx rfl ?_
    refine g_callV 5 rfl cv_RX7_240 hH.2.1 (c_countRemembered hH hr hB) rfl rfl (by decide) (by omega) (by omega) (Nat.le_of_ble_eq_true rfl) (e_kr ?_) e_kx
    refine g_icmp_lt 6 25 rfl rfl (by omega) (by omega) (fun c12 => ?_) (fun c12 => ?_)
    · exact absurd ⟨by omega, c12⟩ h
    · exact g_throwX 7 (th_RX7_198_253_202 r0) rfl rfl rfl rfl rfl rfl (Nat.le_of_ble_eq_true rfl) (by omega) (by omega) ⟨rfl, rfl, rfl⟩
theorem x_triedDoor (hx : XO M x sv ep fp) (hH : HM M (x + 1) σ) (hr : Hok B σ) (hB : B ≤ 2000000000) (o : Int) (ho : i32 o) (h : 0 ≤ o ∧ o < (if 10 < σ.sc 3 then 10 else σ.sc 3)) : Ct (e_L r0) Γ mX7_triedDoor 2 0 0 [vR x, vI o] M n (e_rt (.inl (some (vI (σ.td o.toNat)))) M n) := by
  have q2 := hr.2.1
  have q0 := hr.1 0 (by decide)
  have q4 : (if 10 < σ.sc 3 then 10 else σ.sc 3) ≤ 10 := by split <;> omega
  have q5 := hr.2.2.2.1 o.toNat (by omega)
  refine g_start ok_X7_triedDoor rfl rfl ?_
  refine g_run 0 2 rfl ?_
  refine g_callV 2 rfl cv_RX7_243 hx (x_reqRem hx hH hr hB o ho h) rfl rfl (by decide) (by omega) (by omega) (Nat.le_of_ble_eq_true rfl) (e_kr ?_) e_kx
  refine g_run 3 1 rfl ?_
  refine g_get 4 rfl fl_RX7_10 hx rfl ?_
  refine g_get 5 rfl fl_RX7_246 hH.2.1 rfl ?_
  refine g_run 6 1 rfl ?_
  refine g_iald 7 o.toNat rfl rfl hH.2.2.2.2.2.1 (by omega) (by omega) (by decide) ?_
  exact g_iret 8 rfl rfl (by first | exact trivial | exact Or.inl rfl | exact Or.inr rfl | (show _ ∨ _; omega)) ⟨rfl, rfl, rfl⟩
theorem x_triedDoorX (hx : XO M x sv ep fp) (hH : HM M (x + 1) σ) (hr : Hok B σ) (hB : B ≤ 2000000000) (o : Int) (ho : i32 o) (h : ¬ (0 ≤ o ∧ o < (if 10 < σ.sc 3 then 10 else σ.sc 3))) : Ct (e_L r0) Γ mX7_triedDoor 2 1 6 [vR x, vI o] M n (e_rt (.inr "java/util/NoSuchElementException") M n) := by
  refine g_start ok_X7_triedDoor rfl rfl ?_
  refine g_run 0 2 rfl ?_
  refine g_callV 2 rfl cv_RX7_243 hx (x_reqRemX hx hH hr hB o ho h) rfl rfl (by decide) (by omega) (by omega) (Nat.le_of_ble_eq_true rfl) e_krx (e_kxr (gx_out rfl ⟨rfl, rfl, rfl⟩))
theorem x_didOpen (hx : XO M x sv ep fp) (hH : HM M (x + 1) σ) (hr : Hok B σ) (hB : B ≤ 2000000000) (o : Int) (ho : i32 o) (h : 0 ≤ o ∧ o < (if 10 < σ.sc 3 then 10 else σ.sc 3)) : Ct (e_L r0) Γ mX7_didOpen 2 0 0 [vR x, vI o] M n (e_rt (.inl (some (vI (σ.ty o.toNat)))) M n) := by
  have q2 := hr.2.1
  have q0 := hr.1 0 (by decide)
  have q4 : (if 10 < σ.sc 3 then 10 else σ.sc 3) ≤ 10 := by split <;> omega
  have q5 := hr.2.2.2.1 o.toNat (by omega)
  refine g_start ok_X7_didOpen rfl rfl ?_
  refine g_run 0 2 rfl ?_
  refine g_callV 2 rfl cv_RX7_243 hx (x_reqRem hx hH hr hB o ho h) rfl rfl (by decide) (by omega) (by omega) (Nat.le_of_ble_eq_true rfl) (e_kr ?_) e_kx
  refine g_run 3 1 rfl ?_
  refine g_get 4 rfl fl_RX7_10 hx rfl ?_
  refine g_get 5 rfl fl_RX7_249 hH.2.1 rfl ?_
  refine g_run 6 1 rfl ?_
  refine g_zald 7 o.toNat rfl rfl hH.2.2.2.2.2.2.1 (by omega) (by omega) (by decide) ?_
  exact g_iret 8 rfl rfl q5.2.2 ⟨rfl, rfl, rfl⟩
theorem x_didOpenX (hx : XO M x sv ep fp) (hH : HM M (x + 1) σ) (hr : Hok B σ) (hB : B ≤ 2000000000) (o : Int) (ho : i32 o) (h : ¬ (0 ≤ o ∧ o < (if 10 < σ.sc 3 then 10 else σ.sc 3))) : Ct (e_L r0) Γ mX7_didOpen 2 1 6 [vR x, vI o] M n (e_rt (.inr "java/util/NoSuchElementException") M n) := by
  refine g_start ok_X7_didOpen rfl rfl ?_
  refine g_run 0 2 rfl ?_
  refine g_callV 2 rfl cv_RX7_243 hx (x_reqRemX hx hH hr hB o ho h) rfl rfl (by decide) (by omega) (by omega) (Nat.le_of_ble_eq_true rfl) e_krx (e_kxr (gx_out rfl ⟨rfl, rfl, rfl⟩))
theorem x_doorCount (hx : XO M x sv ep fp) (hH : HM M (x + 1) σ) (hr : Hok B σ)  : Ct (e_L r0) Γ mX7_doorCount 0 0 0 [vR x] M n (e_rt (.inl (some (vI (σ.sc 0)))) M n) := by
  refine g_start ok_X7_doorCount rfl rfl ?_
  refine g_run 0 1 rfl ?_
  refine g_get 1 rfl fl_RX7_10 hx rfl ?_
  refine g_get 2 rfl fl_RX7_134 hH.2.1 rfl ?_
  exact g_iret 3 rfl rfl (by first | exact trivial | exact Or.inl rfl | exact Or.inr rfl | (show _ ∨ _; omega)) ⟨rfl, rfl, rfl⟩
theorem x_damp (hx : XO M x sv ep fp) (hH : HM M (x + 1) σ) (hr : Hok B σ)  : Ct (e_L r0) Γ mX7_damp 0 0 0 [vR x] M n (e_rt (.inl (some (vI (σ.sc 1)))) M n) := by
  refine g_start ok_X7_damp rfl rfl ?_
  refine g_run 0 1 rfl ?_
  refine g_get 1 rfl fl_RX7_10 hx rfl ?_
  refine g_get 2 rfl fl_RX7_261 hH.2.1 rfl ?_
  exact g_iret 3 rfl rfl (by first | exact trivial | exact Or.inl rfl | exact Or.inr rfl | (show _ ∨ _; omega)) ⟨rfl, rfl, rfl⟩
theorem x_hour (hx : XO M x sv ep fp) (hH : HM M (x + 1) σ) (hr : Hok B σ)  : Ct (e_L r0) Γ mX7_hour 0 0 0 [vR x] M n (e_rt (.inl (some (vI (σ.sc 2)))) M n) := by
  refine g_start ok_X7_hour rfl rfl ?_
  refine g_run 0 1 rfl ?_
  refine g_get 1 rfl fl_RX7_10 hx rfl ?_
  refine g_get 2 rfl fl_RX7_264 hH.2.1 rfl ?_
  exact g_iret 3 rfl rfl (by first | exact trivial | exact Or.inl rfl | exact Or.inr rfl | (show _ ∨ _; omega)) ⟨rfl, rfl, rfl⟩
theorem x_tryTotal (hx : XO M x sv ep fp) (hH : HM M (x + 1) σ) (hr : Hok B σ)  : Ct (e_L r0) Γ mX7_tryTotal 0 0 0 [vR x] M n (e_rt (.inl (some (vI (σ.sc 3)))) M n) := by
  refine g_start ok_X7_tryTotal rfl rfl ?_
  refine g_run 0 1 rfl ?_
  refine g_get 1 rfl fl_RX7_10 hx rfl ?_
  refine g_get 2 rfl fl_RX7_267 hH.2.1 rfl ?_
  exact g_iret 3 rfl rfl (by first | exact trivial | exact Or.inl rfl | exact Or.inr rfl | (show _ ∨ _; omega)) ⟨rfl, rfl, rfl⟩
theorem x_openedTotal (hx : XO M x sv ep fp) (hH : HM M (x + 1) σ) (hr : Hok B σ)  : Ct (e_L r0) Γ mX7_openedTotal 0 0 0 [vR x] M n (e_rt (.inl (some (vI (σ.sc 4)))) M n) := by
  refine g_start ok_X7_openedTotal rfl rfl ?_
  refine g_run 0 1 rfl ?_
  refine g_get 1 rfl fl_RX7_10 hx rfl ?_
  refine g_get 2 rfl fl_RX7_270 hH.2.1 rfl ?_
  exact g_iret 3 rfl rfl (by first | exact trivial | exact Or.inl rfl | exact Or.inr rfl | (show _ ∨ _; omega)) ⟨rfl, rfl, rfl⟩
theorem x_bakedTotal (hx : XO M x sv ep fp) (hH : HM M (x + 1) σ) (hr : Hok B σ)  : Ct (e_L r0) Γ mX7_bakedTotal 0 0 0 [vR x] M n (e_rt (.inl (some (vI (σ.sc 8)))) M n) := by
  refine g_start ok_X7_bakedTotal rfl rfl ?_
  refine g_run 0 1 rfl ?_
  refine g_get 1 rfl fl_RX7_10 hx rfl ?_
  refine g_get 2 rfl fl_RX7_273 hH.2.1 rfl ?_
  exact g_iret 3 rfl rfl (by first | exact trivial | exact Or.inl rfl | exact Or.inr rfl | (show _ ∨ _; omega)) ⟨rfl, rfl, rfl⟩
theorem x_rememberedTries (hx : XO M x sv ep fp) (hH : HM M (x + 1) σ) (hr : Hok B σ) (hB : B ≤ 2000000000)  : Ct (e_L r0) Γ mX7_rememberedTries 1 0 0 [vR x] M n (e_rt (.inl (some (vI ((if 10 < σ.sc 3 then 10 else σ.sc 3))))) M n) := by
  refine g_start ok_X7_rememberedTries rfl rfl ?_
  refine g_run 0 1 rfl ?_
  refine g_get 1 rfl fl_RX7_10 hx rfl ?_
  refine g_callV 2 rfl cv_RX7_240 hH.2.1 (c_countRemembered hH hr hB) rfl rfl (by decide) (by omega) (by omega) (Nat.le_of_ble_eq_true rfl) (e_kr ?_) e_kx
  exact g_iret 3 rfl rfl (by first | exact trivial | exact Or.inl rfl | exact Or.inr rfl | (show _ ∨ _; omega)) ⟨rfl, rfl, rfl⟩
theorem x_shutLocks (hx : XO M x sv ep fp) (hH : HM M (x + 1) σ) (hr : Hok B σ)  : Ct (e_L r0) Γ mX7_shutLocks 1 0 0 [vR x] M n (e_rt (.inl (some (vI (nShut σ.lk (σ.sc 0).toNat)))) M n) := by
  refine g_start ok_X7_shutLocks rfl rfl ?_
  refine g_run 0 1 rfl ?_
  refine g_get 1 rfl fl_RX7_10 hx rfl ?_
  refine g_callV 2 rfl cv_RX7_255 hH.2.1 (c_countShut hH hr) rfl rfl (by decide) (by omega) (by omega) (Nat.le_of_ble_eq_true rfl) (e_kr ?_) e_kx
  exact g_iret 3 rfl rfl (by first | exact trivial | exact Or.inl rfl | exact Or.inr rfl | (show _ ∨ _; omega)) ⟨rfl, rfl, rfl⟩
theorem x_shutLocks2 (hx : XO M x sv ep fp) (hH : HM M (x + 1) σ) (hr : Hok B σ)  : Ct (e_L r0) Γ mX7_shutLocksByAccounts 1 0 0 [vR x] M n (e_rt (.inl (some (vI (accts σ)))) M n) := by
  refine g_start ok_X7_shutLocksByAccounts rfl rfl ?_
  refine g_run 0 1 rfl ?_
  refine g_get 1 rfl fl_RX7_10 hx rfl ?_
  refine g_callV 2 rfl cv_RX7_258 hH.2.1 (c_countAccounts hH) rfl rfl (by decide) (by omega) (by omega) (Nat.le_of_ble_eq_true rfl) (e_kr ?_) e_kx
  exact g_iret 3 rfl rfl (by first | exact trivial | exact Or.inl rfl | exact Or.inr rfl | (show _ ∨ _; omega)) ⟨rfl, rfl, rfl⟩
end XQ
