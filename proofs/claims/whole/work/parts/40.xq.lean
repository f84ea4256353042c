/-! the class's face: the object and its queries (wip/whole/gen/c_xq.py prints this part) -/
abbrev XO (M : Mem) (x : Nat) (sv ep fp : Int) : Prop := M x = cO 8 [vR (x + 1), vR (x + 25), vR (x + 49), vR (x + 73), vR (x + 267), vR (x + 271), vI sv, vI ep, vI fp]
section XC
variable {Λ : Ls} {Γ : Cx} {X : MD} {d mc ms : Nat} {Q : Rv → Mem → Nat → Prop} {pc : Nat} {ls : List (Option aV)} {st : List aV} {M : Mem} {n kc ks : Nat}
theorem e_krx {E : String} {pc' mc' ms' : Nat} {st' : List aV} : ∀ v' M' n', e_rt (.inr E) M n (.inl v') M' n' → n ≤ n' → G Λ Γ X d mc ms Q pc' ls (v'.toList ++ st') M' n' (kc + mc') (ks + ms') := by
  rintro v' M' n' ⟨h1, -, -⟩
  cases h1
theorem e_kxr {E : String} {mc' ms' : Nat} (kk : GX Λ Γ X d mc ms Q E pc ls M n (kc + mc') (ks + ms')) : ∀ E' M' n', e_rt (.inr E) M n (.inr E') M' n' → n ≤ n' → GX Λ Γ X d mc ms Q E' pc ls M' n' (kc + mc') (ks + ms') := by
  rintro E' M' n' ⟨h1, rfl, rfl⟩ -
  cases h1
  exact kk
end XC
section XQ
variable {r0 : Option Nat} {Γ : Cx} {M : Mem} {n x : Nat} {σ τ : HS} {B : Int} {sv ep fp : Int}
theorem x_lockOf (hx : XO M x sv ep fp) (hH : HM M (x + 1) σ) (hr : Hok B σ) (z : Int) (hz : i32 z) (hd : hDoor σ z) : Ct (e_L r0) Γ mX7_lockOf 1 0 0 [vR x, vI z] M n (e_rt (.inl (some (vR (x + 1 + 6 + 3 * z.toNat)))) M n) := by
  have q2 := hr.2.1
  have q1 := hr.1
  refine g_start ok_X7_lockOf rfl rfl ?_
  refine g_run 0 1 rfl ?_
  refine g_get 1 rfl fl_RX7_10 hx rfl ?_
  refine g_run 2 1 rfl ?_
  refine g_callV 3 rfl cv_RX7_180 hH.2.1 (c_hasDoor hH hr z hz) rfl rfl (by decide) (by omega) (by omega) (Nat.le_of_ble_eq_true rfl) (e_kr ?_) e_kx
  refine g_if_ne 4 21 rfl rfl b_r (fun c8 => ?_) (fun c8 => ?_)
  · replace c8 := b_1.mp c8
    refine g_run 10 1 rfl ?_
    refine g_get 11 rfl fl_RX7_10 hx rfl ?_
    refine g_get 12 rfl fl_RX7_172 hH.2.1 rfl ?_
    refine g_run 13 1 rfl ?_
    refine g_aald 14 z.toNat rfl rfl hH.2.2.1 (by omega) (by omega) (by decide) ?_
    rw [lkR_at (by omega)]
    have kl29 := hH.2.2.2.2.2.2.2 z.toNat (by omega)
    exact g_aret 15 rfl rfl (by first | exact Or.inl ⟨_, rfl⟩ | exact Or.inr ⟨_, rfl⟩) ⟨rfl, rfl, rfl⟩
  · replace c8 := b_0.mp c8
    exact absurd hd c8
theorem x_lockOfX (hx : XO M x sv ep fp) (hH : HM M (x + 1) σ) (hr : Hok B σ) (z : Int) (hz : i32 z) (hd : ¬ hDoor σ z) : Ct (e_L r0) Γ mX7_lockOf 1 1 6 [vR x, vI z] M n (e_rt (.inr "java/lang/IndexOutOfBoundsException") M n) := by
  have q2 := hr.2.1
  have q1 := hr.1
  refine g_start ok_X7_lockOf rfl rfl ?_
  refine g_run 0 1 rfl ?_
  refine g_get 1 rfl fl_RX7_10 hx rfl ?_
  refine g_run 2 1 rfl ?_
  refine g_callV 3 rfl cv_RX7_180 hH.2.1 (c_hasDoor hH hr z hz) rfl rfl (by decide) (by omega) (by omega) (Nat.le_of_ble_eq_true rfl) (e_kr ?_) e_kx
  refine g_if_ne 4 21 rfl rfl b_r (fun c8 => ?_) (fun c8 => ?_)
  · replace c8 := b_1.mp c8
    exact absurd c8 hd
  · replace c8 := b_0.mp c8
    exact g_throw 5 (th_RX7_112_184_116 r0) rfl rfl rfl rfl rfl rfl (Nat.le_of_ble_eq_true rfl) (by omega) (by omega) ⟨rfl, rfl, rfl⟩
theorem x_requireDial (z : Int) (hz : i32 z) (h : 0 ≤ z ∧ z ≤ 2) : Ct (e_L r0) Γ mX7_requireDial 1 0 0 [vI z] M n (e_rt (.inl none) M n) := by
  refine g_start ok_X7_requireDial rfl rfl ?_
  refine g_run 0 1 rfl ?_
  refine g_callS 1 rfl cs_RX7_186 (c_isDial z hz) rfl rfl (by decide) (by omega) (by omega) (Nat.le_of_ble_eq_true rfl) (e_kr ?_) e_kx
  refine g_if_ne 2 17 rfl rfl b_r (fun c4 => ?_) (fun c4 => ?_)
  · replace c4 := b_1.mp c4
    exact g_vret 8 rfl rfl ⟨rfl, rfl, rfl⟩
  · replace c4 := b_0.mp c4
    exact absurd h c4
theorem x_requireDialX (z : Int) (hz : i32 z) (h : ¬ (0 ≤ z ∧ z ≤ 2)) : Ct (e_L r0) Γ mX7_requireDial 1 1 6 [vI z] M n (e_rt (.inr "java/lang/IndexOutOfBoundsException") M n) := by
  refine g_start ok_X7_requireDial rfl rfl ?_
  refine g_run 0 1 rfl ?_
  refine g_callS 1 rfl cs_RX7_186 (c_isDial z hz) rfl rfl (by decide) (by omega) (by omega) (Nat.le_of_ble_eq_true rfl) (e_kr ?_) e_kx
  refine g_if_ne 2 17 rfl rfl b_r (fun c4 => ?_) (fun c4 => ?_)
  · replace c4 := b_1.mp c4
    exact absurd c4 h
  · replace c4 := b_0.mp c4
    exact g_throw 3 (th_RX7_112_189_116 r0) rfl rfl rfl rfl rfl rfl (Nat.le_of_ble_eq_true rfl) (by omega) (by omega) ⟨rfl, rfl, rfl⟩
theorem x_requireOven (z : Int) (hz : i32 z) (h : 0 ≤ z ∧ z ≤ 1) : Ct (e_L r0) Γ mX7_requireOven 1 0 0 [vI z] M n (e_rt (.inl none) M n) := by
  refine g_start ok_X7_requireOven rfl rfl ?_
  refine g_run 0 1 rfl ?_
  refine g_callS 1 rfl cs_RX7_230 (c_isOven z hz) rfl rfl (by decide) (by omega) (by omega) (Nat.le_of_ble_eq_true rfl) (e_kr ?_) e_kx
  refine g_if_ne 2 17 rfl rfl b_r (fun c4 => ?_) (fun c4 => ?_)
  · replace c4 := b_1.mp c4
    exact g_vret 8 rfl rfl ⟨rfl, rfl, rfl⟩
  · replace c4 := b_0.mp c4
    exact absurd h c4
theorem x_requireOvenX (z : Int) (hz : i32 z) (h : ¬ (0 ≤ z ∧ z ≤ 1)) : Ct (e_L r0) Γ mX7_requireOven 1 1 6 [vI z] M n (e_rt (.inr "java/lang/IndexOutOfBoundsException") M n) := by
  refine g_start ok_X7_requireOven rfl rfl ?_
  refine g_run 0 1 rfl ?_
  refine g_callS 1 rfl cs_RX7_230 (c_isOven z hz) rfl rfl (by decide) (by omega) (by omega) (Nat.le_of_ble_eq_true rfl) (e_kr ?_) e_kx
  refine g_if_ne 2 17 rfl rfl b_r (fun c4 => ?_) (fun c4 => ?_)
  · replace c4 := b_1.mp c4
    exact absurd c4 h
  · replace c4 := b_0.mp c4
    exact g_throw 3 (th_RX7_112_233_116 r0) rfl rfl rfl rfl rfl rfl (Nat.le_of_ble_eq_true rfl) (by omega) (by omega) ⟨rfl, rfl, rfl⟩
theorem x_isOpen (hx : XO M x sv ep fp) (hH : HM M (x + 1) σ) (hr : Hok B σ) (z : Int) (hz : i32 z) (hd : hDoor σ z) : Ct (e_L r0) Γ mX7_isOpen 2 0 0 [vR x, vI z] M n (e_rt (.inl (some (vI ((σ.lk z.toNat).op)))) M n) := by
  have q2 := hr.2.1
  have q1 := hr.1
  refine g_start ok_X7_isOpen rfl rfl ?_
  refine g_run 0 2 rfl ?_
  refine g_callV 2 rfl cv_RX7_137 hx (x_lockOf hx hH hr z hz hd) rfl rfl (by decide) (by omega) (by omega) (Nat.le_of_ble_eq_true rfl) (e_kr ?_) e_kx
  have kl := hH.2.2.2.2.2.2.2 z.toNat (by omega)
  have kr := hr.2.2.2.2 z.toNat (by omega)
  refine g_get 3 rfl fl_RX7_153 kl.2.1 rfl ?_
  exact g_iret 4 rfl rfl kr.1 ⟨rfl, rfl, rfl⟩
theorem x_isOpenX (hx : XO M x sv ep fp) (hH : HM M (x + 1) σ) (hr : Hok B σ) (z : Int) (hz : i32 z) (hd : ¬ hDoor σ z) : Ct (e_L r0) Γ mX7_isOpen 2 1 6 [vR x, vI z] M n (e_rt (.inr "java/lang/IndexOutOfBoundsException") M n) := by
  have q2 := hr.2.1
  have q1 := hr.1
  refine g_start ok_X7_isOpen rfl rfl ?_
  refine g_run 0 2 rfl ?_
  refine g_callV 2 rfl cv_RX7_137 hx (x_lockOfX hx hH hr z hz hd) rfl rfl (by decide) (by omega) (by omega) (Nat.le_of_ble_eq_true rfl) e_krx (e_kxr (gx_out rfl ⟨rfl, rfl, rfl⟩))
theorem x_isBroken (hx : XO M x sv ep fp) (hH : HM M (x + 1) σ) (hr : Hok B σ) (z : Int) (hz : i32 z) (hd : hDoor σ z) : Ct (e_L r0) Γ mX7_isBroken 2 0 0 [vR x, vI z] M n (e_rt (.inl (some (vI (if (σ.lk z.toNat).cr = 20 then 1 else 0)))) M n) := by
  have q2 := hr.2.1
  have q1 := hr.1
  refine g_start ok_X7_isBroken rfl rfl ?_
  refine g_run 0 2 rfl ?_
  refine g_callV 2 rfl cv_RX7_137 hx (x_lockOf hx hH hr z hz hd) rfl rfl (by decide) (by omega) (by omega) (Nat.le_of_ble_eq_true rfl) (e_kr ?_) e_kx
  have kl := hH.2.2.2.2.2.2.2 z.toNat (by omega)
  have kr := hr.2.2.2.2 z.toNat (by omega)
  refine g_callV 3 rfl cv_RX7_156 kl.2.1 (c_hasMostCrumbs kl kr.2.1) rfl rfl (by decide) (by omega) (by omega) (Nat.le_of_ble_eq_true rfl) (e_kr ?_) e_kx
  exact g_iret 4 rfl rfl b_01 ⟨rfl, rfl, rfl⟩
theorem x_isBrokenX (hx : XO M x sv ep fp) (hH : HM M (x + 1) σ) (hr : Hok B σ) (z : Int) (hz : i32 z) (hd : ¬ hDoor σ z) : Ct (e_L r0) Γ mX7_isBroken 2 1 6 [vR x, vI z] M n (e_rt (.inr "java/lang/IndexOutOfBoundsException") M n) := by
  have q2 := hr.2.1
  have q1 := hr.1
  refine g_start ok_X7_isBroken rfl rfl ?_
  refine g_run 0 2 rfl ?_
  refine g_callV 2 rfl cv_RX7_137 hx (x_lockOfX hx hH hr z hz hd) rfl rfl (by decide) (by omega) (by omega) (Nat.le_of_ble_eq_true rfl) e_krx (e_kxr (gx_out rfl ⟨rfl, rfl, rfl⟩))
theorem x_crumbs (hx : XO M x sv ep fp) (hH : HM M (x + 1) σ) (hr : Hok B σ) (z : Int) (hz : i32 z) (hd : hDoor σ z) : Ct (e_L r0) Γ mX7_crumbs 2 0 0 [vR x, vI z] M n (e_rt (.inl (some (vI ((σ.lk z.toNat).cr)))) M n) := by
  have q2 := hr.2.1
  have q1 := hr.1
  refine g_start ok_X7_crumbs rfl rfl ?_
  refine g_run 0 2 rfl ?_
  refine g_callV 2 rfl cv_RX7_137 hx (x_lockOf hx hH hr z hz hd) rfl rfl (by decide) (by omega) (by omega) (Nat.le_of_ble_eq_true rfl) (e_kr ?_) e_kx
  have kl := hH.2.2.2.2.2.2.2 z.toNat (by omega)
  have kr := hr.2.2.2.2 z.toNat (by omega)
  refine g_get 3 rfl fl_RX7_160 kl.2.1 rfl ?_
  exact g_iret 4 rfl rfl (by first | exact trivial | exact Or.inl rfl | exact Or.inr rfl | (show _ ∨ _; omega)) ⟨rfl, rfl, rfl⟩
theorem x_crumbsX (hx : XO M x sv ep fp) (hH : HM M (x + 1) σ) (hr : Hok B σ) (z : Int) (hz : i32 z) (hd : ¬ hDoor σ z) : Ct (e_L r0) Γ mX7_crumbs 2 1 6 [vR x, vI z] M n (e_rt (.inr "java/lang/IndexOutOfBoundsException") M n) := by
  have q2 := hr.2.1
  have q1 := hr.1
  refine g_start ok_X7_crumbs rfl rfl ?_
  refine g_run 0 2 rfl ?_
  refine g_callV 2 rfl cv_RX7_137 hx (x_lockOfX hx hH hr z hz hd) rfl rfl (by decide) (by omega) (by omega) (Nat.le_of_ble_eq_true rfl) e_krx (e_kxr (gx_out rfl ⟨rfl, rfl, rfl⟩))
theorem x_play (hx : XO M x sv ep fp) (hH : HM M (x + 1) σ) (hr : Hok B σ) (z : Int) (hz : i32 z) (hd : hDoor σ z) : Ct (e_L r0) Γ mX7_play 2 0 0 [vR x, vI z] M n (e_rt (.inl (some (vI ((σ.lk z.toNat).cr / 5)))) M n) := by
  have q2 := hr.2.1
  have q1 := hr.1
  refine g_start ok_X7_play rfl rfl ?_
  refine g_run 0 2 rfl ?_
  refine g_callV 2 rfl cv_RX7_137 hx (x_lockOf hx hH hr z hz hd) rfl rfl (by decide) (by omega) (by omega) (Nat.le_of_ble_eq_true rfl) (e_kr ?_) e_kx
  have kl := hH.2.2.2.2.2.2.2 z.toNat (by omega)
  have kr := hr.2.2.2.2 z.toNat (by omega)
  refine g_callV 3 rfl cv_RX7_163 kl.2.1 (c_playNow kl kr.2.1) rfl rfl (by decide) (by omega) (by omega) (Nat.le_of_ble_eq_true rfl) (e_kr ?_) e_kx
  exact g_iret 4 rfl rfl (by first | exact trivial | exact Or.inl rfl | exact Or.inr rfl | (show _ ∨ _; omega)) ⟨rfl, rfl, rfl⟩
theorem x_playX (hx : XO M x sv ep fp) (hH : HM M (x + 1) σ) (hr : Hok B σ) (z : Int) (hz : i32 z) (hd : ¬ hDoor σ z) : Ct (e_L r0) Γ mX7_play 2 1 6 [vR x, vI z] M n (e_rt (.inr "java/lang/IndexOutOfBoundsException") M n) := by
  have q2 := hr.2.1
  have q1 := hr.1
  refine g_start ok_X7_play rfl rfl ?_
  refine g_run 0 2 rfl ?_
  refine g_callV 2 rfl cv_RX7_137 hx (x_lockOfX hx hH hr z hz hd) rfl rfl (by decide) (by omega) (by omega) (Nat.le_of_ble_eq_true rfl) e_krx (e_kxr (gx_out rfl ⟨rfl, rfl, rfl⟩))
theorem x_fittingDials (hx : XO M x sv ep fp) (hH : HM M (x + 1) σ) (hr : Hok B σ) (z : Int) (hz : i32 z) (hd : hDoor σ z) : Ct (e_L r0) Γ mX7_fittingDials 2 0 0 [vR x, vI z] M n (e_rt (.inl (some (vI (lFit (σ.lk z.toNat))))) M n) := by
  have q2 := hr.2.1
  have q1 := hr.1
  refine g_start ok_X7_fittingDials rfl rfl ?_
  refine g_run 0 2 rfl ?_
  refine g_callV 2 rfl cv_RX7_137 hx (x_lockOf hx hH hr z hz hd) rfl rfl (by decide) (by omega) (by omega) (Nat.le_of_ble_eq_true rfl) (e_kr ?_) e_kx
  have kl := hH.2.2.2.2.2.2.2 z.toNat (by omega)
  have kr := hr.2.2.2.2 z.toNat (by omega)
  refine g_callV 3 rfl cv_RX7_166 kl.2.1 (c_countFitting kl kr) rfl rfl (by decide) (by omega) (by omega) (Nat.le_of_ble_eq_true rfl) (e_kr ?_) e_kx
  exact g_iret 4 rfl rfl (by first | exact trivial | exact Or.inl rfl | exact Or.inr rfl | (show _ ∨ _; omega)) ⟨rfl, rfl, rfl⟩
theorem x_fittingDialsX (hx : XO M x sv ep fp) (hH : HM M (x + 1) σ) (hr : Hok B σ) (z : Int) (hz : i32 z) (hd : ¬ hDoor σ z) : Ct (e_L r0) Γ mX7_fittingDials 2 1 6 [vR x, vI z] M n (e_rt (.inr "java/lang/IndexOutOfBoundsException") M n) := by
  have q2 := hr.2.1
  have q1 := hr.1
  refine g_start ok_X7_fittingDials rfl rfl ?_
  refine g_run 0 2 rfl ?_
  refine g_callV 2 rfl cv_RX7_137 hx (x_lockOfX hx hH hr z hz hd) rfl rfl (by decide) (by omega) (by omega) (Nat.le_of_ble_eq_true rfl) e_krx (e_kxr (gx_out rfl ⟨rfl, rfl, rfl⟩))
theorem x_stepsToOpen (hx : XO M x sv ep fp) (hH : HM M (x + 1) σ) (hr : Hok B σ) (z : Int) (hz : i32 z) (hd : hDoor σ z) : Ct (e_L r0) Γ mX7_stepsToOpen 2 0 0 [vR x, vI z] M n (e_rt (.inl (some (vI (lSteps (σ.lk z.toNat))))) M n) := by
  have q2 := hr.2.1
  have q1 := hr.1
  refine g_start ok_X7_stepsToOpen rfl rfl ?_
  refine g_run 0 2 rfl ?_
  refine g_callV 2 rfl cv_RX7_137 hx (x_lockOf hx hH hr z hz hd) rfl rfl (by decide) (by omega) (by omega) (Nat.le_of_ble_eq_true rfl) (e_kr ?_) e_kx
  have kl := hH.2.2.2.2.2.2.2 z.toNat (by omega)
  have kr := hr.2.2.2.2 z.toNat (by omega)
  refine g_callV 3 rfl cv_RX7_169 kl.2.1 (c_stepsByDistances kl kr) rfl rfl (by decide) (by omega) (by omega) (Nat.le_of_ble_eq_true rfl) (e_kr ?_) e_kx
  exact g_iret 4 rfl rfl (by first | exact trivial | exact Or.inl rfl | exact Or.inr rfl | (show _ ∨ _; omega)) ⟨rfl, rfl, rfl⟩
theorem x_stepsToOpenX (hx : XO M x sv ep fp) (hH : HM M (x + 1) σ) (hr : Hok B σ) (z : Int) (hz : i32 z) (hd : ¬ hDoor σ z) : Ct (e_L r0) Γ mX7_stepsToOpen 2 1 6 [vR x, vI z] M n (e_rt (.inr "java/lang/IndexOutOfBoundsException") M n) := by
  have q2 := hr.2.1
  have q1 := hr.1
  refine g_start ok_X7_stepsToOpen rfl rfl ?_
  refine g_run 0 2 rfl ?_
  refine g_callV 2 rfl cv_RX7_137 hx (x_lockOfX hx hH hr z hz hd) rfl rfl (by decide) (by omega) (by omega) (Nat.le_of_ble_eq_true rfl) e_krx (e_kxr (gx_out rfl ⟨rfl, rfl, rfl⟩))
theorem x_openingSettings (hx : XO M x sv ep fp) (hH : HM M (x + 1) σ) (hr : Hok B σ) (z : Int) (hz : i32 z) (hd : hDoor σ z) : Ct (e_L r0) Γ mX7_openingSettings 2 0 0 [vR x, vI z] M n (e_rt (.inl (some (vI ((2 * ((σ.lk z.toNat).cr / 5) + 1) * (2 * ((σ.lk z.toNat).cr / 5) + 1) * (2 * ((σ.lk z.toNat).cr / 5) + 1))))) M n) := by
  have q2 := hr.2.1
  have q1 := hr.1
  refine g_start ok_X7_openingSettings rfl rfl ?_
  refine g_run 0 3 rfl ?_
  refine g_callV 3 rfl cv_RX7_137 hx (x_lockOf hx hH hr z hz hd) rfl rfl (by decide) (by omega) (by omega) (Nat.le_of_ble_eq_true rfl) (e_kr ?_) e_kx
  have kl := hH.2.2.2.2.2.2.2 z.toNat (by omega)
  have kr := hr.2.2.2.2 z.toNat (by omega)
  refine g_callV 4 rfl cv_RX7_163 kl.2.1 (c_playNow kl kr.2.1) rfl rfl (by decide) (by omega) (by omega) (Nat.le_of_ble_eq_true rfl) (e_kr ?_) e_kx
  refine g_run 5 9 rfl ?_
  exact g_iret 14 rfl rfl (by first | exact trivial | exact Or.inl rfl | exact Or.inr rfl | (show _ ∨ _; omega)) ⟨rfl, rfl, rfl⟩
theorem x_openingSettingsX (hx : XO M x sv ep fp) (hH : HM M (x + 1) σ) (hr : Hok B σ) (z : Int) (hz : i32 z) (hd : ¬ hDoor σ z) : Ct (e_L r0) Γ mX7_openingSettings 2 1 6 [vR x, vI z] M n (e_rt (.inr "java/lang/IndexOutOfBoundsException") M n) := by
  have q2 := hr.2.1
  have q1 := hr.1
  refine g_start ok_X7_openingSettings rfl rfl ?_
  refine g_run 0 3 rfl ?_
  refine g_callV 3 rfl cv_RX7_137 hx (x_lockOfX hx hH hr z hz hd) rfl rfl (by decide) (by omega) (by omega) (Nat.le_of_ble_eq_true rfl) e_krx (e_kxr (gx_out rfl ⟨rfl, rfl, rfl⟩))
end XQ
