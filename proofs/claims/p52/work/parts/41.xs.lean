/-! the class's predictions, on the spare house (wip/whole/gen/c_xs.py prints this part) -/
/-- only the spare house has changed -/
def SP (x : Nat) (M M' : Mem) : Prop := (∃ τ', HM M' (x + 25) τ') ∧ e_fr (x + 25) (x + 49) M M'
theorem HM_lk {M M' : Mem} {h d : Nat} {τ : HS} {L : LkS} (H : HM M h τ) (hd : d < 6) (hL : LM M' (h + 6 + 3 * d) L) (hf : e_fr (h + 6 + 3 * d) (h + 6 + 3 * d + 3) M M') : HM M' h (τ.sc, τ.od, τ.oh, τ.td, τ.ty, va_up τ.lk d L) :=
  ⟨H.1, (hf _ (by omega)).trans H.2.1, (hf _ (by omega)).trans H.2.2.1, (hf _ (by omega)).trans H.2.2.2.1, (hf _ (by omega)).trans H.2.2.2.2.1, (hf _ (by omega)).trans H.2.2.2.2.2.1, (hf _ (by omega)).trans H.2.2.2.2.2.2.1, LF_up hf hL H.2.2.2.2.2.2.2⟩
theorem SP_lk {M M' : Mem} {x d : Nat} {τ : HS} (H : HM M (x + 25) τ) (hd : d < 6) (hL : ∃ L, LM M' (x + 25 + 6 + 3 * d) L) (hf : e_fr (x + 25 + 6 + 3 * d) (x + 25 + 6 + 3 * d + 3) M M') : SP x M M' := by
  obtain ⟨L, hL⟩ := hL
  exact ⟨⟨_, HM_lk H hd hL hf⟩, e_fr_w hf (by omega)⟩
def lTub : Nat → LkS → Int
  | 0, _ => -100
  | k + 1, L => if L.cr = 20 then 0 else if lFit L = 3 then -100 else 1 + lTub k (lTry L)
theorem lTub_rng : ∀ (k : Nat) (L : LkS), -100 ≤ lTub k L ∧ lTub k L ≤ k
  | 0, L => by simp [lTub]
  | k + 1, L => by
    have := lTub_rng k (lTry L)
    unfold lTub
    (repeat' split) <;> omega
theorem lTub_neg : ∀ (k : Nat) (L : LkS), k ≤ 40 → lTub k L < 0 → lTub k L ≤ -100 + k
  | 0, L, _, h => by simp [lTub]
  | k + 1, L, hk, h => by
    have h9 := lTub_neg k (lTry L) (by omega)
    unfold lTub at h ⊢
    generalize lTub k (lTry L) = z at h h9 ⊢
    by_cases e1 : L.cr = 20
    · rw [if_pos e1] at h; omega
    · rw [if_neg e1] at h ⊢
      by_cases e2 : lFit L = 3
      · rw [if_pos e2]; omega
      · rw [if_neg e2] at h ⊢
        have := h9 (by omega)
        omega
section XP
variable {r0 : Option Nat} {Γ : Cx} {M : Mem} {n x : Nat} {σ τ : HS} {B : Int} {sv ep fp : Int}
theorem x_stepsToOpen2 (hx : XO M x sv ep fp) (hH : HM M (x + 1) σ) (hr : Hok B σ) (hT : HM M (x + 25) τ) (z : Int) (hz : i32 z) (hd : hDoor σ z) : Ct (e_L r0) Γ mX7_stepsToOpenByTurning 3 0 0 [vR x, vI z] M n (e_wr (some (vI (lSteps (σ.lk z.toNat)))) n fun M' => SP x M M') := by
  have q2 := hr.2.1
  have q0 := hr.1 0 (by decide)
  refine g_start ok_X7_stepsToOpenByTurning rfl rfl ?_
  refine g_run 0 2 rfl ?_
  refine g_callV 2 rfl cv_RX7_137 hx (x_lockOf hx hH hr z hz hd) rfl rfl (by decide) (by omega) (by omega) (Nat.le_of_ble_eq_true rfl) (e_kr ?_) e_kx
  have kl := hH.2.2.2.2.2.2.2 z.toNat (by omega)
  have kr := hr.2.2.2.2 z.toNat (by omega)
  refine g_run 3 1 rfl ?_
  refine g_get 4 rfl fl_RX7_16 hx rfl ?_
  refine g_get 5 rfl fl_RX7_172 hT.2.1 rfl ?_
  refine g_run 6 1 rfl ?_
  refine g_aald 7 0 rfl rfl hT.2.2.1 rfl (by decide) (by decide) ?_
  rw [lkR_at (by decide)]
  have kl13 := hT.2.2.2.2.2.2.2 0 (by decide)
  refine g_callV 8 rfl cv_RX7_176 kl.2.1 (c_stepsByTurning kl kl13 kr (by omega)) rfl rfl (by decide) (by omega) (by omega) (Nat.le_of_ble_eq_true rfl) (e_kw fun M14 hq14 => ?_) e_kwx
  exact g_iret 9 rfl rfl (by first | exact trivial | exact Or.inl rfl | exact Or.inr rfl | (show _ ∨ _; omega)) ⟨rfl, rfl, SP_lk hT (by decide) hq14.1 hq14.2⟩
theorem x_stepsToOpen2X (hx : XO M x sv ep fp) (hH : HM M (x + 1) σ) (hr : Hok B σ) (hT : HM M (x + 25) τ) (z : Int) (hz : i32 z) (hd : ¬ hDoor σ z) : Ct (e_L r0) Γ mX7_stepsToOpenByTurning 3 1 6 [vR x, vI z] M n (e_rt (.inr "java/lang/IndexOutOfBoundsException") M n) := by
  have q2 := hr.2.1
  have q0 := hr.1 0 (by decide)
  refine g_start ok_X7_stepsToOpenByTurning rfl rfl ?_
  refine g_run 0 2 rfl ?_
  refine g_callV 2 rfl cv_RX7_137 hx (x_lockOfX hx hH hr z hz hd) rfl rfl (by decide) (by omega) (by omega) (Nat.le_of_ble_eq_true rfl) e_krx (e_kxr (gx_out rfl ⟨rfl, rfl, rfl⟩))
theorem x_tub9 {Q : Rv → Mem → Nat → Prop} {M0 : Mem} (hT : HM M0 (x + 25) τ) (lk : Option aV) (z : Int) : ∀ (k : Nat) (M : Mem) (L : LkS) (t : Nat), k + t = 21 → LM M (x + 25 + 6 + 3 * 0) L → Lok L → e_fr (x + 25 + 6 + 3 * 0) (x + 25 + 6 + 3 * 0 + 3) M0 M →
    (∀ M', SP x M0 M' → (lTub k L < 0 → Q (.inr "java/util/NoSuchElementException") M' n) ∧ (0 ≤ lTub k L → Q (.inl (some (vI ((t : Int) + lTub k L)))) M' n)) →
    G (e_L r0) Γ mX7_triesUntilBroken 4 1 6 Q 24 [some (vR x), some (vI z), lk, some (vR (x + 25 + 6 + 3 * 0)), some (vI (t : Int))] [] M n 0 0 := by
  intro k
  induction k with
  | zero =>
    intro M L t hk hL hr fr hQ
    have hS := hQ M (SP_lk hT (by decide) ⟨L, hL⟩ fr)
    refine g_run 15 2 rfl ?_
    refine g_icmp_gt 17 57 rfl rfl (by omega) (by omega) (fun c28 => ?_) (fun c28 => ?_)
    · exact g_throwX 29 (th_RX7_198_200_202 r0) rfl rfl rfl rfl rfl rfl (Nat.le_of_ble_eq_true rfl) (by omega) (by omega) (hS.1 (by unfold lTub; omega))
    · exact absurd c28 (by omega)
  | succ k ih =>
    intro M L t hk hL hr fr hQ
    have hS := hQ M (SP_lk hT (by decide) ⟨L, hL⟩ fr)
    have hr2 := hr.2.1
    refine g_run 15 2 rfl ?_
    refine g_icmp_gt 17 57 rfl rfl (by omega) (by omega) (fun c28 => ?_) (fun c28 => ?_)
    · exact absurd c28 (by omega)
    · refine g_run 18 1 rfl ?_
      refine g_callV 19 rfl cv_RX7_156 hL.2.1 (c_hasMostCrumbs hL hr.2.1) rfl rfl (by decide) (by omega) (by omega) (Nat.le_of_ble_eq_true rfl) (e_kr ?_) e_kx
      refine g_if_eq 20 41 rfl rfl b_r (fun c35 => ?_) (fun c35 => ?_)
      · replace c35 := b_0.mp c35
        refine g_run 23 1 rfl ?_
        refine g_callV 24 rfl cv_RX7_195 hL.2.1 (c_takeTry hL hr) rfl rfl (by decide) (by omega) (by omega) (Nat.le_of_ble_eq_true rfl) (e_kw fun M42 hq42 => ?_) e_kwx
        refine g_if_eq 25 51 rfl rfl b_r (fun c45 => ?_) (fun c45 => ?_)
        · replace c45 := b_0.mp c45
          refine g_run 27 2 rfl ?_
          refine ih M42 (lTry L) (t + 1) (by omega) hq42.1 (Lok_try hr) (e_fr_tr fr hq42.2) (fun M' hs => ?_)
          have hQ9 := hQ M' hs
          rw [show lTub (k + 1) L = 1 + lTub k (lTry L) from by rw [lTub, if_neg c35, if_neg c45]] at hQ9
          have r9 := lTub_rng k (lTry L)
          have n9 := lTub_neg k (lTry L) (by omega)
          refine ⟨fun h => hQ9.1 (by have := n9 h; omega), fun h => ?_⟩
          rw [show (((t + 1 : Nat) : Int)) + lTub k (lTry L) = (t : Int) + (1 + lTub k (lTry L)) from by omega]
          exact hQ9.2 (by omega)
        · replace c45 := b_1.mp c45
          rw [show lTub (k + 1) L = -100 from by rw [lTub, if_neg c35, if_pos c45]] at hS
          have hS9 := (hQ M42 (SP_lk hT (by decide) ⟨_, hq42.1⟩ (e_fr_tr fr hq42.2))).1
          rw [show lTub (k + 1) L = -100 from by rw [lTub, if_neg c35, if_pos c45]] at hS9
          refine g_run 26 1 rfl ?_
          exact g_throwX 29 (th_RX7_198_200_202 r0) rfl rfl rfl rfl rfl rfl (Nat.le_of_ble_eq_true rfl) (by omega) (by omega) (hS9 (by decide))
      · replace c35 := b_1.mp c35
        rw [show lTub (k + 1) L = 0 from by rw [lTub, if_pos c35]] at hS
        refine g_run 21 1 rfl ?_
        exact g_iret 22 rfl rfl (by first | exact trivial | exact Or.inl rfl | exact Or.inr rfl | (show _ ∨ _; omega)) (by have := hS.2 (Int.le_refl _); rw [Int.add_zero] at this; exact this)
theorem x_triesUntilBroken (hx : XO M x sv ep fp) (hH : HM M (x + 1) σ) (hr : Hok B σ) (hT : HM M (x + 25) τ) (z : Int) (hz : i32 z) (hd : hDoor σ z) : Ct (e_L r0) Γ mX7_triesUntilBroken 4 1 6 [vR x, vI z] M n (fun r' M' n' => n' = n ∧ SP x M M' ∧ ((lTub 21 (σ.lk z.toNat) < 0 ∧ r' = .inr "java/util/NoSuchElementException") ∨ (0 ≤ lTub 21 (σ.lk z.toNat) ∧ r' = .inl (some (vI (lTub 21 (σ.lk z.toNat))))))) := by
  have q2 := hr.2.1
  have q0 := hr.1 0 (by decide)
  refine g_start ok_X7_triesUntilBroken rfl rfl ?_
  refine g_run 0 2 rfl ?_
  refine g_callV 2 rfl cv_RX7_137 hx (x_lockOf hx hH hr z hz hd) rfl rfl (by decide) (by omega) (by omega) (Nat.le_of_ble_eq_true rfl) (e_kr ?_) e_kx
  have kl := hH.2.2.2.2.2.2.2 z.toNat (by omega)
  have kr := hr.2.2.2.2 z.toNat (by omega)
  refine g_run 3 2 rfl ?_
  refine g_get 5 rfl fl_RX7_16 hx rfl ?_
  refine g_get 6 rfl fl_RX7_172 hT.2.1 rfl ?_
  refine g_run 7 1 rfl ?_
  refine g_aald 8 0 rfl rfl hT.2.2.1 rfl (by decide) (by decide) ?_
  rw [lkR_at (by decide)]
  have kl14 := hT.2.2.2.2.2.2.2 0 (by decide)
  refine g_run 9 3 rfl ?_
  refine g_callV 12 rfl cv_RX7_191 kl14.2.1 (c_lockCopy kl14 kl (by omega) kr.1) rfl rfl (by decide) (by omega) (by omega) (Nat.le_of_ble_eq_true rfl) (e_kw fun M18 hq18 => ?_) e_kwx
  refine g_run 13 2 rfl ?_
  exact x_tub9 hT _ z 21 M18 (σ.lk z.toNat) 0 rfl hq18.1 kr hq18.2 (fun M' hs => ⟨fun h => ⟨rfl, hs, Or.inl ⟨h, rfl⟩⟩, fun h => ⟨rfl, hs, Or.inr ⟨h, by rw [show ((0 : Nat) : Int) + lTub 21 (σ.lk z.toNat) = lTub 21 (σ.lk z.toNat) from Int.zero_add _]⟩⟩⟩)
theorem x_triesUntilBrokenX (hx : XO M x sv ep fp) (hH : HM M (x + 1) σ) (hr : Hok B σ) (hT : HM M (x + 25) τ) (z : Int) (hz : i32 z) (hd : ¬ hDoor σ z) : Ct (e_L r0) Γ mX7_triesUntilBroken 4 1 6 [vR x, vI z] M n (e_rt (.inr "java/lang/IndexOutOfBoundsException") M n) := by
  have q2 := hr.2.1
  have q0 := hr.1 0 (by decide)
  refine g_start ok_X7_triesUntilBroken rfl rfl ?_
  refine g_run 0 2 rfl ?_
  refine g_callV 2 rfl cv_RX7_137 hx (x_lockOfX hx hH hr z hz hd) rfl rfl (by decide) (by omega) (by omega) (Nat.le_of_ble_eq_true rfl) e_krx (e_kxr (gx_out rfl ⟨rfl, rfl, rfl⟩))
theorem LM_of {M : Mem} {h d : Nat} {τ : HS} (H : HM M h τ) (hd : d < 6) : LM M (h + 6 + 3 * d) (τ.lk d) := H.2.2.2.2.2.2.2 d hd
theorem x_dialAfter (hx : XO M x sv ep fp) (hH : HM M (x + 1) σ) (hr : Hok B σ) (hT : HM M (x + 25) τ) (hB : B ≤ 1000000000) (z : Int) (hz : i32 z) (y : Int) (hy : i32 y) (u : Int) (hu : i32 u) (hd : hDoor σ z) (h2 : 0 ≤ y ∧ y ≤ 2) (h3 : 0 ≤ u ∧ u ≤ 60) : Ct (e_L r0) Γ mX7_dialAfter 5 0 0 [vR x, vI z, vI y, vI u] M n (e_wr (some (vI (((doHrs σ u.toNat).lk z.toNat).dl y.toNat))) n fun M' => SP x M M') := by
  have q2 := hr.2.1
  have q0 := hr.1 0 (by decide)
  refine g_start ok_X7_dialAfter rfl rfl ?_
  refine g_run 0 2 rfl ?_
  refine g_callV 2 rfl cv_RX7_137 hx (x_lockOf hx hH hr z hz hd) rfl rfl (by decide) (by omega) (by omega) (Nat.le_of_ble_eq_true rfl) (e_kr ?_) e_kx
  have kl := hH.2.2.2.2.2.2.2 z.toNat (by omega)
  have kr := hr.2.2.2.2 z.toNat (by omega)
  refine g_run 3 2 rfl ?_
  refine g_callS 5 rfl cs_RX7_141 (x_requireDial y hy h2) rfl rfl (by decide) (by omega) (by omega) (Nat.le_of_ble_eq_true rfl) (e_kr ?_) e_kx
  refine g_run 6 1 rfl ?_
  refine g_if_lt 7 20 rfl rfl (by omega) (fun c11 => ?_) (fun c11 => ?_)
  · exact absurd c11 (by omega)
  · refine g_run 8 2 rfl ?_
    refine g_icmp_le 10 30 rfl rfl (by omega) (by omega) (fun c17 => ?_) (fun c17 => ?_)
    · refine g_run 16 1 rfl ?_
      refine g_get 17 rfl fl_RX7_16 hx rfl ?_
      refine g_run 18 1 rfl ?_
      refine g_get 19 rfl fl_RX7_10 hx rfl ?_
      refine g_callV 20 rfl cv_RX7_205 hT.2.1 (c_houseCopy hT hH (by omega) hr) rfl rfl (by decide) (by omega) (by omega) (Nat.le_of_ble_eq_true rfl) (e_kw fun M38 hq38 => ?_) e_kwx
      have hx38 := (hq38.2 x (by omega)).trans hx
      have hT38 := hq38.1
      refine g_run 21 1 rfl ?_
      refine g_get 22 rfl fl_RX7_16 hx38 rfl ?_
      refine g_run 23 1 rfl ?_
      refine g_callV 24 rfl cv_RX7_207 hT38.2.1 (c_letHoursPass hT38 hr hB u h3) rfl rfl (by decide) (by omega) (by omega) (Nat.le_of_ble_eq_true rfl) (e_kw fun M46 hq46 => ?_) e_kwx
      have hx46 := (hq46.2 x (by omega)).trans hx38
      have hT46 := hq46.1
      refine g_run 25 2 rfl ?_
      refine g_get 27 rfl fl_RX7_16 hx46 rfl ?_
      refine g_get 28 rfl fl_RX7_172 hT46.2.1 rfl ?_
      refine g_run 29 1 rfl ?_
      refine g_aald 30 z.toNat rfl rfl hT46.2.2.1 (by omega) (by omega) (by decide) ?_
      rw [lkR_at (by omega)]
      have kl58 := hT46.2.2.2.2.2.2.2 z.toNat (by omega)
      refine g_get 31 rfl fl_RX7_145 kl58.2.1 rfl ?_
      refine g_run 32 1 rfl ?_
      refine g_iald 33 y.toNat rfl rfl kl58.2.2.1 (by omega) (by omega) (by decide) ?_
      exact g_iret 34 rfl rfl (by first | exact trivial | exact Or.inl rfl | exact Or.inr rfl | (show _ ∨ _; omega)) ⟨rfl, rfl, ⟨_, hT46⟩, e_fr_tr hq38.2 hq46.2⟩
    · exact absurd c17 (by omega)
theorem x_dialAfterX (hx : XO M x sv ep fp) (hH : HM M (x + 1) σ) (hr : Hok B σ) (hT : HM M (x + 25) τ) (z : Int) (hz : i32 z) (y : Int) (hy : i32 y) (u : Int) (hu : i32 u) (hd : ¬ hDoor σ z) : Ct (e_L r0) Γ mX7_dialAfter 5 1 6 [vR x, vI z, vI y, vI u] M n (e_rt (.inr "java/lang/IndexOutOfBoundsException") M n) := by
  have q2 := hr.2.1
  have q0 := hr.1 0 (by decide)
  refine g_start ok_X7_dialAfter rfl rfl ?_
  refine g_run 0 2 rfl ?_
  refine g_callV 2 rfl cv_RX7_137 hx (x_lockOfX hx hH hr z hz hd) rfl rfl (by decide) (by omega) (by omega) (Nat.le_of_ble_eq_true rfl) e_krx (e_kxr (gx_out rfl ⟨rfl, rfl, rfl⟩))
theorem x_dialAfterY (hx : XO M x sv ep fp) (hH : HM M (x + 1) σ) (hr : Hok B σ) (hT : HM M (x + 25) τ) (z : Int) (hz : i32 z) (y : Int) (hy : i32 y) (u : Int) (hu : i32 u) (hd : hDoor σ z) (h2 : ¬ (0 ≤ y ∧ y ≤ 2)) : Ct (e_L r0) Γ mX7_dialAfter 5 1 6 [vR x, vI z, vI y, vI u] M n (e_rt (.inr "java/lang/IndexOutOfBoundsException") M n) := by
  have q2 := hr.2.1
  have q0 := hr.1 0 (by decide)
  refine g_start ok_X7_dialAfter rfl rfl ?_
  refine g_run 0 2 rfl ?_
  refine g_callV 2 rfl cv_RX7_137 hx (x_lockOf hx hH hr z hz hd) rfl rfl (by decide) (by omega) (by omega) (Nat.le_of_ble_eq_true rfl) (e_kr ?_) e_kx
  have kl := hH.2.2.2.2.2.2.2 z.toNat (by omega)
  have kr := hr.2.2.2.2 z.toNat (by omega)
  refine g_run 3 2 rfl ?_
  refine g_callS 5 rfl cs_RX7_141 (x_requireDialX y hy h2) rfl rfl (by decide) (by omega) (by omega) (Nat.le_of_ble_eq_true rfl) e_krx (e_kxr (gx_out rfl ⟨rfl, rfl, rfl⟩))
theorem x_dialAfterZ (hx : XO M x sv ep fp) (hH : HM M (x + 1) σ) (hr : Hok B σ) (hT : HM M (x + 25) τ) (z : Int) (hz : i32 z) (y : Int) (hy : i32 y) (u : Int) (hu : i32 u) (hd : hDoor σ z) (h2 : 0 ≤ y ∧ y ≤ 2) (h3 : ¬ (0 ≤ u ∧ u ≤ 60)) : Ct (e_L r0) Γ mX7_dialAfter 5 1 6 [vR x, vI z, vI y, vI u] M n (e_rt (.inr "java/lang/IllegalArgumentException") M n) := by
  have q2 := hr.2.1
  have q0 := hr.1 0 (by decide)
  refine g_start ok_X7_dialAfter rfl rfl ?_
  refine g_run 0 2 rfl ?_
  refine g_callV 2 rfl cv_RX7_137 hx (x_lockOf hx hH hr z hz hd) rfl rfl (by decide) (by omega) (by omega) (Nat.le_of_ble_eq_true rfl) (e_kr ?_) e_kx
  have kl := hH.2.2.2.2.2.2.2 z.toNat (by omega)
  have kr := hr.2.2.2.2 z.toNat (by omega)
  refine g_run 3 2 rfl ?_
  refine g_callS 5 rfl cs_RX7_141 (x_requireDial y hy h2) rfl rfl (by decide) (by omega) (by omega) (Nat.le_of_ble_eq_true rfl) (e_kr ?_) e_kx
  refine g_run 6 1 rfl ?_
  refine g_if_lt 7 20 rfl rfl (by omega) (fun c11 => ?_) (fun c11 => ?_)
  · exact g_throw 11 (th_RX7_119_203_123 r0) rfl rfl rfl rfl rfl rfl (Nat.le_of_ble_eq_true rfl) (by omega) (by omega) ⟨rfl, rfl, rfl⟩
  · refine g_run 8 2 rfl ?_
    refine g_icmp_le 10 30 rfl rfl (by omega) (by omega) (fun c17 => ?_) (fun c17 => ?_)
    · exact absurd ⟨by omega, c17⟩ h3
    · exact g_throw 11 (th_RX7_119_203_123 r0) rfl rfl rfl rfl rfl rfl (Nat.le_of_ble_eq_true rfl) (by omega) (by omega) ⟨rfl, rfl, rfl⟩
theorem x_hoursUntilFitting (hx : XO M x sv ep fp) (hH : HM M (x + 1) σ) (hr : Hok B σ) (hT : HM M (x + 25) τ) (hB : B ≤ 1000000000) (z : Int) (hz : i32 z) (hd : hDoor σ z) : Ct (e_L r0) Γ mX7_hoursUntilFitting 5 1 6 [vR x, vI z] M n (fun r' M' n' => n' = n ∧ SP x M M' ∧ ∃ k : Nat, (∀ j : Nat, j < k → lFit ((doHrs σ j).lk z.toNat) ≠ 3) ∧ ((k ≤ 60 ∧ lFit ((doHrs σ k).lk z.toNat) = 3 ∧ r' = .inl (some (vI (k : Int)))) ∨ (k = 61 ∧ r' = .inr "java/util/NoSuchElementException"))) := by
  have q2 := hr.2.1
  have q0 := hr.1 0 (by decide)
  refine g_start ok_X7_hoursUntilFitting rfl rfl ?_
  refine g_run 0 2 rfl ?_
  refine g_callV 2 rfl cv_RX7_137 hx (x_lockOf hx hH hr z hz hd) rfl rfl (by decide) (by omega) (by omega) (Nat.le_of_ble_eq_true rfl) (e_kr ?_) e_kx
  have kl := hH.2.2.2.2.2.2.2 z.toNat (by omega)
  have kr := hr.2.2.2.2 z.toNat (by omega)
  refine g_run 3 2 rfl ?_
  refine g_get 5 rfl fl_RX7_16 hx rfl ?_
  refine g_run 6 1 rfl ?_
  refine g_get 7 rfl fl_RX7_10 hx rfl ?_
  refine g_callV 8 rfl cv_RX7_205 hT.2.1 (c_houseCopy hT hH (by omega) hr) rfl rfl (by decide) (by omega) (by omega) (Nat.le_of_ble_eq_true rfl) (e_kw fun M14 hq14 => ?_) e_kwx
  have hx14 := (hq14.2 x (by omega)).trans hx
  have hT14 := hq14.1
  refine g_run 9 1 rfl ?_
  refine g_get 10 rfl fl_RX7_16 hx14 rfl ?_
  refine g_get 11 rfl fl_RX7_172 hT14.2.1 rfl ?_
  refine g_run 12 1 rfl ?_
  refine g_aald 13 z.toNat rfl rfl hT14.2.2.1 (by omega) (by omega) (by decide) ?_
  rw [lkR_at (by omega)]
  have kl25 := hT14.2.2.2.2.2.2.2 z.toNat (by omega)
  refine g_run 14 3 rfl ?_
  refine e_down (P := fun k => ∀ M', XO M' x sv ep fp → HM M' (x + 25) (doHrs σ k) → e_fr (x + 25) (x + 49) M M' → (∀ j : Nat, j < k → lFit ((doHrs σ j).lk z.toNat) ≠ 3) → G (e_L r0) Γ mX7_hoursUntilFitting 5 1 6 (fun r' M' n' => n' = n ∧ SP x M M' ∧ ∃ k : Nat, (∀ j : Nat, j < k → lFit ((doHrs σ j).lk z.toNat) ≠ 3) ∧ ((k ≤ 60 ∧ lFit ((doHrs σ k).lk z.toNat) = 3 ∧ r' = .inl (some (vI (k : Int)))) ∨ (k = 61 ∧ r' = .inr "java/util/NoSuchElementException"))) 29 [some (vR x), some (vI z), some (vR (x + 25 + 6 + 3 * z.toNat)), some (vI (k : Int))] [] M' n 0 0) 61 ?_ 0 (by omega) M14 hx14 hT14 hq14.2 (fun j hj => absurd hj (by omega))
  intro k hk ih M2 hx2 hT2 fr2 hno
  have hrk := Hok_hrs hr k
  have kl2 := LM_of hT2 (d := z.toNat) (by omega)
  refine g_run 17 2 rfl ?_
  refine g_icmp_gt 19 58 rfl rfl (by omega) (by omega) (fun c32 => ?_) (fun c32 => ?_)
  · have ek : k = 61 := by omega
    clear ih
    exact g_throwX 31 (th_RX7_198_214_202 r0) rfl rfl rfl rfl rfl rfl (Nat.le_of_ble_eq_true rfl) (by omega) (by omega) ⟨rfl, ⟨⟨_, hT2⟩, fr2⟩, k, hno, Or.inr ⟨ek, rfl⟩⟩
  · refine g_run 20 1 rfl ?_
    refine g_callV 21 rfl cv_RX7_166 kl2.2.1 (c_countFitting kl2 (hrk.2.2.2.2 _ (by omega))) rfl rfl (by decide) (by omega) (by omega) (Nat.le_of_ble_eq_true rfl) (e_kr ?_) e_kx
    have qf := lFit_rng ((doHrs σ k).lk z.toNat)
    refine g_run 22 1 rfl ?_
    refine g_icmp_ne 23 45 rfl rfl (by omega) (by omega) (fun c40 => ?_) (fun c40 => ?_)
    · refine g_run 26 1 rfl ?_
      refine g_get 27 rfl fl_RX7_16 hx2 rfl ?_
      refine g_callV 28 rfl cv_RX7_211 hT2.2.1 (c_letHourPass hT2 hrk (by omega)) rfl rfl (by decide) (by omega) (by omega) (Nat.le_of_ble_eq_true rfl) (e_kw fun M49 hq49 => ?_) e_kwx
      refine g_run 29 2 rfl ?_
      exact ih (by omega) M49 ((hq49.2 x (by omega)).trans hx2) hq49.1 (e_fr_tr fr2 hq49.2) (fun j hj => by by_cases e : j = k; exact e ▸ c40; exact hno j (by omega))
    · refine g_run 24 1 rfl ?_
      exact g_iret 25 rfl rfl (by first | exact trivial | exact Or.inl rfl | exact Or.inr rfl | (show _ ∨ _; omega)) ⟨rfl, ⟨⟨_, hT2⟩, fr2⟩, k, hno, Or.inl ⟨by omega, c40, rfl⟩⟩
theorem x_hoursUntilFittingX (hx : XO M x sv ep fp) (hH : HM M (x + 1) σ) (hr : Hok B σ) (hT : HM M (x + 25) τ) (z : Int) (hz : i32 z) (hd : ¬ hDoor σ z) : Ct (e_L r0) Γ mX7_hoursUntilFitting 5 1 6 [vR x, vI z] M n (e_rt (.inr "java/lang/IndexOutOfBoundsException") M n) := by
  have q2 := hr.2.1
  have q0 := hr.1 0 (by decide)
  refine g_start ok_X7_hoursUntilFitting rfl rfl ?_
  refine g_run 0 2 rfl ?_
  refine g_callV 2 rfl cv_RX7_137 hx (x_lockOfX hx hH hr z hz hd) rfl rfl (by decide) (by omega) (by omega) (Nat.le_of_ble_eq_true rfl) e_krx (e_kxr (gx_out rfl ⟨rfl, rfl, rfl⟩))
theorem x_isConsistent (hx : XO M x sv ep fp) (hH : HM M (x + 1) σ) (hr : Hok B σ) (hT : HM M (x + 25) τ) (hB : B ≤ 300000000) : Ct (e_L r0) Γ mX7_isConsistent 3 0 0 [vR x] M n (fun r' M' n' => n' = n ∧ SP x M M' ∧ ((((∀ d : Nat, (d : Int) < σ.sc 0 → (σ.lk d).cr = 20 → (σ.lk d).op = 1) ∧ nShut σ.lk (σ.sc 0).toNat = accts σ) ∧ r' = .inl (some (vI 1))) ∨ (¬ ((∀ d : Nat, (d : Int) < σ.sc 0 → (σ.lk d).cr = 20 → (σ.lk d).op = 1) ∧ nShut σ.lk (σ.sc 0).toNat = accts σ) ∧ r' = .inl (some (vI 0))))) := by
  have q2 := hr.2.1
  have q0 := hr.1 0 (by decide)
  refine g_start ok_X7_isConsistent rfl rfl ?_
  refine g_run 0 2 rfl ?_
  refine e_down (P := fun k => ∀ M', XO M' x sv ep fp → HM M' (x + 1) σ → (∃ τ', HM M' (x + 25) τ') → e_fr (x + 25) (x + 49) M M' → (∀ d : Nat, d < k → (σ.lk d).cr = 20 → (σ.lk d).op = 1) → ∀ y : Option aV, G (e_L r0) Γ mX7_isConsistent 3 0 0 (fun r' M' n' => n' = n ∧ SP x M M' ∧ ((((∀ d : Nat, (d : Int) < σ.sc 0 → (σ.lk d).cr = 20 → (σ.lk d).op = 1) ∧ nShut σ.lk (σ.sc 0).toNat = accts σ) ∧ r' = .inl (some (vI 1))) ∨ (¬ ((∀ d : Nat, (d : Int) < σ.sc 0 → (σ.lk d).cr = 20 → (σ.lk d).op = 1) ∧ nShut σ.lk (σ.sc 0).toNat = accts σ) ∧ r' = .inl (some (vI 0))))) 2 [some (vR x), some (vI (k : Int)), y] [] M' n 0 0) (σ.sc 0).toNat ?_ 0 (by omega) M hx hH ⟨_, hT⟩ e_fr_refl (fun d hd => absurd hd (by omega)) _
  intro k hk ih M2 hx2 hH2 hT2e fr2 hall y
  obtain ⟨τ2, hT2⟩ := hT2e
  have a1 : -2000000000 ≤ accts σ ∧ accts σ ≤ 2000000000 := by
    have b0 := hr.1 0 (by decide)
    have b4 := hr.1 4 (by decide)
    have b5 := hr.1 5 (by decide)
    have b6 := hr.1 6 (by decide)
    have b7 := hr.1 7 (by decide)
    have b8 := hr.1 8 (by decide)
    unfold accts
    omega
  have a2 := nShut_rng σ.lk (σ.sc 0).toNat
  refine g_run 2 2 rfl ?_
  refine g_get 4 rfl fl_RX7_10 hx2 rfl ?_
  refine g_get 5 rfl fl_RX7_134 hH2.2.1 rfl ?_
  refine g_icmp_ge 6 67 rfl rfl (by omega) (by omega) (fun c10 => ?_) (fun c10 => ?_)
  · have ek : k = (σ.sc 0).toNat := by omega
    clear ih
    have hall9 : ∀ d : Nat, (d : Int) < σ.sc 0 → (σ.lk d).cr = 20 → (σ.lk d).op = 1 := fun d hd => hall d (by omega)
    refine g_run 35 1 rfl ?_
    refine g_get 36 rfl fl_RX7_10 hx2 rfl ?_
    refine g_callV 37 rfl cv_RX7_255 hH2.2.1 (c_countShut hH2 hr) rfl rfl (by decide) (by omega) (by omega) (Nat.le_of_ble_eq_true rfl) (e_kr ?_) e_kx
    refine g_run 38 1 rfl ?_
    refine g_get 39 rfl fl_RX7_10 hx2 rfl ?_
    refine g_callV 40 rfl cv_RX7_258 hH2.2.1 (c_countAccounts hH2) rfl rfl (by decide) (by omega) (by omega) (Nat.le_of_ble_eq_true rfl) (e_kr ?_) e_kx
    refine g_icmp_ne 41 88 rfl rfl (by omega) (by omega) (fun c81 => ?_) (fun c81 => ?_)
    · have e9 : ¬ ((∀ d : Nat, (d : Int) < σ.sc 0 → (σ.lk d).cr = 20 → (σ.lk d).op = 1) ∧ nShut σ.lk (σ.sc 0).toNat = accts σ) := fun h => c81 h.2
      refine g_run 44 1 rfl ?_
      exact g_iret 45 rfl rfl (by first | exact trivial | exact Or.inl rfl | exact Or.inr rfl | (show _ ∨ _; omega)) (by first | exact ⟨rfl, ⟨⟨_, hT2⟩, fr2⟩, Or.inr ⟨e9, rfl⟩⟩ | exact ⟨rfl, ⟨⟨_, hT2⟩, fr2⟩, Or.inl ⟨⟨hall9, c81⟩, rfl⟩⟩)
    · refine g_run 42 2 rfl ?_
      exact g_iret 45 rfl rfl (by first | exact trivial | exact Or.inl rfl | exact Or.inr rfl | (show _ ∨ _; omega)) (by first | exact ⟨rfl, ⟨⟨_, hT2⟩, fr2⟩, Or.inr ⟨e9, rfl⟩⟩ | exact ⟨rfl, ⟨⟨_, hT2⟩, fr2⟩, Or.inl ⟨⟨hall9, c81⟩, rfl⟩⟩)
  · refine g_run 7 1 rfl ?_
    refine g_get 8 rfl fl_RX7_10 hx2 rfl ?_
    refine g_get 9 rfl fl_RX7_172 hH2.2.1 rfl ?_
    refine g_run 10 1 rfl ?_
    refine g_aald 11 k rfl rfl hH2.2.2.1 (by first | rfl | omega) (by omega) (by decide) ?_
    rw [lkR_at (by omega)]
    have kl21 := hH2.2.2.2.2.2.2.2 k (by omega)
    have kr := hr.2.2.2.2 k (by omega)
    refine g_run 12 2 rfl ?_
    refine g_callV 14 rfl cv_RX7_169 kl21.2.1 (c_stepsByDistances kl21 kr) rfl rfl (by decide) (by omega) (by omega) (Nat.le_of_ble_eq_true rfl) (e_kr ?_) e_kx
    have s9 : -2147483648 ≤ lSteps (σ.lk k) ∧ lSteps (σ.lk k) ≤ 2147483647 := by have := p_stepN_rng (σ.lk k).dl (σ.lk k).cb ((σ.lk k).cr / 5) (by have := kr.2.1; omega) 3; exact ⟨by unfold lSteps; omega, by unfold lSteps; omega⟩
    refine g_run 15 2 rfl ?_
    refine g_get 17 rfl fl_RX7_16 hx2 rfl ?_
    refine g_get 18 rfl fl_RX7_172 hT2.2.1 rfl ?_
    refine g_run 19 1 rfl ?_
    refine g_aald 20 0 rfl rfl hT2.2.2.1 rfl (by decide) (by decide) ?_
    rw [lkR_at (by decide)]
    have kl36 := hT2.2.2.2.2.2.2.2 0 (by decide)
    refine g_callV 21 rfl cv_RX7_176 kl21.2.1 (c_stepsByTurning kl21 kl36 kr (by omega)) rfl rfl (by decide) (by omega) (by omega) (Nat.le_of_ble_eq_true rfl) (e_kw fun M37 hq37 => ?_) e_kwx
    have hl37 := LM_fr hq37.2 (by omega) kl21
    have hx37 := (hq37.2 x (by omega)).trans hx2
    refine g_icmp_eq 22 45 rfl rfl s9 s9 (fun c40 => ?_) (fun c40 => ?_)
    · refine g_run 25 1 rfl ?_
      refine g_callV 26 rfl cv_RX7_156 hl37.2.1 (c_hasMostCrumbs hl37 kr.2.1) rfl rfl (by decide) (by omega) (by omega) (Nat.le_of_ble_eq_true rfl) (e_kr ?_) e_kx
      refine g_if_eq 27 61 rfl rfl b_r (fun c49 => ?_) (fun c49 => ?_)
      · replace c49 := b_0.mp c49
        refine g_run 33 2 rfl ?_
        exact ih (by omega) M37 ((hq37.2 x (by omega)).trans hx2) (HM_fr hq37.2 (by omega) hH2) (by obtain ⟨L5, h5⟩ := hq37.1; exact ⟨_, HM_lk hT2 (by decide) h5 hq37.2⟩) (e_fr_tr fr2 (e_fr_w hq37.2 (by omega))) (fun d hd => by by_cases e : d = k; exact e ▸ (fun e9 => by first | exact absurd e9 c49 | exact kr.1.resolve_left c56); exact hall d (by omega)) _
      · replace c49 := b_1.mp c49
        refine g_run 28 1 rfl ?_
        refine g_get 29 rfl fl_RX7_153 hl37.2.1 rfl ?_
        refine g_if_ne 30 61 rfl rfl (by have := kr.1; omega) (fun c56 => ?_) (fun c56 => ?_)
        · refine g_run 33 2 rfl ?_
          exact ih (by omega) M37 ((hq37.2 x (by omega)).trans hx2) (HM_fr hq37.2 (by omega) hH2) (by obtain ⟨L5, h5⟩ := hq37.1; exact ⟨_, HM_lk hT2 (by decide) h5 hq37.2⟩) (e_fr_tr fr2 (e_fr_w hq37.2 (by omega))) (fun d hd => by by_cases e : d = k; exact e ▸ (fun e9 => by first | exact absurd e9 c49 | exact kr.1.resolve_left c56); exact hall d (by omega)) _
        · have hn9 : ¬ ((∀ d : Nat, (d : Int) < σ.sc 0 → (σ.lk d).cr = 20 → (σ.lk d).op = 1) ∧ nShut σ.lk (σ.sc 0).toNat = accts σ) := fun h => by have h9 := h.1 k (by omega) c49; omega
          refine g_run 31 1 rfl ?_
          exact g_iret 32 rfl rfl (by first | exact trivial | exact Or.inl rfl | exact Or.inr rfl | (show _ ∨ _; omega)) ⟨rfl, ⟨(by obtain ⟨L5, h5⟩ := hq37.1; exact ⟨_, HM_lk hT2 (by decide) h5 hq37.2⟩), e_fr_tr fr2 (e_fr_w hq37.2 (by omega))⟩, Or.inr ⟨hn9, rfl⟩⟩
    · exact absurd rfl c40
end XP
