/-! the class's output text (wip/whole/gen/c_xt.py prints this part) -/
def BT (M : Mem) (b v cap : Nat) (s : TS) : Prop := BM M b v cap s.1 s.2
theorem f2_fr {b : Nat} {M M' : Mem} (h : e_f2 b (b + 1) M M') : e_fr b (b + 2) M M' := fun k hk => h k (by omega) (by omega)
theorem sN_pN (s : TS) (w : Int) : s.1 + sL w = (pN s w).1 ∧ sN s.2 s.1 w = (pN s w).2 := by
  unfold sL sN pN
  split
  · exact ⟨rfl, rfl⟩
  · exact ⟨rfl, up_cm (by omega)⟩
def cRow (s : TS) (g : Nat → Int) : Nat → TS
  | 0 => s
  | k + 1 => pN (cRow s g k) (g k)
theorem cRow_len (s : TS) (g : Nat → Int) : ∀ k : Nat, (∀ j, j < k → 0 ≤ g j ∧ g j ≤ 9) → (cRow s g k).1 = s.1 + k
  | 0, _ => rfl
  | k + 1, h => by
    have h1 := cRow_len s g k (fun j hj => h j (by omega))
    have h2 := h k (by omega)
    show (pN (cRow s g k) (g k)).1 = _
    rw [pN, if_pos (by omega), pP_len, h1]; omega
def kLock (σ : HS) (d : Nat) (f : Nat → Int) : TS := pP (pN (pP (cRow (pP (cRow (0, f) (σ.lk d).dl 3) 47) (σ.lk d).cb 3) 99) (σ.lk d).cr) (if hOven σ d then 98 else if (σ.lk d).op = 0 then 115 else 111)
def kOv1 (s : TS) (o : Nat) : TS := pP (pN (if 0 < o then pP s 32 else s) (o : Int)) 58
def kOven (s : TS) (σ : HS) (o : Nat) : TS := if σ.od o = -1 then pP (kOv1 s o) 45 else pN (pP (pN (kOv1 s o) (σ.od o)) 120) (σ.oh o)
def kOv (σ : HS) (f : Nat → Int) : Nat → TS
  | 0 => (0, f)
  | k + 1 => kOven (kOv σ f k) σ k
section XT
variable {r0 : Option Nat} {Γ : Cx} {M : Mem} {n x : Nat} {σ τ : HS} {B : Int} {sv ep fp : Int} {oc : Nat} {of : Nat → Int} {s : TS} {b v cap : Nat}
theorem jt_C (hP : PV Γ) (H : BT M b v cap s) (h1 : s.1 < cap) (z : Int) (hz : 0 ≤ z ∧ z ≤ 127) : Ct (e_L r0) Γ mJ4_append_cf468 6 0 0 [vR b, vI z] M n (e_wr (some (vR b)) n fun M' => BT M' b v cap (pP s z) ∧ e_f2 b v M M') := j_appC hP H h1 z hz
theorem jt_I (hK : KM Γ) (hP : PV Γ) (H : BT M b v cap s) (z : Int) (hz : 0 ≤ z ∧ z ≤ 99) (h1 : s.1 + 2 ≤ cap) : Ct (e_L r0) Γ mJ4_append_bf812 6 0 0 [vR b, vI z] M n (e_wr (some (vR b)) n fun M' => BT M' b v cap (pN s z) ∧ e_f2 b v M M') := by
  have h9 := j_appI (r0 := r0) (n := n) hK hP H z hz (by have := sL_rng z; omega)
  rw [(sN_pN s z).1, (sN_pN s z).2] at h9
  exact h9
abbrev f2r {x : Nat} {M M' : Mem} (h : e_f2 (x + 271) (x + 272) M M') : e_fr (x + 271) (x + 273) M M' := f2_fr h
theorem x_appendPositions (hK : KM Γ) (hP : PV Γ) (hx : XO M x sv ep fp) (hO : BT M (x + 271) (x + 272) 16 s) {d : Nat} {g : Nat → Int} (hD : M d = cI 0 3 g) (hd : d < x + 271) (hg : ∀ j, j < 3 → 0 ≤ g j ∧ g j ≤ 9) (h1 : s.1 + 4 ≤ 16) : Ct (e_L r0) Γ mX7_appendPositions 7 0 0 [vR x, vR d] M n (e_wr none n fun M' => BT M' (x + 271) (x + 272) 16 (cRow s g 3) ∧ e_fr (x + 271) (x + 273) M M') := by
  refine g_start ok_X7_appendPositions rfl rfl ?_
  refine g_run 0 2 rfl ?_
  refine e_down (P := fun k => ∀ M', XO M' x sv ep fp → BT M' (x + 271) (x + 272) 16 (cRow s g k) → M' d = cI 0 3 g → e_fr (x + 271) (x + 273) M M' → G (e_L r0) Γ mX7_appendPositions 7 0 0 _ 2 [some (vR x), some (vR d), some (vI (k : Int))] [] M' n 0 0) 3 ?_ 0 (by omega) M hx hO hD e_fr_refl
  intro k hk ih M2 hx2 hO2 hD2 fr2
  have L1 := cRow_len s g k (fun j hj => hg j (by omega))
  refine g_run 2 2 rfl ?_
  refine g_icmp_ge 4 24 rfl rfl (by omega) (by omega) (fun c4 => ?_) (fun c4 => ?_)
  · obtain rfl : k = 3 := by omega
    exact g_vret 14 rfl rfl ⟨rfl, rfl, hO2, fr2⟩
  · refine g_run 5 1 rfl ?_
    refine g_get 6 rfl fl_RX7_39 hx2 rfl ?_
    refine g_run 7 2 rfl ?_
    refine g_iald 9 k rfl rfl hD2 (by first | rfl | omega) (by omega) (by decide) ?_
    have qg := hg k (by omega)
    refine g_callV 10 rfl cv_RX7_294 hO2.2.2.2.2.2.1.choose_spec.2 (jt_I hK hP hO2 (g k) (by omega) (by omega)) rfl rfl (by decide) (by omega) (by omega) (Nat.le_of_ble_eq_true rfl) (e_kw fun M14 hq14 => ?_) e_kwx
    have k14_this := ((f2_fr hq14.2) x (by omega)).trans hx2
    have k14_row := ((f2_fr hq14.2) d (by omega)).trans hD2
    have fr14 := e_fr_tr fr2 (e_fr_w (f2_fr hq14.2) (by omega))
    refine g_run 11 3 rfl ?_
    exact ih (by omega) M14 k14_this hq14.1 k14_row fr14
theorem x_renderLock (hK : KM Γ) (hP : PV Γ) (hx : XO M x sv ep fp) (hH : HM M (x + 1) σ) (hr : Hok B σ) (hO : BT M (x + 271) (x + 272) 16 s)  (z : Int) (hz : i32 z)  (hd : hDoor σ z) : Ct (e_L r0) Γ mX7_renderLock 8 0 0 [vR x, vI z] M n (e_wr (some (vI ((kLock σ z.toNat s.2).1 : Int))) n fun M' => BT M' (x + 271) (x + 272) 16 (kLock σ z.toNat s.2) ∧ e_fr (x + 271) (x + 273) M M') := by
  have fr0 : e_fr (x + 271) (x + 273) M M := e_fr_refl
  have q2 := hr.2.1
  have q0 := hr.1 0 (by decide)
  refine g_start ok_X7_renderLock rfl rfl ?_
  refine g_run 0 2 rfl ?_
  refine g_callV 2 rfl cv_RX7_137 hx (x_lockOf hx hH hr z hz hd) rfl rfl (by decide) (by omega) (by omega) (Nat.le_of_ble_eq_true rfl) (e_kr ?_) e_kx
  have kl := hH.2.2.2.2.2.2.2 z.toNat (by omega)
  have kr := hr.2.2.2.2 z.toNat (by omega)
  have d9 : ∀ j, j < 3 → 0 ≤ (σ.lk z.toNat).dl j ∧ (σ.lk z.toNat).dl j ≤ 9 := fun j hj => by have := kr.2.2 j hj; omega
  have b9 : ∀ j, j < 3 → 0 ≤ (σ.lk z.toNat).cb j ∧ (σ.lk z.toNat).cb j ≤ 9 := fun j hj => by have := kr.2.2 j hj; omega
  have l1 : (cRow (0, s.2) (σ.lk z.toNat).dl 3).1 = 0 + 3 := cRow_len _ _ 3 d9
  have l2 : (pP (cRow (0, s.2) (σ.lk z.toNat).dl 3) 47).1 = (cRow (0, s.2) (σ.lk z.toNat).dl 3).1 + 1 := rfl
  have l3 : (cRow (pP (cRow (0, s.2) (σ.lk z.toNat).dl 3) 47) (σ.lk z.toNat).cb 3).1 = (pP (cRow (0, s.2) (σ.lk z.toNat).dl 3) 47).1 + 3 := cRow_len _ _ 3 b9
  have l4 : (pP (cRow (pP (cRow (0, s.2) (σ.lk z.toNat).dl 3) 47) (σ.lk z.toNat).cb 3) 99).1 = (cRow (pP (cRow (0, s.2) (σ.lk z.toNat).dl 3) 47) (σ.lk z.toNat).cb 3).1 + 1 := rfl
  have l5 := (pN_len (pP (cRow (pP (cRow (0, s.2) (σ.lk z.toNat).dl 3) 47) (σ.lk z.toNat).cb 3) 99) (σ.lk z.toNat).cr).2
  have kc := kr.2.1
  refine g_run 3 2 rfl ?_
  refine g_get 5 rfl fl_RX7_39 hx rfl ?_
  refine g_run 6 1 rfl ?_
  refine g_callV 7 rfl cv_RX7_283 hO.2.2.2.2.2.1.choose_spec.2 (j_setLength hP hO) rfl rfl (by decide) (by omega) (by omega) (Nat.le_of_ble_eq_true rfl) (e_kw fun M11 hq11 => ?_) e_kwx
  have k11_this := ((f2_fr hq11.2) x (by omega)).trans hx
  have k11_this_house := ((f2_fr hq11.2) (x + 1) (by omega)).trans hH.2.1
  have k11_this_house_ovenDoors := ((f2_fr hq11.2) (x + 1 + 2) (by omega)).trans hH.2.2.2.1
  have k11_this_house_ovenHours := ((f2_fr hq11.2) (x + 1 + 3) (by omega)).trans hH.2.2.2.2.1
  have k11_lk := ((f2_fr hq11.2) (x + 1 + 6 + 3 * z.toNat) (by omega)).trans kl.2.1
  have k11_lk_dials := ((f2_fr hq11.2) (x + 1 + 6 + 3 * z.toNat + 1) (by omega)).trans kl.2.2.1
  have k11_lk_combination := ((f2_fr hq11.2) (x + 1 + 6 + 3 * z.toNat + 2) (by omega)).trans kl.2.2.2
  have fr11 := e_fr_tr fr0 (e_fr_w (f2_fr hq11.2) (by omega))
  refine g_run 8 2 rfl ?_
  refine g_get 10 rfl fl_RX7_145 k11_lk rfl ?_
  refine g_callV 11 rfl cv_RX7_286 k11_this (x_appendPositions hK hP k11_this (show BT M11 (x + 271) (x + 272) 16 (0, s.2) from hq11.1) k11_lk_dials (by omega) d9 (by show 0 + 4 ≤ 16; omega)) rfl rfl (by decide) (by omega) (by omega) (Nat.le_of_ble_eq_true rfl) (e_kw fun M19 hq19 => ?_) e_kwx
  have k19_this := (hq19.2 x (by omega)).trans k11_this
  have k19_this_house := (hq19.2 (x + 1) (by omega)).trans k11_this_house
  have k19_this_house_ovenDoors := (hq19.2 (x + 1 + 2) (by omega)).trans k11_this_house_ovenDoors
  have k19_this_house_ovenHours := (hq19.2 (x + 1 + 3) (by omega)).trans k11_this_house_ovenHours
  have k19_lk := (hq19.2 (x + 1 + 6 + 3 * z.toNat) (by omega)).trans k11_lk
  have k19_lk_dials := (hq19.2 (x + 1 + 6 + 3 * z.toNat + 1) (by omega)).trans k11_lk_dials
  have k19_lk_combination := (hq19.2 (x + 1 + 6 + 3 * z.toNat + 2) (by omega)).trans k11_lk_combination
  have fr19 := e_fr_tr fr11 (e_fr_w hq19.2 (by omega))
  refine g_run 12 1 rfl ?_
  refine g_get 13 rfl fl_RX7_39 k19_this rfl ?_
  refine g_run 14 1 rfl ?_
  refine g_callV 15 rfl cv_RX7_290 hq19.1.2.2.2.2.2.1.choose_spec.2 (jt_C hP hq19.1 (by omega) 47 (by omega)) rfl rfl (by decide) (by omega) (by omega) (Nat.le_of_ble_eq_true rfl) (e_kw fun M28 hq28 => ?_) e_kwx
  have k28_this := ((f2_fr hq28.2) x (by omega)).trans k19_this
  have k28_this_house := ((f2_fr hq28.2) (x + 1) (by omega)).trans k19_this_house
  have k28_this_house_ovenDoors := ((f2_fr hq28.2) (x + 1 + 2) (by omega)).trans k19_this_house_ovenDoors
  have k28_this_house_ovenHours := ((f2_fr hq28.2) (x + 1 + 3) (by omega)).trans k19_this_house_ovenHours
  have k28_lk := ((f2_fr hq28.2) (x + 1 + 6 + 3 * z.toNat) (by omega)).trans k19_lk
  have k28_lk_dials := ((f2_fr hq28.2) (x + 1 + 6 + 3 * z.toNat + 1) (by omega)).trans k19_lk_dials
  have k28_lk_combination := ((f2_fr hq28.2) (x + 1 + 6 + 3 * z.toNat + 2) (by omega)).trans k19_lk_combination
  have fr28 := e_fr_tr fr19 (e_fr_w (f2_fr hq28.2) (by omega))
  refine g_run 16 3 rfl ?_
  refine g_get 19 rfl fl_RX7_150 k28_lk rfl ?_
  refine g_callV 20 rfl cv_RX7_286 k28_this (x_appendPositions hK hP k28_this hq28.1 k28_lk_combination (by omega) b9 (by omega)) rfl rfl (by decide) (by omega) (by omega) (Nat.le_of_ble_eq_true rfl) (e_kw fun M37 hq37 => ?_) e_kwx
  have k37_this := (hq37.2 x (by omega)).trans k28_this
  have k37_this_house := (hq37.2 (x + 1) (by omega)).trans k28_this_house
  have k37_this_house_ovenDoors := (hq37.2 (x + 1 + 2) (by omega)).trans k28_this_house_ovenDoors
  have k37_this_house_ovenHours := (hq37.2 (x + 1 + 3) (by omega)).trans k28_this_house_ovenHours
  have k37_lk := (hq37.2 (x + 1 + 6 + 3 * z.toNat) (by omega)).trans k28_lk
  have k37_lk_dials := (hq37.2 (x + 1 + 6 + 3 * z.toNat + 1) (by omega)).trans k28_lk_dials
  have k37_lk_combination := (hq37.2 (x + 1 + 6 + 3 * z.toNat + 2) (by omega)).trans k28_lk_combination
  have fr37 := e_fr_tr fr28 (e_fr_w hq37.2 (by omega))
  refine g_run 21 1 rfl ?_
  refine g_get 22 rfl fl_RX7_39 k37_this rfl ?_
  refine g_run 23 1 rfl ?_
  refine g_callV 24 rfl cv_RX7_290 hq37.1.2.2.2.2.2.1.choose_spec.2 (jt_C hP hq37.1 (by omega) 99 (by omega)) rfl rfl (by decide) (by omega) (by omega) (Nat.le_of_ble_eq_true rfl) (e_kw fun M46 hq46 => ?_) e_kwx
  have k46_this := ((f2_fr hq46.2) x (by omega)).trans k37_this
  have k46_this_house := ((f2_fr hq46.2) (x + 1) (by omega)).trans k37_this_house
  have k46_this_house_ovenDoors := ((f2_fr hq46.2) (x + 1 + 2) (by omega)).trans k37_this_house_ovenDoors
  have k46_this_house_ovenHours := ((f2_fr hq46.2) (x + 1 + 3) (by omega)).trans k37_this_house_ovenHours
  have k46_lk := ((f2_fr hq46.2) (x + 1 + 6 + 3 * z.toNat) (by omega)).trans k37_lk
  have k46_lk_dials := ((f2_fr hq46.2) (x + 1 + 6 + 3 * z.toNat + 1) (by omega)).trans k37_lk_dials
  have k46_lk_combination := ((f2_fr hq46.2) (x + 1 + 6 + 3 * z.toNat + 2) (by omega)).trans k37_lk_combination
  have fr46 := e_fr_tr fr37 (e_fr_w (f2_fr hq46.2) (by omega))
  refine g_run 25 1 rfl ?_
  refine g_get 26 rfl fl_RX7_160 k46_lk rfl ?_
  refine g_callV 27 rfl cv_RX7_294 hq46.1.2.2.2.2.2.1.choose_spec.2 (jt_I hK hP hq46.1 (σ.lk z.toNat).cr (by omega) (by omega)) rfl rfl (by decide) (by omega) (by omega) (Nat.le_of_ble_eq_true rfl) (e_kw fun M53 hq53 => ?_) e_kwx
  have k53_this := ((f2_fr hq53.2) x (by omega)).trans k46_this
  have k53_this_house := ((f2_fr hq53.2) (x + 1) (by omega)).trans k46_this_house
  have k53_this_house_ovenDoors := ((f2_fr hq53.2) (x + 1 + 2) (by omega)).trans k46_this_house_ovenDoors
  have k53_this_house_ovenHours := ((f2_fr hq53.2) (x + 1 + 3) (by omega)).trans k46_this_house_ovenHours
  have k53_lk := ((f2_fr hq53.2) (x + 1 + 6 + 3 * z.toNat) (by omega)).trans k46_lk
  have k53_lk_dials := ((f2_fr hq53.2) (x + 1 + 6 + 3 * z.toNat + 1) (by omega)).trans k46_lk_dials
  have k53_lk_combination := ((f2_fr hq53.2) (x + 1 + 6 + 3 * z.toNat + 2) (by omega)).trans k46_lk_combination
  have fr53 := e_fr_tr fr46 (e_fr_w (f2_fr hq53.2) (by omega))
  refine g_run 28 2 rfl ?_
  refine g_get 30 rfl fl_RX7_10 k53_this rfl ?_
  refine g_run 31 1 rfl ?_
  refine g_callV 32 rfl cv_RX7_227 k53_this_house (c_isInOven (HM_fr fr53 (by omega) hH) hr z hz) rfl rfl (by decide) (by omega) (by omega) (Nat.le_of_ble_eq_true rfl) (e_kr ?_) e_kx
  have zz : ((z.toNat : Nat) : Int) = z := by omega
  refine g_if_eq 33 81 rfl rfl b_r (fun c65 => ?_) (fun c65 => ?_)
  · replace c65 := b_0.mp c65
    have e8 : ∀ c : Int, c = (if (σ.lk z.toNat).op = 0 then 115 else 111) → (kLock σ z.toNat s.2) = pP (pN (pP (cRow (pP (cRow (0, s.2) (σ.lk z.toNat).dl 3) 47) (σ.lk z.toNat).cb 3) 99) (σ.lk z.toNat).cr) c := fun c h => by rw [kLock, zz, if_neg c65, h]
    refine g_run 40 1 rfl ?_
    refine g_get 41 rfl fl_RX7_39 k53_this rfl ?_
    refine g_run 42 1 rfl ?_
    refine g_get 43 rfl fl_RX7_153 k53_lk rfl ?_
    refine g_if_eq 44 97 rfl rfl (by have := kr.1; omega) (fun c89 => ?_) (fun c89 => ?_)
    · have e9 : (kLock σ z.toNat s.2) = pP (pN (pP (cRow (pP (cRow (0, s.2) (σ.lk z.toNat).dl 3) 47) (σ.lk z.toNat).cb 3) 99) (σ.lk z.toNat).cr) 115 := e8 115 (by rw [if_pos c89])
      refine g_run 47 1 rfl ?_
      refine g_callV 48 rfl cv_RX7_290 hq53.1.2.2.2.2.2.1.choose_spec.2 (jt_C hP hq53.1 (by omega) _ (by omega)) rfl rfl (by decide) (by omega) (by omega) (Nat.le_of_ble_eq_true rfl) (e_kw fun M99 hq99 => ?_) e_kwx
      have k99_this := ((f2_fr hq99.2) x (by omega)).trans k53_this
      have k99_this_house := ((f2_fr hq99.2) (x + 1) (by omega)).trans k53_this_house
      have k99_this_house_ovenDoors := ((f2_fr hq99.2) (x + 1 + 2) (by omega)).trans k53_this_house_ovenDoors
      have k99_this_house_ovenHours := ((f2_fr hq99.2) (x + 1 + 3) (by omega)).trans k53_this_house_ovenHours
      have k99_lk := ((f2_fr hq99.2) (x + 1 + 6 + 3 * z.toNat) (by omega)).trans k53_lk
      have k99_lk_dials := ((f2_fr hq99.2) (x + 1 + 6 + 3 * z.toNat + 1) (by omega)).trans k53_lk_dials
      have k99_lk_combination := ((f2_fr hq99.2) (x + 1 + 6 + 3 * z.toNat + 2) (by omega)).trans k53_lk_combination
      have fr99 := e_fr_tr fr53 (e_fr_w (f2_fr hq99.2) (by omega))
      have hE := hq99.1
      have frE := fr99
      refine g_run 49 2 rfl ?_
      refine g_get 51 rfl fl_RX7_39 k99_this rfl ?_
      refine g_callV 52 rfl cv_RX7_297 hq99.1.2.2.2.2.2.1.choose_spec.2 (j_length hE) rfl rfl (by decide) (by omega) (by omega) (Nat.le_of_ble_eq_true rfl) (e_kr ?_) e_kx
      exact g_iret 53 rfl rfl (by first | exact trivial | exact Or.inl rfl | exact Or.inr rfl | (show _ ∨ _; omega)) ⟨by rw [e9], rfl, by rw [e9]; exact hE, frE⟩
    · have e9 : (kLock σ z.toNat s.2) = pP (pN (pP (cRow (pP (cRow (0, s.2) (σ.lk z.toNat).dl 3) 47) (σ.lk z.toNat).cb 3) 99) (σ.lk z.toNat).cr) 111 := e8 111 (by rw [if_neg c89])
      refine g_run 45 2 rfl ?_
      refine g_callV 48 rfl cv_RX7_290 hq53.1.2.2.2.2.2.1.choose_spec.2 (jt_C hP hq53.1 (by omega) _ (by omega)) rfl rfl (by decide) (by omega) (by omega) (Nat.le_of_ble_eq_true rfl) (e_kw fun M99 hq99 => ?_) e_kwx
      have k99_this := ((f2_fr hq99.2) x (by omega)).trans k53_this
      have k99_this_house := ((f2_fr hq99.2) (x + 1) (by omega)).trans k53_this_house
      have k99_this_house_ovenDoors := ((f2_fr hq99.2) (x + 1 + 2) (by omega)).trans k53_this_house_ovenDoors
      have k99_this_house_ovenHours := ((f2_fr hq99.2) (x + 1 + 3) (by omega)).trans k53_this_house_ovenHours
      have k99_lk := ((f2_fr hq99.2) (x + 1 + 6 + 3 * z.toNat) (by omega)).trans k53_lk
      have k99_lk_dials := ((f2_fr hq99.2) (x + 1 + 6 + 3 * z.toNat + 1) (by omega)).trans k53_lk_dials
      have k99_lk_combination := ((f2_fr hq99.2) (x + 1 + 6 + 3 * z.toNat + 2) (by omega)).trans k53_lk_combination
      have fr99 := e_fr_tr fr53 (e_fr_w (f2_fr hq99.2) (by omega))
      have hE := hq99.1
      have frE := fr99
      refine g_run 49 2 rfl ?_
      refine g_get 51 rfl fl_RX7_39 k99_this rfl ?_
      refine g_callV 52 rfl cv_RX7_297 hq99.1.2.2.2.2.2.1.choose_spec.2 (j_length hE) rfl rfl (by decide) (by omega) (by omega) (Nat.le_of_ble_eq_true rfl) (e_kr ?_) e_kx
      exact g_iret 53 rfl rfl (by first | exact trivial | exact Or.inl rfl | exact Or.inr rfl | (show _ ∨ _; omega)) ⟨by rw [e9], rfl, by rw [e9]; exact hE, frE⟩
  · replace c65 := b_1.mp c65
    have e9 : (kLock σ z.toNat s.2) = pP (pN (pP (cRow (pP (cRow (0, s.2) (σ.lk z.toNat).dl 3) 47) (σ.lk z.toNat).cb 3) 99) (σ.lk z.toNat).cr) 98 := by rw [kLock, zz, if_pos c65]
    refine g_run 34 1 rfl ?_
    refine g_get 35 rfl fl_RX7_39 k53_this rfl ?_
    refine g_run 36 1 rfl ?_
    refine g_callV 37 rfl cv_RX7_290 hq53.1.2.2.2.2.2.1.choose_spec.2 (jt_C hP hq53.1 (by omega) 98 (by omega)) rfl rfl (by decide) (by omega) (by omega) (Nat.le_of_ble_eq_true rfl) (e_kw fun M74 hq74 => ?_) e_kwx
    have k74_this := ((f2_fr hq74.2) x (by omega)).trans k53_this
    have k74_this_house := ((f2_fr hq74.2) (x + 1) (by omega)).trans k53_this_house
    have k74_this_house_ovenDoors := ((f2_fr hq74.2) (x + 1 + 2) (by omega)).trans k53_this_house_ovenDoors
    have k74_this_house_ovenHours := ((f2_fr hq74.2) (x + 1 + 3) (by omega)).trans k53_this_house_ovenHours
    have k74_lk := ((f2_fr hq74.2) (x + 1 + 6 + 3 * z.toNat) (by omega)).trans k53_lk
    have k74_lk_dials := ((f2_fr hq74.2) (x + 1 + 6 + 3 * z.toNat + 1) (by omega)).trans k53_lk_dials
    have k74_lk_combination := ((f2_fr hq74.2) (x + 1 + 6 + 3 * z.toNat + 2) (by omega)).trans k53_lk_combination
    have fr74 := e_fr_tr fr53 (e_fr_w (f2_fr hq74.2) (by omega))
    have hE := hq74.1
    have frE := fr74
    refine g_run 38 2 rfl ?_
    refine g_run 50 1 rfl ?_
    refine g_get 51 rfl fl_RX7_39 k74_this rfl ?_
    refine g_callV 52 rfl cv_RX7_297 hq74.1.2.2.2.2.2.1.choose_spec.2 (j_length hE) rfl rfl (by decide) (by omega) (by omega) (Nat.le_of_ble_eq_true rfl) (e_kr ?_) e_kx
    exact g_iret 53 rfl rfl (by first | exact trivial | exact Or.inl rfl | exact Or.inr rfl | (show _ ∨ _; omega)) ⟨by rw [e9], rfl, by rw [e9]; exact hE, frE⟩
theorem x_renderLockX (hK : KM Γ) (hP : PV Γ) (hx : XO M x sv ep fp) (hH : HM M (x + 1) σ) (hr : Hok B σ) (z : Int) (hz : i32 z)  (hd : ¬ hDoor σ z) : Ct (e_L r0) Γ mX7_renderLock 8 1 6 [vR x, vI z] M n (e_rt (.inr "java/lang/IndexOutOfBoundsException") M n) := by
  have q2 := hr.2.1
  have q0 := hr.1 0 (by decide)
  refine g_start ok_X7_renderLock rfl rfl ?_
  refine g_run 0 2 rfl ?_
  refine g_callV 2 rfl cv_RX7_137 hx (x_lockOfX hx hH hr z hz hd) rfl rfl (by decide) (by omega) (by omega) (Nat.le_of_ble_eq_true rfl) e_krx (e_kxr (gx_out rfl ⟨rfl, rfl, rfl⟩))
theorem kOv1_len (s : TS) (o : Nat) (ho : o < 2) : (kOv1 s o).1 = s.1 + o + 2 := by
  unfold kOv1
  rw [pP_len, pN, if_pos (by omega), pP_len]
  match o, ho with
  | 0, _ => rw [if_neg (by omega)]
  | 1, _ => rw [if_pos (by omega), pP_len]
theorem kOv_len (σ : HS) (B : Int) (hr : Hok B σ) (f : Nat → Int) : ∀ k : Nat, k ≤ 2 → (kOv σ f k).1 ≤ 5 * k + (if k = 2 then 1 else 0)
  | 0, _ => Nat.zero_le _
  | k + 1, hk => by
    have h1 := kOv_len σ B hr f k (by omega)
    have h2 := kOv1_len (kOv σ f k) k (by omega)
    have h3 := hr.2.2.1 k (by omega)
    show (kOven (kOv σ f k) σ k).1 ≤ _
    rw [if_neg (by omega)] at h1
    have h4 : k ≤ (if k + 1 = 2 then 1 else 0) := by split <;> omega
    unfold kOven
    split
    · rw [pP_len]; omega
    · rw [pN, if_pos (by omega), pP_len, pP_len, pN, if_pos (by omega), pP_len]; omega
theorem x_renderOvens (hK : KM Γ) (hP : PV Γ) (hx : XO M x sv ep fp) (hH : HM M (x + 1) σ) (hr : Hok B σ) (hO : BT M (x + 271) (x + 272) 16 s)  : Ct (e_L r0) Γ mX7_renderOvens 8 0 0 [vR x] M n (e_wr (some (vI ((kOv σ s.2 2).1 : Int))) n fun M' => BT M' (x + 271) (x + 272) 16 (kOv σ s.2 2) ∧ e_fr (x + 271) (x + 273) M M') := by
  have fr0 : e_fr (x + 271) (x + 273) M M := e_fr_refl
  have q2 := hr.2.1
  have q0 := hr.1 0 (by decide)
  refine g_start ok_X7_renderOvens rfl rfl ?_
  refine g_run 0 1 rfl ?_
  refine g_get 1 rfl fl_RX7_39 hx rfl ?_
  refine g_run 2 1 rfl ?_
  refine g_callV 3 rfl cv_RX7_283 hO.2.2.2.2.2.1.choose_spec.2 (j_setLength hP hO) rfl rfl (by decide) (by omega) (by omega) (Nat.le_of_ble_eq_true rfl) (e_kw fun M5 hq5 => ?_) e_kwx
  have k5_this := ((f2_fr hq5.2) x (by omega)).trans hx
  have k5_this_house := ((f2_fr hq5.2) (x + 1) (by omega)).trans hH.2.1
  have k5_this_house_ovenDoors := ((f2_fr hq5.2) (x + 1 + 2) (by omega)).trans hH.2.2.2.1
  have k5_this_house_ovenHours := ((f2_fr hq5.2) (x + 1 + 3) (by omega)).trans hH.2.2.2.2.1
  have fr5 := e_fr_tr fr0 (e_fr_w (f2_fr hq5.2) (by omega))
  refine g_run 4 2 rfl ?_
  refine e_down (P := fun k => ∀ M', XO M' x sv ep fp → HM M' (x + 1) σ → BT M' (x + 271) (x + 272) 16 (kOv σ s.2 k) → e_fr (x + 271) (x + 273) M M' → G (e_L r0) Γ mX7_renderOvens 8 0 0 _ 10 [some (vR x), some (vI (k : Int))] [] M' n 0 0) 2 ?_ 0 (by omega) M5 k5_this (HM_fr fr5 (by omega) hH) (show BT M5 (x + 271) (x + 272) 16 (0, s.2) from hq5.1) fr5
  intro k hk ih M2 hx2 hH2 hO2 fr2
  have L1 := kOv_len σ B hr s.2 k hk
  refine g_run 6 2 rfl ?_
  refine g_icmp_ge 8 109 rfl rfl (by omega) (by omega) (fun c12 => ?_) (fun c12 => ?_)
  · obtain rfl : k = 2 := by omega
    have hE := hO2
    refine g_run 55 1 rfl ?_
    refine g_get 56 rfl fl_RX7_39 hx2 rfl ?_
    refine g_callV 57 rfl cv_RX7_297 hO2.2.2.2.2.2.1.choose_spec.2 (j_length hE) rfl rfl (by decide) (by omega) (by omega) (Nat.le_of_ble_eq_true rfl) (e_kr ?_) e_kx
    exact g_iret 58 rfl rfl (by first | exact trivial | exact Or.inl rfl | exact Or.inr rfl | (show _ ∨ _; omega)) ⟨rfl, rfl, hE, fr2⟩
  · refine g_run 9 1 rfl ?_
    refine g_if_le 10 29 rfl rfl (by omega) (fun c16 => ?_) (fun c16 => ?_)
    · rw [if_neg (by omega)] at L1
      have hs9 : BT M2 (x + 271) (x + 272) 16 (if 0 < k then pP (kOv σ s.2 k) 32 else (kOv σ s.2 k)) := by rw [if_neg (by omega)]; exact hO2
      have l9 : (if 0 < k then pP (kOv σ s.2 k) 32 else (kOv σ s.2 k)).1 ≤ (kOv σ s.2 k).1 + k := by rw [if_neg (by omega)]; omega
      have q3 := hr.2.2.1 k (by omega)
      have L2 := kOv1_len (kOv σ s.2 k) k (by omega)
      refine g_run 16 1 rfl ?_
      refine g_get 17 rfl fl_RX7_39 hx2 rfl ?_
      refine g_run 18 1 rfl ?_
      refine g_callV 19 rfl cv_RX7_294 hO2.2.2.2.2.2.1.choose_spec.2 (jt_I hK hP hs9 (k : Int) (by omega) (by omega)) rfl rfl (by decide) (by omega) (by omega) (Nat.le_of_ble_eq_true rfl) (e_kw fun M34 hq34 => ?_) e_kwx
      have k34_this := ((f2_fr hq34.2) x (by omega)).trans hx2
      have k34_this_house := ((f2_fr hq34.2) (x + 1) (by omega)).trans hH2.2.1
      have k34_this_house_ovenDoors := ((f2_fr hq34.2) (x + 1 + 2) (by omega)).trans hH2.2.2.2.1
      have k34_this_house_ovenHours := ((f2_fr hq34.2) (x + 1 + 3) (by omega)).trans hH2.2.2.2.2.1
      have fr34 := e_fr_tr fr2 (e_fr_w (f2_fr hq34.2) (by omega))
      refine g_run 20 1 rfl ?_
      refine g_callV 21 rfl cv_RX7_290 hq34.1.2.2.2.2.2.1.choose_spec.2 (jt_C hP hq34.1 (by have := (pN_len (if 0 < k then pP (kOv σ s.2 k) 32 else (kOv σ s.2 k)) (k : Int)).2; omega) 58 (by omega)) rfl rfl (by decide) (by omega) (by omega) (Nat.le_of_ble_eq_true rfl) (e_kw fun M39 hq39 => ?_) e_kwx
      have k39_this := ((f2_fr hq39.2) x (by omega)).trans k34_this
      have k39_this_house := ((f2_fr hq39.2) (x + 1) (by omega)).trans k34_this_house
      have k39_this_house_ovenDoors := ((f2_fr hq39.2) (x + 1 + 2) (by omega)).trans k34_this_house_ovenDoors
      have k39_this_house_ovenHours := ((f2_fr hq39.2) (x + 1 + 3) (by omega)).trans k34_this_house_ovenHours
      have fr39 := e_fr_tr fr34 (e_fr_w (f2_fr hq39.2) (by omega))
      have h1 : BT M39 (x + 271) (x + 272) 16 (kOv1 (kOv σ s.2 k) k) := hq39.1
      refine g_run 22 2 rfl ?_
      refine g_get 24 rfl fl_RX7_10 k39_this rfl ?_
      refine g_get 25 rfl fl_RX7_219 k39_this_house rfl ?_
      refine g_run 26 1 rfl ?_
      refine g_iald 27 k rfl rfl k39_this_house_ovenDoors (by first | rfl | omega) (by omega) (by decide) ?_
      refine g_run 28 1 rfl ?_
      refine g_icmp_ne 29 69 rfl rfl (by omega) (by omega) (fun c53 => ?_) (fun c53 => ?_)
      · refine g_run 36 1 rfl ?_
        refine g_get 37 rfl fl_RX7_39 k39_this rfl ?_
        refine g_run 38 1 rfl ?_
        refine g_get 39 rfl fl_RX7_10 k39_this rfl ?_
        refine g_get 40 rfl fl_RX7_219 k39_this_house rfl ?_
        refine g_run 41 1 rfl ?_
        refine g_iald 42 k rfl rfl k39_this_house_ovenDoors (by first | rfl | omega) (by omega) (by decide) ?_
        refine g_callV 43 rfl cv_RX7_294 hq39.1.2.2.2.2.2.1.choose_spec.2 (jt_I hK hP h1 (σ.od k) (by omega) (by omega)) rfl rfl (by decide) (by omega) (by omega) (Nat.le_of_ble_eq_true rfl) (e_kw fun M82 hq82 => ?_) e_kwx
        have k82_this := ((f2_fr hq82.2) x (by omega)).trans k39_this
        have k82_this_house := ((f2_fr hq82.2) (x + 1) (by omega)).trans k39_this_house
        have k82_this_house_ovenDoors := ((f2_fr hq82.2) (x + 1 + 2) (by omega)).trans k39_this_house_ovenDoors
        have k82_this_house_ovenHours := ((f2_fr hq82.2) (x + 1 + 3) (by omega)).trans k39_this_house_ovenHours
        have fr82 := e_fr_tr fr39 (e_fr_w (f2_fr hq82.2) (by omega))
        refine g_run 44 1 rfl ?_
        refine g_callV 45 rfl cv_RX7_290 hq82.1.2.2.2.2.2.1.choose_spec.2 (jt_C hP hq82.1 (by have := (pN_len (kOv1 (kOv σ s.2 k) k) (σ.od k)).2; omega) 120 (by omega)) rfl rfl (by decide) (by omega) (by omega) (Nat.le_of_ble_eq_true rfl) (e_kw fun M87 hq87 => ?_) e_kwx
        have k87_this := ((f2_fr hq87.2) x (by omega)).trans k82_this
        have k87_this_house := ((f2_fr hq87.2) (x + 1) (by omega)).trans k82_this_house
        have k87_this_house_ovenDoors := ((f2_fr hq87.2) (x + 1 + 2) (by omega)).trans k82_this_house_ovenDoors
        have k87_this_house_ovenHours := ((f2_fr hq87.2) (x + 1 + 3) (by omega)).trans k82_this_house_ovenHours
        have fr87 := e_fr_tr fr82 (e_fr_w (f2_fr hq87.2) (by omega))
        refine g_run 46 1 rfl ?_
        refine g_get 47 rfl fl_RX7_10 k87_this rfl ?_
        refine g_get 48 rfl fl_RX7_224 k87_this_house rfl ?_
        refine g_run 49 1 rfl ?_
        refine g_iald 50 k rfl rfl k87_this_house_ovenHours (by first | rfl | omega) (by omega) (by decide) ?_
        refine g_callV 51 rfl cv_RX7_294 hq87.1.2.2.2.2.2.1.choose_spec.2 (jt_I hK hP hq87.1 (σ.oh k) (by omega) (by have := (pN_len (kOv1 (kOv σ s.2 k) k) (σ.od k)).2; rw [pP_len]; omega)) rfl rfl (by decide) (by omega) (by omega) (Nat.le_of_ble_eq_true rfl) (e_kw fun M99 hq99 => ?_) e_kwx
        have k99_this := ((f2_fr hq99.2) x (by omega)).trans k87_this
        have k99_this_house := ((f2_fr hq99.2) (x + 1) (by omega)).trans k87_this_house
        have k99_this_house_ovenDoors := ((f2_fr hq99.2) (x + 1 + 2) (by omega)).trans k87_this_house_ovenDoors
        have k99_this_house_ovenHours := ((f2_fr hq99.2) (x + 1 + 3) (by omega)).trans k87_this_house_ovenHours
        have fr99 := e_fr_tr fr87 (e_fr_w (f2_fr hq99.2) (by omega))
        have fin9 := ih (by omega) M99 k99_this ⟨hH2.1, k99_this_house, (fr99 _ (by omega)).trans hH.2.2.1, k99_this_house_ovenDoors, k99_this_house_ovenHours, (fr99 _ (by omega)).trans hH.2.2.2.2.2.1, (fr99 _ (by omega)).trans hH.2.2.2.2.2.2.1, LF_fr fr99 (by omega) hH.2.2.2.2.2.2.2⟩ (by rw [show kOv σ s.2 (k + 1) = kOven (kOv σ s.2 k) σ k from rfl, kOven, if_neg c53]; exact hq99.1) fr99
        refine g_run 52 3 rfl ?_
        exact fin9
      · refine g_run 30 1 rfl ?_
        refine g_get 31 rfl fl_RX7_39 k39_this rfl ?_
        refine g_run 32 1 rfl ?_
        refine g_callV 33 rfl cv_RX7_290 hq39.1.2.2.2.2.2.1.choose_spec.2 (jt_C hP h1 (by omega) 45 (by omega)) rfl rfl (by decide) (by omega) (by omega) (Nat.le_of_ble_eq_true rfl) (e_kw fun M62 hq62 => ?_) e_kwx
        have k62_this := ((f2_fr hq62.2) x (by omega)).trans k39_this
        have k62_this_house := ((f2_fr hq62.2) (x + 1) (by omega)).trans k39_this_house
        have k62_this_house_ovenDoors := ((f2_fr hq62.2) (x + 1 + 2) (by omega)).trans k39_this_house_ovenDoors
        have k62_this_house_ovenHours := ((f2_fr hq62.2) (x + 1 + 3) (by omega)).trans k39_this_house_ovenHours
        have fr62 := e_fr_tr fr39 (e_fr_w (f2_fr hq62.2) (by omega))
        have fin9 := ih (by omega) M62 k62_this ⟨hH2.1, k62_this_house, (fr62 _ (by omega)).trans hH.2.2.1, k62_this_house_ovenDoors, k62_this_house_ovenHours, (fr62 _ (by omega)).trans hH.2.2.2.2.2.1, (fr62 _ (by omega)).trans hH.2.2.2.2.2.2.1, LF_fr fr62 (by omega) hH.2.2.2.2.2.2.2⟩ (by rw [show kOv σ s.2 (k + 1) = kOven (kOv σ s.2 k) σ k from rfl, kOven, if_pos c53]; exact hq62.1) fr62
        refine g_run 34 2 rfl ?_
        refine g_run 53 2 rfl ?_
        exact fin9
    · rw [if_neg (by omega)] at L1
      have l9 : (if 0 < k then pP (kOv σ s.2 k) 32 else (kOv σ s.2 k)).1 ≤ (kOv σ s.2 k).1 + k := by rw [if_pos (by omega), pP_len]; omega
      have q3 := hr.2.2.1 k (by omega)
      have L2 := kOv1_len (kOv σ s.2 k) k (by omega)
      refine g_run 11 1 rfl ?_
      refine g_get 12 rfl fl_RX7_39 hx2 rfl ?_
      refine g_run 13 1 rfl ?_
      refine g_callV 14 rfl cv_RX7_290 hO2.2.2.2.2.2.1.choose_spec.2 (jt_C hP hO2 (by omega) 32 (by omega)) rfl rfl (by decide) (by omega) (by omega) (Nat.le_of_ble_eq_true rfl) (e_kw fun M25 hq25 => ?_) e_kwx
      have k25_this := ((f2_fr hq25.2) x (by omega)).trans hx2
      have k25_this_house := ((f2_fr hq25.2) (x + 1) (by omega)).trans hH2.2.1
      have k25_this_house_ovenDoors := ((f2_fr hq25.2) (x + 1 + 2) (by omega)).trans hH2.2.2.2.1
      have k25_this_house_ovenHours := ((f2_fr hq25.2) (x + 1 + 3) (by omega)).trans hH2.2.2.2.2.1
      have fr25 := e_fr_tr fr2 (e_fr_w (f2_fr hq25.2) (by omega))
      have hs9 : BT M25 (x + 271) (x + 272) 16 (if 0 < k then pP (kOv σ s.2 k) 32 else (kOv σ s.2 k)) := by rw [if_pos (by omega)]; exact hq25.1
      refine g_run 15 2 rfl ?_
      refine g_get 17 rfl fl_RX7_39 k25_this rfl ?_
      refine g_run 18 1 rfl ?_
      refine g_callV 19 rfl cv_RX7_294 hq25.1.2.2.2.2.2.1.choose_spec.2 (jt_I hK hP hs9 (k : Int) (by omega) (by omega)) rfl rfl (by decide) (by omega) (by omega) (Nat.le_of_ble_eq_true rfl) (e_kw fun M34 hq34 => ?_) e_kwx
      have k34_this := ((f2_fr hq34.2) x (by omega)).trans k25_this
      have k34_this_house := ((f2_fr hq34.2) (x + 1) (by omega)).trans k25_this_house
      have k34_this_house_ovenDoors := ((f2_fr hq34.2) (x + 1 + 2) (by omega)).trans k25_this_house_ovenDoors
      have k34_this_house_ovenHours := ((f2_fr hq34.2) (x + 1 + 3) (by omega)).trans k25_this_house_ovenHours
      have fr34 := e_fr_tr fr25 (e_fr_w (f2_fr hq34.2) (by omega))
      refine g_run 20 1 rfl ?_
      refine g_callV 21 rfl cv_RX7_290 hq34.1.2.2.2.2.2.1.choose_spec.2 (jt_C hP hq34.1 (by have := (pN_len (if 0 < k then pP (kOv σ s.2 k) 32 else (kOv σ s.2 k)) (k : Int)).2; omega) 58 (by omega)) rfl rfl (by decide) (by omega) (by omega) (Nat.le_of_ble_eq_true rfl) (e_kw fun M39 hq39 => ?_) e_kwx
      have k39_this := ((f2_fr hq39.2) x (by omega)).trans k34_this
      have k39_this_house := ((f2_fr hq39.2) (x + 1) (by omega)).trans k34_this_house
      have k39_this_house_ovenDoors := ((f2_fr hq39.2) (x + 1 + 2) (by omega)).trans k34_this_house_ovenDoors
      have k39_this_house_ovenHours := ((f2_fr hq39.2) (x + 1 + 3) (by omega)).trans k34_this_house_ovenHours
      have fr39 := e_fr_tr fr34 (e_fr_w (f2_fr hq39.2) (by omega))
      have h1 : BT M39 (x + 271) (x + 272) 16 (kOv1 (kOv σ s.2 k) k) := hq39.1
      refine g_run 22 2 rfl ?_
      refine g_get 24 rfl fl_RX7_10 k39_this rfl ?_
      refine g_get 25 rfl fl_RX7_219 k39_this_house rfl ?_
      refine g_run 26 1 rfl ?_
      refine g_iald 27 k rfl rfl k39_this_house_ovenDoors (by first | rfl | omega) (by omega) (by decide) ?_
      refine g_run 28 1 rfl ?_
      refine g_icmp_ne 29 69 rfl rfl (by omega) (by omega) (fun c53 => ?_) (fun c53 => ?_)
      · refine g_run 36 1 rfl ?_
        refine g_get 37 rfl fl_RX7_39 k39_this rfl ?_
        refine g_run 38 1 rfl ?_
        refine g_get 39 rfl fl_RX7_10 k39_this rfl ?_
        refine g_get 40 rfl fl_RX7_219 k39_this_house rfl ?_
        refine g_run 41 1 rfl ?_
        refine g_iald 42 k rfl rfl k39_this_house_ovenDoors (by first | rfl | omega) (by omega) (by decide) ?_
        refine g_callV 43 rfl cv_RX7_294 hq39.1.2.2.2.2.2.1.choose_spec.2 (jt_I hK hP h1 (σ.od k) (by omega) (by omega)) rfl rfl (by decide) (by omega) (by omega) (Nat.le_of_ble_eq_true rfl) (e_kw fun M82 hq82 => ?_) e_kwx
        have k82_this := ((f2_fr hq82.2) x (by omega)).trans k39_this
        have k82_this_house := ((f2_fr hq82.2) (x + 1) (by omega)).trans k39_this_house
        have k82_this_house_ovenDoors := ((f2_fr hq82.2) (x + 1 + 2) (by omega)).trans k39_this_house_ovenDoors
        have k82_this_house_ovenHours := ((f2_fr hq82.2) (x + 1 + 3) (by omega)).trans k39_this_house_ovenHours
        have fr82 := e_fr_tr fr39 (e_fr_w (f2_fr hq82.2) (by omega))
        refine g_run 44 1 rfl ?_
        refine g_callV 45 rfl cv_RX7_290 hq82.1.2.2.2.2.2.1.choose_spec.2 (jt_C hP hq82.1 (by have := (pN_len (kOv1 (kOv σ s.2 k) k) (σ.od k)).2; omega) 120 (by omega)) rfl rfl (by decide) (by omega) (by omega) (Nat.le_of_ble_eq_true rfl) (e_kw fun M87 hq87 => ?_) e_kwx
        have k87_this := ((f2_fr hq87.2) x (by omega)).trans k82_this
        have k87_this_house := ((f2_fr hq87.2) (x + 1) (by omega)).trans k82_this_house
        have k87_this_house_ovenDoors := ((f2_fr hq87.2) (x + 1 + 2) (by omega)).trans k82_this_house_ovenDoors
        have k87_this_house_ovenHours := ((f2_fr hq87.2) (x + 1 + 3) (by omega)).trans k82_this_house_ovenHours
        have fr87 := e_fr_tr fr82 (e_fr_w (f2_fr hq87.2) (by omega))
        refine g_run 46 1 rfl ?_
        refine g_get 47 rfl fl_RX7_10 k87_this rfl ?_
        refine g_get 48 rfl fl_RX7_224 k87_this_house rfl ?_
        refine g_run 49 1 rfl ?_
        refine g_iald 50 k rfl rfl k87_this_house_ovenHours (by first | rfl | omega) (by omega) (by decide) ?_
        refine g_callV 51 rfl cv_RX7_294 hq87.1.2.2.2.2.2.1.choose_spec.2 (jt_I hK hP hq87.1 (σ.oh k) (by omega) (by have := (pN_len (kOv1 (kOv σ s.2 k) k) (σ.od k)).2; rw [pP_len]; omega)) rfl rfl (by decide) (by omega) (by omega) (Nat.le_of_ble_eq_true rfl) (e_kw fun M99 hq99 => ?_) e_kwx
        have k99_this := ((f2_fr hq99.2) x (by omega)).trans k87_this
        have k99_this_house := ((f2_fr hq99.2) (x + 1) (by omega)).trans k87_this_house
        have k99_this_house_ovenDoors := ((f2_fr hq99.2) (x + 1 + 2) (by omega)).trans k87_this_house_ovenDoors
        have k99_this_house_ovenHours := ((f2_fr hq99.2) (x + 1 + 3) (by omega)).trans k87_this_house_ovenHours
        have fr99 := e_fr_tr fr87 (e_fr_w (f2_fr hq99.2) (by omega))
        have fin9 := ih (by omega) M99 k99_this ⟨hH2.1, k99_this_house, (fr99 _ (by omega)).trans hH.2.2.1, k99_this_house_ovenDoors, k99_this_house_ovenHours, (fr99 _ (by omega)).trans hH.2.2.2.2.2.1, (fr99 _ (by omega)).trans hH.2.2.2.2.2.2.1, LF_fr fr99 (by omega) hH.2.2.2.2.2.2.2⟩ (by rw [show kOv σ s.2 (k + 1) = kOven (kOv σ s.2 k) σ k from rfl, kOven, if_neg c53]; exact hq99.1) fr99
        refine g_run 52 3 rfl ?_
        exact fin9
      · refine g_run 30 1 rfl ?_
        refine g_get 31 rfl fl_RX7_39 k39_this rfl ?_
        refine g_run 32 1 rfl ?_
        refine g_callV 33 rfl cv_RX7_290 hq39.1.2.2.2.2.2.1.choose_spec.2 (jt_C hP h1 (by omega) 45 (by omega)) rfl rfl (by decide) (by omega) (by omega) (Nat.le_of_ble_eq_true rfl) (e_kw fun M62 hq62 => ?_) e_kwx
        have k62_this := ((f2_fr hq62.2) x (by omega)).trans k39_this
        have k62_this_house := ((f2_fr hq62.2) (x + 1) (by omega)).trans k39_this_house
        have k62_this_house_ovenDoors := ((f2_fr hq62.2) (x + 1 + 2) (by omega)).trans k39_this_house_ovenDoors
        have k62_this_house_ovenHours := ((f2_fr hq62.2) (x + 1 + 3) (by omega)).trans k39_this_house_ovenHours
        have fr62 := e_fr_tr fr39 (e_fr_w (f2_fr hq62.2) (by omega))
        have fin9 := ih (by omega) M62 k62_this ⟨hH2.1, k62_this_house, (fr62 _ (by omega)).trans hH.2.2.1, k62_this_house_ovenDoors, k62_this_house_ovenHours, (fr62 _ (by omega)).trans hH.2.2.2.2.2.1, (fr62 _ (by omega)).trans hH.2.2.2.2.2.2.1, LF_fr fr62 (by omega) hH.2.2.2.2.2.2.2⟩ (by rw [show kOv σ s.2 (k + 1) = kOven (kOv σ s.2 k) σ k from rfl, kOven, if_pos c53]; exact hq62.1) fr62
        refine g_run 34 2 rfl ?_
        refine g_run 53 2 rfl ?_
        exact fin9
end XT
