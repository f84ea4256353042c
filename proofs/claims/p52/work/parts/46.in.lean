/-! the constructors (wip/whole/gen/c_in.py prints this part) -/
def BQ (M : Mem) (b : Nat) : Prop := BM M b (b + 1) 16 0 (fun _ => 0)
theorem BQ_fr {a c b : Nat} {M M' : Mem} (hf : e_fr a c M M') (hx : b + 2 ≤ a ∨ c ≤ b) (h : BQ M b) : BQ M' b := BM_fr h (hf _ (by omega)) (hf _ (by omega))
def SQ (M : Mem) (s : Nat) : Prop := SM M s (s + 2) 16 0 (fun _ => 0) (fun _ => 0) 0
theorem SQ_fr {a c s : Nat} {M M' : Mem} (hf : e_fr a c M M') (hx : s + 4 ≤ a ∨ c ≤ s) (h : SQ M s) : SQ M' s := SM_fr h (fun k hk => hf k (by omega))
section XI
variable {r0 : Option Nat} {Γ : Cx} {M : Mem} {n x s m : Nat}
theorem y_init (hs : 100 ≤ s) (hn : n = s + 1) (hO : M s = cO 7 [vN, vN, vI 0]) : Ct (e_L r0) Γ mX6_init 2 3 24 [vR s] M n (e_wr none (s + 4) fun M' => SQ M' s ∧ e_fr s (s + 4) M M') := by
  have fr0 : e_fr s (s + 4) M M := e_fr_refl
  subst hn
  refine g_start ok_X6_init rfl rfl ?_
  refine g_run 0 1 rfl ?_
  refine g_obj 1 rfl co_RX6_3 (Nat.le_of_ble_eq_true rfl) ?_
  refine g_run 2 1 rfl ?_
  refine g_new 3 rfl nw_RX6_9 (by omega) (by omega) (fun M5 hM5 => ?_)
  have k5_this := (congrFun hM5 s).trans ((va_up_ne _ _ (by omega)).trans hO)
  have fr5 := e_fr_tr fr0 (e_fr_up hM5 (by omega))
  have k5_b := (congrFun hM5 (s + 1)).trans (va_up_self _ _ _)
  refine g_run 4 1 rfl ?_
  refine g_callI 5 rfl ci_RX6_11 (j_init (by omega) rfl k5_b) rfl rfl (by decide) (by omega) (by omega) (Nat.le_of_ble_eq_true rfl) (e_kw fun M9 hq9 => ?_) e_kwx
  have k9_this := (hq9.2 s (by omega)).trans k5_this
  have fr9 := e_fr_tr fr5 (e_fr_w hq9.2 (by omega))
  refine g_putF 6 rfl fp_RX6_12 rfl k9_this rfl trivial (fun M12 hM12 => ?_)
  have k12_this := (congrFun hM12 s).trans (va_up_self _ _ _)
  have fr12 := e_fr_tr fr9 (e_fr_up hM12 (by omega))
  have k12_b := (congrFun hM12 (s + 1)).trans ((va_up_ne _ _ (by omega)).trans hq9.1.2.2.2.2.2.1.choose_spec.2)
  have k12_B := BQ_fr (e_fr_up (a := s) (b := s + 1) hM12 (by omega)) (by omega) hq9.1
  refine g_run 7 2 rfl ?_
  refine g_newaI (kd := 0) 9 4 rfl (by decide) rfl ac_I rfl (by omega) (by omega) (by omega) (fun M17 hM17 => ?_)
  have k17_this := (congrFun hM17 s).trans ((va_up_ne _ _ (by omega)).trans k12_this)
  have fr17 := e_fr_tr fr12 (e_fr_up hM17 (by omega))
  have k17_b := (congrFun hM17 (s + 1)).trans ((va_up_ne _ _ (by omega)).trans k12_b)
  have k17_B := BQ_fr (e_fr_up (a := (s + 3)) (b := (s + 3) + 1) hM17 (by omega)) (by omega) k12_B
  have k17_nu := (congrFun hM17 (s + 3)).trans (va_up_self _ _ _)
  refine g_putF 10 rfl fp_RX6_18 rfl k17_this rfl trivial (fun M19 hM19 => ?_)
  have k19_this := (congrFun hM19 s).trans (va_up_self _ _ _)
  have fr19 := e_fr_tr fr17 (e_fr_up hM19 (by omega))
  have k19_b := (congrFun hM19 (s + 1)).trans ((va_up_ne _ _ (by omega)).trans k17_b)
  have k19_B := BQ_fr (e_fr_up (a := s) (b := s + 1) hM19 (by omega)) (by omega) k17_B
  have k19_nu := (congrFun hM19 (s + 3)).trans ((va_up_ne _ _ (by omega)).trans k17_nu)
  refine g_run 11 2 rfl ?_
  refine g_put 13 rfl fp_RX6_22 k19_this rfl trivial (fun M24 hM24 => ?_)
  have k24_this := (congrFun hM24 s).trans (va_up_self _ _ _)
  have fr24 := e_fr_tr fr19 (e_fr_up hM24 (by omega))
  have k24_b := (congrFun hM24 (s + 1)).trans ((va_up_ne _ _ (by omega)).trans k19_b)
  have k24_B := BQ_fr (e_fr_up (a := s) (b := s + 1) hM24 (by omega)) (by omega) k19_B
  have k24_nu := (congrFun hM24 (s + 3)).trans ((va_up_ne _ _ (by omega)).trans k19_nu)
  exact g_vret 14 rfl rfl ⟨rfl, rfl, ⟨hs, k24_this, k24_B, k24_nu, by omega, by omega⟩, fr24⟩
theorem x_init (hx : 100 ≤ x) (hn : n = x + 1) (hO : M x = cO 8 [vN, vN, vN, vN, vN, vN, vI 0, vI 0, vI 0]) : Ct (e_L r0) Γ mX7_init 3 272 1202 [vR x] M n (e_wr none (x + 273) fun M' => XO M' x 0 (-1) (-1) ∧ HM M' (x + 1) H0 ∧ HM M' (x + 25) H0 ∧ HM M' (x + 49) H0 ∧ YM M' (x + 73) 0 0 (fun _ => H0) ∧ SQ M' (x + 267) ∧ BQ M' (x + 271) ∧ e_fr x (x + 273) M M') := by
  have fr0 : e_fr x (x + 273) M M := e_fr_refl
  subst hn
  refine g_start ok_X7_init rfl rfl ?_
  refine g_run 0 1 rfl ?_
  refine g_obj 1 rfl co_RX7_1 (Nat.le_of_ble_eq_true rfl) ?_
  refine g_run 2 1 rfl ?_
  refine g_new 3 rfl nw_RX7_7 (by omega) (by omega) (fun M5 hM5 => ?_)
  have k5_this := (congrFun hM5 x).trans ((va_up_ne _ _ (by omega)).trans hO)
  have fr5 := e_fr_tr fr0 (e_fr_up hM5 (by omega))
  have k5_h1 := (congrFun hM5 (x + 1)).trans (va_up_self _ _ _)
  refine g_run 4 1 rfl ?_
  refine g_callI 5 rfl ci_RX7_9 (c_houseInit (by omega) rfl k5_h1) rfl rfl (by decide) (by omega) (by omega) (Nat.le_of_ble_eq_true rfl) (e_kw fun M9 hq9 => ?_) e_kwx
  have k9_this := (hq9.2 x (by omega)).trans k5_this
  have fr9 := e_fr_tr fr5 (e_fr_w hq9.2 (by omega))
  refine g_putF 6 rfl fp_RX7_10 rfl k9_this rfl trivial (fun M12 hM12 => ?_)
  have k12_this := (congrFun hM12 x).trans (va_up_self _ _ _)
  have fr12 := e_fr_tr fr9 (e_fr_up hM12 (by omega))
  have k12_h1 := (congrFun hM12 (x + 1)).trans ((va_up_ne _ _ (by omega)).trans hq9.1.2.1)
  have k12_H1 := HM_fr (e_fr_up (a := x) (b := x + 1) hM12 (by omega)) (by omega) hq9.1
  refine g_run 7 1 rfl ?_
  refine g_new 8 rfl nw_RX7_7 (by omega) (by omega) (fun M16 hM16 => ?_)
  have k16_this := (congrFun hM16 x).trans ((va_up_ne _ _ (by omega)).trans k12_this)
  have fr16 := e_fr_tr fr12 (e_fr_up hM16 (by omega))
  have k16_h1 := (congrFun hM16 (x + 1)).trans ((va_up_ne _ _ (by omega)).trans k12_h1)
  have k16_H1 := HM_fr (e_fr_up (a := (x + 25)) (b := (x + 25) + 1) hM16 (by omega)) (by omega) k12_H1
  have k16_h2 := (congrFun hM16 (x + 25)).trans (va_up_self _ _ _)
  refine g_run 9 1 rfl ?_
  refine g_callI 10 rfl ci_RX7_9 (c_houseInit (by omega) rfl k16_h2) rfl rfl (by decide) (by omega) (by omega) (Nat.le_of_ble_eq_true rfl) (e_kw fun M20 hq20 => ?_) e_kwx
  have k20_this := (hq20.2 x (by omega)).trans k16_this
  have fr20 := e_fr_tr fr16 (e_fr_w hq20.2 (by omega))
  have k20_h1 := (hq20.2 (x + 1) (by omega)).trans k16_h1
  have k20_H1 := HM_fr hq20.2 (by omega) k16_H1
  refine g_putF 11 rfl fp_RX7_16 rfl k20_this rfl trivial (fun M23 hM23 => ?_)
  have k23_this := (congrFun hM23 x).trans (va_up_self _ _ _)
  have fr23 := e_fr_tr fr20 (e_fr_up hM23 (by omega))
  have k23_h1 := (congrFun hM23 (x + 1)).trans ((va_up_ne _ _ (by omega)).trans k20_h1)
  have k23_H1 := HM_fr (e_fr_up (a := x) (b := x + 1) hM23 (by omega)) (by omega) k20_H1
  have k23_h2 := (congrFun hM23 (x + 25)).trans ((va_up_ne _ _ (by omega)).trans hq20.1.2.1)
  have k23_H2 := HM_fr (e_fr_up (a := x) (b := x + 1) hM23 (by omega)) (by omega) hq20.1
  refine g_run 12 1 rfl ?_
  refine g_new 13 rfl nw_RX7_7 (by omega) (by omega) (fun M27 hM27 => ?_)
  have k27_this := (congrFun hM27 x).trans ((va_up_ne _ _ (by omega)).trans k23_this)
  have fr27 := e_fr_tr fr23 (e_fr_up hM27 (by omega))
  have k27_h1 := (congrFun hM27 (x + 1)).trans ((va_up_ne _ _ (by omega)).trans k23_h1)
  have k27_H1 := HM_fr (e_fr_up (a := (x + 49)) (b := (x + 49) + 1) hM27 (by omega)) (by omega) k23_H1
  have k27_h2 := (congrFun hM27 (x + 25)).trans ((va_up_ne _ _ (by omega)).trans k23_h2)
  have k27_H2 := HM_fr (e_fr_up (a := (x + 49)) (b := (x + 49) + 1) hM27 (by omega)) (by omega) k23_H2
  have k27_h3 := (congrFun hM27 (x + 49)).trans (va_up_self _ _ _)
  refine g_run 14 1 rfl ?_
  refine g_callI 15 rfl ci_RX7_9 (c_houseInit (by omega) rfl k27_h3) rfl rfl (by decide) (by omega) (by omega) (Nat.le_of_ble_eq_true rfl) (e_kw fun M31 hq31 => ?_) e_kwx
  have k31_this := (hq31.2 x (by omega)).trans k27_this
  have fr31 := e_fr_tr fr27 (e_fr_w hq31.2 (by omega))
  have k31_h1 := (hq31.2 (x + 1) (by omega)).trans k27_h1
  have k31_H1 := HM_fr hq31.2 (by omega) k27_H1
  have k31_h2 := (hq31.2 (x + 25) (by omega)).trans k27_h2
  have k31_H2 := HM_fr hq31.2 (by omega) k27_H2
  refine g_putF 16 rfl fp_RX7_19 rfl k31_this rfl trivial (fun M34 hM34 => ?_)
  have k34_this := (congrFun hM34 x).trans (va_up_self _ _ _)
  have fr34 := e_fr_tr fr31 (e_fr_up hM34 (by omega))
  have k34_h1 := (congrFun hM34 (x + 1)).trans ((va_up_ne _ _ (by omega)).trans k31_h1)
  have k34_H1 := HM_fr (e_fr_up (a := x) (b := x + 1) hM34 (by omega)) (by omega) k31_H1
  have k34_h2 := (congrFun hM34 (x + 25)).trans ((va_up_ne _ _ (by omega)).trans k31_h2)
  have k34_H2 := HM_fr (e_fr_up (a := x) (b := x + 1) hM34 (by omega)) (by omega) k31_H2
  have k34_h3 := (congrFun hM34 (x + 49)).trans ((va_up_ne _ _ (by omega)).trans hq31.1.2.1)
  have k34_H3 := HM_fr (e_fr_up (a := x) (b := x + 1) hM34 (by omega)) (by omega) hq31.1
  refine g_run 17 1 rfl ?_
  refine g_new 18 rfl nw_RX7_22 (by omega) (by omega) (fun M38 hM38 => ?_)
  have k38_this := (congrFun hM38 x).trans ((va_up_ne _ _ (by omega)).trans k34_this)
  have fr38 := e_fr_tr fr34 (e_fr_up hM38 (by omega))
  have k38_h1 := (congrFun hM38 (x + 1)).trans ((va_up_ne _ _ (by omega)).trans k34_h1)
  have k38_H1 := HM_fr (e_fr_up (a := (x + 73)) (b := (x + 73) + 1) hM38 (by omega)) (by omega) k34_H1
  have k38_h2 := (congrFun hM38 (x + 25)).trans ((va_up_ne _ _ (by omega)).trans k34_h2)
  have k38_H2 := HM_fr (e_fr_up (a := (x + 73)) (b := (x + 73) + 1) hM38 (by omega)) (by omega) k34_H2
  have k38_h3 := (congrFun hM38 (x + 49)).trans ((va_up_ne _ _ (by omega)).trans k34_h3)
  have k38_H3 := HM_fr (e_fr_up (a := (x + 73)) (b := (x + 73) + 1) hM38 (by omega)) (by omega) k34_H3
  have k38_y := (congrFun hM38 (x + 73)).trans (va_up_self _ _ _)
  refine g_run 19 1 rfl ?_
  refine g_callI 20 rfl ci_RX7_24 (c_histInit (by omega) rfl k38_y) rfl rfl (by decide) (by omega) (by omega) (Nat.le_of_ble_eq_true rfl) (e_kw fun M42 hq42 => ?_) e_kwx
  have k42_this := (hq42.2 x (by omega)).trans k38_this
  have fr42 := e_fr_tr fr38 (e_fr_w hq42.2 (by omega))
  have k42_h1 := (hq42.2 (x + 1) (by omega)).trans k38_h1
  have k42_H1 := HM_fr hq42.2 (by omega) k38_H1
  have k42_h2 := (hq42.2 (x + 25) (by omega)).trans k38_h2
  have k42_H2 := HM_fr hq42.2 (by omega) k38_H2
  have k42_h3 := (hq42.2 (x + 49) (by omega)).trans k38_h3
  have k42_H3 := HM_fr hq42.2 (by omega) k38_H3
  refine g_putF 21 rfl fp_RX7_25 rfl k42_this rfl trivial (fun M45 hM45 => ?_)
  have k45_this := (congrFun hM45 x).trans (va_up_self _ _ _)
  have fr45 := e_fr_tr fr42 (e_fr_up hM45 (by omega))
  have k45_h1 := (congrFun hM45 (x + 1)).trans ((va_up_ne _ _ (by omega)).trans k42_h1)
  have k45_H1 := HM_fr (e_fr_up (a := x) (b := x + 1) hM45 (by omega)) (by omega) k42_H1
  have k45_h2 := (congrFun hM45 (x + 25)).trans ((va_up_ne _ _ (by omega)).trans k42_h2)
  have k45_H2 := HM_fr (e_fr_up (a := x) (b := x + 1) hM45 (by omega)) (by omega) k42_H2
  have k45_h3 := (congrFun hM45 (x + 49)).trans ((va_up_ne _ _ (by omega)).trans k42_h3)
  have k45_H3 := HM_fr (e_fr_up (a := x) (b := x + 1) hM45 (by omega)) (by omega) k42_H3
  have k45_y := (congrFun hM45 (x + 73)).trans ((va_up_ne _ _ (by omega)).trans hq42.1.2.1)
  have k45_Y := YM_fr (e_fr_up (a := x) (b := x + 1) hM45 (by omega)) (by omega) hq42.1
  refine g_run 22 1 rfl ?_
  refine g_new 23 rfl nw_RX7_29 (by omega) (by omega) (fun M49 hM49 => ?_)
  have k49_this := (congrFun hM49 x).trans ((va_up_ne _ _ (by omega)).trans k45_this)
  have fr49 := e_fr_tr fr45 (e_fr_up hM49 (by omega))
  have k49_h1 := (congrFun hM49 (x + 1)).trans ((va_up_ne _ _ (by omega)).trans k45_h1)
  have k49_H1 := HM_fr (e_fr_up (a := (x + 267)) (b := (x + 267) + 1) hM49 (by omega)) (by omega) k45_H1
  have k49_h2 := (congrFun hM49 (x + 25)).trans ((va_up_ne _ _ (by omega)).trans k45_h2)
  have k49_H2 := HM_fr (e_fr_up (a := (x + 267)) (b := (x + 267) + 1) hM49 (by omega)) (by omega) k45_H2
  have k49_h3 := (congrFun hM49 (x + 49)).trans ((va_up_ne _ _ (by omega)).trans k45_h3)
  have k49_H3 := HM_fr (e_fr_up (a := (x + 267)) (b := (x + 267) + 1) hM49 (by omega)) (by omega) k45_H3
  have k49_y := (congrFun hM49 (x + 73)).trans ((va_up_ne _ _ (by omega)).trans k45_y)
  have k49_Y := YM_fr (e_fr_up (a := (x + 267)) (b := (x + 267) + 1) hM49 (by omega)) (by omega) k45_Y
  have k49_s := (congrFun hM49 (x + 267)).trans (va_up_self _ _ _)
  refine g_run 24 1 rfl ?_
  refine g_callIN 25 rfl cn_RX7_31 (y_init (by omega) rfl k49_s) rfl rfl (by decide) (by omega) (by omega) (Nat.le_of_ble_eq_true rfl) (e_kw fun M53 hq53 => ?_) e_kwx
  have k53_this := (hq53.2 x (by omega)).trans k49_this
  have fr53 := e_fr_tr fr49 (e_fr_w hq53.2 (by omega))
  have k53_h1 := (hq53.2 (x + 1) (by omega)).trans k49_h1
  have k53_H1 := HM_fr hq53.2 (by omega) k49_H1
  have k53_h2 := (hq53.2 (x + 25) (by omega)).trans k49_h2
  have k53_H2 := HM_fr hq53.2 (by omega) k49_H2
  have k53_h3 := (hq53.2 (x + 49) (by omega)).trans k49_h3
  have k53_H3 := HM_fr hq53.2 (by omega) k49_H3
  have k53_y := (hq53.2 (x + 73) (by omega)).trans k49_y
  have k53_Y := YM_fr hq53.2 (by omega) k49_Y
  refine g_putF 26 rfl fp_RX7_32 rfl k53_this rfl trivial (fun M56 hM56 => ?_)
  have k56_this := (congrFun hM56 x).trans (va_up_self _ _ _)
  have fr56 := e_fr_tr fr53 (e_fr_up hM56 (by omega))
  have k56_h1 := (congrFun hM56 (x + 1)).trans ((va_up_ne _ _ (by omega)).trans k53_h1)
  have k56_H1 := HM_fr (e_fr_up (a := x) (b := x + 1) hM56 (by omega)) (by omega) k53_H1
  have k56_h2 := (congrFun hM56 (x + 25)).trans ((va_up_ne _ _ (by omega)).trans k53_h2)
  have k56_H2 := HM_fr (e_fr_up (a := x) (b := x + 1) hM56 (by omega)) (by omega) k53_H2
  have k56_h3 := (congrFun hM56 (x + 49)).trans ((va_up_ne _ _ (by omega)).trans k53_h3)
  have k56_H3 := HM_fr (e_fr_up (a := x) (b := x + 1) hM56 (by omega)) (by omega) k53_H3
  have k56_y := (congrFun hM56 (x + 73)).trans ((va_up_ne _ _ (by omega)).trans k53_y)
  have k56_Y := YM_fr (e_fr_up (a := x) (b := x + 1) hM56 (by omega)) (by omega) k53_Y
  have k56_s := (congrFun hM56 (x + 267)).trans ((va_up_ne _ _ (by omega)).trans hq53.1.2.1)
  have k56_S := SQ_fr (e_fr_up (a := x) (b := x + 1) hM56 (by omega)) (by omega) hq53.1
  refine g_run 27 1 rfl ?_
  refine g_new 28 rfl nw_RX7_36 (by omega) (by omega) (fun M60 hM60 => ?_)
  have k60_this := (congrFun hM60 x).trans ((va_up_ne _ _ (by omega)).trans k56_this)
  have fr60 := e_fr_tr fr56 (e_fr_up hM60 (by omega))
  have k60_h1 := (congrFun hM60 (x + 1)).trans ((va_up_ne _ _ (by omega)).trans k56_h1)
  have k60_H1 := HM_fr (e_fr_up (a := (x + 271)) (b := (x + 271) + 1) hM60 (by omega)) (by omega) k56_H1
  have k60_h2 := (congrFun hM60 (x + 25)).trans ((va_up_ne _ _ (by omega)).trans k56_h2)
  have k60_H2 := HM_fr (e_fr_up (a := (x + 271)) (b := (x + 271) + 1) hM60 (by omega)) (by omega) k56_H2
  have k60_h3 := (congrFun hM60 (x + 49)).trans ((va_up_ne _ _ (by omega)).trans k56_h3)
  have k60_H3 := HM_fr (e_fr_up (a := (x + 271)) (b := (x + 271) + 1) hM60 (by omega)) (by omega) k56_H3
  have k60_y := (congrFun hM60 (x + 73)).trans ((va_up_ne _ _ (by omega)).trans k56_y)
  have k60_Y := YM_fr (e_fr_up (a := (x + 271)) (b := (x + 271) + 1) hM60 (by omega)) (by omega) k56_Y
  have k60_s := (congrFun hM60 (x + 267)).trans ((va_up_ne _ _ (by omega)).trans k56_s)
  have k60_S := SQ_fr (e_fr_up (a := (x + 271)) (b := (x + 271) + 1) hM60 (by omega)) (by omega) k56_S
  have k60_b := (congrFun hM60 (x + 271)).trans (va_up_self _ _ _)
  refine g_run 29 1 rfl ?_
  refine g_callI 30 rfl ci_RX7_38 (j_init (by omega) rfl k60_b) rfl rfl (by decide) (by omega) (by omega) (Nat.le_of_ble_eq_true rfl) (e_kw fun M64 hq64 => ?_) e_kwx
  have k64_this := (hq64.2 x (by omega)).trans k60_this
  have fr64 := e_fr_tr fr60 (e_fr_w hq64.2 (by omega))
  have k64_h1 := (hq64.2 (x + 1) (by omega)).trans k60_h1
  have k64_H1 := HM_fr hq64.2 (by omega) k60_H1
  have k64_h2 := (hq64.2 (x + 25) (by omega)).trans k60_h2
  have k64_H2 := HM_fr hq64.2 (by omega) k60_H2
  have k64_h3 := (hq64.2 (x + 49) (by omega)).trans k60_h3
  have k64_H3 := HM_fr hq64.2 (by omega) k60_H3
  have k64_y := (hq64.2 (x + 73) (by omega)).trans k60_y
  have k64_Y := YM_fr hq64.2 (by omega) k60_Y
  have k64_s := (hq64.2 (x + 267) (by omega)).trans k60_s
  have k64_S := SQ_fr hq64.2 (by omega) k60_S
  refine g_putF 31 rfl fp_RX7_39 rfl k64_this rfl trivial (fun M67 hM67 => ?_)
  have k67_this := (congrFun hM67 x).trans (va_up_self _ _ _)
  have fr67 := e_fr_tr fr64 (e_fr_up hM67 (by omega))
  have k67_h1 := (congrFun hM67 (x + 1)).trans ((va_up_ne _ _ (by omega)).trans k64_h1)
  have k67_H1 := HM_fr (e_fr_up (a := x) (b := x + 1) hM67 (by omega)) (by omega) k64_H1
  have k67_h2 := (congrFun hM67 (x + 25)).trans ((va_up_ne _ _ (by omega)).trans k64_h2)
  have k67_H2 := HM_fr (e_fr_up (a := x) (b := x + 1) hM67 (by omega)) (by omega) k64_H2
  have k67_h3 := (congrFun hM67 (x + 49)).trans ((va_up_ne _ _ (by omega)).trans k64_h3)
  have k67_H3 := HM_fr (e_fr_up (a := x) (b := x + 1) hM67 (by omega)) (by omega) k64_H3
  have k67_y := (congrFun hM67 (x + 73)).trans ((va_up_ne _ _ (by omega)).trans k64_y)
  have k67_Y := YM_fr (e_fr_up (a := x) (b := x + 1) hM67 (by omega)) (by omega) k64_Y
  have k67_s := (congrFun hM67 (x + 267)).trans ((va_up_ne _ _ (by omega)).trans k64_s)
  have k67_S := SQ_fr (e_fr_up (a := x) (b := x + 1) hM67 (by omega)) (by omega) k64_S
  have k67_b := (congrFun hM67 (x + 271)).trans ((va_up_ne _ _ (by omega)).trans hq64.1.2.2.2.2.2.1.choose_spec.2)
  have k67_B := BQ_fr (e_fr_up (a := x) (b := x + 1) hM67 (by omega)) (by omega) hq64.1
  refine g_run 32 2 rfl ?_
  refine g_put 34 rfl fp_RX7_43 k67_this rfl (Or.inl rfl) (fun M72 hM72 => ?_)
  have k72_this := (congrFun hM72 x).trans (va_up_self _ _ _)
  have fr72 := e_fr_tr fr67 (e_fr_up hM72 (by omega))
  have k72_h1 := (congrFun hM72 (x + 1)).trans ((va_up_ne _ _ (by omega)).trans k67_h1)
  have k72_H1 := HM_fr (e_fr_up (a := x) (b := x + 1) hM72 (by omega)) (by omega) k67_H1
  have k72_h2 := (congrFun hM72 (x + 25)).trans ((va_up_ne _ _ (by omega)).trans k67_h2)
  have k72_H2 := HM_fr (e_fr_up (a := x) (b := x + 1) hM72 (by omega)) (by omega) k67_H2
  have k72_h3 := (congrFun hM72 (x + 49)).trans ((va_up_ne _ _ (by omega)).trans k67_h3)
  have k72_H3 := HM_fr (e_fr_up (a := x) (b := x + 1) hM72 (by omega)) (by omega) k67_H3
  have k72_y := (congrFun hM72 (x + 73)).trans ((va_up_ne _ _ (by omega)).trans k67_y)
  have k72_Y := YM_fr (e_fr_up (a := x) (b := x + 1) hM72 (by omega)) (by omega) k67_Y
  have k72_s := (congrFun hM72 (x + 267)).trans ((va_up_ne _ _ (by omega)).trans k67_s)
  have k72_S := SQ_fr (e_fr_up (a := x) (b := x + 1) hM72 (by omega)) (by omega) k67_S
  have k72_b := (congrFun hM72 (x + 271)).trans ((va_up_ne _ _ (by omega)).trans k67_b)
  have k72_B := BQ_fr (e_fr_up (a := x) (b := x + 1) hM72 (by omega)) (by omega) k67_B
  refine g_run 35 2 rfl ?_
  refine g_put 37 rfl fp_RX7_47 k72_this rfl trivial (fun M77 hM77 => ?_)
  have k77_this := (congrFun hM77 x).trans (va_up_self _ _ _)
  have fr77 := e_fr_tr fr72 (e_fr_up hM77 (by omega))
  have k77_h1 := (congrFun hM77 (x + 1)).trans ((va_up_ne _ _ (by omega)).trans k72_h1)
  have k77_H1 := HM_fr (e_fr_up (a := x) (b := x + 1) hM77 (by omega)) (by omega) k72_H1
  have k77_h2 := (congrFun hM77 (x + 25)).trans ((va_up_ne _ _ (by omega)).trans k72_h2)
  have k77_H2 := HM_fr (e_fr_up (a := x) (b := x + 1) hM77 (by omega)) (by omega) k72_H2
  have k77_h3 := (congrFun hM77 (x + 49)).trans ((va_up_ne _ _ (by omega)).trans k72_h3)
  have k77_H3 := HM_fr (e_fr_up (a := x) (b := x + 1) hM77 (by omega)) (by omega) k72_H3
  have k77_y := (congrFun hM77 (x + 73)).trans ((va_up_ne _ _ (by omega)).trans k72_y)
  have k77_Y := YM_fr (e_fr_up (a := x) (b := x + 1) hM77 (by omega)) (by omega) k72_Y
  have k77_s := (congrFun hM77 (x + 267)).trans ((va_up_ne _ _ (by omega)).trans k72_s)
  have k77_S := SQ_fr (e_fr_up (a := x) (b := x + 1) hM77 (by omega)) (by omega) k72_S
  have k77_b := (congrFun hM77 (x + 271)).trans ((va_up_ne _ _ (by omega)).trans k72_b)
  have k77_B := BQ_fr (e_fr_up (a := x) (b := x + 1) hM77 (by omega)) (by omega) k72_B
  refine g_run 38 2 rfl ?_
  refine g_put 40 rfl fp_RX7_51 k77_this rfl trivial (fun M82 hM82 => ?_)
  have k82_this := (congrFun hM82 x).trans (va_up_self _ _ _)
  have fr82 := e_fr_tr fr77 (e_fr_up hM82 (by omega))
  have k82_h1 := (congrFun hM82 (x + 1)).trans ((va_up_ne _ _ (by omega)).trans k77_h1)
  have k82_H1 := HM_fr (e_fr_up (a := x) (b := x + 1) hM82 (by omega)) (by omega) k77_H1
  have k82_h2 := (congrFun hM82 (x + 25)).trans ((va_up_ne _ _ (by omega)).trans k77_h2)
  have k82_H2 := HM_fr (e_fr_up (a := x) (b := x + 1) hM82 (by omega)) (by omega) k77_H2
  have k82_h3 := (congrFun hM82 (x + 49)).trans ((va_up_ne _ _ (by omega)).trans k77_h3)
  have k82_H3 := HM_fr (e_fr_up (a := x) (b := x + 1) hM82 (by omega)) (by omega) k77_H3
  have k82_y := (congrFun hM82 (x + 73)).trans ((va_up_ne _ _ (by omega)).trans k77_y)
  have k82_Y := YM_fr (e_fr_up (a := x) (b := x + 1) hM82 (by omega)) (by omega) k77_Y
  have k82_s := (congrFun hM82 (x + 267)).trans ((va_up_ne _ _ (by omega)).trans k77_s)
  have k82_S := SQ_fr (e_fr_up (a := x) (b := x + 1) hM82 (by omega)) (by omega) k77_S
  have k82_b := (congrFun hM82 (x + 271)).trans ((va_up_ne _ _ (by omega)).trans k77_b)
  have k82_B := BQ_fr (e_fr_up (a := x) (b := x + 1) hM82 (by omega)) (by omega) k77_B
  exact g_vret 41 rfl rfl ⟨rfl, rfl, k82_this, k82_H1, k82_H2, k82_H3, k82_Y, k82_S, k82_B, fr82⟩
end XI
