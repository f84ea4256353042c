/-! House: a copy, a new one (wip/whole/gen/c_house2.py prints this part) -/
theorem e_ifup {f g : Nat → Int} {k : Nat} : va_up (fun j => if j < k then f j else g j) k (f k) = fun j => if j < k + 1 then f j else g j := by
  funext j
  by_cases e : j = k
  · subst e; rw [va_up_self, if_pos (by omega)]
  · rw [va_up_ne _ _ e]
    by_cases e2 : j < k
    · rw [if_pos e2, if_pos (by omega)]
    · rw [if_neg e2, if_neg (by omega)]
theorem e_if0 {f g : Nat → Int} : (fun j => if j < 0 then f j else g j) = g := funext fun j => if_neg (by omega)
section CK
variable {r0 : Option Nat} {Γ : Cx} {M : Mem} {n a b : Nat} {σ τ : HS} {B : Int}
theorem c_houseCopy (H : HM M a σ) (HB : HM M b τ) (hab : a + 24 ≤ b ∨ b + 24 ≤ a) (hr : Hok B τ) : Ct (e_L r0) Γ mX3_copyFrom 1 0 0 [vR a, vR b] M n (e_wr none n fun M' => HM M' a τ ∧ e_fr a (a + 24) M M') := by
  have fr0 : e_fr a (a + 24) M M := e_fr_refl
  refine g_start ok_X3_copyFrom rfl rfl ?_
  refine g_run 0 2 rfl ?_
  refine e_down (P := fun k => ∀ M', HR M' a σ.sc σ.od σ.oh σ.td σ.ty (fun j => if j < k then τ.lk j else σ.lk j) → HM M' b τ → e_fr a (a + 24) M M' → G (e_L r0) Γ mX3_copyFrom 1 0 0 _ 2 [some (vR a), some (vR b), some (vI (k : Int))] [] M' n 0 0) 6 ?_ 0 (by omega) M ⟨H.1, H.2.1, H.2.2.1, H.2.2.2.1, H.2.2.2.2.1, H.2.2.2.2.2.1, H.2.2.2.2.2.2.1, LF_ext H.2.2.2.2.2.2.2 (fun j _ => (show (if j < 0 then τ.lk j else σ.lk j) = σ.lk j from if_neg (by omega)).symm)⟩ HB fr0
  intro k hk ih M2 H2 HB fr2
  refine g_run 2 2 rfl ?_
  refine g_icmp_ge 4 29 rfl rfl (by omega) (by omega) (fun c5 => ?_) (fun c5 => ?_)
  · obtain rfl : k = 6 := by omega
    refine g_run 16 1 rfl ?_
    refine g_get 17 rfl fl_RX3_17 HB.2.1 rfl ?_
    refine g_run 18 2 rfl ?_
    refine g_get 20 rfl fl_RX3_17 H2.2.1 rfl ?_
    refine g_run 21 2 rfl ?_
    refine g_copy 23 0 0 2 rfl cy9_RX3_64 (by decide) HB.2.2.2.1 H2.2.2.2.1 rfl rfl rfl (by decide) (by decide) (by decide) (by decide) (fun _ _ => trivial) (Nat.le_of_ble_eq_true rfl) (fun M40 hM40 => ?_)
    have k40_this := (congrFun hM40 a).trans ((va_up_ne _ _ (by omega)).trans H2.2.1)
    have k40_this_locks := (congrFun hM40 (a + 1)).trans ((va_up_ne _ _ (by omega)).trans H2.2.2.1)
    have k40_this_ovenDoors := (congrFun hM40 (a + 2)).trans (va_up_self _ _ _)
    have k40_this_ovenHours := (congrFun hM40 (a + 3)).trans ((va_up_ne _ _ (by omega)).trans H2.2.2.2.2.1)
    have k40_this_triedDoors := (congrFun hM40 (a + 4)).trans ((va_up_ne _ _ (by omega)).trans H2.2.2.2.2.2.1)
    have k40_this_triesOpened := (congrFun hM40 (a + 5)).trans ((va_up_ne _ _ (by omega)).trans H2.2.2.2.2.2.2.1)
    have k40_LKS := LF_fr (e_fr_up (a := (a + 2)) (b := (a + 2) + 1) hM40 (by omega)) (by omega) H2.2.2.2.2.2.2.2
    have k40_other := (congrFun hM40 b).trans ((va_up_ne _ _ (by omega)).trans HB.2.1)
    have k40_other_locks := (congrFun hM40 (b + 1)).trans ((va_up_ne _ _ (by omega)).trans HB.2.2.1)
    have k40_other_ovenDoors := (congrFun hM40 (b + 2)).trans ((va_up_ne _ _ (by omega)).trans HB.2.2.2.1)
    have k40_other_ovenHours := (congrFun hM40 (b + 3)).trans ((va_up_ne _ _ (by omega)).trans HB.2.2.2.2.1)
    have k40_other_triedDoors := (congrFun hM40 (b + 4)).trans ((va_up_ne _ _ (by omega)).trans HB.2.2.2.2.2.1)
    have k40_other_triesOpened := (congrFun hM40 (b + 5)).trans ((va_up_ne _ _ (by omega)).trans HB.2.2.2.2.2.2.1)
    have k40_LKO := LF_fr (e_fr_up (a := (a + 2)) (b := (a + 2) + 1) hM40 (by omega)) (by omega) HB.2.2.2.2.2.2.2
    have k40_HB := HM_fr (e_fr_up (a := (a + 2)) (b := (a + 2) + 1) hM40 (by omega)) (by omega) HB
    have fr40 := e_fr_tr fr2 (e_fr_up hM40 (by omega))
    refine g_nI τ.od (by have := H2.1; omega) k40_this_ovenDoors (fun _ => e_cpy0) (fun M41 hM41 => ?_)
    have k41_this := (congrFun hM41 a).trans ((va_up_ne _ _ (by omega)).trans k40_this)
    have k41_this_locks := (congrFun hM41 (a + 1)).trans ((va_up_ne _ _ (by omega)).trans k40_this_locks)
    have k41_this_ovenDoors := (congrFun hM41 (a + 2)).trans (va_up_self _ _ _)
    have k41_this_ovenHours := (congrFun hM41 (a + 3)).trans ((va_up_ne _ _ (by omega)).trans k40_this_ovenHours)
    have k41_this_triedDoors := (congrFun hM41 (a + 4)).trans ((va_up_ne _ _ (by omega)).trans k40_this_triedDoors)
    have k41_this_triesOpened := (congrFun hM41 (a + 5)).trans ((va_up_ne _ _ (by omega)).trans k40_this_triesOpened)
    have k41_LKS := LF_fr (e_fr_up (a := (a + 2)) (b := (a + 2) + 1) hM41 (by omega)) (by omega) k40_LKS
    have k41_other := (congrFun hM41 b).trans ((va_up_ne _ _ (by omega)).trans k40_other)
    have k41_other_locks := (congrFun hM41 (b + 1)).trans ((va_up_ne _ _ (by omega)).trans k40_other_locks)
    have k41_other_ovenDoors := (congrFun hM41 (b + 2)).trans ((va_up_ne _ _ (by omega)).trans k40_other_ovenDoors)
    have k41_other_ovenHours := (congrFun hM41 (b + 3)).trans ((va_up_ne _ _ (by omega)).trans k40_other_ovenHours)
    have k41_other_triedDoors := (congrFun hM41 (b + 4)).trans ((va_up_ne _ _ (by omega)).trans k40_other_triedDoors)
    have k41_other_triesOpened := (congrFun hM41 (b + 5)).trans ((va_up_ne _ _ (by omega)).trans k40_other_triesOpened)
    have k41_LKO := LF_fr (e_fr_up (a := (a + 2)) (b := (a + 2) + 1) hM41 (by omega)) (by omega) k40_LKO
    have k41_HB := HM_fr (e_fr_up (a := (a + 2)) (b := (a + 2) + 1) hM41 (by omega)) (by omega) k40_HB
    have fr41 := e_fr_tr fr40 (e_fr_up hM41 (by omega))
    refine g_run 24 1 rfl ?_
    refine g_get 25 rfl fl_RX3_21 k41_other rfl ?_
    refine g_run 26 2 rfl ?_
    refine g_get 28 rfl fl_RX3_21 k41_this rfl ?_
    refine g_run 29 2 rfl ?_
    refine g_copy 31 0 0 2 rfl cy9_RX3_64 (by decide) k41_other_ovenHours k41_this_ovenHours rfl rfl rfl (by decide) (by decide) (by decide) (by decide) (fun _ _ => trivial) (Nat.le_of_ble_eq_true rfl) (fun M54 hM54 => ?_)
    have k54_this := (congrFun hM54 a).trans ((va_up_ne _ _ (by omega)).trans k41_this)
    have k54_this_locks := (congrFun hM54 (a + 1)).trans ((va_up_ne _ _ (by omega)).trans k41_this_locks)
    have k54_this_ovenDoors := (congrFun hM54 (a + 2)).trans ((va_up_ne _ _ (by omega)).trans k41_this_ovenDoors)
    have k54_this_ovenHours := (congrFun hM54 (a + 3)).trans (va_up_self _ _ _)
    have k54_this_triedDoors := (congrFun hM54 (a + 4)).trans ((va_up_ne _ _ (by omega)).trans k41_this_triedDoors)
    have k54_this_triesOpened := (congrFun hM54 (a + 5)).trans ((va_up_ne _ _ (by omega)).trans k41_this_triesOpened)
    have k54_LKS := LF_fr (e_fr_up (a := (a + 3)) (b := (a + 3) + 1) hM54 (by omega)) (by omega) k41_LKS
    have k54_other := (congrFun hM54 b).trans ((va_up_ne _ _ (by omega)).trans k41_other)
    have k54_other_locks := (congrFun hM54 (b + 1)).trans ((va_up_ne _ _ (by omega)).trans k41_other_locks)
    have k54_other_ovenDoors := (congrFun hM54 (b + 2)).trans ((va_up_ne _ _ (by omega)).trans k41_other_ovenDoors)
    have k54_other_ovenHours := (congrFun hM54 (b + 3)).trans ((va_up_ne _ _ (by omega)).trans k41_other_ovenHours)
    have k54_other_triedDoors := (congrFun hM54 (b + 4)).trans ((va_up_ne _ _ (by omega)).trans k41_other_triedDoors)
    have k54_other_triesOpened := (congrFun hM54 (b + 5)).trans ((va_up_ne _ _ (by omega)).trans k41_other_triesOpened)
    have k54_LKO := LF_fr (e_fr_up (a := (a + 3)) (b := (a + 3) + 1) hM54 (by omega)) (by omega) k41_LKO
    have k54_HB := HM_fr (e_fr_up (a := (a + 3)) (b := (a + 3) + 1) hM54 (by omega)) (by omega) k41_HB
    have fr54 := e_fr_tr fr41 (e_fr_up hM54 (by omega))
    refine g_nI τ.oh (by have := H2.1; omega) k54_this_ovenHours (fun _ => e_cpy0) (fun M55 hM55 => ?_)
    have k55_this := (congrFun hM55 a).trans ((va_up_ne _ _ (by omega)).trans k54_this)
    have k55_this_locks := (congrFun hM55 (a + 1)).trans ((va_up_ne _ _ (by omega)).trans k54_this_locks)
    have k55_this_ovenDoors := (congrFun hM55 (a + 2)).trans ((va_up_ne _ _ (by omega)).trans k54_this_ovenDoors)
    have k55_this_ovenHours := (congrFun hM55 (a + 3)).trans (va_up_self _ _ _)
    have k55_this_triedDoors := (congrFun hM55 (a + 4)).trans ((va_up_ne _ _ (by omega)).trans k54_this_triedDoors)
    have k55_this_triesOpened := (congrFun hM55 (a + 5)).trans ((va_up_ne _ _ (by omega)).trans k54_this_triesOpened)
    have k55_LKS := LF_fr (e_fr_up (a := (a + 3)) (b := (a + 3) + 1) hM55 (by omega)) (by omega) k54_LKS
    have k55_other := (congrFun hM55 b).trans ((va_up_ne _ _ (by omega)).trans k54_other)
    have k55_other_locks := (congrFun hM55 (b + 1)).trans ((va_up_ne _ _ (by omega)).trans k54_other_locks)
    have k55_other_ovenDoors := (congrFun hM55 (b + 2)).trans ((va_up_ne _ _ (by omega)).trans k54_other_ovenDoors)
    have k55_other_ovenHours := (congrFun hM55 (b + 3)).trans ((va_up_ne _ _ (by omega)).trans k54_other_ovenHours)
    have k55_other_triedDoors := (congrFun hM55 (b + 4)).trans ((va_up_ne _ _ (by omega)).trans k54_other_triedDoors)
    have k55_other_triesOpened := (congrFun hM55 (b + 5)).trans ((va_up_ne _ _ (by omega)).trans k54_other_triesOpened)
    have k55_LKO := LF_fr (e_fr_up (a := (a + 3)) (b := (a + 3) + 1) hM55 (by omega)) (by omega) k54_LKO
    have k55_HB := HM_fr (e_fr_up (a := (a + 3)) (b := (a + 3) + 1) hM55 (by omega)) (by omega) k54_HB
    have fr55 := e_fr_tr fr54 (e_fr_up hM55 (by omega))
    refine g_run 32 2 rfl ?_
    refine e_down (P := fun k => ∀ M', HR M' a σ.sc τ.od τ.oh (fun j => if j < k then τ.td j else σ.td j) (fun j => if j < k then τ.ty j else σ.ty j) τ.lk → HM M' b τ → e_fr a (a + 24) M M' → G (e_L r0) Γ mX3_copyFrom 1 0 0 _ 59 [some (vR a), some (vR b), some (vI (k : Int))] [] M' n 0 0) 10 ?_ 0 (by omega) M55 ⟨H2.1, k55_this, k55_this_locks, k55_this_ovenDoors, k55_this_ovenHours, k55_this_triedDoors.trans (congrArg (cI 0 10) e_if0.symm), k55_this_triesOpened.trans (congrArg (cI 1 10) e_if0.symm), LF_ext k55_LKS (fun j hj => if_pos hj)⟩ k55_HB fr55
    clear H2 HB
    intro k hk ih M59 H2 HB fr2
    refine g_run 34 2 rfl ?_
    refine g_icmp_ge 36 95 rfl rfl (by omega) (by omega) (fun c62 => ?_) (fun c62 => ?_)
    · obtain rfl : k = 10 := by omega
      refine g_nI τ.td (by have := H2.1; omega) H2.2.2.2.2.2.1 (fun j hj => if_pos hj) (fun M93 hM93 => ?_)
      have k93_this := (congrFun hM93 a).trans ((va_up_ne _ _ (by omega)).trans H2.2.1)
      have k93_this_locks := (congrFun hM93 (a + 1)).trans ((va_up_ne _ _ (by omega)).trans H2.2.2.1)
      have k93_this_ovenDoors := (congrFun hM93 (a + 2)).trans ((va_up_ne _ _ (by omega)).trans H2.2.2.2.1)
      have k93_this_ovenHours := (congrFun hM93 (a + 3)).trans ((va_up_ne _ _ (by omega)).trans H2.2.2.2.2.1)
      have k93_this_triedDoors := (congrFun hM93 (a + 4)).trans (va_up_self _ _ _)
      have k93_this_triesOpened := (congrFun hM93 (a + 5)).trans ((va_up_ne _ _ (by omega)).trans H2.2.2.2.2.2.2.1)
      have k93_LKS := LF_fr (e_fr_up (a := (a + 4)) (b := (a + 4) + 1) hM93 (by omega)) (by omega) H2.2.2.2.2.2.2.2
      have k93_other := (congrFun hM93 b).trans ((va_up_ne _ _ (by omega)).trans HB.2.1)
      have k93_other_locks := (congrFun hM93 (b + 1)).trans ((va_up_ne _ _ (by omega)).trans HB.2.2.1)
      have k93_other_ovenDoors := (congrFun hM93 (b + 2)).trans ((va_up_ne _ _ (by omega)).trans HB.2.2.2.1)
      have k93_other_ovenHours := (congrFun hM93 (b + 3)).trans ((va_up_ne _ _ (by omega)).trans HB.2.2.2.2.1)
      have k93_other_triedDoors := (congrFun hM93 (b + 4)).trans ((va_up_ne _ _ (by omega)).trans HB.2.2.2.2.2.1)
      have k93_other_triesOpened := (congrFun hM93 (b + 5)).trans ((va_up_ne _ _ (by omega)).trans HB.2.2.2.2.2.2.1)
      have k93_LKO := LF_fr (e_fr_up (a := (a + 4)) (b := (a + 4) + 1) hM93 (by omega)) (by omega) HB.2.2.2.2.2.2.2
      have k93_HB := HM_fr (e_fr_up (a := (a + 4)) (b := (a + 4) + 1) hM93 (by omega)) (by omega) HB
      have fr93 := e_fr_tr fr2 (e_fr_up hM93 (by omega))
      refine g_nI τ.ty (by have := H2.1; omega) k93_this_triesOpened (fun j hj => if_pos hj) (fun M94 hM94 => ?_)
      have k94_this := (congrFun hM94 a).trans ((va_up_ne _ _ (by omega)).trans k93_this)
      have k94_this_locks := (congrFun hM94 (a + 1)).trans ((va_up_ne _ _ (by omega)).trans k93_this_locks)
      have k94_this_ovenDoors := (congrFun hM94 (a + 2)).trans ((va_up_ne _ _ (by omega)).trans k93_this_ovenDoors)
      have k94_this_ovenHours := (congrFun hM94 (a + 3)).trans ((va_up_ne _ _ (by omega)).trans k93_this_ovenHours)
      have k94_this_triedDoors := (congrFun hM94 (a + 4)).trans ((va_up_ne _ _ (by omega)).trans k93_this_triedDoors)
      have k94_this_triesOpened := (congrFun hM94 (a + 5)).trans (va_up_self _ _ _)
      have k94_LKS := LF_fr (e_fr_up (a := (a + 5)) (b := (a + 5) + 1) hM94 (by omega)) (by omega) k93_LKS
      have k94_other := (congrFun hM94 b).trans ((va_up_ne _ _ (by omega)).trans k93_other)
      have k94_other_locks := (congrFun hM94 (b + 1)).trans ((va_up_ne _ _ (by omega)).trans k93_other_locks)
      have k94_other_ovenDoors := (congrFun hM94 (b + 2)).trans ((va_up_ne _ _ (by omega)).trans k93_other_ovenDoors)
      have k94_other_ovenHours := (congrFun hM94 (b + 3)).trans ((va_up_ne _ _ (by omega)).trans k93_other_ovenHours)
      have k94_other_triedDoors := (congrFun hM94 (b + 4)).trans ((va_up_ne _ _ (by omega)).trans k93_other_triedDoors)
      have k94_other_triesOpened := (congrFun hM94 (b + 5)).trans ((va_up_ne _ _ (by omega)).trans k93_other_triesOpened)
      have k94_LKO := LF_fr (e_fr_up (a := (a + 5)) (b := (a + 5) + 1) hM94 (by omega)) (by omega) k93_LKO
      have k94_HB := HM_fr (e_fr_up (a := (a + 5)) (b := (a + 5) + 1) hM94 (by omega)) (by omega) k93_HB
      have fr94 := e_fr_tr fr93 (e_fr_up hM94 (by omega))
      refine g_run 55 2 rfl ?_
      refine g_get 57 rfl fl_RX3_31 k94_other rfl ?_
      refine g_put 58 rfl fp_RX3_31 k94_this rfl trivial (fun M100 hM100 => ?_)
      have k100_this := (congrFun hM100 a).trans (va_up_self _ _ _)
      have k100_this_locks := (congrFun hM100 (a + 1)).trans ((va_up_ne _ _ (by omega)).trans k94_this_locks)
      have k100_this_ovenDoors := (congrFun hM100 (a + 2)).trans ((va_up_ne _ _ (by omega)).trans k94_this_ovenDoors)
      have k100_this_ovenHours := (congrFun hM100 (a + 3)).trans ((va_up_ne _ _ (by omega)).trans k94_this_ovenHours)
      have k100_this_triedDoors := (congrFun hM100 (a + 4)).trans ((va_up_ne _ _ (by omega)).trans k94_this_triedDoors)
      have k100_this_triesOpened := (congrFun hM100 (a + 5)).trans ((va_up_ne _ _ (by omega)).trans k94_this_triesOpened)
      have k100_LKS := LF_fr (e_fr_up (a := a) (b := a + 1) hM100 (by omega)) (by omega) k94_LKS
      have k100_other := (congrFun hM100 b).trans ((va_up_ne _ _ (by omega)).trans k94_other)
      have k100_other_locks := (congrFun hM100 (b + 1)).trans ((va_up_ne _ _ (by omega)).trans k94_other_locks)
      have k100_other_ovenDoors := (congrFun hM100 (b + 2)).trans ((va_up_ne _ _ (by omega)).trans k94_other_ovenDoors)
      have k100_other_ovenHours := (congrFun hM100 (b + 3)).trans ((va_up_ne _ _ (by omega)).trans k94_other_ovenHours)
      have k100_other_triedDoors := (congrFun hM100 (b + 4)).trans ((va_up_ne _ _ (by omega)).trans k94_other_triedDoors)
      have k100_other_triesOpened := (congrFun hM100 (b + 5)).trans ((va_up_ne _ _ (by omega)).trans k94_other_triesOpened)
      have k100_LKO := LF_fr (e_fr_up (a := a) (b := a + 1) hM100 (by omega)) (by omega) k94_LKO
      have k100_HB := HM_fr (e_fr_up (a := a) (b := a + 1) hM100 (by omega)) (by omega) k94_HB
      have fr100 := e_fr_tr fr94 (e_fr_up hM100 (by omega))
      refine g_run 59 2 rfl ?_
      refine g_get 61 rfl fl_RX3_35 k100_other rfl ?_
      refine g_put 62 rfl fp_RX3_35 k100_this rfl trivial (fun M108 hM108 => ?_)
      have k108_this := (congrFun hM108 a).trans (va_up_self _ _ _)
      have k108_this_locks := (congrFun hM108 (a + 1)).trans ((va_up_ne _ _ (by omega)).trans k100_this_locks)
      have k108_this_ovenDoors := (congrFun hM108 (a + 2)).trans ((va_up_ne _ _ (by omega)).trans k100_this_ovenDoors)
      have k108_this_ovenHours := (congrFun hM108 (a + 3)).trans ((va_up_ne _ _ (by omega)).trans k100_this_ovenHours)
      have k108_this_triedDoors := (congrFun hM108 (a + 4)).trans ((va_up_ne _ _ (by omega)).trans k100_this_triedDoors)
      have k108_this_triesOpened := (congrFun hM108 (a + 5)).trans ((va_up_ne _ _ (by omega)).trans k100_this_triesOpened)
      have k108_LKS := LF_fr (e_fr_up (a := a) (b := a + 1) hM108 (by omega)) (by omega) k100_LKS
      have k108_other := (congrFun hM108 b).trans ((va_up_ne _ _ (by omega)).trans k100_other)
      have k108_other_locks := (congrFun hM108 (b + 1)).trans ((va_up_ne _ _ (by omega)).trans k100_other_locks)
      have k108_other_ovenDoors := (congrFun hM108 (b + 2)).trans ((va_up_ne _ _ (by omega)).trans k100_other_ovenDoors)
      have k108_other_ovenHours := (congrFun hM108 (b + 3)).trans ((va_up_ne _ _ (by omega)).trans k100_other_ovenHours)
      have k108_other_triedDoors := (congrFun hM108 (b + 4)).trans ((va_up_ne _ _ (by omega)).trans k100_other_triedDoors)
      have k108_other_triesOpened := (congrFun hM108 (b + 5)).trans ((va_up_ne _ _ (by omega)).trans k100_other_triesOpened)
      have k108_LKO := LF_fr (e_fr_up (a := a) (b := a + 1) hM108 (by omega)) (by omega) k100_LKO
      have k108_HB := HM_fr (e_fr_up (a := a) (b := a + 1) hM108 (by omega)) (by omega) k100_HB
      have fr108 := e_fr_tr fr100 (e_fr_up hM108 (by omega))
      refine g_run 63 2 rfl ?_
      refine g_get 65 rfl fl_RX3_38 k108_other rfl ?_
      refine g_put 66 rfl fp_RX3_38 k108_this rfl trivial (fun M116 hM116 => ?_)
      have k116_this := (congrFun hM116 a).trans (va_up_self _ _ _)
      have k116_this_locks := (congrFun hM116 (a + 1)).trans ((va_up_ne _ _ (by omega)).trans k108_this_locks)
      have k116_this_ovenDoors := (congrFun hM116 (a + 2)).trans ((va_up_ne _ _ (by omega)).trans k108_this_ovenDoors)
      have k116_this_ovenHours := (congrFun hM116 (a + 3)).trans ((va_up_ne _ _ (by omega)).trans k108_this_ovenHours)
      have k116_this_triedDoors := (congrFun hM116 (a + 4)).trans ((va_up_ne _ _ (by omega)).trans k108_this_triedDoors)
      have k116_this_triesOpened := (congrFun hM116 (a + 5)).trans ((va_up_ne _ _ (by omega)).trans k108_this_triesOpened)
      have k116_LKS := LF_fr (e_fr_up (a := a) (b := a + 1) hM116 (by omega)) (by omega) k108_LKS
      have k116_other := (congrFun hM116 b).trans ((va_up_ne _ _ (by omega)).trans k108_other)
      have k116_other_locks := (congrFun hM116 (b + 1)).trans ((va_up_ne _ _ (by omega)).trans k108_other_locks)
      have k116_other_ovenDoors := (congrFun hM116 (b + 2)).trans ((va_up_ne _ _ (by omega)).trans k108_other_ovenDoors)
      have k116_other_ovenHours := (congrFun hM116 (b + 3)).trans ((va_up_ne _ _ (by omega)).trans k108_other_ovenHours)
      have k116_other_triedDoors := (congrFun hM116 (b + 4)).trans ((va_up_ne _ _ (by omega)).trans k108_other_triedDoors)
      have k116_other_triesOpened := (congrFun hM116 (b + 5)).trans ((va_up_ne _ _ (by omega)).trans k108_other_triesOpened)
      have k116_LKO := LF_fr (e_fr_up (a := a) (b := a + 1) hM116 (by omega)) (by omega) k108_LKO
      have k116_HB := HM_fr (e_fr_up (a := a) (b := a + 1) hM116 (by omega)) (by omega) k108_HB
      have fr116 := e_fr_tr fr108 (e_fr_up hM116 (by omega))
      refine g_run 67 2 rfl ?_
      refine g_get 69 rfl fl_RX3_41 k116_other rfl ?_
      refine g_put 70 rfl fp_RX3_41 k116_this rfl trivial (fun M124 hM124 => ?_)
      have k124_this := (congrFun hM124 a).trans (va_up_self _ _ _)
      have k124_this_locks := (congrFun hM124 (a + 1)).trans ((va_up_ne _ _ (by omega)).trans k116_this_locks)
      have k124_this_ovenDoors := (congrFun hM124 (a + 2)).trans ((va_up_ne _ _ (by omega)).trans k116_this_ovenDoors)
      have k124_this_ovenHours := (congrFun hM124 (a + 3)).trans ((va_up_ne _ _ (by omega)).trans k116_this_ovenHours)
      have k124_this_triedDoors := (congrFun hM124 (a + 4)).trans ((va_up_ne _ _ (by omega)).trans k116_this_triedDoors)
      have k124_this_triesOpened := (congrFun hM124 (a + 5)).trans ((va_up_ne _ _ (by omega)).trans k116_this_triesOpened)
      have k124_LKS := LF_fr (e_fr_up (a := a) (b := a + 1) hM124 (by omega)) (by omega) k116_LKS
      have k124_other := (congrFun hM124 b).trans ((va_up_ne _ _ (by omega)).trans k116_other)
      have k124_other_locks := (congrFun hM124 (b + 1)).trans ((va_up_ne _ _ (by omega)).trans k116_other_locks)
      have k124_other_ovenDoors := (congrFun hM124 (b + 2)).trans ((va_up_ne _ _ (by omega)).trans k116_other_ovenDoors)
      have k124_other_ovenHours := (congrFun hM124 (b + 3)).trans ((va_up_ne _ _ (by omega)).trans k116_other_ovenHours)
      have k124_other_triedDoors := (congrFun hM124 (b + 4)).trans ((va_up_ne _ _ (by omega)).trans k116_other_triedDoors)
      have k124_other_triesOpened := (congrFun hM124 (b + 5)).trans ((va_up_ne _ _ (by omega)).trans k116_other_triesOpened)
      have k124_LKO := LF_fr (e_fr_up (a := a) (b := a + 1) hM124 (by omega)) (by omega) k116_LKO
      have k124_HB := HM_fr (e_fr_up (a := a) (b := a + 1) hM124 (by omega)) (by omega) k116_HB
      have fr124 := e_fr_tr fr116 (e_fr_up hM124 (by omega))
      refine g_run 71 2 rfl ?_
      refine g_get 73 rfl fl_RX3_44 k124_other rfl ?_
      refine g_put 74 rfl fp_RX3_44 k124_this rfl trivial (fun M132 hM132 => ?_)
      have k132_this := (congrFun hM132 a).trans (va_up_self _ _ _)
      have k132_this_locks := (congrFun hM132 (a + 1)).trans ((va_up_ne _ _ (by omega)).trans k124_this_locks)
      have k132_this_ovenDoors := (congrFun hM132 (a + 2)).trans ((va_up_ne _ _ (by omega)).trans k124_this_ovenDoors)
      have k132_this_ovenHours := (congrFun hM132 (a + 3)).trans ((va_up_ne _ _ (by omega)).trans k124_this_ovenHours)
      have k132_this_triedDoors := (congrFun hM132 (a + 4)).trans ((va_up_ne _ _ (by omega)).trans k124_this_triedDoors)
      have k132_this_triesOpened := (congrFun hM132 (a + 5)).trans ((va_up_ne _ _ (by omega)).trans k124_this_triesOpened)
      have k132_LKS := LF_fr (e_fr_up (a := a) (b := a + 1) hM132 (by omega)) (by omega) k124_LKS
      have k132_other := (congrFun hM132 b).trans ((va_up_ne _ _ (by omega)).trans k124_other)
      have k132_other_locks := (congrFun hM132 (b + 1)).trans ((va_up_ne _ _ (by omega)).trans k124_other_locks)
      have k132_other_ovenDoors := (congrFun hM132 (b + 2)).trans ((va_up_ne _ _ (by omega)).trans k124_other_ovenDoors)
      have k132_other_ovenHours := (congrFun hM132 (b + 3)).trans ((va_up_ne _ _ (by omega)).trans k124_other_ovenHours)
      have k132_other_triedDoors := (congrFun hM132 (b + 4)).trans ((va_up_ne _ _ (by omega)).trans k124_other_triedDoors)
      have k132_other_triesOpened := (congrFun hM132 (b + 5)).trans ((va_up_ne _ _ (by omega)).trans k124_other_triesOpened)
      have k132_LKO := LF_fr (e_fr_up (a := a) (b := a + 1) hM132 (by omega)) (by omega) k124_LKO
      have k132_HB := HM_fr (e_fr_up (a := a) (b := a + 1) hM132 (by omega)) (by omega) k124_HB
      have fr132 := e_fr_tr fr124 (e_fr_up hM132 (by omega))
      refine g_run 75 2 rfl ?_
      refine g_get 77 rfl fl_RX3_47 k132_other rfl ?_
      refine g_put 78 rfl fp_RX3_47 k132_this rfl trivial (fun M140 hM140 => ?_)
      have k140_this := (congrFun hM140 a).trans (va_up_self _ _ _)
      have k140_this_locks := (congrFun hM140 (a + 1)).trans ((va_up_ne _ _ (by omega)).trans k132_this_locks)
      have k140_this_ovenDoors := (congrFun hM140 (a + 2)).trans ((va_up_ne _ _ (by omega)).trans k132_this_ovenDoors)
      have k140_this_ovenHours := (congrFun hM140 (a + 3)).trans ((va_up_ne _ _ (by omega)).trans k132_this_ovenHours)
      have k140_this_triedDoors := (congrFun hM140 (a + 4)).trans ((va_up_ne _ _ (by omega)).trans k132_this_triedDoors)
      have k140_this_triesOpened := (congrFun hM140 (a + 5)).trans ((va_up_ne _ _ (by omega)).trans k132_this_triesOpened)
      have k140_LKS := LF_fr (e_fr_up (a := a) (b := a + 1) hM140 (by omega)) (by omega) k132_LKS
      have k140_other := (congrFun hM140 b).trans ((va_up_ne _ _ (by omega)).trans k132_other)
      have k140_other_locks := (congrFun hM140 (b + 1)).trans ((va_up_ne _ _ (by omega)).trans k132_other_locks)
      have k140_other_ovenDoors := (congrFun hM140 (b + 2)).trans ((va_up_ne _ _ (by omega)).trans k132_other_ovenDoors)
      have k140_other_ovenHours := (congrFun hM140 (b + 3)).trans ((va_up_ne _ _ (by omega)).trans k132_other_ovenHours)
      have k140_other_triedDoors := (congrFun hM140 (b + 4)).trans ((va_up_ne _ _ (by omega)).trans k132_other_triedDoors)
      have k140_other_triesOpened := (congrFun hM140 (b + 5)).trans ((va_up_ne _ _ (by omega)).trans k132_other_triesOpened)
      have k140_LKO := LF_fr (e_fr_up (a := a) (b := a + 1) hM140 (by omega)) (by omega) k132_LKO
      have k140_HB := HM_fr (e_fr_up (a := a) (b := a + 1) hM140 (by omega)) (by omega) k132_HB
      have fr140 := e_fr_tr fr132 (e_fr_up hM140 (by omega))
      refine g_run 79 2 rfl ?_
      refine g_get 81 rfl fl_RX3_50 k140_other rfl ?_
      refine g_put 82 rfl fp_RX3_50 k140_this rfl trivial (fun M148 hM148 => ?_)
      have k148_this := (congrFun hM148 a).trans (va_up_self _ _ _)
      have k148_this_locks := (congrFun hM148 (a + 1)).trans ((va_up_ne _ _ (by omega)).trans k140_this_locks)
      have k148_this_ovenDoors := (congrFun hM148 (a + 2)).trans ((va_up_ne _ _ (by omega)).trans k140_this_ovenDoors)
      have k148_this_ovenHours := (congrFun hM148 (a + 3)).trans ((va_up_ne _ _ (by omega)).trans k140_this_ovenHours)
      have k148_this_triedDoors := (congrFun hM148 (a + 4)).trans ((va_up_ne _ _ (by omega)).trans k140_this_triedDoors)
      have k148_this_triesOpened := (congrFun hM148 (a + 5)).trans ((va_up_ne _ _ (by omega)).trans k140_this_triesOpened)
      have k148_LKS := LF_fr (e_fr_up (a := a) (b := a + 1) hM148 (by omega)) (by omega) k140_LKS
      have k148_other := (congrFun hM148 b).trans ((va_up_ne _ _ (by omega)).trans k140_other)
      have k148_other_locks := (congrFun hM148 (b + 1)).trans ((va_up_ne _ _ (by omega)).trans k140_other_locks)
      have k148_other_ovenDoors := (congrFun hM148 (b + 2)).trans ((va_up_ne _ _ (by omega)).trans k140_other_ovenDoors)
      have k148_other_ovenHours := (congrFun hM148 (b + 3)).trans ((va_up_ne _ _ (by omega)).trans k140_other_ovenHours)
      have k148_other_triedDoors := (congrFun hM148 (b + 4)).trans ((va_up_ne _ _ (by omega)).trans k140_other_triedDoors)
      have k148_other_triesOpened := (congrFun hM148 (b + 5)).trans ((va_up_ne _ _ (by omega)).trans k140_other_triesOpened)
      have k148_LKO := LF_fr (e_fr_up (a := a) (b := a + 1) hM148 (by omega)) (by omega) k140_LKO
      have k148_HB := HM_fr (e_fr_up (a := a) (b := a + 1) hM148 (by omega)) (by omega) k140_HB
      have fr148 := e_fr_tr fr140 (e_fr_up hM148 (by omega))
      refine g_run 83 2 rfl ?_
      refine g_get 85 rfl fl_RX3_53 k148_other rfl ?_
      refine g_put 86 rfl fp_RX3_53 k148_this rfl trivial (fun M156 hM156 => ?_)
      have k156_this := (congrFun hM156 a).trans (va_up_self _ _ _)
      have k156_this_locks := (congrFun hM156 (a + 1)).trans ((va_up_ne _ _ (by omega)).trans k148_this_locks)
      have k156_this_ovenDoors := (congrFun hM156 (a + 2)).trans ((va_up_ne _ _ (by omega)).trans k148_this_ovenDoors)
      have k156_this_ovenHours := (congrFun hM156 (a + 3)).trans ((va_up_ne _ _ (by omega)).trans k148_this_ovenHours)
      have k156_this_triedDoors := (congrFun hM156 (a + 4)).trans ((va_up_ne _ _ (by omega)).trans k148_this_triedDoors)
      have k156_this_triesOpened := (congrFun hM156 (a + 5)).trans ((va_up_ne _ _ (by omega)).trans k148_this_triesOpened)
      have k156_LKS := LF_fr (e_fr_up (a := a) (b := a + 1) hM156 (by omega)) (by omega) k148_LKS
      have k156_other := (congrFun hM156 b).trans ((va_up_ne _ _ (by omega)).trans k148_other)
      have k156_other_locks := (congrFun hM156 (b + 1)).trans ((va_up_ne _ _ (by omega)).trans k148_other_locks)
      have k156_other_ovenDoors := (congrFun hM156 (b + 2)).trans ((va_up_ne _ _ (by omega)).trans k148_other_ovenDoors)
      have k156_other_ovenHours := (congrFun hM156 (b + 3)).trans ((va_up_ne _ _ (by omega)).trans k148_other_ovenHours)
      have k156_other_triedDoors := (congrFun hM156 (b + 4)).trans ((va_up_ne _ _ (by omega)).trans k148_other_triedDoors)
      have k156_other_triesOpened := (congrFun hM156 (b + 5)).trans ((va_up_ne _ _ (by omega)).trans k148_other_triesOpened)
      have k156_LKO := LF_fr (e_fr_up (a := a) (b := a + 1) hM156 (by omega)) (by omega) k148_LKO
      have k156_HB := HM_fr (e_fr_up (a := a) (b := a + 1) hM156 (by omega)) (by omega) k148_HB
      have fr156 := e_fr_tr fr148 (e_fr_up hM156 (by omega))
      refine g_run 87 2 rfl ?_
      refine g_get 89 rfl fl_RX3_56 k156_other rfl ?_
      refine g_put 90 rfl fp_RX3_56 k156_this rfl trivial (fun M164 hM164 => ?_)
      have k164_this := (congrFun hM164 a).trans (va_up_self _ _ _)
      have k164_this_locks := (congrFun hM164 (a + 1)).trans ((va_up_ne _ _ (by omega)).trans k156_this_locks)
      have k164_this_ovenDoors := (congrFun hM164 (a + 2)).trans ((va_up_ne _ _ (by omega)).trans k156_this_ovenDoors)
      have k164_this_ovenHours := (congrFun hM164 (a + 3)).trans ((va_up_ne _ _ (by omega)).trans k156_this_ovenHours)
      have k164_this_triedDoors := (congrFun hM164 (a + 4)).trans ((va_up_ne _ _ (by omega)).trans k156_this_triedDoors)
      have k164_this_triesOpened := (congrFun hM164 (a + 5)).trans ((va_up_ne _ _ (by omega)).trans k156_this_triesOpened)
      have k164_LKS := LF_fr (e_fr_up (a := a) (b := a + 1) hM164 (by omega)) (by omega) k156_LKS
      have k164_other := (congrFun hM164 b).trans ((va_up_ne _ _ (by omega)).trans k156_other)
      have k164_other_locks := (congrFun hM164 (b + 1)).trans ((va_up_ne _ _ (by omega)).trans k156_other_locks)
      have k164_other_ovenDoors := (congrFun hM164 (b + 2)).trans ((va_up_ne _ _ (by omega)).trans k156_other_ovenDoors)
      have k164_other_ovenHours := (congrFun hM164 (b + 3)).trans ((va_up_ne _ _ (by omega)).trans k156_other_ovenHours)
      have k164_other_triedDoors := (congrFun hM164 (b + 4)).trans ((va_up_ne _ _ (by omega)).trans k156_other_triedDoors)
      have k164_other_triesOpened := (congrFun hM164 (b + 5)).trans ((va_up_ne _ _ (by omega)).trans k156_other_triesOpened)
      have k164_LKO := LF_fr (e_fr_up (a := a) (b := a + 1) hM164 (by omega)) (by omega) k156_LKO
      have k164_HB := HM_fr (e_fr_up (a := a) (b := a + 1) hM164 (by omega)) (by omega) k156_HB
      have fr164 := e_fr_tr fr156 (e_fr_up hM164 (by omega))
      exact g_vret 91 rfl rfl ⟨rfl, rfl, ⟨H2.1, k164_this, k164_this_locks, k164_this_ovenDoors, k164_this_ovenHours, k164_this_triedDoors, k164_this_triesOpened, k164_LKS⟩, fr164⟩
    · refine g_run 37 1 rfl ?_
      refine g_get 38 rfl fl_RX3_24 H2.2.1 rfl ?_
      refine g_run 39 2 rfl ?_
      refine g_get 41 rfl fl_RX3_24 HB.2.1 rfl ?_
      refine g_run 42 1 rfl ?_
      refine g_iald 43 k rfl rfl HB.2.2.2.2.2.1 (by first | rfl | omega) (by omega) (by decide) ?_
      refine g_iast 44 k rfl rfl (by decide) H2.2.2.2.2.2.1 (by first | rfl | omega) (by omega) (by decide) (fun M76 hM76 => ?_)
      have k76_this := (congrFun hM76 a).trans ((va_up_ne _ _ (by omega)).trans H2.2.1)
      have k76_this_locks := (congrFun hM76 (a + 1)).trans ((va_up_ne _ _ (by omega)).trans H2.2.2.1)
      have k76_this_ovenDoors := (congrFun hM76 (a + 2)).trans ((va_up_ne _ _ (by omega)).trans H2.2.2.2.1)
      have k76_this_ovenHours := (congrFun hM76 (a + 3)).trans ((va_up_ne _ _ (by omega)).trans H2.2.2.2.2.1)
      have k76_this_triedDoors := (congrFun hM76 (a + 4)).trans (va_up_self _ _ _)
      have k76_this_triesOpened := (congrFun hM76 (a + 5)).trans ((va_up_ne _ _ (by omega)).trans H2.2.2.2.2.2.2.1)
      have k76_LKS := LF_fr (e_fr_up (a := (a + 4)) (b := (a + 4) + 1) hM76 (by omega)) (by omega) H2.2.2.2.2.2.2.2
      have k76_other := (congrFun hM76 b).trans ((va_up_ne _ _ (by omega)).trans HB.2.1)
      have k76_other_locks := (congrFun hM76 (b + 1)).trans ((va_up_ne _ _ (by omega)).trans HB.2.2.1)
      have k76_other_ovenDoors := (congrFun hM76 (b + 2)).trans ((va_up_ne _ _ (by omega)).trans HB.2.2.2.1)
      have k76_other_ovenHours := (congrFun hM76 (b + 3)).trans ((va_up_ne _ _ (by omega)).trans HB.2.2.2.2.1)
      have k76_other_triedDoors := (congrFun hM76 (b + 4)).trans ((va_up_ne _ _ (by omega)).trans HB.2.2.2.2.2.1)
      have k76_other_triesOpened := (congrFun hM76 (b + 5)).trans ((va_up_ne _ _ (by omega)).trans HB.2.2.2.2.2.2.1)
      have k76_LKO := LF_fr (e_fr_up (a := (a + 4)) (b := (a + 4) + 1) hM76 (by omega)) (by omega) HB.2.2.2.2.2.2.2
      have k76_HB := HM_fr (e_fr_up (a := (a + 4)) (b := (a + 4) + 1) hM76 (by omega)) (by omega) HB
      have fr76 := e_fr_tr fr2 (e_fr_up hM76 (by omega))
      refine g_run 45 1 rfl ?_
      refine g_get 46 rfl fl_RX3_27 k76_this rfl ?_
      refine g_run 47 2 rfl ?_
      refine g_get 49 rfl fl_RX3_27 k76_other rfl ?_
      refine g_run 50 1 rfl ?_
      refine g_zald 51 k rfl rfl k76_other_triesOpened (by first | rfl | omega) (by omega) (by decide) ?_
      refine g_zast 52 k rfl rfl (by decide) k76_this_triesOpened (by first | rfl | omega) (by omega) (by decide) (hr.2.2.2.1 k (by omega)).2.2 (fun M88 hM88 => ?_)
      have k88_this := (congrFun hM88 a).trans ((va_up_ne _ _ (by omega)).trans k76_this)
      have k88_this_locks := (congrFun hM88 (a + 1)).trans ((va_up_ne _ _ (by omega)).trans k76_this_locks)
      have k88_this_ovenDoors := (congrFun hM88 (a + 2)).trans ((va_up_ne _ _ (by omega)).trans k76_this_ovenDoors)
      have k88_this_ovenHours := (congrFun hM88 (a + 3)).trans ((va_up_ne _ _ (by omega)).trans k76_this_ovenHours)
      have k88_this_triedDoors := (congrFun hM88 (a + 4)).trans ((va_up_ne _ _ (by omega)).trans k76_this_triedDoors)
      have k88_this_triesOpened := (congrFun hM88 (a + 5)).trans (va_up_self _ _ _)
      have k88_LKS := LF_fr (e_fr_up (a := (a + 5)) (b := (a + 5) + 1) hM88 (by omega)) (by omega) k76_LKS
      have k88_other := (congrFun hM88 b).trans ((va_up_ne _ _ (by omega)).trans k76_other)
      have k88_other_locks := (congrFun hM88 (b + 1)).trans ((va_up_ne _ _ (by omega)).trans k76_other_locks)
      have k88_other_ovenDoors := (congrFun hM88 (b + 2)).trans ((va_up_ne _ _ (by omega)).trans k76_other_ovenDoors)
      have k88_other_ovenHours := (congrFun hM88 (b + 3)).trans ((va_up_ne _ _ (by omega)).trans k76_other_ovenHours)
      have k88_other_triedDoors := (congrFun hM88 (b + 4)).trans ((va_up_ne _ _ (by omega)).trans k76_other_triedDoors)
      have k88_other_triesOpened := (congrFun hM88 (b + 5)).trans ((va_up_ne _ _ (by omega)).trans k76_other_triesOpened)
      have k88_LKO := LF_fr (e_fr_up (a := (a + 5)) (b := (a + 5) + 1) hM88 (by omega)) (by omega) k76_LKO
      have k88_HB := HM_fr (e_fr_up (a := (a + 5)) (b := (a + 5) + 1) hM88 (by omega)) (by omega) k76_HB
      have fr88 := e_fr_tr fr76 (e_fr_up hM88 (by omega))
      refine g_run 53 2 rfl ?_
      rw [e_ifup] at k88_this_triedDoors k88_this_triesOpened
      exact ih (by omega) M88 ⟨H2.1, k88_this, k88_this_locks, k88_this_ovenDoors, k88_this_ovenHours, k88_this_triedDoors, k88_this_triesOpened, k88_LKS⟩ k88_HB fr88
  · refine g_run 5 1 rfl ?_
    refine g_get 6 rfl fl_RX3_11 H2.2.1 rfl ?_
    refine g_run 7 1 rfl ?_
    refine g_aald 8 k rfl rfl H2.2.2.1 (by first | rfl | omega) (by omega) (by decide) ?_
    rw [lkR_at (by omega)]
    have kl13 := H2.2.2.2.2.2.2.2 k (by omega)
    refine g_run 9 1 rfl ?_
    refine g_get 10 rfl fl_RX3_11 HB.2.1 rfl ?_
    refine g_run 11 1 rfl ?_
    refine g_aald 12 k rfl rfl HB.2.2.1 (by first | rfl | omega) (by omega) (by decide) ?_
    rw [lkR_at (by omega)]
    have kl19 := HB.2.2.2.2.2.2.2 k (by omega)
    refine g_callV 13 rfl cv_RX3_60 kl13.2.1 (c_lockCopy kl13 kl19 (by omega) (hr.2.2.2.2 k (by omega)).1) rfl rfl (by decide) (by omega) (by omega) (Nat.le_of_ble_eq_true rfl) (e_kw fun M20 hq20 => ?_) e_kwx
    have k20_this := (hq20.2 a (by omega)).trans H2.2.1
    have k20_this_locks := (hq20.2 (a + 1) (by omega)).trans H2.2.2.1
    have k20_this_ovenDoors := (hq20.2 (a + 2) (by omega)).trans H2.2.2.2.1
    have k20_this_ovenHours := (hq20.2 (a + 3) (by omega)).trans H2.2.2.2.2.1
    have k20_this_triedDoors := (hq20.2 (a + 4) (by omega)).trans H2.2.2.2.2.2.1
    have k20_this_triesOpened := (hq20.2 (a + 5) (by omega)).trans H2.2.2.2.2.2.2.1
    have k20_other := (hq20.2 b (by omega)).trans HB.2.1
    have k20_other_locks := (hq20.2 (b + 1) (by omega)).trans HB.2.2.1
    have k20_other_ovenDoors := (hq20.2 (b + 2) (by omega)).trans HB.2.2.2.1
    have k20_other_ovenHours := (hq20.2 (b + 3) (by omega)).trans HB.2.2.2.2.1
    have k20_other_triedDoors := (hq20.2 (b + 4) (by omega)).trans HB.2.2.2.2.2.1
    have k20_other_triesOpened := (hq20.2 (b + 5) (by omega)).trans HB.2.2.2.2.2.2.1
    have k20_LKO := LF_fr hq20.2 (by omega) HB.2.2.2.2.2.2.2
    have k20_HB := HM_fr hq20.2 (by omega) HB
    have fr20 := e_fr_tr fr2 (e_fr_w hq20.2 (by omega))
    have k20_lo := (hq20.2 (b + 6 + 3 * k) (by omega)).trans kl19.2.1
    have k20_lo_dials := (hq20.2 ((b + 6 + 3 * k) + 1) (by omega)).trans kl19.2.2.1
    have k20_lo_combination := (hq20.2 ((b + 6 + 3 * k) + 2) (by omega)).trans kl19.2.2.2
    have k20_lo_LM := LM_fr hq20.2 (by omega) kl19
    have k20_LKS := LF_up hq20.2 hq20.1 H2.2.2.2.2.2.2.2
    refine g_run 14 2 rfl ?_
    refine ih (by omega) M20 ⟨H2.1, k20_this, k20_this_locks, k20_this_ovenDoors, k20_this_ovenHours, k20_this_triedDoors, k20_this_triesOpened, LF_ext k20_LKS (fun j hj => ?_)⟩ k20_HB fr20
    by_cases e : j = k
    · subst e
      rw [va_up_self, if_pos (by omega)]
    · rw [va_up_ne _ _ e]
      by_cases e2 : j < k
      · rw [if_pos e2, if_pos (by omega)]
      · rw [if_neg e2, if_neg (by omega)]
def H0 : HS := (fun _ => 0, fun _ => -1, fun _ => 0, fun _ => 0, fun _ => 0, fun _ => L0)
variable {h : Nat}
theorem c_houseInit (hh : 100 ≤ h) (hn : n = h + 1) (hO : M h = cO 5 [vN, vN, vN, vN, vN, vI 0, vI 0, vI 0, vI 0, vI 0, vI 0, vI 0, vI 0, vI 0]) : Ct (e_L r0) Γ mX3_init 1 23 90 [vR h] M n (e_wr none (h + 24) fun M' => HM M' h H0 ∧ e_fr h (h + 24) M M') := by
  have fr0 : e_fr h (h + 24) M M := e_fr_refl
  subst hn
  refine g_start ok_X3_init rfl rfl ?_
  refine g_run 0 1 rfl ?_
  refine g_obj 1 rfl co_RX3_3 (Nat.le_of_ble_eq_true rfl) ?_
  refine g_run 2 2 rfl ?_
  refine g_newq (kd := 5) 4 6 rfl (Or.inl rfl) rfl cl_RX3_9 (show Cond.arrayOver (.object "BiscuitLocks$Lock") ∈ e_WN by decide +kernel) rfl (by omega) (by omega) (by omega) (fun M7 hM7 => ?_)
  have k7_this := (congrFun hM7 h).trans ((va_up_ne _ _ (by omega)).trans hO)
  have fr7 := e_fr_tr fr0 (e_fr_up hM7 (by omega))
  have k7_this_locks := (congrFun hM7 (h + 1)).trans (va_up_self _ _ _)
  refine g_putF 5 rfl fp_RX3_11 rfl k7_this rfl trivial (fun M10 hM10 => ?_)
  have k10_this := (congrFun hM10 h).trans (va_up_self _ _ _)
  have fr10 := e_fr_tr fr7 (e_fr_up hM10 (by omega))
  have k10_this_locks := (congrFun hM10 (h + 1)).trans ((va_up_ne _ _ (by omega)).trans k7_this_locks)
  refine g_run 6 2 rfl ?_
  refine g_newaI (kd := 0) 8 2 rfl (by decide) rfl ac_I rfl (by omega) (by omega) (by omega) (fun M15 hM15 => ?_)
  have k15_this := (congrFun hM15 h).trans ((va_up_ne _ _ (by omega)).trans k10_this)
  have fr15 := e_fr_tr fr10 (e_fr_up hM15 (by omega))
  have k15_this_locks := (congrFun hM15 (h + 1)).trans ((va_up_ne _ _ (by omega)).trans k10_this_locks)
  have k15_this_ovenDoors := (congrFun hM15 (h + 2)).trans (va_up_self _ _ _)
  refine g_putF 9 rfl fp_RX3_17 rfl k15_this rfl trivial (fun M17 hM17 => ?_)
  have k17_this := (congrFun hM17 h).trans (va_up_self _ _ _)
  have fr17 := e_fr_tr fr15 (e_fr_up hM17 (by omega))
  have k17_this_locks := (congrFun hM17 (h + 1)).trans ((va_up_ne _ _ (by omega)).trans k15_this_locks)
  have k17_this_ovenDoors := (congrFun hM17 (h + 2)).trans ((va_up_ne _ _ (by omega)).trans k15_this_ovenDoors)
  refine g_run 10 2 rfl ?_
  refine g_newaI (kd := 0) 12 2 rfl (by decide) rfl ac_I rfl (by omega) (by omega) (by omega) (fun M22 hM22 => ?_)
  have k22_this := (congrFun hM22 h).trans ((va_up_ne _ _ (by omega)).trans k17_this)
  have fr22 := e_fr_tr fr17 (e_fr_up hM22 (by omega))
  have k22_this_locks := (congrFun hM22 (h + 1)).trans ((va_up_ne _ _ (by omega)).trans k17_this_locks)
  have k22_this_ovenDoors := (congrFun hM22 (h + 2)).trans ((va_up_ne _ _ (by omega)).trans k17_this_ovenDoors)
  have k22_this_ovenHours := (congrFun hM22 (h + 3)).trans (va_up_self _ _ _)
  refine g_putF 13 rfl fp_RX3_21 rfl k22_this rfl trivial (fun M24 hM24 => ?_)
  have k24_this := (congrFun hM24 h).trans (va_up_self _ _ _)
  have fr24 := e_fr_tr fr22 (e_fr_up hM24 (by omega))
  have k24_this_locks := (congrFun hM24 (h + 1)).trans ((va_up_ne _ _ (by omega)).trans k22_this_locks)
  have k24_this_ovenDoors := (congrFun hM24 (h + 2)).trans ((va_up_ne _ _ (by omega)).trans k22_this_ovenDoors)
  have k24_this_ovenHours := (congrFun hM24 (h + 3)).trans ((va_up_ne _ _ (by omega)).trans k22_this_ovenHours)
  refine g_run 14 2 rfl ?_
  refine g_newaI (kd := 0) 16 10 rfl (by decide) rfl ac_I rfl (by omega) (by omega) (by omega) (fun M30 hM30 => ?_)
  have k30_this := (congrFun hM30 h).trans ((va_up_ne _ _ (by omega)).trans k24_this)
  have fr30 := e_fr_tr fr24 (e_fr_up hM30 (by omega))
  have k30_this_locks := (congrFun hM30 (h + 1)).trans ((va_up_ne _ _ (by omega)).trans k24_this_locks)
  have k30_this_ovenDoors := (congrFun hM30 (h + 2)).trans ((va_up_ne _ _ (by omega)).trans k24_this_ovenDoors)
  have k30_this_ovenHours := (congrFun hM30 (h + 3)).trans ((va_up_ne _ _ (by omega)).trans k24_this_ovenHours)
  have k30_this_triedDoors := (congrFun hM30 (h + 4)).trans (va_up_self _ _ _)
  refine g_putF 17 rfl fp_RX3_24 rfl k30_this rfl trivial (fun M32 hM32 => ?_)
  have k32_this := (congrFun hM32 h).trans (va_up_self _ _ _)
  have fr32 := e_fr_tr fr30 (e_fr_up hM32 (by omega))
  have k32_this_locks := (congrFun hM32 (h + 1)).trans ((va_up_ne _ _ (by omega)).trans k30_this_locks)
  have k32_this_ovenDoors := (congrFun hM32 (h + 2)).trans ((va_up_ne _ _ (by omega)).trans k30_this_ovenDoors)
  have k32_this_ovenHours := (congrFun hM32 (h + 3)).trans ((va_up_ne _ _ (by omega)).trans k30_this_ovenHours)
  have k32_this_triedDoors := (congrFun hM32 (h + 4)).trans ((va_up_ne _ _ (by omega)).trans k30_this_triedDoors)
  refine g_run 18 2 rfl ?_
  refine g_newaI (kd := 1) 20 10 rfl (by decide) rfl ac_Z rfl (by omega) (by omega) (by omega) (fun M38 hM38 => ?_)
  have k38_this := (congrFun hM38 h).trans ((va_up_ne _ _ (by omega)).trans k32_this)
  have fr38 := e_fr_tr fr32 (e_fr_up hM38 (by omega))
  have k38_this_locks := (congrFun hM38 (h + 1)).trans ((va_up_ne _ _ (by omega)).trans k32_this_locks)
  have k38_this_ovenDoors := (congrFun hM38 (h + 2)).trans ((va_up_ne _ _ (by omega)).trans k32_this_ovenDoors)
  have k38_this_ovenHours := (congrFun hM38 (h + 3)).trans ((va_up_ne _ _ (by omega)).trans k32_this_ovenHours)
  have k38_this_triedDoors := (congrFun hM38 (h + 4)).trans ((va_up_ne _ _ (by omega)).trans k32_this_triedDoors)
  have k38_this_triesOpened := (congrFun hM38 (h + 5)).trans (va_up_self _ _ _)
  refine g_putF 21 rfl fp_RX3_27 rfl k38_this rfl trivial (fun M40 hM40 => ?_)
  have k40_this := (congrFun hM40 h).trans (va_up_self _ _ _)
  have fr40 := e_fr_tr fr38 (e_fr_up hM40 (by omega))
  have k40_this_locks := (congrFun hM40 (h + 1)).trans ((va_up_ne _ _ (by omega)).trans k38_this_locks)
  have k40_this_ovenDoors := (congrFun hM40 (h + 2)).trans ((va_up_ne _ _ (by omega)).trans k38_this_ovenDoors)
  have k40_this_ovenHours := (congrFun hM40 (h + 3)).trans ((va_up_ne _ _ (by omega)).trans k38_this_ovenHours)
  have k40_this_triedDoors := (congrFun hM40 (h + 4)).trans ((va_up_ne _ _ (by omega)).trans k38_this_triedDoors)
  have k40_this_triesOpened := (congrFun hM40 (h + 5)).trans ((va_up_ne _ _ (by omega)).trans k38_this_triesOpened)
  refine g_run 22 2 rfl ?_
  refine g_put 24 rfl fp_RX3_31 k40_this rfl trivial (fun M45 hM45 => ?_)
  have k45_this := (congrFun hM45 h).trans (va_up_self _ _ _)
  have fr45 := e_fr_tr fr40 (e_fr_up hM45 (by omega))
  have k45_this_locks := (congrFun hM45 (h + 1)).trans ((va_up_ne _ _ (by omega)).trans k40_this_locks)
  have k45_this_ovenDoors := (congrFun hM45 (h + 2)).trans ((va_up_ne _ _ (by omega)).trans k40_this_ovenDoors)
  have k45_this_ovenHours := (congrFun hM45 (h + 3)).trans ((va_up_ne _ _ (by omega)).trans k40_this_ovenHours)
  have k45_this_triedDoors := (congrFun hM45 (h + 4)).trans ((va_up_ne _ _ (by omega)).trans k40_this_triedDoors)
  have k45_this_triesOpened := (congrFun hM45 (h + 5)).trans ((va_up_ne _ _ (by omega)).trans k40_this_triesOpened)
  refine g_run 25 2 rfl ?_
  refine g_put 27 rfl fp_RX3_35 k45_this rfl trivial (fun M50 hM50 => ?_)
  have k50_this := (congrFun hM50 h).trans (va_up_self _ _ _)
  have fr50 := e_fr_tr fr45 (e_fr_up hM50 (by omega))
  have k50_this_locks := (congrFun hM50 (h + 1)).trans ((va_up_ne _ _ (by omega)).trans k45_this_locks)
  have k50_this_ovenDoors := (congrFun hM50 (h + 2)).trans ((va_up_ne _ _ (by omega)).trans k45_this_ovenDoors)
  have k50_this_ovenHours := (congrFun hM50 (h + 3)).trans ((va_up_ne _ _ (by omega)).trans k45_this_ovenHours)
  have k50_this_triedDoors := (congrFun hM50 (h + 4)).trans ((va_up_ne _ _ (by omega)).trans k45_this_triedDoors)
  have k50_this_triesOpened := (congrFun hM50 (h + 5)).trans ((va_up_ne _ _ (by omega)).trans k45_this_triesOpened)
  refine g_run 28 2 rfl ?_
  refine g_put 30 rfl fp_RX3_38 k50_this rfl trivial (fun M55 hM55 => ?_)
  have k55_this := (congrFun hM55 h).trans (va_up_self _ _ _)
  have fr55 := e_fr_tr fr50 (e_fr_up hM55 (by omega))
  have k55_this_locks := (congrFun hM55 (h + 1)).trans ((va_up_ne _ _ (by omega)).trans k50_this_locks)
  have k55_this_ovenDoors := (congrFun hM55 (h + 2)).trans ((va_up_ne _ _ (by omega)).trans k50_this_ovenDoors)
  have k55_this_ovenHours := (congrFun hM55 (h + 3)).trans ((va_up_ne _ _ (by omega)).trans k50_this_ovenHours)
  have k55_this_triedDoors := (congrFun hM55 (h + 4)).trans ((va_up_ne _ _ (by omega)).trans k50_this_triedDoors)
  have k55_this_triesOpened := (congrFun hM55 (h + 5)).trans ((va_up_ne _ _ (by omega)).trans k50_this_triesOpened)
  refine g_run 31 2 rfl ?_
  refine g_put 33 rfl fp_RX3_41 k55_this rfl trivial (fun M60 hM60 => ?_)
  have k60_this := (congrFun hM60 h).trans (va_up_self _ _ _)
  have fr60 := e_fr_tr fr55 (e_fr_up hM60 (by omega))
  have k60_this_locks := (congrFun hM60 (h + 1)).trans ((va_up_ne _ _ (by omega)).trans k55_this_locks)
  have k60_this_ovenDoors := (congrFun hM60 (h + 2)).trans ((va_up_ne _ _ (by omega)).trans k55_this_ovenDoors)
  have k60_this_ovenHours := (congrFun hM60 (h + 3)).trans ((va_up_ne _ _ (by omega)).trans k55_this_ovenHours)
  have k60_this_triedDoors := (congrFun hM60 (h + 4)).trans ((va_up_ne _ _ (by omega)).trans k55_this_triedDoors)
  have k60_this_triesOpened := (congrFun hM60 (h + 5)).trans ((va_up_ne _ _ (by omega)).trans k55_this_triesOpened)
  refine g_run 34 2 rfl ?_
  refine g_put 36 rfl fp_RX3_44 k60_this rfl trivial (fun M65 hM65 => ?_)
  have k65_this := (congrFun hM65 h).trans (va_up_self _ _ _)
  have fr65 := e_fr_tr fr60 (e_fr_up hM65 (by omega))
  have k65_this_locks := (congrFun hM65 (h + 1)).trans ((va_up_ne _ _ (by omega)).trans k60_this_locks)
  have k65_this_ovenDoors := (congrFun hM65 (h + 2)).trans ((va_up_ne _ _ (by omega)).trans k60_this_ovenDoors)
  have k65_this_ovenHours := (congrFun hM65 (h + 3)).trans ((va_up_ne _ _ (by omega)).trans k60_this_ovenHours)
  have k65_this_triedDoors := (congrFun hM65 (h + 4)).trans ((va_up_ne _ _ (by omega)).trans k60_this_triedDoors)
  have k65_this_triesOpened := (congrFun hM65 (h + 5)).trans ((va_up_ne _ _ (by omega)).trans k60_this_triesOpened)
  refine g_run 37 2 rfl ?_
  refine g_put 39 rfl fp_RX3_47 k65_this rfl trivial (fun M70 hM70 => ?_)
  have k70_this := (congrFun hM70 h).trans (va_up_self _ _ _)
  have fr70 := e_fr_tr fr65 (e_fr_up hM70 (by omega))
  have k70_this_locks := (congrFun hM70 (h + 1)).trans ((va_up_ne _ _ (by omega)).trans k65_this_locks)
  have k70_this_ovenDoors := (congrFun hM70 (h + 2)).trans ((va_up_ne _ _ (by omega)).trans k65_this_ovenDoors)
  have k70_this_ovenHours := (congrFun hM70 (h + 3)).trans ((va_up_ne _ _ (by omega)).trans k65_this_ovenHours)
  have k70_this_triedDoors := (congrFun hM70 (h + 4)).trans ((va_up_ne _ _ (by omega)).trans k65_this_triedDoors)
  have k70_this_triesOpened := (congrFun hM70 (h + 5)).trans ((va_up_ne _ _ (by omega)).trans k65_this_triesOpened)
  refine g_run 40 2 rfl ?_
  refine g_put 42 rfl fp_RX3_50 k70_this rfl trivial (fun M75 hM75 => ?_)
  have k75_this := (congrFun hM75 h).trans (va_up_self _ _ _)
  have fr75 := e_fr_tr fr70 (e_fr_up hM75 (by omega))
  have k75_this_locks := (congrFun hM75 (h + 1)).trans ((va_up_ne _ _ (by omega)).trans k70_this_locks)
  have k75_this_ovenDoors := (congrFun hM75 (h + 2)).trans ((va_up_ne _ _ (by omega)).trans k70_this_ovenDoors)
  have k75_this_ovenHours := (congrFun hM75 (h + 3)).trans ((va_up_ne _ _ (by omega)).trans k70_this_ovenHours)
  have k75_this_triedDoors := (congrFun hM75 (h + 4)).trans ((va_up_ne _ _ (by omega)).trans k70_this_triedDoors)
  have k75_this_triesOpened := (congrFun hM75 (h + 5)).trans ((va_up_ne _ _ (by omega)).trans k70_this_triesOpened)
  refine g_run 43 2 rfl ?_
  refine g_put 45 rfl fp_RX3_53 k75_this rfl trivial (fun M80 hM80 => ?_)
  have k80_this := (congrFun hM80 h).trans (va_up_self _ _ _)
  have fr80 := e_fr_tr fr75 (e_fr_up hM80 (by omega))
  have k80_this_locks := (congrFun hM80 (h + 1)).trans ((va_up_ne _ _ (by omega)).trans k75_this_locks)
  have k80_this_ovenDoors := (congrFun hM80 (h + 2)).trans ((va_up_ne _ _ (by omega)).trans k75_this_ovenDoors)
  have k80_this_ovenHours := (congrFun hM80 (h + 3)).trans ((va_up_ne _ _ (by omega)).trans k75_this_ovenHours)
  have k80_this_triedDoors := (congrFun hM80 (h + 4)).trans ((va_up_ne _ _ (by omega)).trans k75_this_triedDoors)
  have k80_this_triesOpened := (congrFun hM80 (h + 5)).trans ((va_up_ne _ _ (by omega)).trans k75_this_triesOpened)
  refine g_run 46 2 rfl ?_
  refine g_put 48 rfl fp_RX3_56 k80_this rfl trivial (fun M85 hM85 => ?_)
  have k85_this := (congrFun hM85 h).trans (va_up_self _ _ _)
  have fr85 := e_fr_tr fr80 (e_fr_up hM85 (by omega))
  have k85_this_locks := (congrFun hM85 (h + 1)).trans ((va_up_ne _ _ (by omega)).trans k80_this_locks)
  have k85_this_ovenDoors := (congrFun hM85 (h + 2)).trans ((va_up_ne _ _ (by omega)).trans k80_this_ovenDoors)
  have k85_this_ovenHours := (congrFun hM85 (h + 3)).trans ((va_up_ne _ _ (by omega)).trans k80_this_ovenHours)
  have k85_this_triedDoors := (congrFun hM85 (h + 4)).trans ((va_up_ne _ _ (by omega)).trans k80_this_triedDoors)
  have k85_this_triesOpened := (congrFun hM85 (h + 5)).trans ((va_up_ne _ _ (by omega)).trans k80_this_triesOpened)
  refine g_run 49 2 rfl ?_
  refine e_down (P := fun k => ∀ (M' : Mem) (n' kc ks : Nat), n' = h + 6 + 3 * k → kc = 5 + 3 * k → ks = 30 + 10 * k → M' h = cO 5 [vR (h + 1), vR (h + 2), vR (h + 3), vR (h + 4), vR (h + 5), vI 0, vI 0, vI 0, vI 0, vI 0, vI 0, vI 0, vI 0, vI 0] → M' (h + 1) = cR 5 6 (fun j => if j < k then some (h + 6 + 3 * j) else none) → M' (h + 2) = cI 0 2 (fun _ => 0) → M' (h + 3) = cI 0 2 (fun _ => 0) → M' (h + 4) = cI 0 10 (fun _ => 0) → M' (h + 5) = cI 1 10 (fun _ => 0) → (∀ j, j < k → LM M' (h + 6 + 3 * j) L0) → e_fr h (h + 24) M M' → G (e_L r0) Γ mX3_init 1 23 90 _ 90 [some (vR h), some (vI (k : Int))] [] M' n' kc ks) 6 ?_ 0 (by omega) M85 _ _ _ (by omega) (by omega) (by omega) k85_this (k85_this_locks.trans (congrArg (cR 5 6) (funext fun j => (if_neg (by omega)).symm))) k85_this_ovenDoors k85_this_ovenHours k85_this_triedDoors k85_this_triesOpened (fun j hj => absurd hj (by omega)) fr85
  clear hO
  intro k hk ih M2 n2 kc ks en ekc eks h0 h1 h2 h3 h4 h5 hL fr2
  refine g_run 51 2 rfl ?_
  refine g_icmp_ge 53 115 rfl rfl (by omega) (by omega) (fun c93 => ?_) (fun c93 => ?_)
  · obtain rfl : k = 6 := by omega
    subst en
    refine g_run 63 2 rfl ?_
    refine e_down (P := fun k => ∀ (M' : Mem), M' h = cO 5 [vR (h + 1), vR (h + 2), vR (h + 3), vR (h + 4), vR (h + 5), vI 0, vI 0, vI 0, vI 0, vI 0, vI 0, vI 0, vI 0, vI 0] → M' (h + 1) = cR 5 6 (lkR h) → M' (h + 2) = cI 0 2 (fun j => if j < k then -1 else 0) → M' (h + 3) = cI 0 2 (fun _ => 0) → M' (h + 4) = cI 0 10 (fun _ => 0) → M' (h + 5) = cI 1 10 (fun _ => 0) → LF M' h (fun _ => L0) → e_fr h (h + 24) M M' → G (e_L r0) Γ mX3_init 1 23 90 _ 117 [some (vR h), some (vI (k : Int))] [] M' (h + 6 + 3 * 6) kc ks) 2 ?_ 0 (by omega) M2 h0 h1 (h2.trans (congrArg (cI 0 2) (funext fun j => (if_neg (by omega)).symm))) h3 h4 h5 hL fr2
    clear h0 h1 h2 h3 h4 h5 hL fr2
    intro k hk ih M3 h0 h1 h2 h3 h4 h5 hL fr2
    refine g_run 65 2 rfl ?_
    refine g_icmp_ge 67 135 rfl rfl (by omega) (by omega) (fun c119 => ?_) (fun c119 => ?_)
    · obtain rfl : k = 2 := by omega
      refine g_nI (fun _ => -1) (by omega) h2 (fun j hj => if_pos hj) (fun M134 hM134 => ?_)
      have k134_this := (congrFun hM134 h).trans ((va_up_ne _ _ (by omega)).trans h0)
      have k134_this_locks := (congrFun hM134 (h + 1)).trans ((va_up_ne _ _ (by omega)).trans h1)
      have k134_this_ovenDoors := (congrFun hM134 (h + 2)).trans (va_up_self _ _ _)
      have k134_this_ovenHours := (congrFun hM134 (h + 3)).trans ((va_up_ne _ _ (by omega)).trans h3)
      have k134_this_triedDoors := (congrFun hM134 (h + 4)).trans ((va_up_ne _ _ (by omega)).trans h4)
      have k134_this_triesOpened := (congrFun hM134 (h + 5)).trans ((va_up_ne _ _ (by omega)).trans h5)
      have fr134 := e_fr_tr fr2 (e_fr_up hM134 (by omega))
      have k134_LKS := LF_fr (e_fr_up (a := (h + 2)) (b := (h + 2) + 1) hM134 (by omega)) (by omega) hL
      exact g_vret 75 rfl rfl ⟨rfl, by omega, ⟨hh, k134_this, k134_this_locks, k134_this_ovenDoors, k134_this_ovenHours, k134_this_triedDoors, k134_this_triesOpened, k134_LKS⟩, fr134⟩
    · refine g_run 68 1 rfl ?_
      refine g_get 69 rfl fl_RX3_17 h0 rfl ?_
      refine g_run 70 2 rfl ?_
      refine g_iast 72 k rfl rfl (by decide) h2 (by first | rfl | omega) (by omega) (by decide) (fun M128 hM128 => ?_)
      have k128_this := (congrFun hM128 h).trans ((va_up_ne _ _ (by omega)).trans h0)
      have k128_this_locks := (congrFun hM128 (h + 1)).trans ((va_up_ne _ _ (by omega)).trans h1)
      have k128_this_ovenDoors := (congrFun hM128 (h + 2)).trans (va_up_self _ _ _)
      have k128_this_ovenHours := (congrFun hM128 (h + 3)).trans ((va_up_ne _ _ (by omega)).trans h3)
      have k128_this_triedDoors := (congrFun hM128 (h + 4)).trans ((va_up_ne _ _ (by omega)).trans h4)
      have k128_this_triesOpened := (congrFun hM128 (h + 5)).trans ((va_up_ne _ _ (by omega)).trans h5)
      have fr128 := e_fr_tr fr2 (e_fr_up hM128 (by omega))
      have k128_LKS := LF_fr (e_fr_up (a := (h + 2)) (b := (h + 2) + 1) hM128 (by omega)) (by omega) hL
      refine g_run 73 2 rfl ?_
      refine ih (by omega) M128 k128_this k128_this_locks (k128_this_ovenDoors.trans (congrArg (cI 0 2) (funext fun j => ?_))) k128_this_ovenHours k128_this_triedDoors k128_this_triesOpened k128_LKS fr128
      by_cases e : j = k
      · subst e; rw [va_up_self, if_pos (by omega)]
      · rw [va_up_ne _ _ e]
        by_cases e2 : j < k
        · rw [if_pos e2, if_pos (by omega)]
        · rw [if_neg e2, if_neg (by omega)]
  · subst en
    refine g_run 54 1 rfl ?_
    refine g_get 55 rfl fl_RX3_11 h0 rfl ?_
    refine g_run 56 1 rfl ?_
    refine g_new 57 rfl nw_RX3_9 (by omega) (by omega) (fun M101 hM101 => ?_)
    have k101_this := (congrFun hM101 h).trans ((va_up_ne _ _ (by omega)).trans h0)
    have k101_this_locks := (congrFun hM101 (h + 1)).trans ((va_up_ne _ _ (by omega)).trans h1)
    have k101_this_ovenDoors := (congrFun hM101 (h + 2)).trans ((va_up_ne _ _ (by omega)).trans h2)
    have k101_this_ovenHours := (congrFun hM101 (h + 3)).trans ((va_up_ne _ _ (by omega)).trans h3)
    have k101_this_triedDoors := (congrFun hM101 (h + 4)).trans ((va_up_ne _ _ (by omega)).trans h4)
    have k101_this_triesOpened := (congrFun hM101 (h + 5)).trans ((va_up_ne _ _ (by omega)).trans h5)
    have fr101 := e_fr_tr fr2 (e_fr_up hM101 (by omega))
    have k101_lk := (congrFun hM101 (h + 6 + 3 * k)).trans (va_up_self _ _ _)
    refine g_run 58 1 rfl ?_
    refine g_callIN 59 rfl cn_RX3_59 (c_lockInit (by omega) rfl k101_lk) rfl rfl (by decide) (by omega) (by omega) (Nat.le_of_ble_eq_true rfl) (e_kw fun M105 hq105 => ?_) e_kwx
    have k105_this := (hq105.2 h (by omega)).trans k101_this
    have k105_this_locks := (hq105.2 (h + 1) (by omega)).trans k101_this_locks
    have k105_this_ovenDoors := (hq105.2 (h + 2) (by omega)).trans k101_this_ovenDoors
    have k105_this_ovenHours := (hq105.2 (h + 3) (by omega)).trans k101_this_ovenHours
    have k105_this_triedDoors := (hq105.2 (h + 4) (by omega)).trans k101_this_triedDoors
    have k105_this_triesOpened := (hq105.2 (h + 5) (by omega)).trans k101_this_triesOpened
    have fr105 := e_fr_tr fr101 (e_fr_w hq105.2 (by omega))
    refine g_aast 60 k rfl rfl (by decide) (r := (RX4, TX4, 4)) (ci := 6) rfl (by decide) k105_this_locks hq105.1.2.1 (by first | rfl | omega) (by omega) (by decide) (fun M108 hM108 => ?_)
    have k108_this := (congrFun hM108 h).trans ((va_up_ne _ _ (by omega)).trans k105_this)
    have k108_this_locks := (congrFun hM108 (h + 1)).trans (va_up_self _ _ _)
    have k108_this_ovenDoors := (congrFun hM108 (h + 2)).trans ((va_up_ne _ _ (by omega)).trans k105_this_ovenDoors)
    have k108_this_ovenHours := (congrFun hM108 (h + 3)).trans ((va_up_ne _ _ (by omega)).trans k105_this_ovenHours)
    have k108_this_triedDoors := (congrFun hM108 (h + 4)).trans ((va_up_ne _ _ (by omega)).trans k105_this_triedDoors)
    have k108_this_triesOpened := (congrFun hM108 (h + 5)).trans ((va_up_ne _ _ (by omega)).trans k105_this_triesOpened)
    have fr108 := e_fr_tr fr105 (e_fr_up hM108 (by omega))
    have k108_lk := (congrFun hM108 (h + 6 + 3 * k)).trans ((va_up_ne _ _ (by omega)).trans hq105.1.2.1)
    refine g_run 61 2 rfl ?_
    refine ih (by omega) M108 _ _ _ (by omega) (by omega) (by omega) k108_this (k108_this_locks.trans (congrArg (cR 5 6) (funext fun j => ?_))) k108_this_ovenDoors k108_this_ovenHours k108_this_triedDoors k108_this_triesOpened (fun j hj => ?_) fr108
    · by_cases e : j = k
      · subst e; rw [va_up_self, if_pos (by omega)]
      · rw [va_up_ne _ _ e]
        by_cases e2 : j < k
        · rw [if_pos e2, if_pos (by omega)]
        · rw [if_neg e2, if_neg (by omega)]
    · refine LM_fr (e_fr_up (a := h + 1) (b := h + 2) hM108 (by omega)) (by omega) ?_
      by_cases e : j = k
      · subst e; exact hq105.1
      · exact LM_fr hq105.2 (by omega) (LM_fr (e_fr_up (a := h + 6 + 3 * k) (b := h + 6 + 3 * k + 1) hM101 (by omega)) (by omega) (hL j (by omega)))
end CK
