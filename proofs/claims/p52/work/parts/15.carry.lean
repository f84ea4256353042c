/-! House: the changes (wip/whole/gen/c_carry.py prints this part) -/
theorem LF_ext {M : Mem} {h : Nat} {lk lk' : Nat → LkS} (q : LF M h lk) (e : ∀ d, d < 6 → lk d = lk' d) : LF M h lk' := fun d hd => e d hd ▸ q d hd
def doDoor (σ : HS) (a b c : Int) : HS := (va_up σ.sc 0 (σ.sc 0 + 1), σ.od, σ.oh, σ.td, σ.ty, va_up σ.lk (σ.sc 0).toNat (lSet (σ.lk (σ.sc 0).toNat) a b c))
def doTurn (σ : HS) (z d x : Int) : HS := (σ.sc, σ.od, σ.oh, σ.td, σ.ty, va_up σ.lk z.toNat (lTurn (σ.lk z.toNat) d.toNat x))
def p_sh (x : Int) (f : Nat → Int) : Nat → Int := fun j => if j = 0 then x else f (j - 1)
def p_b (p : Prop) [Decidable p] : Int := if p then 1 else 0
def scTry (σ : HS) (L : LkS) : Nat → Int := if lFit L = 3 then va_up (va_up σ.sc 3 (σ.sc 3 + 1)) 4 (σ.sc 4 + 1) else if (lTry L).op = 0 then va_up σ.sc 3 (σ.sc 3 + 1) else va_up (va_up σ.sc 3 (σ.sc 3 + 1)) 5 (σ.sc 5 + 1)
def doTry (σ : HS) (z : Int) : HS := (scTry σ (σ.lk z.toNat), σ.od, σ.oh, p_sh z σ.td, p_sh (if lFit (σ.lk z.toNat) = 3 then 1 else 0) σ.ty, va_up σ.lk z.toNat (lTry (σ.lk z.toNat)))
def doShut (σ : HS) (z : Int) : HS := (va_up σ.sc 6 (σ.sc 6 + 1), σ.od, σ.oh, σ.td, σ.ty, va_up σ.lk z.toNat (0, (σ.lk z.toNat).cr, (σ.lk z.toNat).dl, (σ.lk z.toNat).cb))
def doDamp (σ : HS) (a : Int) : HS := (va_up σ.sc 1 a, σ.od, σ.oh, σ.td, σ.ty, σ.lk)
def doBake (σ : HS) (z o : Int) : HS := (if (σ.lk z.toNat).op = 0 then va_up σ.sc 7 (σ.sc 7 + 1) else σ.sc, va_up σ.od o.toNat z, va_up σ.oh o.toNat (1 + (σ.lk z.toNat).cr / 4), σ.td, σ.ty, va_up σ.lk z.toNat (1, (σ.lk z.toNat).cr, (σ.lk z.toNat).dl, (σ.lk z.toNat).cb))
def doSet (σ : HS) (z a b c : Int) : HS := (σ.sc, σ.od, σ.oh, σ.td, σ.ty, va_up σ.lk z.toNat (lSet (σ.lk z.toNat) a b c))
def drift (σ : HS) (d : Nat) : HS := (σ.sc, σ.od, σ.oh, σ.td, σ.ty, fun k => if (k : Int) < σ.sc 0 ∧ (σ.lk k).op = 0 then lTurn (σ.lk k) d 1 else σ.lk k)
def bakeOn (σ : HS) (o : Nat) : HS := if σ.od o = -1 then σ else if σ.oh o - 1 = 0 then (va_up σ.sc 8 (σ.sc 8 + 1), va_up σ.od o (-1), va_up σ.oh o (σ.oh o - 1), σ.td, σ.ty, va_up σ.lk (σ.od o).toNat (lNew (σ.lk (σ.od o).toNat))) else (σ.sc, σ.od, va_up σ.oh o (σ.oh o - 1), σ.td, σ.ty, σ.lk)
def hour1 (σ : HS) : HS := (va_up σ.sc 2 (σ.sc 2 + 1), σ.od, σ.oh, σ.td, σ.ty, σ.lk)
def hour2 (σ : HS) : HS := if (σ.sc 2 + 1) % (10 - σ.sc 1) = 0 then drift (hour1 σ) ((σ.sc 2 + 1) % 3).toNat else hour1 σ
def doHour (σ : HS) : HS := bakeOn (bakeOn (hour2 σ) 0) 1
def doHrs (σ : HS) : Nat → HS
  | 0 => σ
  | k + 1 => doHour (doHrs σ k)
def nShut (lk : Nat → LkS) : Nat → Int
  | 0 => 0
  | k + 1 => nShut lk k + (if (lk k).op = 0 then 1 else 0)
theorem nShut_rng (lk : Nat → LkS) : ∀ k : Nat, 0 ≤ nShut lk k ∧ nShut lk k ≤ k
  | 0 => by simp [nShut]
  | k + 1 => by
    have := nShut_rng lk k
    unfold nShut
    split <;> omega
section CC
variable {r0 : Option Nat} {Γ : Cx} {M : Mem} {n h : Nat} {σ : HS} {B : Int}
theorem c_addLock (H : HM M h σ) (hr : Hok B σ) (hB : B ≤ 2000000000) (a b c : Int) (hd : σ.sc 0 < 6) (ha : isPos a) (hb : isPos b) (hc : isPos c) : Ct (e_L r0) Γ mX3_addLock 2 0 0 [vR h, vI a, vI b, vI c] M n (e_wr (some (vI (σ.sc 0))) n fun M' => HM M' h (doDoor σ a b c) ∧ e_fr h (h + 24) M M') := by
  have fr0 : e_fr h (h + 24) M M := e_fr_refl
  have q := hr.2.1
  have q0 := hr.1 0 (by decide)
  refine g_start ok_X3_addLock rfl rfl ?_
  refine g_run 0 1 rfl ?_
  refine g_get 1 rfl fl_RX3_11 H.2.1 rfl ?_
  refine g_run 2 1 rfl ?_
  refine g_get 3 rfl fl_RX3_31 H.2.1 rfl ?_
  refine g_aald 4 (σ.sc 0).toNat rfl rfl H.2.2.1 (Int.toNat_of_nonneg (by omega)).symm (by omega) (by decide) ?_
  rw [lkR_at (by omega)]
  have kl8 := H.2.2.2.2.2.2.2 (σ.sc 0).toNat (by omega)
  refine g_run 5 3 rfl ?_
  refine g_callV 8 rfl cv_RX3_167 kl8.2.1 (c_setPositions kl8 (hr.2.2.2.2 _ (by omega)) a b c ha hb hc) rfl rfl (by decide) (by omega) (by omega) (Nat.le_of_ble_eq_true rfl) (e_kw fun M12 hq12 => ?_) e_kwx
  have k12_this := (hq12.2 h (by omega)).trans H.2.1
  have k12_this_locks := (hq12.2 (h + 1) (by omega)).trans H.2.2.1
  have k12_this_ovenDoors := (hq12.2 (h + 2) (by omega)).trans H.2.2.2.1
  have k12_this_ovenHours := (hq12.2 (h + 3) (by omega)).trans H.2.2.2.2.1
  have k12_this_triedDoors := (hq12.2 (h + 4) (by omega)).trans H.2.2.2.2.2.1
  have k12_this_triesOpened := (hq12.2 (h + 5) (by omega)).trans H.2.2.2.2.2.2.1
  have fr12 := e_fr_tr fr0 (e_fr_w hq12.2 (by omega))
  have k12_LKS := LF_up hq12.2 hq12.1 H.2.2.2.2.2.2.2
  refine g_run 9 3 rfl ?_
  refine g_get 12 rfl fl_RX3_31 k12_this rfl ?_
  refine g_run 13 2 rfl ?_
  refine g_put 15 rfl fp_RX3_31 k12_this rfl trivial (fun M23 hM23 => ?_)
  have k23_this := (congrFun hM23 h).trans (va_up_self _ _ _)
  have k23_this_locks := (congrFun hM23 (h + 1)).trans ((va_up_ne _ _ (by omega)).trans k12_this_locks)
  have k23_this_ovenDoors := (congrFun hM23 (h + 2)).trans ((va_up_ne _ _ (by omega)).trans k12_this_ovenDoors)
  have k23_this_ovenHours := (congrFun hM23 (h + 3)).trans ((va_up_ne _ _ (by omega)).trans k12_this_ovenHours)
  have k23_this_triedDoors := (congrFun hM23 (h + 4)).trans ((va_up_ne _ _ (by omega)).trans k12_this_triedDoors)
  have k23_this_triesOpened := (congrFun hM23 (h + 5)).trans ((va_up_ne _ _ (by omega)).trans k12_this_triesOpened)
  have fr23 := e_fr_tr fr12 (e_fr_up hM23 (by omega))
  have k23_LKS := LF_fr (e_fr_up (a := h) (b := h + 1) hM23 (by omega)) (by omega) k12_LKS
  refine g_run 16 1 rfl ?_
  refine g_get 17 rfl fl_RX3_31 k23_this rfl ?_
  refine g_run 18 2 rfl ?_
  rw [show σ.sc 0 + 1 - 1 = σ.sc 0 from by omega]
  exact g_iret 20 rfl rfl (by first | exact trivial | exact Or.inl rfl | exact Or.inr rfl | (show _ ∨ _; omega)) ⟨rfl, rfl, ⟨H.1, k23_this, k23_this_locks, k23_this_ovenDoors, k23_this_ovenHours, k23_this_triedDoors, k23_this_triesOpened, k23_LKS⟩, fr23⟩
/-- the record of a try: from the loop on -/
theorem c_tryRec {Q : Rv → Mem → Nat → Prop} {M : Mem} {τ : HS} (H : HM M h τ) (hr : Hok B τ) (hB : B ≤ 2000000000) (z b : Int) (hz : 0 ≤ z ∧ z < 6) (hb : b = 0 ∨ b = 1) (x : Option aV) (hQ : ∀ M', HM M' h (τ.sc, τ.od, τ.oh, p_sh z τ.td, p_sh b τ.ty, τ.lk) → e_fr h (h + 24) M M' → Q (.inl (some (vI b))) M' n) : G (e_L r0) Γ mX3_tryDoor 3 0 0 Q 59 [some (vR h), some (vI z), some (vI b), x] [] M n 0 0 := by
  have fr0 : e_fr h (h + 24) M M := e_fr_refl
  refine g_run 33 2 rfl ?_
  refine g_nI (fun j => if 9 < j + 0 then τ.td (j - 1) else τ.td j) (by have := H.1; omega) H.2.2.2.2.2.1 (fun j hj => (if_neg (by omega)).symm) (fun M60 hM60 => ?_)
  have k60_this := (congrFun hM60 h).trans ((va_up_ne _ _ (by omega)).trans H.2.1)
  have k60_this_locks := (congrFun hM60 (h + 1)).trans ((va_up_ne _ _ (by omega)).trans H.2.2.1)
  have k60_this_ovenDoors := (congrFun hM60 (h + 2)).trans ((va_up_ne _ _ (by omega)).trans H.2.2.2.1)
  have k60_this_ovenHours := (congrFun hM60 (h + 3)).trans ((va_up_ne _ _ (by omega)).trans H.2.2.2.2.1)
  have k60_this_triedDoors := (congrFun hM60 (h + 4)).trans (va_up_self _ _ _)
  have k60_this_triesOpened := (congrFun hM60 (h + 5)).trans ((va_up_ne _ _ (by omega)).trans H.2.2.2.2.2.2.1)
  have k60_LKS := LF_fr (e_fr_up (a := (h + 4)) (b := (h + 4) + 1) hM60 (by omega)) (by omega) H.2.2.2.2.2.2.2
  have fr60 := e_fr_tr fr0 (e_fr_up hM60 (by omega))
  refine g_nI (fun j => if 9 < j + 0 then τ.ty (j - 1) else τ.ty j) (by have := H.1; omega) k60_this_triesOpened (fun j hj => (if_neg (by omega)).symm) (fun M61 hM61 => ?_)
  have k61_this := (congrFun hM61 h).trans ((va_up_ne _ _ (by omega)).trans k60_this)
  have k61_this_locks := (congrFun hM61 (h + 1)).trans ((va_up_ne _ _ (by omega)).trans k60_this_locks)
  have k61_this_ovenDoors := (congrFun hM61 (h + 2)).trans ((va_up_ne _ _ (by omega)).trans k60_this_ovenDoors)
  have k61_this_ovenHours := (congrFun hM61 (h + 3)).trans ((va_up_ne _ _ (by omega)).trans k60_this_ovenHours)
  have k61_this_triedDoors := (congrFun hM61 (h + 4)).trans ((va_up_ne _ _ (by omega)).trans k60_this_triedDoors)
  have k61_this_triesOpened := (congrFun hM61 (h + 5)).trans (va_up_self _ _ _)
  have k61_LKS := LF_fr (e_fr_up (a := (h + 5)) (b := (h + 5) + 1) hM61 (by omega)) (by omega) k60_LKS
  have fr61 := e_fr_tr fr60 (e_fr_up hM61 (by omega))
  refine e_down (P := fun k => ∀ M', HM M' h (τ.sc, τ.od, τ.oh, (fun j => if 9 < j + k then τ.td (j - 1) else τ.td j), (fun j => if 9 < j + k then τ.ty (j - 1) else τ.ty j), τ.lk) → e_fr h (h + 24) M M' → G (e_L r0) Γ mX3_tryDoor 3 0 0 Q 62 [some (vR h), some (vI z), some (vI b), some (vI (9 - (k : Int)))] [] M' n 0 0) 9 ?_ 0 (by omega) M61 ⟨H.1, k61_this, k61_this_locks, k61_this_ovenDoors, k61_this_ovenHours, k61_this_triedDoors, k61_this_triesOpened, k61_LKS⟩ fr61
  intro k hk ih M2 H2 fr2
  refine g_run 35 1 rfl ?_
  refine g_if_le 36 100 rfl rfl (by omega) (fun c63 => ?_) (fun c63 => ?_)
  · obtain rfl : k = 9 := by omega
    refine g_run 59 1 rfl ?_
    refine g_get 60 rfl fl_RX3_24 H2.2.1 rfl ?_
    refine g_run 61 2 rfl ?_
    refine g_iast 63 0 rfl rfl (by decide) H2.2.2.2.2.2.1 (by first | rfl | omega) (by omega) (by decide) (fun M106 hM106 => ?_)
    have k106_this := (congrFun hM106 h).trans ((va_up_ne _ _ (by omega)).trans H2.2.1)
    have k106_this_locks := (congrFun hM106 (h + 1)).trans ((va_up_ne _ _ (by omega)).trans H2.2.2.1)
    have k106_this_ovenDoors := (congrFun hM106 (h + 2)).trans ((va_up_ne _ _ (by omega)).trans H2.2.2.2.1)
    have k106_this_ovenHours := (congrFun hM106 (h + 3)).trans ((va_up_ne _ _ (by omega)).trans H2.2.2.2.2.1)
    have k106_this_triedDoors := (congrFun hM106 (h + 4)).trans (va_up_self _ _ _)
    have k106_this_triesOpened := (congrFun hM106 (h + 5)).trans ((va_up_ne _ _ (by omega)).trans H2.2.2.2.2.2.2.1)
    have k106_LKS := LF_fr (e_fr_up (a := (h + 4)) (b := (h + 4) + 1) hM106 (by omega)) (by omega) H2.2.2.2.2.2.2.2
    have fr106 := e_fr_tr fr2 (e_fr_up hM106 (by omega))
    refine g_nI (p_sh z τ.td) (by have := H.1; omega) k106_this_triedDoors (fun j hj => ?_) (fun M108 hM108 => ?_)
    · unfold p_sh
      by_cases e : j = 0
      · subst e; rw [va_up_self, if_pos rfl]
      · rw [va_up_ne _ _ e, if_neg e]; exact if_pos (by omega)
    have k108_this := (congrFun hM108 h).trans ((va_up_ne _ _ (by omega)).trans k106_this)
    have k108_this_locks := (congrFun hM108 (h + 1)).trans ((va_up_ne _ _ (by omega)).trans k106_this_locks)
    have k108_this_ovenDoors := (congrFun hM108 (h + 2)).trans ((va_up_ne _ _ (by omega)).trans k106_this_ovenDoors)
    have k108_this_ovenHours := (congrFun hM108 (h + 3)).trans ((va_up_ne _ _ (by omega)).trans k106_this_ovenHours)
    have k108_this_triedDoors := (congrFun hM108 (h + 4)).trans (va_up_self _ _ _)
    have k108_this_triesOpened := (congrFun hM108 (h + 5)).trans ((va_up_ne _ _ (by omega)).trans k106_this_triesOpened)
    have k108_LKS := LF_fr (e_fr_up (a := (h + 4)) (b := (h + 4) + 1) hM108 (by omega)) (by omega) k106_LKS
    have fr108 := e_fr_tr fr106 (e_fr_up hM108 (by omega))
    refine g_run 64 1 rfl ?_
    refine g_get 65 rfl fl_RX3_27 k108_this rfl ?_
    refine g_run 66 2 rfl ?_
    refine g_zast 68 0 rfl rfl (by decide) k108_this_triesOpened (by first | rfl | omega) (by omega) (by decide) hb (fun M113 hM113 => ?_)
    have k113_this := (congrFun hM113 h).trans ((va_up_ne _ _ (by omega)).trans k108_this)
    have k113_this_locks := (congrFun hM113 (h + 1)).trans ((va_up_ne _ _ (by omega)).trans k108_this_locks)
    have k113_this_ovenDoors := (congrFun hM113 (h + 2)).trans ((va_up_ne _ _ (by omega)).trans k108_this_ovenDoors)
    have k113_this_ovenHours := (congrFun hM113 (h + 3)).trans ((va_up_ne _ _ (by omega)).trans k108_this_ovenHours)
    have k113_this_triedDoors := (congrFun hM113 (h + 4)).trans ((va_up_ne _ _ (by omega)).trans k108_this_triedDoors)
    have k113_this_triesOpened := (congrFun hM113 (h + 5)).trans (va_up_self _ _ _)
    have k113_LKS := LF_fr (e_fr_up (a := (h + 5)) (b := (h + 5) + 1) hM113 (by omega)) (by omega) k108_LKS
    have fr113 := e_fr_tr fr108 (e_fr_up hM113 (by omega))
    refine g_nI (p_sh b τ.ty) (by have := H.1; omega) k113_this_triesOpened (fun j hj => ?_) (fun M114 hM114 => ?_)
    · unfold p_sh
      by_cases e : j = 0
      · subst e; rw [va_up_self, if_pos rfl]
      · rw [va_up_ne _ _ e, if_neg e]; exact if_pos (by omega)
    have k114_this := (congrFun hM114 h).trans ((va_up_ne _ _ (by omega)).trans k113_this)
    have k114_this_locks := (congrFun hM114 (h + 1)).trans ((va_up_ne _ _ (by omega)).trans k113_this_locks)
    have k114_this_ovenDoors := (congrFun hM114 (h + 2)).trans ((va_up_ne _ _ (by omega)).trans k113_this_ovenDoors)
    have k114_this_ovenHours := (congrFun hM114 (h + 3)).trans ((va_up_ne _ _ (by omega)).trans k113_this_ovenHours)
    have k114_this_triedDoors := (congrFun hM114 (h + 4)).trans ((va_up_ne _ _ (by omega)).trans k113_this_triedDoors)
    have k114_this_triesOpened := (congrFun hM114 (h + 5)).trans (va_up_self _ _ _)
    have k114_LKS := LF_fr (e_fr_up (a := (h + 5)) (b := (h + 5) + 1) hM114 (by omega)) (by omega) k113_LKS
    have fr114 := e_fr_tr fr113 (e_fr_up hM114 (by omega))
    refine g_run 69 1 rfl ?_
    exact g_iret 70 rfl rfl hb (hQ M114 ⟨H.1, k114_this, k114_this_locks, k114_this_ovenDoors, k114_this_ovenHours, k114_this_triedDoors, k114_this_triesOpened, k114_LKS⟩ fr114)
  · refine g_run 37 1 rfl ?_
    refine g_get 38 rfl fl_RX3_24 H2.2.1 rfl ?_
    refine g_run 39 2 rfl ?_
    refine g_get 41 rfl fl_RX3_24 H2.2.1 rfl ?_
    refine g_run 42 3 rfl ?_
    refine g_iald 45 (8 - k) rfl rfl H2.2.2.2.2.2.1 (by first | rfl | omega) (by omega) (by decide) ?_
    refine g_iast 46 (9 - k) rfl rfl (by decide) H2.2.2.2.2.2.1 (by first | rfl | omega) (by omega) (by decide) (fun M79 hM79 => ?_)
    have k79_this := (congrFun hM79 h).trans ((va_up_ne _ _ (by omega)).trans H2.2.1)
    have k79_this_locks := (congrFun hM79 (h + 1)).trans ((va_up_ne _ _ (by omega)).trans H2.2.2.1)
    have k79_this_ovenDoors := (congrFun hM79 (h + 2)).trans ((va_up_ne _ _ (by omega)).trans H2.2.2.2.1)
    have k79_this_ovenHours := (congrFun hM79 (h + 3)).trans ((va_up_ne _ _ (by omega)).trans H2.2.2.2.2.1)
    have k79_this_triedDoors := (congrFun hM79 (h + 4)).trans (va_up_self _ _ _)
    have k79_this_triesOpened := (congrFun hM79 (h + 5)).trans ((va_up_ne _ _ (by omega)).trans H2.2.2.2.2.2.2.1)
    have k79_LKS := LF_fr (e_fr_up (a := (h + 4)) (b := (h + 4) + 1) hM79 (by omega)) (by omega) H2.2.2.2.2.2.2.2
    have fr79 := e_fr_tr fr2 (e_fr_up hM79 (by omega))
    refine g_nI (fun j => if 9 < j + (k + 1) then τ.td (j - 1) else τ.td j) (by have := H.1; omega) k79_this_triedDoors (fun j hj => ?_) (fun M81 hM81 => ?_)
    · by_cases e : j = 9 - k
      · subst e; rw [va_up_self, if_pos (by omega)]; show (if 9 < 8 - k + k then τ.td (8 - k - 1) else τ.td (8 - k)) = _; rw [if_neg (by omega), show 9 - k - 1 = 8 - k from by omega]
      · rw [va_up_ne _ _ e]
        show (if 9 < j + k then τ.td (j - 1) else τ.td j) = _
        by_cases e2 : 9 < j + k
        · rw [if_pos e2, if_pos (by omega)]
        · rw [if_neg e2, if_neg (by omega)]
    have k81_this := (congrFun hM81 h).trans ((va_up_ne _ _ (by omega)).trans k79_this)
    have k81_this_locks := (congrFun hM81 (h + 1)).trans ((va_up_ne _ _ (by omega)).trans k79_this_locks)
    have k81_this_ovenDoors := (congrFun hM81 (h + 2)).trans ((va_up_ne _ _ (by omega)).trans k79_this_ovenDoors)
    have k81_this_ovenHours := (congrFun hM81 (h + 3)).trans ((va_up_ne _ _ (by omega)).trans k79_this_ovenHours)
    have k81_this_triedDoors := (congrFun hM81 (h + 4)).trans (va_up_self _ _ _)
    have k81_this_triesOpened := (congrFun hM81 (h + 5)).trans ((va_up_ne _ _ (by omega)).trans k79_this_triesOpened)
    have k81_LKS := LF_fr (e_fr_up (a := (h + 4)) (b := (h + 4) + 1) hM81 (by omega)) (by omega) k79_LKS
    have fr81 := e_fr_tr fr79 (e_fr_up hM81 (by omega))
    refine g_run 47 1 rfl ?_
    refine g_get 48 rfl fl_RX3_27 k81_this rfl ?_
    refine g_run 49 2 rfl ?_
    refine g_get 51 rfl fl_RX3_27 k81_this rfl ?_
    refine g_run 52 3 rfl ?_
    refine g_zald 55 (8 - k) rfl rfl k81_this_triesOpened (by first | rfl | omega) (by omega) (by decide) ?_
    refine g_zast 56 (9 - k) rfl rfl (by decide) k81_this_triesOpened (by first | rfl | omega) (by omega) (by decide) (by show (if 9 < 8 - k + k then τ.ty (8 - k - 1) else τ.ty (8 - k)) = 0 ∨ (if 9 < 8 - k + k then τ.ty (8 - k - 1) else τ.ty (8 - k)) = 1; rw [if_neg (by omega)]; exact (hr.2.2.2.1 (8 - k) (by omega)).2.2) (fun M93 hM93 => ?_)
    have k93_this := (congrFun hM93 h).trans ((va_up_ne _ _ (by omega)).trans k81_this)
    have k93_this_locks := (congrFun hM93 (h + 1)).trans ((va_up_ne _ _ (by omega)).trans k81_this_locks)
    have k93_this_ovenDoors := (congrFun hM93 (h + 2)).trans ((va_up_ne _ _ (by omega)).trans k81_this_ovenDoors)
    have k93_this_ovenHours := (congrFun hM93 (h + 3)).trans ((va_up_ne _ _ (by omega)).trans k81_this_ovenHours)
    have k93_this_triedDoors := (congrFun hM93 (h + 4)).trans ((va_up_ne _ _ (by omega)).trans k81_this_triedDoors)
    have k93_this_triesOpened := (congrFun hM93 (h + 5)).trans (va_up_self _ _ _)
    have k93_LKS := LF_fr (e_fr_up (a := (h + 5)) (b := (h + 5) + 1) hM93 (by omega)) (by omega) k81_LKS
    have fr93 := e_fr_tr fr81 (e_fr_up hM93 (by omega))
    refine g_nI (fun j => if 9 < j + (k + 1) then τ.ty (j - 1) else τ.ty j) (by have := H.1; omega) k93_this_triesOpened (fun j hj => ?_) (fun M94 hM94 => ?_)
    · by_cases e : j = 9 - k
      · subst e; rw [va_up_self, if_pos (by omega)]; show (if 9 < 8 - k + k then τ.ty (8 - k - 1) else τ.ty (8 - k)) = _; rw [if_neg (by omega), show 9 - k - 1 = 8 - k from by omega]
      · rw [va_up_ne _ _ e]
        show (if 9 < j + k then τ.ty (j - 1) else τ.ty j) = _
        by_cases e2 : 9 < j + k
        · rw [if_pos e2, if_pos (by omega)]
        · rw [if_neg e2, if_neg (by omega)]
    have k94_this := (congrFun hM94 h).trans ((va_up_ne _ _ (by omega)).trans k93_this)
    have k94_this_locks := (congrFun hM94 (h + 1)).trans ((va_up_ne _ _ (by omega)).trans k93_this_locks)
    have k94_this_ovenDoors := (congrFun hM94 (h + 2)).trans ((va_up_ne _ _ (by omega)).trans k93_this_ovenDoors)
    have k94_this_ovenHours := (congrFun hM94 (h + 3)).trans ((va_up_ne _ _ (by omega)).trans k93_this_ovenHours)
    have k94_this_triedDoors := (congrFun hM94 (h + 4)).trans ((va_up_ne _ _ (by omega)).trans k93_this_triedDoors)
    have k94_this_triesOpened := (congrFun hM94 (h + 5)).trans (va_up_self _ _ _)
    have k94_LKS := LF_fr (e_fr_up (a := (h + 5)) (b := (h + 5) + 1) hM94 (by omega)) (by omega) k93_LKS
    have fr94 := e_fr_tr fr93 (e_fr_up hM94 (by omega))
    refine g_run 57 2 rfl ?_
    rw [show (9 - (k : Int)) + (-1) = 9 - ((k + 1 : Nat) : Int) from by omega]
    exact ih (by omega) M94 ⟨H.1, k94_this, k94_this_locks, k94_this_ovenDoors, k94_this_ovenHours, k94_this_triedDoors, k94_this_triesOpened, k94_LKS⟩ fr94

theorem Hok_sc {τ : HS} (hr : Hok B τ) (sc : Nat → Int) (lk : Nat → LkS) {B' : Int} (h1 : ∀ i, i < 9 → 0 ≤ sc i ∧ sc i ≤ B') (h2 : sc 0 ≤ 6 ∧ sc 1 ≤ 9) (h3 : ∀ d, d < 6 → Lok (lk d)) (h4 : τ.sc 0 ≤ sc 0) : Hok B' (sc, τ.od, τ.oh, τ.td, τ.ty, lk) := ⟨h1, h2, fun o ho => by
  have q := hr.2.2.1 o ho
  exact ⟨q.1, q.2.1, q.2.2.1, q.2.2.2.1, q.2.2.2.2.1, by show τ.od o < sc 0; omega⟩, hr.2.2.2.1, h3⟩
theorem Lok_up {lk : Nat → LkS} (h : ∀ d, d < 6 → Lok (lk d)) (d : Nat) {L : LkS} (hL : d < 6 → Lok L) : ∀ j, j < 6 → Lok (va_up lk d L j) := by
  intro j hj
  by_cases e : j = d
  · subst e; rw [va_up_self]; exact hL hj
  · rw [va_up_ne _ _ e]; exact h j hj
theorem sc_up {sc : Nat → Int} {B B' : Int} (h : ∀ i, i < 9 → 0 ≤ sc i ∧ sc i ≤ B) (hB : B ≤ B') (k : Nat) {x : Int} (hx : 0 ≤ x ∧ x ≤ B') : ∀ i, i < 9 → 0 ≤ va_up sc k x i ∧ va_up sc k x i ≤ B' := by
  intro i hi
  have := h i hi
  by_cases e : i = k
  · subst e; rw [va_up_self]; exact hx
  · rw [va_up_ne _ _ e]; omega
theorem lTry_op (L : LkS) : (lTry L).op = 0 ∨ (lTry L).op = 1 := by
  unfold lTry
  split
  · exact Or.inr rfl
  · exact b_01
theorem c_tryDoor (H : HM M h σ) (hr : Hok B σ) (hB : B ≤ 1900000000) (z : Int) (hz : hDoor σ z) : Ct (e_L r0) Γ mX3_tryDoor 3 0 0 [vR h, vI z] M n (e_wr (some (vI (if lFit (σ.lk z.toNat) = 3 then 1 else 0))) n fun M' => HM M' h (doTry σ z) ∧ e_fr h (h + 24) M M') := by
  have fr0 : e_fr h (h + 24) M M := e_fr_refl
  have q := hr.2.1
  have q0 := hr.1 0 (by decide)
  refine g_start ok_X3_tryDoor rfl rfl ?_
  refine g_run 0 1 rfl ?_
  refine g_get 1 rfl fl_RX3_11 H.2.1 rfl ?_
  refine g_run 2 1 rfl ?_
  refine g_aald 3 z.toNat rfl rfl H.2.2.1 (Int.toNat_of_nonneg (by omega)).symm (by omega) (by decide) ?_
  rw [lkR_at (by omega)]
  have kl5 := H.2.2.2.2.2.2.2 z.toNat (by omega)
  refine g_callV 4 rfl cv_RX3_173 kl5.2.1 (c_takeTry kl5 (hr.2.2.2.2 _ (by omega))) rfl rfl (by decide) (by omega) (by omega) (Nat.le_of_ble_eq_true rfl) (e_kw fun M6 hq6 => ?_) e_kwx
  have k6_this := (hq6.2 h (by omega)).trans H.2.1
  have k6_this_locks := (hq6.2 (h + 1) (by omega)).trans H.2.2.1
  have k6_this_ovenDoors := (hq6.2 (h + 2) (by omega)).trans H.2.2.2.1
  have k6_this_ovenHours := (hq6.2 (h + 3) (by omega)).trans H.2.2.2.2.1
  have k6_this_triedDoors := (hq6.2 (h + 4) (by omega)).trans H.2.2.2.2.2.1
  have k6_this_triesOpened := (hq6.2 (h + 5) (by omega)).trans H.2.2.2.2.2.2.1
  have fr6 := e_fr_tr fr0 (e_fr_w hq6.2 (by omega))
  have k6_LKS := LF_up hq6.2 hq6.1 H.2.2.2.2.2.2.2
  refine g_run 5 3 rfl ?_
  refine g_get 8 rfl fl_RX3_41 k6_this rfl ?_
  refine g_run 9 2 rfl ?_
  refine g_put 11 rfl fp_RX3_41 k6_this rfl trivial (fun M17 hM17 => ?_)
  have k17_this := (congrFun hM17 h).trans (va_up_self _ _ _)
  have k17_this_locks := (congrFun hM17 (h + 1)).trans ((va_up_ne _ _ (by omega)).trans k6_this_locks)
  have k17_this_ovenDoors := (congrFun hM17 (h + 2)).trans ((va_up_ne _ _ (by omega)).trans k6_this_ovenDoors)
  have k17_this_ovenHours := (congrFun hM17 (h + 3)).trans ((va_up_ne _ _ (by omega)).trans k6_this_ovenHours)
  have k17_this_triedDoors := (congrFun hM17 (h + 4)).trans ((va_up_ne _ _ (by omega)).trans k6_this_triedDoors)
  have k17_this_triesOpened := (congrFun hM17 (h + 5)).trans ((va_up_ne _ _ (by omega)).trans k6_this_triesOpened)
  have fr17 := e_fr_tr fr6 (e_fr_up hM17 (by omega))
  have k17_LKS := LF_fr (e_fr_up (a := h) (b := h + 1) hM17 (by omega)) (by omega) k6_LKS
  refine g_run 12 1 rfl ?_
  refine g_if_eq 13 37 rfl rfl b_r (fun c21 => ?_) (fun c21 => ?_)
  · replace c21 := b_0.mp c21
    refine g_run 21 1 rfl ?_
    refine g_get 22 rfl fl_RX3_11 k17_this rfl ?_
    refine g_run 23 1 rfl ?_
    refine g_aald 24 z.toNat rfl rfl k17_this_locks (Int.toNat_of_nonneg (by omega)).symm (by omega) (by decide) ?_
    rw [lkR_at (by omega)]
    have kl42 := k17_LKS z.toNat (by omega)
    have kl42 : LM M17 (h + 6 + 3 * z.toNat) (lTry (σ.lk z.toNat)) := by have := kl42; rw [va_up_self] at this; exact this
    refine g_get 25 rfl fl_RX3_132 kl42.2.1 rfl ?_
    refine g_if_eq 26 59 rfl rfl (by have := lTry_op (σ.lk z.toNat); omega) (fun c46 => ?_) (fun c46 => ?_)
    · exact c_tryRec (τ := (va_up σ.sc 3 (σ.sc 3 + 1), σ.od, σ.oh, σ.td, σ.ty, va_up σ.lk z.toNat (lTry (σ.lk z.toNat)))) (B := B + 1) ⟨H.1, k17_this, k17_this_locks, k17_this_ovenDoors, k17_this_ovenHours, k17_this_triedDoors, k17_this_triesOpened, k17_LKS⟩ (Hok_sc hr _ _ (sc_up hr.1 (by omega) 3 (by have := hr.1 3 (by decide); omega)) (by exact ⟨q.1, q.2⟩) (Lok_up hr.2.2.2.2 _ fun hd => Lok_try (hr.2.2.2.2 _ hd)) (by exact Int.le_refl (σ.sc 0))) (by omega) z _ (by omega) b_01 _ (fun M' h1 h2 => ⟨rfl, rfl, by
          have e9 : scTry σ (σ.lk z.toNat) = va_up σ.sc 3 (σ.sc 3 + 1) := by unfold scTry; rw [if_neg c21, if_pos c46]
          show HM M' h (scTry σ (σ.lk z.toNat), _)
          rw [e9]; exact h1, e_fr_tr fr17 h2⟩)
    · refine g_run 27 2 rfl ?_
      refine g_get 29 rfl fl_RX3_47 k17_this rfl ?_
      refine g_run 30 2 rfl ?_
      refine g_put 32 rfl fp_RX3_47 k17_this rfl trivial (fun M56 hM56 => ?_)
      have k56_this := (congrFun hM56 h).trans (va_up_self _ _ _)
      have k56_this_locks := (congrFun hM56 (h + 1)).trans ((va_up_ne _ _ (by omega)).trans k17_this_locks)
      have k56_this_ovenDoors := (congrFun hM56 (h + 2)).trans ((va_up_ne _ _ (by omega)).trans k17_this_ovenDoors)
      have k56_this_ovenHours := (congrFun hM56 (h + 3)).trans ((va_up_ne _ _ (by omega)).trans k17_this_ovenHours)
      have k56_this_triedDoors := (congrFun hM56 (h + 4)).trans ((va_up_ne _ _ (by omega)).trans k17_this_triedDoors)
      have k56_this_triesOpened := (congrFun hM56 (h + 5)).trans ((va_up_ne _ _ (by omega)).trans k17_this_triesOpened)
      have fr56 := e_fr_tr fr17 (e_fr_up hM56 (by omega))
      have k56_LKS := LF_fr (e_fr_up (a := h) (b := h + 1) hM56 (by omega)) (by omega) k17_LKS
      have k56_lk := (congrFun hM56 (h + 6 + 3 * z.toNat)).trans ((va_up_ne _ _ (by omega)).trans kl42.2.1)
      have k56_lk_dials := (congrFun hM56 ((h + 6 + 3 * z.toNat) + 1)).trans ((va_up_ne _ _ (by omega)).trans kl42.2.2.1)
      have k56_lk_combination := (congrFun hM56 ((h + 6 + 3 * z.toNat) + 2)).trans ((va_up_ne _ _ (by omega)).trans kl42.2.2.2)
      have k56_lk_LM := LM_fr (e_fr_up (a := h) (b := h + 1) hM56 (by omega)) (by omega) kl42
      exact c_tryRec (τ := (va_up (va_up σ.sc 3 (σ.sc 3 + 1)) 5 (σ.sc 5 + 1), σ.od, σ.oh, σ.td, σ.ty, va_up σ.lk z.toNat (lTry (σ.lk z.toNat)))) (B := B + 1) ⟨H.1, k56_this, k56_this_locks, k56_this_ovenDoors, k56_this_ovenHours, k56_this_triedDoors, k56_this_triesOpened, k56_LKS⟩ (Hok_sc hr _ _ (sc_up (B := B + 1) (sc_up hr.1 (by omega) 3 (by have := hr.1 3 (by decide); omega)) (by omega) 5 (by have := hr.1 5 (by decide); omega)) (by exact ⟨q.1, q.2⟩) (Lok_up hr.2.2.2.2 _ fun hd => Lok_try (hr.2.2.2.2 _ hd)) (by exact Int.le_refl (σ.sc 0))) (by omega) z _ (by omega) b_01 _ (fun M' h1 h2 => ⟨rfl, rfl, by
          have e9 : scTry σ (σ.lk z.toNat) = va_up (va_up σ.sc 3 (σ.sc 3 + 1)) 5 (σ.sc 5 + 1) := by unfold scTry; rw [if_neg c21, if_neg c46]
          show HM M' h (scTry σ (σ.lk z.toNat), _)
          rw [e9]; exact h1, e_fr_tr fr56 h2⟩)
  · replace c21 := b_1.mp c21
    refine g_run 14 2 rfl ?_
    refine g_get 16 rfl fl_RX3_44 k17_this rfl ?_
    refine g_run 17 2 rfl ?_
    refine g_put 19 rfl fp_RX3_44 k17_this rfl trivial (fun M31 hM31 => ?_)
    have k31_this := (congrFun hM31 h).trans (va_up_self _ _ _)
    have k31_this_locks := (congrFun hM31 (h + 1)).trans ((va_up_ne _ _ (by omega)).trans k17_this_locks)
    have k31_this_ovenDoors := (congrFun hM31 (h + 2)).trans ((va_up_ne _ _ (by omega)).trans k17_this_ovenDoors)
    have k31_this_ovenHours := (congrFun hM31 (h + 3)).trans ((va_up_ne _ _ (by omega)).trans k17_this_ovenHours)
    have k31_this_triedDoors := (congrFun hM31 (h + 4)).trans ((va_up_ne _ _ (by omega)).trans k17_this_triedDoors)
    have k31_this_triesOpened := (congrFun hM31 (h + 5)).trans ((va_up_ne _ _ (by omega)).trans k17_this_triesOpened)
    have fr31 := e_fr_tr fr17 (e_fr_up hM31 (by omega))
    have k31_LKS := LF_fr (e_fr_up (a := h) (b := h + 1) hM31 (by omega)) (by omega) k17_LKS
    refine g_run 20 1 rfl ?_
    exact c_tryRec (τ := (va_up (va_up σ.sc 3 (σ.sc 3 + 1)) 4 (σ.sc 4 + 1), σ.od, σ.oh, σ.td, σ.ty, va_up σ.lk z.toNat (lTry (σ.lk z.toNat)))) (B := B + 1) ⟨H.1, k31_this, k31_this_locks, k31_this_ovenDoors, k31_this_ovenHours, k31_this_triedDoors, k31_this_triesOpened, k31_LKS⟩ (Hok_sc hr _ _ (sc_up (B := B + 1) (sc_up hr.1 (by omega) 3 (by have := hr.1 3 (by decide); omega)) (by omega) 4 (by have := hr.1 4 (by decide); omega)) (by exact ⟨q.1, q.2⟩) (Lok_up hr.2.2.2.2 _ fun hd => Lok_try (hr.2.2.2.2 _ hd)) (by exact Int.le_refl (σ.sc 0))) (by omega) z _ (by omega) b_01 _ (fun M' h1 h2 => ⟨rfl, rfl, by
        have e9 : scTry σ (σ.lk z.toNat) = va_up (va_up σ.sc 3 (σ.sc 3 + 1)) 4 (σ.sc 4 + 1) := by unfold scTry; rw [if_pos c21]
        show HM M' h (scTry σ (σ.lk z.toNat), _)
        rw [e9]; exact h1, e_fr_tr fr31 h2⟩)
theorem c_replaceDamp (H : HM M h σ) (hr : Hok B σ) (a : Int) : Ct (e_L r0) Γ mX3_replaceDamp 0 0 0 [vR h, vI a] M n (e_wr (some (vI (σ.sc 1))) n fun M' => HM M' h (doDamp σ a) ∧ e_fr h (h + 24) M M') := by
  have fr0 : e_fr h (h + 24) M M := e_fr_refl
  have q := hr.2.1
  have q0 := hr.1 0 (by decide)
  refine g_start ok_X3_replaceDamp rfl rfl ?_
  refine g_run 0 1 rfl ?_
  refine g_get 1 rfl fl_RX3_35 H.2.1 rfl ?_
  refine g_run 2 3 rfl ?_
  refine g_put 5 rfl fp_RX3_35 H.2.1 rfl trivial (fun M7 hM7 => ?_)
  have k7_this := (congrFun hM7 h).trans (va_up_self _ _ _)
  have k7_this_locks := (congrFun hM7 (h + 1)).trans ((va_up_ne _ _ (by omega)).trans H.2.2.1)
  have k7_this_ovenDoors := (congrFun hM7 (h + 2)).trans ((va_up_ne _ _ (by omega)).trans H.2.2.2.1)
  have k7_this_ovenHours := (congrFun hM7 (h + 3)).trans ((va_up_ne _ _ (by omega)).trans H.2.2.2.2.1)
  have k7_this_triedDoors := (congrFun hM7 (h + 4)).trans ((va_up_ne _ _ (by omega)).trans H.2.2.2.2.2.1)
  have k7_this_triesOpened := (congrFun hM7 (h + 5)).trans ((va_up_ne _ _ (by omega)).trans H.2.2.2.2.2.2.1)
  have k7_LKS := LF_fr (e_fr_up (a := h) (b := h + 1) hM7 (by omega)) (by omega) H.2.2.2.2.2.2.2
  have fr7 := e_fr_tr fr0 (e_fr_up hM7 (by omega))
  refine g_run 6 1 rfl ?_
  exact g_iret 7 rfl rfl (by first | exact trivial | exact Or.inl rfl | exact Or.inr rfl | (show _ ∨ _; omega)) ⟨rfl, rfl, ⟨H.1, k7_this, k7_this_locks, k7_this_ovenDoors, k7_this_ovenHours, k7_this_triedDoors, k7_this_triesOpened, k7_LKS⟩, fr7⟩
/-- an oven is filled: from the second statement on -/
theorem c_putIn2 {M : Mem} {sc : Nat → Int} (H : HM M h (sc, σ.od, σ.oh, σ.td, σ.ty, σ.lk)) (hr : Hok B σ) (z o : Int) (hz : hDoor σ z) (ho : 0 ≤ o ∧ o ≤ 1) {Q : Rv → Mem → Nat → Prop} (hQ : ∀ M', HM M' h (sc, va_up σ.od o.toNat z, va_up σ.oh o.toNat (1 + (σ.lk z.toNat).cr / 4), σ.td, σ.ty, va_up σ.lk z.toNat (1, (σ.lk z.toNat).cr, (σ.lk z.toNat).dl, (σ.lk z.toNat).cb)) → e_fr h (h + 24) M M' → Q (.inl (some (vI (1 + (σ.lk z.toNat).cr / 4)))) M' n) : G (e_L r0) Γ mX3_putIn 0 0 0 Q 22 [some (vR h), some (vI z), some (vI o)] [] M n 0 0 := by
  have fr0 : e_fr h (h + 24) M M := e_fr_refl
  have q := hr.2.1
  have q0 := hr.1 0 (by decide)
  have qL := (hr.2.2.2.2 z.toNat (by omega)).2.1
  refine g_run 12 1 rfl ?_
  refine g_get 13 rfl fl_RX3_11 H.2.1 rfl ?_
  refine g_run 14 1 rfl ?_
  refine g_aald 15 z.toNat rfl rfl H.2.2.1 (Int.toNat_of_nonneg (by omega)).symm (by omega) (by decide) ?_
  rw [lkR_at (by omega)]
  have kl27 := H.2.2.2.2.2.2.2 z.toNat (by omega)
  refine g_run 16 1 rfl ?_
  refine g_put 17 rfl fp_RX3_132 kl27.2.1 rfl (by show _ ∨ _; first | exact Or.inl rfl | exact Or.inr rfl | omega) (fun M29 hM29 => ?_)
  have k29_this := (congrFun hM29 h).trans ((va_up_ne _ _ (by omega)).trans H.2.1)
  have k29_this_locks := (congrFun hM29 (h + 1)).trans ((va_up_ne _ _ (by omega)).trans H.2.2.1)
  have k29_this_ovenDoors := (congrFun hM29 (h + 2)).trans ((va_up_ne _ _ (by omega)).trans H.2.2.2.1)
  have k29_this_ovenHours := (congrFun hM29 (h + 3)).trans ((va_up_ne _ _ (by omega)).trans H.2.2.2.2.1)
  have k29_this_triedDoors := (congrFun hM29 (h + 4)).trans ((va_up_ne _ _ (by omega)).trans H.2.2.2.2.2.1)
  have k29_this_triesOpened := (congrFun hM29 (h + 5)).trans ((va_up_ne _ _ (by omega)).trans H.2.2.2.2.2.2.1)
  have fr29 := e_fr_tr fr0 (e_fr_up hM29 (by omega))
  have k29_lk := (congrFun hM29 (h + 6 + 3 * z.toNat)).trans (va_up_self _ _ _)
  have k29_lk_dials := (congrFun hM29 ((h + 6 + 3 * z.toNat) + 1)).trans ((va_up_ne _ _ (by omega)).trans kl27.2.2.1)
  have k29_lk_combination := (congrFun hM29 ((h + 6 + 3 * z.toNat) + 2)).trans ((va_up_ne _ _ (by omega)).trans kl27.2.2.2)
  have kL29 : LM M29 (h + 6 + 3 * z.toNat) (1, (σ.lk z.toNat).cr, (σ.lk z.toNat).dl, (σ.lk z.toNat).cb) := ⟨kl27.1, k29_lk, k29_lk_dials, k29_lk_combination⟩
  have k29_LKS := LF_up (e_fr_up hM29 (by omega)) kL29 H.2.2.2.2.2.2.2
  refine g_run 18 1 rfl ?_
  refine g_get 19 rfl fl_RX3_17 k29_this rfl ?_
  refine g_run 20 2 rfl ?_
  refine g_iast 22 o.toNat rfl rfl (by decide) k29_this_ovenDoors (Int.toNat_of_nonneg (by omega)).symm (by omega) (by decide) (fun M38 hM38 => ?_)
  have k38_this := (congrFun hM38 h).trans ((va_up_ne _ _ (by omega)).trans k29_this)
  have k38_this_locks := (congrFun hM38 (h + 1)).trans ((va_up_ne _ _ (by omega)).trans k29_this_locks)
  have k38_this_ovenDoors := (congrFun hM38 (h + 2)).trans (va_up_self _ _ _)
  have k38_this_ovenHours := (congrFun hM38 (h + 3)).trans ((va_up_ne _ _ (by omega)).trans k29_this_ovenHours)
  have k38_this_triedDoors := (congrFun hM38 (h + 4)).trans ((va_up_ne _ _ (by omega)).trans k29_this_triedDoors)
  have k38_this_triesOpened := (congrFun hM38 (h + 5)).trans ((va_up_ne _ _ (by omega)).trans k29_this_triesOpened)
  have fr38 := e_fr_tr fr29 (e_fr_up hM38 (by omega))
  have k38_lk := (congrFun hM38 (h + 6 + 3 * z.toNat)).trans ((va_up_ne _ _ (by omega)).trans k29_lk)
  have k38_lk_dials := (congrFun hM38 ((h + 6 + 3 * z.toNat) + 1)).trans ((va_up_ne _ _ (by omega)).trans k29_lk_dials)
  have k38_lk_combination := (congrFun hM38 ((h + 6 + 3 * z.toNat) + 2)).trans ((va_up_ne _ _ (by omega)).trans k29_lk_combination)
  have k38_LKS := LF_fr (e_fr_up (a := (h + 2)) (b := (h + 2) + 1) hM38 (by omega)) (by omega) k29_LKS
  have k38_lk_LM := LM_fr (e_fr_up (a := (h + 2)) (b := (h + 2) + 1) hM38 (by omega)) (by omega) kL29
  refine g_run 23 1 rfl ?_
  refine g_get 24 rfl fl_RX3_21 k38_this rfl ?_
  refine g_run 25 3 rfl ?_
  refine g_get 28 rfl fl_RX3_11 k38_this rfl ?_
  refine g_run 29 1 rfl ?_
  refine g_aald 30 z.toNat rfl rfl k38_this_locks (Int.toNat_of_nonneg (by omega)).symm (by omega) (by decide) ?_
  rw [lkR_at (by omega)]
  have kl50 := k38_LKS z.toNat (by omega)
  have kl50 : LM M38 (h + 6 + 3 * z.toNat) (1, (σ.lk z.toNat).cr, (σ.lk z.toNat).dl, (σ.lk z.toNat).cb) := by have := kl50; rw [va_up_self] at this; exact this
  refine g_get 31 rfl fl_RX3_179 kl50.2.1 rfl ?_
  refine g_run 32 1 rfl ?_
  refine g_idiv 33 rfl (by show 0 ≤ (σ.lk z.toNat).cr ∧ (σ.lk z.toNat).cr ≤ 2147483647; omega) (by omega) ?_
  refine g_run 34 1 rfl ?_
  refine g_iast 35 o.toNat rfl rfl (by decide) k38_this_ovenHours (Int.toNat_of_nonneg (by omega)).symm (by omega) (by decide) (fun M57 hM57 => ?_)
  have k57_this := (congrFun hM57 h).trans ((va_up_ne _ _ (by omega)).trans k38_this)
  have k57_this_locks := (congrFun hM57 (h + 1)).trans ((va_up_ne _ _ (by omega)).trans k38_this_locks)
  have k57_this_ovenDoors := (congrFun hM57 (h + 2)).trans ((va_up_ne _ _ (by omega)).trans k38_this_ovenDoors)
  have k57_this_ovenHours := (congrFun hM57 (h + 3)).trans (va_up_self _ _ _)
  have k57_this_triedDoors := (congrFun hM57 (h + 4)).trans ((va_up_ne _ _ (by omega)).trans k38_this_triedDoors)
  have k57_this_triesOpened := (congrFun hM57 (h + 5)).trans ((va_up_ne _ _ (by omega)).trans k38_this_triesOpened)
  have fr57 := e_fr_tr fr38 (e_fr_up hM57 (by omega))
  have k57_LKS := LF_fr (e_fr_up (a := (h + 3)) (b := (h + 3) + 1) hM57 (by omega)) (by omega) k38_LKS
  have k57_lk := (congrFun hM57 (h + 6 + 3 * z.toNat)).trans ((va_up_ne _ _ (by omega)).trans kl50.2.1)
  have k57_lk_dials := (congrFun hM57 ((h + 6 + 3 * z.toNat) + 1)).trans ((va_up_ne _ _ (by omega)).trans kl50.2.2.1)
  have k57_lk_combination := (congrFun hM57 ((h + 6 + 3 * z.toNat) + 2)).trans ((va_up_ne _ _ (by omega)).trans kl50.2.2.2)
  have k57_lk_LM := LM_fr (e_fr_up (a := (h + 3)) (b := (h + 3) + 1) hM57 (by omega)) (by omega) kl50
  refine g_run 36 1 rfl ?_
  refine g_get 37 rfl fl_RX3_21 k57_this rfl ?_
  refine g_run 38 1 rfl ?_
  refine g_iald 39 o.toNat rfl rfl k57_this_ovenHours (Int.toNat_of_nonneg (by omega)).symm (by omega) (by decide) ?_
  rw [va_up_self]
  exact g_iret 40 rfl rfl (by first | exact trivial | exact Or.inl rfl | exact Or.inr rfl | (show _ ∨ _; omega)) (hQ _ ⟨H.1, k57_this, k57_this_locks, k57_this_ovenDoors, k57_this_ovenHours, k57_this_triedDoors, k57_this_triesOpened, k57_LKS⟩ fr57)
theorem c_putIn (H : HM M h σ) (hr : Hok B σ) (z o : Int) (hz : hDoor σ z) (ho : 0 ≤ o ∧ o ≤ 1) : Ct (e_L r0) Γ mX3_putIn 0 0 0 [vR h, vI z, vI o] M n (e_wr (some (vI (1 + (σ.lk z.toNat).cr / 4))) n fun M' => HM M' h (doBake σ z o) ∧ e_fr h (h + 24) M M') := by
  have fr0 : e_fr h (h + 24) M M := e_fr_refl
  have q := hr.2.1
  have q0 := hr.1 0 (by decide)
  have qL := (hr.2.2.2.2 z.toNat (by omega)).2.1
  refine g_start ok_X3_putIn rfl rfl ?_
  refine g_run 0 1 rfl ?_
  refine g_get 1 rfl fl_RX3_11 H.2.1 rfl ?_
  refine g_run 2 1 rfl ?_
  refine g_aald 3 z.toNat rfl rfl H.2.2.1 (Int.toNat_of_nonneg (by omega)).symm (by omega) (by decide) ?_
  rw [lkR_at (by omega)]
  have kl5 := H.2.2.2.2.2.2.2 z.toNat (by omega)
  refine g_get 4 rfl fl_RX3_132 kl5.2.1 rfl ?_
  refine g_if_ne 5 22 rfl rfl (by have := (hr.2.2.2.2 z.toNat (by omega)).1; omega) (fun c9 => ?_) (fun c9 => ?_)
  · exact c_putIn2 (sc := σ.sc) H hr z o hz ho (fun M' h1 h2 => ⟨rfl, rfl, by
    have e9 : (if (σ.lk z.toNat).op = 0 then va_up σ.sc 7 (σ.sc 7 + 1) else σ.sc) = σ.sc := if_neg c9
    show HM M' h (if (σ.lk z.toNat).op = 0 then va_up σ.sc 7 (σ.sc 7 + 1) else σ.sc, _)
    rw [e9]; exact h1, e_fr_tr fr0 h2⟩)
  · refine g_run 6 2 rfl ?_
    refine g_get 8 rfl fl_RX3_53 H.2.1 rfl ?_
    refine g_run 9 2 rfl ?_
    refine g_put 11 rfl fp_RX3_53 H.2.1 rfl trivial (fun M19 hM19 => ?_)
    have k19_this := (congrFun hM19 h).trans (va_up_self _ _ _)
    have k19_this_locks := (congrFun hM19 (h + 1)).trans ((va_up_ne _ _ (by omega)).trans H.2.2.1)
    have k19_this_ovenDoors := (congrFun hM19 (h + 2)).trans ((va_up_ne _ _ (by omega)).trans H.2.2.2.1)
    have k19_this_ovenHours := (congrFun hM19 (h + 3)).trans ((va_up_ne _ _ (by omega)).trans H.2.2.2.2.1)
    have k19_this_triedDoors := (congrFun hM19 (h + 4)).trans ((va_up_ne _ _ (by omega)).trans H.2.2.2.2.2.1)
    have k19_this_triesOpened := (congrFun hM19 (h + 5)).trans ((va_up_ne _ _ (by omega)).trans H.2.2.2.2.2.2.1)
    have k19_LKS := LF_fr (e_fr_up (a := h) (b := h + 1) hM19 (by omega)) (by omega) H.2.2.2.2.2.2.2
    have fr19 := e_fr_tr fr0 (e_fr_up hM19 (by omega))
    have k19_lk := (congrFun hM19 (h + 6 + 3 * z.toNat)).trans ((va_up_ne _ _ (by omega)).trans kl5.2.1)
    have k19_lk_dials := (congrFun hM19 ((h + 6 + 3 * z.toNat) + 1)).trans ((va_up_ne _ _ (by omega)).trans kl5.2.2.1)
    have k19_lk_combination := (congrFun hM19 ((h + 6 + 3 * z.toNat) + 2)).trans ((va_up_ne _ _ (by omega)).trans kl5.2.2.2)
    have k19_lk_LM := LM_fr (e_fr_up (a := h) (b := h + 1) hM19 (by omega)) (by omega) kl5
    exact c_putIn2 (sc := va_up σ.sc 7 (σ.sc 7 + 1)) ⟨H.1, k19_this, k19_this_locks, k19_this_ovenDoors, k19_this_ovenHours, k19_this_triedDoors, k19_this_triesOpened, k19_LKS⟩ hr z o hz ho (fun M' h1 h2 => ⟨rfl, rfl, by
      have e9 : (if (σ.lk z.toNat).op = 0 then va_up σ.sc 7 (σ.sc 7 + 1) else σ.sc) = va_up σ.sc 7 (σ.sc 7 + 1) := if_pos c9
      show HM M' h (if (σ.lk z.toNat).op = 0 then va_up σ.sc 7 (σ.sc 7 + 1) else σ.sc, _)
      rw [e9]; exact h1, e_fr_tr fr19 h2⟩)
theorem c_drift (H : HM M h σ) (hr : Hok B σ) (d : Nat) (hd : d < 3) : Ct (e_L r0) Γ mX3_driftShutLocks 1 0 0 [vR h, vI (d : Int)] M n (e_wr none n fun M' => HM M' h (drift σ d) ∧ e_fr h (h + 24) M M') := by
  have fr0 : e_fr h (h + 24) M M := e_fr_refl
  have q := hr.2.1
  have q0 := hr.1 0 (by decide)
  refine g_start ok_X3_driftShutLocks rfl rfl ?_
  refine g_run 0 2 rfl ?_
  refine e_down (P := fun k => ∀ M', HR M' h σ.sc σ.od σ.oh σ.td σ.ty (fun j => if j < k ∧ (σ.lk j).op = 0 then lTurn (σ.lk j) d 1 else σ.lk j) → e_fr h (h + 24) M M' → G (e_L r0) Γ mX3_driftShutLocks 1 0 0 _ 2 [some (vR h), some (vI (d : Int)), some (vI (k : Int))] [] M' n 0 0) (σ.sc 0).toNat ?_ 0 (by omega) M ⟨H.1, H.2.1, H.2.2.1, H.2.2.2.1, H.2.2.2.2.1, H.2.2.2.2.2.1, H.2.2.2.2.2.2.1, LF_ext H.2.2.2.2.2.2.2 (fun j _ => (show (if j < 0 ∧ (σ.lk j).op = 0 then lTurn (σ.lk j) d 1 else σ.lk j) = σ.lk j from if_neg (by omega)).symm)⟩ fr0
  intro k hk ih M2 H2 fr2
  refine g_run 2 2 rfl ?_
  refine g_get 4 rfl fl_RX3_31 H2.2.1 rfl ?_
  refine g_icmp_ge 5 40 rfl rfl (by omega) (by omega) (fun c7 => ?_) (fun c7 => ?_)
  · have ek : k = (σ.sc 0).toNat := by omega
    subst ek
    refine g_vret 22 rfl rfl ⟨rfl, rfl, ⟨H2.1, H2.2.1, H2.2.2.1, H2.2.2.2.1, H2.2.2.2.2.1, H2.2.2.2.2.2.1, H2.2.2.2.2.2.2.1, LF_ext H2.2.2.2.2.2.2.2 (fun j hj => ?_)⟩, fr2⟩
    show (if j < (σ.sc 0).toNat ∧ _ then _ else _) = if (j : Int) < σ.sc 0 ∧ _ then _ else _
    by_cases e2 : j < (σ.sc 0).toNat ∧ (σ.lk j).op = 0
    · rw [if_pos e2, if_pos ⟨by omega, e2.2⟩]
    · rw [if_neg e2, if_neg (fun e3 => e2 ⟨by omega, e3.2⟩)]
  · refine g_run 6 1 rfl ?_
    refine g_get 7 rfl fl_RX3_11 H2.2.1 rfl ?_
    refine g_run 8 1 rfl ?_
    refine g_aald 9 k rfl rfl H2.2.2.1 (by first | rfl | omega) (by omega) (by decide) ?_
    rw [lkR_at (by omega)]
    have kl15 := H2.2.2.2.2.2.2.2 k (by omega)
    have kl15 : LM M2 (h + 6 + 3 * k) (σ.lk k) := (show (if k < k ∧ (σ.lk k).op = 0 then lTurn (σ.lk k) d 1 else σ.lk k) = σ.lk k from if_neg (by omega)).subst (motive := fun y => LM M2 (h + 6 + 3 * k) y) kl15
    refine g_get 10 rfl fl_RX3_132 kl15.2.1 rfl ?_
    refine g_if_ne 11 34 rfl rfl (by have := (hr.2.2.2.2 k (by omega)).1; show -2147483648 ≤ (σ.lk k).op ∧ (σ.lk k).op ≤ 2147483647; omega) (fun c19 => ?_) (fun c19 => ?_)
    · replace c19 : ¬ (σ.lk k).op = 0 := c19
      refine g_run 20 2 rfl ?_
      refine ih (by omega) M2 ⟨H2.1, H2.2.1, H2.2.2.1, H2.2.2.2.1, H2.2.2.2.2.1, H2.2.2.2.2.2.1, H2.2.2.2.2.2.2.1, LF_ext H2.2.2.2.2.2.2.2 (fun j hj => ?_)⟩ fr2
      by_cases e : j = k
      · subst e
        show (if j < j ∧ _ then _ else _) = _; rw [if_neg (by omega), if_neg (fun e3 => c19 e3.2)]
      · skip
        by_cases e2 : j < k ∧ (σ.lk j).op = 0
        · rw [if_pos e2, if_pos ⟨by omega, e2.2⟩]
        · rw [if_neg e2, if_neg (fun e3 => e2 ⟨by omega, e3.2⟩)]
    · replace c19 : (σ.lk k).op = 0 := c19
      refine g_run 12 1 rfl ?_
      refine g_get 13 rfl fl_RX3_11 H2.2.1 rfl ?_
      refine g_run 14 1 rfl ?_
      refine g_aald 15 k rfl rfl H2.2.2.1 (by first | rfl | omega) (by omega) (by decide) ?_
      rw [lkR_at (by omega)]
      have kl27 := H2.2.2.2.2.2.2.2 k (by omega)
      have kl27 : LM M2 (h + 6 + 3 * k) (σ.lk k) := (show (if k < k ∧ (σ.lk k).op = 0 then lTurn (σ.lk k) d 1 else σ.lk k) = σ.lk k from if_neg (by omega)).subst (motive := fun y => LM M2 (h + 6 + 3 * k) y) kl27
      refine g_run 16 2 rfl ?_
      refine g_callV 18 rfl cv_RX3_150 kl27.2.1 (c_turnBy kl27 (hr.2.2.2.2 k (by omega)) d hd 1 (by omega)) rfl rfl (by decide) (by omega) (by omega) (Nat.le_of_ble_eq_true rfl) (e_kw fun M30 hq30 => ?_) e_kwx
      have k30_this := (hq30.2 h (by omega)).trans H2.2.1
      have k30_this_locks := (hq30.2 (h + 1) (by omega)).trans H2.2.2.1
      have k30_this_ovenDoors := (hq30.2 (h + 2) (by omega)).trans H2.2.2.2.1
      have k30_this_ovenHours := (hq30.2 (h + 3) (by omega)).trans H2.2.2.2.2.1
      have k30_this_triedDoors := (hq30.2 (h + 4) (by omega)).trans H2.2.2.2.2.2.1
      have k30_this_triesOpened := (hq30.2 (h + 5) (by omega)).trans H2.2.2.2.2.2.2.1
      have fr30 := e_fr_tr fr2 (e_fr_w hq30.2 (by omega))
      have k30_LKS := LF_up hq30.2 hq30.1 H2.2.2.2.2.2.2.2
      refine g_run 19 3 rfl ?_
      refine ih (by omega) M30 ⟨H2.1, k30_this, k30_this_locks, k30_this_ovenDoors, k30_this_ovenHours, k30_this_triedDoors, k30_this_triesOpened, LF_ext k30_LKS (fun j hj => ?_)⟩ fr30
      by_cases e : j = k
      · subst e
        rw [va_up_self, if_pos ⟨by omega, c19⟩]
      · rw [va_up_ne _ _ e]
        by_cases e2 : j < k ∧ (σ.lk j).op = 0
        · rw [if_pos e2, if_pos ⟨by omega, e2.2⟩]
        · rw [if_neg e2, if_neg (fun e3 => e2 ⟨by omega, e3.2⟩)]
theorem c_bakeOn (H : HM M h σ) (hr : Hok B σ) (o : Nat) (ho : o < 2) : Ct (e_L r0) Γ mX3_bakeOn 1 0 0 [vR h, vI (o : Int)] M n (e_wr none n fun M' => HM M' h (bakeOn σ o) ∧ e_fr h (h + 24) M M') := by
  have fr0 : e_fr h (h + 24) M M := e_fr_refl
  have q := hr.2.1
  have q0 := hr.1 0 (by decide)
  have q3 := hr.2.2.1 o ho
  refine g_start ok_X3_bakeOn rfl rfl ?_
  refine g_run 0 1 rfl ?_
  refine g_get 1 rfl fl_RX3_17 H.2.1 rfl ?_
  refine g_run 2 1 rfl ?_
  refine g_iald 3 o rfl rfl H.2.2.2.1 (by first | rfl | omega) ho (by decide) ?_
  refine g_run 4 3 rfl ?_
  refine g_callV 7 rfl cv_RX3_119 H.2.1 (c_hasDoor H hr (σ.od o) (by omega)) rfl rfl (by decide) (by omega) (by omega) (Nat.le_of_ble_eq_true rfl) (e_kr ?_) e_kx
  refine g_if_ne 8 16 rfl rfl b_r (fun c12 => ?_) (fun c12 => ?_)
  · replace c12 := b_1.mp c12
    rw [show bakeOn σ o = _ from if_neg (fun e => by have := c12.1; omega)]
    refine g_run 10 1 rfl ?_
    refine g_get 11 rfl fl_RX3_21 H.2.1 rfl ?_
    refine g_run 12 2 rfl ?_
    refine g_iald 14 o rfl rfl H.2.2.2.2.1 (by first | rfl | omega) ho (by decide) ?_
    refine g_run 15 2 rfl ?_
    refine g_iast 17 o rfl rfl (by decide) H.2.2.2.2.1 (by first | rfl | omega) ho (by decide) (fun M25 hM25 => ?_)
    have k25_this := (congrFun hM25 h).trans ((va_up_ne _ _ (by omega)).trans H.2.1)
    have k25_this_locks := (congrFun hM25 (h + 1)).trans ((va_up_ne _ _ (by omega)).trans H.2.2.1)
    have k25_this_ovenDoors := (congrFun hM25 (h + 2)).trans ((va_up_ne _ _ (by omega)).trans H.2.2.2.1)
    have k25_this_ovenHours := (congrFun hM25 (h + 3)).trans (va_up_self _ _ _)
    have k25_this_triedDoors := (congrFun hM25 (h + 4)).trans ((va_up_ne _ _ (by omega)).trans H.2.2.2.2.2.1)
    have k25_this_triesOpened := (congrFun hM25 (h + 5)).trans ((va_up_ne _ _ (by omega)).trans H.2.2.2.2.2.2.1)
    have k25_LKS := LF_fr (e_fr_up (a := (h + 3)) (b := (h + 3) + 1) hM25 (by omega)) (by omega) H.2.2.2.2.2.2.2
    have fr25 := e_fr_tr fr0 (e_fr_up hM25 (by omega))
    refine g_run 18 1 rfl ?_
    refine g_get 19 rfl fl_RX3_21 k25_this rfl ?_
    refine g_run 20 1 rfl ?_
    refine g_iald 21 o rfl rfl k25_this_ovenHours (by first | rfl | omega) ho (by decide) ?_
    rw [va_up_self]
    refine g_if_ne 22 61 rfl rfl (by omega) (fun c32 => ?_) (fun c32 => ?_)
    · rw [if_neg c32]
      exact g_vret 39 rfl rfl ⟨rfl, rfl, ⟨H.1, k25_this, k25_this_locks, k25_this_ovenDoors, k25_this_ovenHours, k25_this_triedDoors, k25_this_triesOpened, k25_LKS⟩, fr25⟩
    · rw [if_pos c32]
      refine g_run 23 1 rfl ?_
      refine g_get 24 rfl fl_RX3_11 k25_this rfl ?_
      refine g_run 25 1 rfl ?_
      refine g_aald 26 (σ.od o).toNat rfl rfl k25_this_locks (Int.toNat_of_nonneg (by omega)).symm (by omega) (by decide) ?_
      rw [lkR_at (by omega)]
      have kl40 := k25_LKS (σ.od o).toNat (by omega)
      refine g_callV 27 rfl cv_RX3_192 kl40.2.1 (c_renew kl40 (hr.2.2.2.2 _ (by omega))) rfl rfl (by decide) (by omega) (by omega) (Nat.le_of_ble_eq_true rfl) (e_kw fun M41 hq41 => ?_) e_kwx
      have k41_this := (hq41.2 h (by omega)).trans k25_this
      have k41_this_locks := (hq41.2 (h + 1) (by omega)).trans k25_this_locks
      have k41_this_ovenDoors := (hq41.2 (h + 2) (by omega)).trans k25_this_ovenDoors
      have k41_this_ovenHours := (hq41.2 (h + 3) (by omega)).trans k25_this_ovenHours
      have k41_this_triedDoors := (hq41.2 (h + 4) (by omega)).trans k25_this_triedDoors
      have k41_this_triesOpened := (hq41.2 (h + 5) (by omega)).trans k25_this_triesOpened
      have fr41 := e_fr_tr fr25 (e_fr_w hq41.2 (by omega))
      have k41_LKS := LF_up hq41.2 hq41.1 k25_LKS
      refine g_run 28 1 rfl ?_
      refine g_get 29 rfl fl_RX3_17 k41_this rfl ?_
      refine g_run 30 2 rfl ?_
      refine g_iast 32 o rfl rfl (by decide) k41_this_ovenDoors (by first | rfl | omega) ho (by decide) (fun M50 hM50 => ?_)
      have k50_this := (congrFun hM50 h).trans ((va_up_ne _ _ (by omega)).trans k41_this)
      have k50_this_locks := (congrFun hM50 (h + 1)).trans ((va_up_ne _ _ (by omega)).trans k41_this_locks)
      have k50_this_ovenDoors := (congrFun hM50 (h + 2)).trans (va_up_self _ _ _)
      have k50_this_ovenHours := (congrFun hM50 (h + 3)).trans ((va_up_ne _ _ (by omega)).trans k41_this_ovenHours)
      have k50_this_triedDoors := (congrFun hM50 (h + 4)).trans ((va_up_ne _ _ (by omega)).trans k41_this_triedDoors)
      have k50_this_triesOpened := (congrFun hM50 (h + 5)).trans ((va_up_ne _ _ (by omega)).trans k41_this_triesOpened)
      have fr50 := e_fr_tr fr41 (e_fr_up hM50 (by omega))
      have k50_LKS := LF_fr (e_fr_up (a := (h + 2)) (b := (h + 2) + 1) hM50 (by omega)) (by omega) k41_LKS
      refine g_run 33 2 rfl ?_
      refine g_get 35 rfl fl_RX3_56 k50_this rfl ?_
      refine g_run 36 2 rfl ?_
      refine g_put 38 rfl fp_RX3_56 k50_this rfl trivial (fun M58 hM58 => ?_)
      have k58_this := (congrFun hM58 h).trans (va_up_self _ _ _)
      have k58_this_locks := (congrFun hM58 (h + 1)).trans ((va_up_ne _ _ (by omega)).trans k50_this_locks)
      have k58_this_ovenDoors := (congrFun hM58 (h + 2)).trans ((va_up_ne _ _ (by omega)).trans k50_this_ovenDoors)
      have k58_this_ovenHours := (congrFun hM58 (h + 3)).trans ((va_up_ne _ _ (by omega)).trans k50_this_ovenHours)
      have k58_this_triedDoors := (congrFun hM58 (h + 4)).trans ((va_up_ne _ _ (by omega)).trans k50_this_triedDoors)
      have k58_this_triesOpened := (congrFun hM58 (h + 5)).trans ((va_up_ne _ _ (by omega)).trans k50_this_triesOpened)
      have fr58 := e_fr_tr fr50 (e_fr_up hM58 (by omega))
      have k58_LKS := LF_fr (e_fr_up (a := h) (b := h + 1) hM58 (by omega)) (by omega) k50_LKS
      exact g_vret 39 rfl rfl ⟨rfl, rfl, ⟨H.1, k58_this, k58_this_locks, k58_this_ovenDoors, k58_this_ovenHours, k58_this_triedDoors, k58_this_triesOpened, k58_LKS⟩, fr58⟩
  · replace c12 := b_0.mp c12
    rw [show bakeOn σ o = _ from if_pos (by omega)]
    exact g_vret 9 rfl rfl ⟨rfl, rfl, H, fr0⟩
theorem Hok_drift (hr : Hok B σ) (d : Nat) : Hok B (drift σ d) := ⟨hr.1, hr.2.1, hr.2.2.1, hr.2.2.2.1, fun k hk => by
  show Lok (if (k : Int) < σ.sc 0 ∧ (σ.lk k).op = 0 then lTurn (σ.lk k) d 1 else σ.lk k)
  split
  · exact Lok_turn (hr.2.2.2.2 k hk) _ _
  · exact hr.2.2.2.2 k hk⟩
theorem Hok_bake1 (hr : Hok B σ) (o : Nat) (ho : o < 2) : Hok (B + 1) (bakeOn σ o) := by
  have hB : B ≤ B + 1 := by omega
  have hs : ∀ i, i < 9 → 0 ≤ σ.sc i ∧ σ.sc i ≤ B + 1 := fun i hi => by have := hr.1 i hi; omega
  have q0 := hr.1 0 (by decide)
  have q3 := hr.2.2.1 o ho
  unfold bakeOn
  split
  · exact ⟨hs, hr.2⟩
  · split
    · refine ⟨sc_up hr.1 hB 8 (by have := hr.1 8 (by decide); omega), hr.2.1, fun j hj => ?_, hr.2.2.2.1, Lok_up hr.2.2.2.2 _ fun hd => Lok_new (hr.2.2.2.2 _ hd)⟩
      have q4 := hr.2.2.1 j hj
      show -1 ≤ va_up σ.od o (-1) j ∧ va_up σ.od o (-1) j ≤ 5 ∧ 0 ≤ va_up σ.oh o (σ.oh o - 1) j ∧ va_up σ.oh o (σ.oh o - 1) j ≤ 6 ∧ (va_up σ.od o (-1) j = -1 ∨ 1 ≤ va_up σ.oh o (σ.oh o - 1) j) ∧ va_up σ.od o (-1) j < σ.sc 0
      by_cases e : j = o
      · subst e; rw [va_up_self, va_up_self]; omega
      · rw [va_up_ne _ _ e, va_up_ne _ _ e]; exact q4
    · refine ⟨hs, hr.2.1, fun j hj => ?_, hr.2.2.2.1, hr.2.2.2.2⟩
      have q4 := hr.2.2.1 j hj
      show -1 ≤ σ.od j ∧ σ.od j ≤ 5 ∧ 0 ≤ va_up σ.oh o (σ.oh o - 1) j ∧ va_up σ.oh o (σ.oh o - 1) j ≤ 6 ∧ (σ.od j = -1 ∨ 1 ≤ va_up σ.oh o (σ.oh o - 1) j) ∧ σ.od j < σ.sc 0
      by_cases e : j = o
      · subst e; rw [va_up_self]; omega
      · rw [va_up_ne _ _ e]; exact q4
theorem Hok_hour1 (hr : Hok B σ) : Hok (B + 1) (hour1 σ) := ⟨sc_up hr.1 (by omega) 2 (by have := hr.1 2 (by decide); omega), hr.2.1, hr.2.2⟩
theorem Hok_hour2 (hr : Hok B σ) : Hok (B + 1) (hour2 σ) := by
  unfold hour2
  split
  · exact Hok_drift (Hok_hour1 hr) _
  · exact Hok_hour1 hr
theorem Hok_hour (hr : Hok B σ) : Hok (B + 3) (doHour σ) := by
  have := Hok_bake1 (Hok_bake1 (Hok_hour2 hr) 0 (by omega)) 1 (by omega)
  rw [show B + 1 + 1 + 1 = B + 3 from by omega] at this
  exact this
theorem Hok_hrs (hr : Hok B σ) : ∀ k : Nat, Hok (B + 3 * k) (doHrs σ k)
  | 0 => by
    rw [show B + 3 * ((0 : Nat) : Int) = B from by omega]
    exact hr
  | k + 1 => by
    rw [show B + 3 * ((k + 1 : Nat) : Int) = B + 3 * k + 3 from by omega]
    exact Hok_hour (Hok_hrs hr k)
/-- the ovens' loop of an hour -/
theorem c_hour9 {Q : Rv → Mem → Nat → Prop} {M : Mem} (H : HM M h σ) (hr : Hok B σ) (hQ : ∀ M', HM M' h (bakeOn (bakeOn σ 0) 1) → e_fr h (h + 24) M M' → Q (.inl none) M' n) (x : Option aV) : G (e_L r0) Γ mX3_letHourPass 2 0 0 Q 35 [some (vR h), x] [] M n 0 0 := by
  refine g_run 20 2 rfl ?_
  refine e_down (P := fun k => ∀ (M' : Mem) (τ : HS), HM M' h τ → e_fr h (h + 24) M M' → Hok (B + k) τ → (k = 0 → τ = σ) → (k = 1 → τ = bakeOn σ 0) → (k = 2 → τ = bakeOn (bakeOn σ 0) 1) → G (e_L r0) Γ mX3_letHourPass 2 0 0 Q 37 [some (vR h), some (vI (k : Int))] [] M' n 0 0) 2 ?_ 0 (by omega) M σ H e_fr_refl (by rw [show B + ((0 : Nat) : Int) = B from by omega]; exact hr) (fun _ => rfl) (fun h => by omega) (fun h => by omega)
  intro k hk ih M2 τ H2 fr2 hr2 e0 e1 e2
  refine g_run 22 2 rfl ?_
  refine g_icmp_ge 24 53 rfl rfl (by omega) (by omega) (fun c39 => ?_) (fun c39 => ?_)
  · obtain rfl : k = 2 := by omega
    exact g_vret 30 rfl rfl (hQ M2 (e2 rfl ▸ H2) fr2)
  · refine g_run 25 2 rfl ?_
    refine g_callV 27 rfl cv_RX3_189 H2.2.1 (c_bakeOn H2 hr2 k (by omega)) rfl rfl (by decide) (by omega) (by omega) (Nat.le_of_ble_eq_true rfl) (e_kw fun M44 hq44 => ?_) e_kwx
    refine g_run 28 2 rfl ?_
    refine ih (by omega) M44 (bakeOn τ k) hq44.1 (e_fr_tr fr2 hq44.2) ?_ (fun h => by omega) (fun h => ?_) (fun h => ?_)
    · have := Hok_bake1 hr2 k (by omega)
      rw [show B + (k : Int) + 1 = B + ((k + 1 : Nat) : Int) from by omega] at this
      exact this
    · obtain rfl : k = 0 := by omega
      rw [e0 rfl]
    · obtain rfl : k = 1 := by omega
      rw [e1 rfl]
theorem c_letHourPass (H : HM M h σ) (hr : Hok B σ) (hB : B ≤ 1900000000) : Ct (e_L r0) Γ mX3_letHourPass 2 0 0 [vR h] M n (e_wr none n fun M' => HM M' h (doHour σ) ∧ e_fr h (h + 24) M M') := by
  have fr0 : e_fr h (h + 24) M M := e_fr_refl
  have q := hr.2.1
  have q0 := hr.1 0 (by decide)
  have q1 := hr.1 1 (by decide)
  have q2 := hr.1 2 (by decide)
  refine g_start ok_X3_letHourPass rfl rfl ?_
  refine g_run 0 2 rfl ?_
  refine g_get 2 rfl fl_RX3_38 H.2.1 rfl ?_
  refine g_run 3 2 rfl ?_
  refine g_put 5 rfl fp_RX3_38 H.2.1 rfl trivial (fun M7 hM7 => ?_)
  have k7_this := (congrFun hM7 h).trans (va_up_self _ _ _)
  have k7_this_locks := (congrFun hM7 (h + 1)).trans ((va_up_ne _ _ (by omega)).trans H.2.2.1)
  have k7_this_ovenDoors := (congrFun hM7 (h + 2)).trans ((va_up_ne _ _ (by omega)).trans H.2.2.2.1)
  have k7_this_ovenHours := (congrFun hM7 (h + 3)).trans ((va_up_ne _ _ (by omega)).trans H.2.2.2.2.1)
  have k7_this_triedDoors := (congrFun hM7 (h + 4)).trans ((va_up_ne _ _ (by omega)).trans H.2.2.2.2.2.1)
  have k7_this_triesOpened := (congrFun hM7 (h + 5)).trans ((va_up_ne _ _ (by omega)).trans H.2.2.2.2.2.2.1)
  have k7_LKS := LF_fr (e_fr_up (a := h) (b := h + 1) hM7 (by omega)) (by omega) H.2.2.2.2.2.2.2
  have fr7 := e_fr_tr fr0 (e_fr_up hM7 (by omega))
  refine g_run 6 1 rfl ?_
  refine g_get 7 rfl fl_RX3_38 k7_this rfl ?_
  refine g_run 8 2 rfl ?_
  refine g_get 10 rfl fl_RX3_35 k7_this rfl ?_
  refine g_run 11 1 rfl ?_
  refine g_irem 12 rfl (by omega) (by omega) ?_
  have m1 := Int.emod_nonneg (σ.sc 2 + 1) (show 10 - σ.sc 1 ≠ 0 by omega)
  have m2 := Int.emod_lt_of_pos (σ.sc 2 + 1) (show 0 < 10 - σ.sc 1 by omega)
  refine g_if_ne 13 35 rfl rfl (by omega) (fun c22 => ?_) (fun c22 => ?_)
  · have e22 : hour2 σ = hour1 σ := if_neg c22
    exact c_hour9 (B := B + 1) (σ := hour1 σ) ⟨H.1, k7_this, k7_this_locks, k7_this_ovenDoors, k7_this_ovenHours, k7_this_triedDoors, k7_this_triesOpened, k7_LKS⟩ (Hok_hour1 hr) (fun M' h1 h2 => ⟨rfl, rfl, by show HM M' h (bakeOn (bakeOn (hour2 σ) 0) 1); rw [e22]; exact h1, e_fr_tr fr7 h2⟩) _
  · have e22 : hour2 σ = drift (hour1 σ) ((σ.sc 2 + 1) % 3).toNat := if_pos c22
    refine g_run 14 2 rfl ?_
    refine g_get 16 rfl fl_RX3_38 k7_this rfl ?_
    refine g_run 17 1 rfl ?_
    refine g_irem 18 rfl (by omega) (by omega) ?_
    rw [show (σ.sc 2 + 1) % 3 = ((((σ.sc 2 + 1) % 3).toNat : Nat) : Int) from by omega]
    refine g_callV 19 rfl cv_RX3_185 k7_this (c_drift (σ := hour1 σ) ⟨H.1, k7_this, k7_this_locks, k7_this_ovenDoors, k7_this_ovenHours, k7_this_triedDoors, k7_this_triesOpened, k7_LKS⟩ (Hok_hour1 hr) ((σ.sc 2 + 1) % 3).toNat (by omega)) rfl rfl (by decide) (by omega) (by omega) (Nat.le_of_ble_eq_true rfl) (e_kw fun M32 hq32 => ?_) e_kwx
    have fr32 := e_fr_tr fr7 (e_fr_w hq32.2 (by omega))
    exact c_hour9 (B := B + 1) (σ := drift (hour1 σ) ((σ.sc 2 + 1) % 3).toNat) hq32.1 (Hok_drift (Hok_hour1 hr) _) (fun M' h1 h2 => ⟨rfl, rfl, by show HM M' h (bakeOn (bakeOn (hour2 σ) 0) 1); rw [e22]; exact h1, e_fr_tr fr32 h2⟩) _
theorem c_letHoursPass (H : HM M h σ) (hr : Hok B σ) (hB : B ≤ 1000000000) (z : Int) (hz : 0 ≤ z ∧ z ≤ 60) : Ct (e_L r0) Γ mX3_letHoursPass 3 0 0 [vR h, vI z] M n (e_wr (some (vI ((doHrs σ z.toNat).sc 8 - σ.sc 8))) n fun M' => HM M' h (doHrs σ z.toNat) ∧ e_fr h (h + 24) M M') := by
  have fr0 : e_fr h (h + 24) M M := e_fr_refl
  have q := hr.2.1
  have q0 := hr.1 0 (by decide)
  refine g_start ok_X3_letHoursPass rfl rfl ?_
  refine g_run 0 1 rfl ?_
  refine g_get 1 rfl fl_RX3_56 H.2.1 rfl ?_
  refine g_run 2 3 rfl ?_
  refine e_down (P := fun k => ∀ M', HM M' h (doHrs σ k) → e_fr h (h + 24) M M' → G (e_L r0) Γ mX3_letHoursPass 3 0 0 _ 7 [some (vR h), some (vI z), some (vI (σ.sc 8)), some (vI (k : Int))] [] M' n 0 0) z.toNat ?_ 0 (by omega) M H fr0
  intro k hk ih M2 H2 fr2
  refine g_run 5 2 rfl ?_
  refine g_icmp_ge 7 22 rfl rfl (by omega) (by omega) (fun c9 => ?_) (fun c9 => ?_)
  · obtain rfl : k = z.toNat := by omega
    refine g_run 12 1 rfl ?_
    refine g_get 13 rfl fl_RX3_56 H2.2.1 rfl ?_
    refine g_run 14 2 rfl ?_
    exact g_iret 16 rfl rfl (by first | exact trivial | exact Or.inl rfl | exact Or.inr rfl | (show _ ∨ _; omega)) ⟨rfl, rfl, H2, fr2⟩
  · refine g_run 8 1 rfl ?_
    refine g_callV 9 rfl cv_RX3_182 H2.2.1 (c_letHourPass H2 (Hok_hrs hr k) (by omega)) rfl rfl (by decide) (by omega) (by omega) (Nat.le_of_ble_eq_true rfl) (e_kw fun M13 hq13 => ?_) e_kwx
    refine g_run 10 2 rfl ?_
    exact ih (by omega) M13 hq13.1 (e_fr_tr fr2 hq13.2)
theorem c_countShut (H : HM M h σ) (hr : Hok B σ) : Ct (e_L r0) Γ mX3_countShut 0 0 0 [vR h] M n (e_rt (.inl (some (vI (nShut σ.lk (σ.sc 0).toNat)))) M n) := by
  have q := hr.2.1
  have q0 := hr.1 0 (by decide)
  refine g_start ok_X3_countShut rfl rfl ?_
  refine g_run 0 4 rfl ?_
  refine e_down (P := fun k => G (e_L r0) Γ mX3_countShut 0 0 0 _ 4 [some (vR h), some (vI (nShut σ.lk k)), some (vI (k : Int))] [] M n 0 0) (σ.sc 0).toNat ?_ 0 (by omega)
  intro k hk ih
  refine g_run 4 2 rfl ?_
  refine g_get 6 rfl fl_RX3_31 H.2.1 rfl ?_
  refine g_icmp_ge 7 33 rfl rfl (by omega) (by omega) (fun c9 => ?_) (fun c9 => ?_)
  · obtain rfl : k = (σ.sc 0).toNat := by omega
    refine g_run 17 1 rfl ?_
    exact g_iret 18 rfl rfl (by first | exact trivial | exact Or.inl rfl | exact Or.inr rfl | (show _ ∨ _; omega)) ⟨rfl, rfl, rfl⟩
  · refine g_run 8 1 rfl ?_
    refine g_get 9 rfl fl_RX3_11 H.2.1 rfl ?_
    refine g_run 10 1 rfl ?_
    refine g_aald 11 k rfl rfl H.2.2.1 (by first | rfl | omega) (by omega) (by decide) ?_
    rw [lkR_at (by omega)]
    have kl17 := H.2.2.2.2.2.2.2 k (by omega)
    refine g_get 12 rfl fl_RX3_132 kl17.2.1 rfl ?_
    refine g_if_ne 13 27 rfl rfl (by have := (hr.2.2.2.2 k (by omega)).1; omega) (fun c21 => ?_) (fun c21 => ?_)
    · have ih9 := ih (by omega)
      rw [show nShut σ.lk (k + 1) = nShut σ.lk k from by rw [nShut, if_neg c21]; omega] at ih9
      refine g_run 15 2 rfl ?_
      exact ih9
    · have ih9 := ih (by omega)
      rw [show nShut σ.lk (k + 1) = nShut σ.lk k + 1 from by rw [nShut, if_pos c21]] at ih9
      refine g_run 14 3 rfl ?_
      exact ih9
def accts (σ : HS) : Int := σ.sc 0 + σ.sc 8 + σ.sc 6 - σ.sc 4 - σ.sc 5 - σ.sc 7
theorem c_countAccounts (H : HM M h σ) : Ct (e_L r0) Γ mX3_countShutByAccounts 0 0 0 [vR h] M n (e_rt (.inl (some (vI (accts σ)))) M n) := by
  refine g_start ok_X3_countShutByAccounts rfl rfl ?_
  refine g_run 0 1 rfl ?_
  refine g_get 1 rfl fl_RX3_31 H.2.1 rfl ?_
  refine g_run 2 1 rfl ?_
  refine g_get 3 rfl fl_RX3_56 H.2.1 rfl ?_
  refine g_run 4 2 rfl ?_
  refine g_get 6 rfl fl_RX3_50 H.2.1 rfl ?_
  refine g_run 7 2 rfl ?_
  refine g_get 9 rfl fl_RX3_44 H.2.1 rfl ?_
  refine g_run 10 2 rfl ?_
  refine g_get 12 rfl fl_RX3_47 H.2.1 rfl ?_
  refine g_run 13 2 rfl ?_
  refine g_get 15 rfl fl_RX3_53 H.2.1 rfl ?_
  refine g_run 16 1 rfl ?_
  exact g_iret 17 rfl rfl (by first | exact trivial | exact Or.inl rfl | exact Or.inr rfl | (show _ ∨ _; omega)) ⟨rfl, rfl, rfl⟩
theorem c_countRemembered (H : HM M h σ) (hr : Hok B σ) (hB : B ≤ 2000000000) : Ct (e_L r0) Γ mX3_countRemembered 0 0 0 [vR h] M n (e_rt (.inl (some (vI (if 10 < σ.sc 3 then 10 else σ.sc 3)))) M n) := by
  have q3 := hr.1 3 (by decide)
  refine g_start ok_X3_countRemembered rfl rfl ?_
  refine g_run 0 1 rfl ?_
  refine g_get 1 rfl fl_RX3_41 H.2.1 rfl ?_
  refine g_run 2 1 rfl ?_
  refine g_min 3 rfl cm_RX3_195 (by omega) (by omega) (Nat.le_of_ble_eq_true rfl) ?_
  exact g_iret 4 rfl rfl (by first | exact trivial | exact Or.inl rfl | exact Or.inr rfl | (show _ ∨ _; omega)) ⟨rfl, rfl, rfl⟩
abbrev before (σ : HS) (d e : Nat) : Prop := (σ.lk d).cr > (σ.lk e).cr ∨ ((σ.lk d).cr = (σ.lk e).cr ∧ (lSteps (σ.lk d) < lSteps (σ.lk e) ∨ (lSteps (σ.lk d) = lSteps (σ.lk e) ∧ d < e)))
def rankN (σ : HS) (d : Nat) : Nat → Int
  | 0 => 0
  | k + 1 => rankN σ d k + (if k ≠ d ∧ before σ k d then 1 else 0)
theorem rankN_rng (σ : HS) (d : Nat) : ∀ k : Nat, 0 ≤ rankN σ d k ∧ rankN σ d k ≤ k
  | 0 => by simp [rankN]
  | k + 1 => by
    have := rankN_rng σ d k
    unfold rankN
    split <;> omega
/-- the state behind the command, and what it returns -/
def run (σ : HS) (c : Nat) (a b x y : Int) : HS := match c with
  | 0 => doDoor σ a b x
  | 1 => doTurn σ a b x
  | 2 => doTry σ a
  | 3 => doShut σ a
  | 4 => doDamp σ a
  | 5 => doBake σ a b
  | 9 => doSet σ a b x y
  | _ => doHrs σ a.toNat
def runV (σ : HS) (c : Nat) (a b x y : Int) : Int := match c with
  | 0 => σ.sc 0
  | 1 => p_turn ((σ.lk a.toNat).dl b.toNat) x
  | 2 => if lFit (σ.lk a.toNat) = 3 then 1 else 0
  | 3 => nShut (doShut σ a).lk (σ.sc 0).toNat
  | 4 => σ.sc 1
  | 5 => 1 + (σ.lk a.toNat).cr / 4
  | 9 => lDiff (σ.lk a.toNat) b x y
  | _ => (doHrs σ a.toNat).sc 8 - σ.sc 8
theorem Hok_shut (hr : Hok B σ) (z : Int) : Hok (B + 1) (doShut σ z) := ⟨sc_up hr.1 (by omega) 6 (by have := hr.1 6 (by decide); omega), hr.2.1, hr.2.2.1, hr.2.2.2.1, Lok_up hr.2.2.2.2 _ fun hd => ⟨Or.inl rfl, (hr.2.2.2.2 _ hd).2⟩⟩
theorem rfDoor_0 {a b c : Int} (h : rfDoor σ a b c = 0) : σ.sc 0 < 6 ∧ isPos a ∧ isPos b ∧ isPos c := by
  unfold rfDoor at h
  by_cases e : isPos a ∧ isPos b ∧ isPos c
  · rw [if_pos e] at h
    by_cases e2 : 6 ≤ σ.sc 0
    · rw [if_pos e2] at h; exact absurd h (by decide)
    · exact ⟨by omega, e⟩
  · rw [if_neg e] at h; exact absurd h (by decide)
theorem rfTurn_0 {z d x : Int} (h : rfTurn σ z d x = 0) : hDoor σ z ∧ (0 ≤ d ∧ d ≤ 2) ∧ (-9 ≤ x ∧ x ≤ 9) ∧ ¬ hOven σ z := by
  unfold rfTurn at h
  (repeat' split at h) <;> first | (exact absurd h (by decide)) | (refine ⟨?_, ?_, ?_, ?_⟩ <;> first | assumption | omega)
theorem rfTry_0 {z : Int} (h : rfTry σ z = 0) : hDoor σ z ∧ (σ.lk z.toNat).op = 0 := by
  unfold rfTry at h
  (repeat' split at h) <;> first | (exact absurd h (by decide)) | (exact ⟨by assumption, by assumption⟩)
theorem rfShut_0 {z : Int} (h : rfShut σ z = 0) : hDoor σ z ∧ ¬ ((σ.lk z.toNat).op = 0 ∨ hOven σ z) ∧ (σ.lk z.toNat).cr ≠ 20 := by
  unfold rfShut at h
  (repeat' split at h) <;> first | (exact absurd h (by decide)) | (exact ⟨by assumption, by assumption, by assumption⟩)
theorem rfBake_0 {z o : Int} (h : rfBake σ z o = 0) : hDoor σ z ∧ (0 ≤ o ∧ o ≤ 1) ∧ ¬ hOven σ z ∧ σ.od o.toNat = -1 := by
  unfold rfBake at h
  by_cases e : hDoor σ z ∧ 0 ≤ o ∧ o ≤ 1
  · rw [if_pos e] at h
    (repeat' split at h) <;> first | (exact absurd h (by decide)) | (exact ⟨e.1, e.2, by assumption, by assumption⟩)
  · rw [if_neg e] at h; exact absurd h (by decide)
theorem rfSet_0 {z a b c : Int} (h : rfSet σ z a b c = 0) : hDoor σ z ∧ (isPos a ∧ isPos b ∧ isPos c) ∧ ¬ ((σ.lk z.toNat).op = 0 ∨ hOven σ z) := by
  unfold rfSet at h
  (repeat' split at h) <;> first | (exact absurd h (by decide)) | (exact ⟨by assumption, by assumption, by assumption⟩)
theorem rfDamp_0 {a : Int} (h : rfDamp a = 0) : 0 ≤ a ∧ a ≤ 9 := by
  unfold rfDamp at h
  split at h
  · exact absurd h (by decide)
  · omega
theorem rfHours_0 {a : Int} (h : rfHours a = 0) : 1 ≤ a ∧ a ≤ 60 := by
  unfold rfHours at h
  split at h
  · exact absurd h (by decide)
  · omega
theorem c_shutDoor (H : HM M h σ) (hr : Hok B σ) (a : Int) (h0 : hDoor σ a ∧ ¬ ((σ.lk a.toNat).op = 0 ∨ hOven σ a) ∧ (σ.lk a.toNat).cr ≠ 20) : Ct (e_L r0) Γ mX3_shutDoor 1 0 0 [vR h, vI a] M n (e_wr (some (vI (nShut (doShut σ a).lk ((doShut σ a).sc 0).toNat))) n fun M' => HM M' h (doShut σ a) ∧ e_fr h (h + 24) M M') := by
  have fr0 : e_fr h (h + 24) M M := e_fr_refl
  have q := hr.2.1
  have q0 := hr.1 0 (by decide)
  refine g_start ok_X3_shutDoor rfl rfl ?_
  refine g_run 0 1 rfl ?_
  refine g_get 1 rfl fl_RX3_11 H.2.1 rfl ?_
  refine g_run 2 1 rfl ?_
  refine g_aald 3 a.toNat rfl rfl H.2.2.1 (Int.toNat_of_nonneg (by omega)).symm (by omega) (by decide) ?_
  rw [lkR_at (by omega)]
  have kl5 := H.2.2.2.2.2.2.2 a.toNat (by omega)
  refine g_run 4 1 rfl ?_
  refine g_put 5 rfl fp_RX3_132 kl5.2.1 rfl (by show _ ∨ _; first | exact Or.inl rfl | exact Or.inr rfl | omega) (fun M7 hM7 => ?_)
  have k7_this := (congrFun hM7 h).trans ((va_up_ne _ _ (by omega)).trans H.2.1)
  have k7_this_locks := (congrFun hM7 (h + 1)).trans ((va_up_ne _ _ (by omega)).trans H.2.2.1)
  have k7_this_ovenDoors := (congrFun hM7 (h + 2)).trans ((va_up_ne _ _ (by omega)).trans H.2.2.2.1)
  have k7_this_ovenHours := (congrFun hM7 (h + 3)).trans ((va_up_ne _ _ (by omega)).trans H.2.2.2.2.1)
  have k7_this_triedDoors := (congrFun hM7 (h + 4)).trans ((va_up_ne _ _ (by omega)).trans H.2.2.2.2.2.1)
  have k7_this_triesOpened := (congrFun hM7 (h + 5)).trans ((va_up_ne _ _ (by omega)).trans H.2.2.2.2.2.2.1)
  have fr7 := e_fr_tr fr0 (e_fr_up hM7 (by omega))
  have k7_lk := (congrFun hM7 (h + 6 + 3 * a.toNat)).trans (va_up_self _ _ _)
  have k7_lk_dials := (congrFun hM7 ((h + 6 + 3 * a.toNat) + 1)).trans ((va_up_ne _ _ (by omega)).trans kl5.2.2.1)
  have k7_lk_combination := (congrFun hM7 ((h + 6 + 3 * a.toNat) + 2)).trans ((va_up_ne _ _ (by omega)).trans kl5.2.2.2)
  have kL7 : LM M7 (h + 6 + 3 * a.toNat) (0, (σ.lk a.toNat).cr, (σ.lk a.toNat).dl, (σ.lk a.toNat).cb) := ⟨kl5.1, k7_lk, k7_lk_dials, k7_lk_combination⟩
  have k7_LKS := LF_up (e_fr_up hM7 (by omega)) kL7 H.2.2.2.2.2.2.2
  refine g_run 6 2 rfl ?_
  refine g_get 8 rfl fl_RX3_50 k7_this rfl ?_
  refine g_run 9 2 rfl ?_
  refine g_put 11 rfl fp_RX3_50 k7_this rfl trivial (fun M17 hM17 => ?_)
  have k17_this := (congrFun hM17 h).trans (va_up_self _ _ _)
  have k17_this_locks := (congrFun hM17 (h + 1)).trans ((va_up_ne _ _ (by omega)).trans k7_this_locks)
  have k17_this_ovenDoors := (congrFun hM17 (h + 2)).trans ((va_up_ne _ _ (by omega)).trans k7_this_ovenDoors)
  have k17_this_ovenHours := (congrFun hM17 (h + 3)).trans ((va_up_ne _ _ (by omega)).trans k7_this_ovenHours)
  have k17_this_triedDoors := (congrFun hM17 (h + 4)).trans ((va_up_ne _ _ (by omega)).trans k7_this_triedDoors)
  have k17_this_triesOpened := (congrFun hM17 (h + 5)).trans ((va_up_ne _ _ (by omega)).trans k7_this_triesOpened)
  have fr17 := e_fr_tr fr7 (e_fr_up hM17 (by omega))
  have k17_lk := (congrFun hM17 (h + 6 + 3 * a.toNat)).trans ((va_up_ne _ _ (by omega)).trans k7_lk)
  have k17_lk_dials := (congrFun hM17 ((h + 6 + 3 * a.toNat) + 1)).trans ((va_up_ne _ _ (by omega)).trans k7_lk_dials)
  have k17_lk_combination := (congrFun hM17 ((h + 6 + 3 * a.toNat) + 2)).trans ((va_up_ne _ _ (by omega)).trans k7_lk_combination)
  have k17_LKS := LF_fr (e_fr_up (a := h) (b := h + 1) hM17 (by omega)) (by omega) k7_LKS
  have k17_lk_LM := LM_fr (e_fr_up (a := h) (b := h + 1) hM17 (by omega)) (by omega) kL7
  refine g_run 12 1 rfl ?_
  refine g_callV 13 rfl cv_RX3_176 k17_this (c_countShut (σ := doShut σ a) ⟨H.1, k17_this, k17_this_locks, k17_this_ovenDoors, k17_this_ovenHours, k17_this_triedDoors, k17_this_triesOpened, k17_LKS⟩ (Hok_shut hr a)) rfl rfl (by decide) (by omega) (by omega) (Nat.le_of_ble_eq_true rfl) (e_kr ?_) e_kx
  exact g_iret 14 rfl rfl (by first | exact trivial | exact Or.inl rfl | exact Or.inr rfl | (show _ ∨ _; omega)) ⟨rfl, rfl, ⟨H.1, k17_this, k17_this_locks, k17_this_ovenDoors, k17_this_ovenHours, k17_this_triedDoors, k17_this_triesOpened, k17_LKS⟩, fr17⟩
theorem c_carry0 (hK : KM Γ) (H : HM M h σ) (hr : Hok B σ) (hB : B ≤ 1000000000) (a b x y : Int) (h0 : rfDoor σ a b x = 0) : Ct (e_L r0) Γ mX3_carryOut 4 0 0 [vR h, vR 0, vI a, vI b, vI x, vI y] M n (e_wr (some (vI (runV σ 0 a b x y))) n fun M' => HM M' h (run σ 0 a b x y) ∧ e_fr h (h + 24) M M') := by
  have fr0 : e_fr h (h + 24) M M := e_fr_refl
  have q := hr.2.1
  have q0 := hr.1 0 (by decide)
  have h0 := rfDoor_0 h0
  refine g_start ok_X3_carryOut rfl rfl ?_
  refine g_low (fun hl => ?_)
  refine g_gets 0 rfl (by exact List.mem_of_getElem? (i := 16) rfl) fs_RX3_70 ?_
  refine g_run 1 1 rfl ?_
  refine g_callU 2 rfl cu_RX3_75 (k_cmd hK hl 0 (by decide)) (c_ordC (o := 0) (k_cmd hK hl 0 (by decide)) (by decide)) rfl rfl (by decide) (by omega) (by omega) (Nat.le_of_ble_eq_true rfl) (e_kr ?_) e_kx
  refine g_iald 3 0 rfl rfl (k_swC hK hl) (by first | rfl | omega) (by omega) (by decide) ?_
  refine g_tsw 52 0 dw_X3_carryOut_8 rfl (by decide) (by decide) rfl rfl ?_
  refine g_run 4 4 rfl ?_
  refine g_callV 8 rfl cv_RX3_146 H.2.1 (c_addLock H hr (by omega) a b x h0.1 h0.2.1 h0.2.2.1 h0.2.2.2) rfl rfl (by decide) (by omega) (by omega) (Nat.le_of_ble_eq_true rfl) (e_kw fun M57 hq57 => ?_) e_kwx
  have fr57 := e_fr_tr fr0 (e_fr_w hq57.2 (by omega))
  exact g_iret 9 rfl rfl (by first | exact trivial | exact Or.inl rfl | exact Or.inr rfl | (show _ ∨ _; omega)) ⟨rfl, rfl, hq57.1, hq57.2⟩
theorem c_carry1 (hK : KM Γ) (H : HM M h σ) (hr : Hok B σ) (hB : B ≤ 1000000000) (a b x y : Int) (h0 : rfTurn σ a b x = 0) : Ct (e_L r0) Γ mX3_carryOut 4 0 0 [vR h, vR 1, vI a, vI b, vI x, vI y] M n (e_wr (some (vI (runV σ 1 a b x y))) n fun M' => HM M' h (run σ 1 a b x y) ∧ e_fr h (h + 24) M M') := by
  have fr0 : e_fr h (h + 24) M M := e_fr_refl
  have q := hr.2.1
  have q0 := hr.1 0 (by decide)
  have h0 := rfTurn_0 h0
  refine g_start ok_X3_carryOut rfl rfl ?_
  refine g_low (fun hl => ?_)
  refine g_gets 0 rfl (by exact List.mem_of_getElem? (i := 16) rfl) fs_RX3_70 ?_
  refine g_run 1 1 rfl ?_
  refine g_callU 2 rfl cu_RX3_75 (k_cmd hK hl 1 (by decide)) (c_ordC (o := 1) (k_cmd hK hl 1 (by decide)) (by decide)) rfl rfl (by decide) (by omega) (by omega) (Nat.le_of_ble_eq_true rfl) (e_kr ?_) e_kx
  refine g_iald 3 1 rfl rfl (k_swC hK hl) (by first | rfl | omega) (by omega) (by decide) ?_
  refine g_tsw 61 1 dw_X3_carryOut_8 rfl (by decide) (by decide) rfl rfl ?_
  refine g_run 10 1 rfl ?_
  refine g_get 11 rfl fl_RX3_11 H.2.1 rfl ?_
  refine g_run 12 1 rfl ?_
  refine g_aald 13 a.toNat rfl rfl H.2.2.1 (Int.toNat_of_nonneg (by omega)).symm (by omega) (by decide) ?_
  rw [lkR_at (by omega)]
  have kl66 := H.2.2.2.2.2.2.2 a.toNat (by omega)
  refine g_run 14 2 rfl ?_
  rw [show vI b = vI ((b.toNat : Nat) : Int) from congrArg (fun z : Int => (vI z : aV)) (Int.toNat_of_nonneg h0.2.1.1).symm]
  refine g_callV 16 rfl cv_RX3_150 kl66.2.1 (c_turnBy kl66 (hr.2.2.2.2 _ (by omega)) b.toNat (by omega) x h0.2.2.1) rfl rfl (by decide) (by omega) (by omega) (Nat.le_of_ble_eq_true rfl) (e_kw fun M70 hq70 => ?_) e_kwx
  have k70_this := (hq70.2 h (by omega)).trans H.2.1
  have k70_this_locks := (hq70.2 (h + 1) (by omega)).trans H.2.2.1
  have k70_this_ovenDoors := (hq70.2 (h + 2) (by omega)).trans H.2.2.2.1
  have k70_this_ovenHours := (hq70.2 (h + 3) (by omega)).trans H.2.2.2.2.1
  have k70_this_triedDoors := (hq70.2 (h + 4) (by omega)).trans H.2.2.2.2.2.1
  have k70_this_triesOpened := (hq70.2 (h + 5) (by omega)).trans H.2.2.2.2.2.2.1
  have fr70 := e_fr_tr fr0 (e_fr_w hq70.2 (by omega))
  have k70_LKS := LF_up hq70.2 hq70.1 H.2.2.2.2.2.2.2
  exact g_iret 17 rfl rfl (by first | exact trivial | exact Or.inl rfl | exact Or.inr rfl | (show _ ∨ _; omega)) ⟨rfl, rfl, ⟨H.1, k70_this, k70_this_locks, k70_this_ovenDoors, k70_this_ovenHours, k70_this_triedDoors, k70_this_triesOpened, k70_LKS⟩, fr70⟩
theorem c_carry2 (hK : KM Γ) (H : HM M h σ) (hr : Hok B σ) (hB : B ≤ 1000000000) (a b x y : Int) (h0 : rfTry σ a = 0) : Ct (e_L r0) Γ mX3_carryOut 4 0 0 [vR h, vR 2, vI a, vI b, vI x, vI y] M n (e_wr (some (vI (runV σ 2 a b x y))) n fun M' => HM M' h (run σ 2 a b x y) ∧ e_fr h (h + 24) M M') := by
  have fr0 : e_fr h (h + 24) M M := e_fr_refl
  have q := hr.2.1
  have q0 := hr.1 0 (by decide)
  have h0 := rfTry_0 h0
  refine g_start ok_X3_carryOut rfl rfl ?_
  refine g_low (fun hl => ?_)
  refine g_gets 0 rfl (by exact List.mem_of_getElem? (i := 16) rfl) fs_RX3_70 ?_
  refine g_run 1 1 rfl ?_
  refine g_callU 2 rfl cu_RX3_75 (k_cmd hK hl 2 (by decide)) (c_ordC (o := 2) (k_cmd hK hl 2 (by decide)) (by decide)) rfl rfl (by decide) (by omega) (by omega) (Nat.le_of_ble_eq_true rfl) (e_kr ?_) e_kx
  refine g_iald 3 2 rfl rfl (k_swC hK hl) (by first | rfl | omega) (by omega) (by decide) ?_
  refine g_tsw 74 2 dw_X3_carryOut_8 rfl (by decide) (by decide) rfl rfl ?_
  refine g_run 18 2 rfl ?_
  refine g_callV 20 rfl cv_RX3_154 H.2.1 (c_tryDoor H hr (by omega) a h0.1) rfl rfl (by decide) (by omega) (by omega) (Nat.le_of_ble_eq_true rfl) (e_kw fun M76 hq76 => ?_) e_kwx
  have fr76 := e_fr_tr fr0 (e_fr_w hq76.2 (by omega))
  refine g_if_eq 21 86 rfl rfl b_r (fun c79 => ?_) (fun c79 => ?_)
  · replace c79 := b_0.mp c79
    refine g_run 24 1 rfl ?_
    exact g_iret 25 rfl rfl (by first | exact trivial | exact Or.inl rfl | exact Or.inr rfl | (show _ ∨ _; omega)) ⟨congrArg (fun z : Int => (Sum.inl (some (vI z)) : Rv)) (if_neg c79).symm, rfl, hq76.1, hq76.2⟩
  · replace c79 := b_1.mp c79
    refine g_run 22 2 rfl ?_
    exact g_iret 25 rfl rfl (by first | exact trivial | exact Or.inl rfl | exact Or.inr rfl | (show _ ∨ _; omega)) ⟨congrArg (fun z : Int => (Sum.inl (some (vI z)) : Rv)) (if_pos c79).symm, rfl, hq76.1, hq76.2⟩
theorem c_carry3 (hK : KM Γ) (H : HM M h σ) (hr : Hok B σ) (hB : B ≤ 1000000000) (a b x y : Int) (h0 : rfShut σ a = 0) : Ct (e_L r0) Γ mX3_carryOut 4 0 0 [vR h, vR 3, vI a, vI b, vI x, vI y] M n (e_wr (some (vI (runV σ 3 a b x y))) n fun M' => HM M' h (run σ 3 a b x y) ∧ e_fr h (h + 24) M M') := by
  have fr0 : e_fr h (h + 24) M M := e_fr_refl
  have q := hr.2.1
  have q0 := hr.1 0 (by decide)
  have h0 := rfShut_0 h0
  refine g_start ok_X3_carryOut rfl rfl ?_
  refine g_low (fun hl => ?_)
  refine g_gets 0 rfl (by exact List.mem_of_getElem? (i := 16) rfl) fs_RX3_70 ?_
  refine g_run 1 1 rfl ?_
  refine g_callU 2 rfl cu_RX3_75 (k_cmd hK hl 3 (by decide)) (c_ordC (o := 3) (k_cmd hK hl 3 (by decide)) (by decide)) rfl rfl (by decide) (by omega) (by omega) (Nat.le_of_ble_eq_true rfl) (e_kr ?_) e_kx
  refine g_iald 3 3 rfl rfl (k_swC hK hl) (by first | rfl | omega) (by omega) (by decide) ?_
  refine g_tsw 88 3 dw_X3_carryOut_8 rfl (by decide) (by decide) rfl rfl ?_
  refine g_run 26 2 rfl ?_
  refine g_callV 28 rfl cv_RX3_157 H.2.1 (c_shutDoor H hr a h0) rfl rfl (by decide) (by omega) (by omega) (Nat.le_of_ble_eq_true rfl) (e_kw fun M90 hq90 => ?_) e_kwx
  have fr90 := e_fr_tr fr0 (e_fr_w hq90.2 (by omega))
  exact g_iret 29 rfl rfl (by first | exact trivial | exact Or.inl rfl | exact Or.inr rfl | (show _ ∨ _; omega)) ⟨rfl, rfl, hq90.1, hq90.2⟩
theorem c_carry4 (hK : KM Γ) (H : HM M h σ) (hr : Hok B σ) (hB : B ≤ 1000000000) (a b x y : Int) (h0 : rfDamp a = 0) : Ct (e_L r0) Γ mX3_carryOut 4 0 0 [vR h, vR 4, vI a, vI b, vI x, vI y] M n (e_wr (some (vI (runV σ 4 a b x y))) n fun M' => HM M' h (run σ 4 a b x y) ∧ e_fr h (h + 24) M M') := by
  have fr0 : e_fr h (h + 24) M M := e_fr_refl
  have q := hr.2.1
  have q0 := hr.1 0 (by decide)
  have h0 := rfDamp_0 h0
  refine g_start ok_X3_carryOut rfl rfl ?_
  refine g_low (fun hl => ?_)
  refine g_gets 0 rfl (by exact List.mem_of_getElem? (i := 16) rfl) fs_RX3_70 ?_
  refine g_run 1 1 rfl ?_
  refine g_callU 2 rfl cu_RX3_75 (k_cmd hK hl 4 (by decide)) (c_ordC (o := 4) (k_cmd hK hl 4 (by decide)) (by decide)) rfl rfl (by decide) (by omega) (by omega) (Nat.le_of_ble_eq_true rfl) (e_kr ?_) e_kx
  refine g_iald 3 4 rfl rfl (k_swC hK hl) (by first | rfl | omega) (by omega) (by decide) ?_
  refine g_tsw 94 4 dw_X3_carryOut_8 rfl (by decide) (by decide) rfl rfl ?_
  refine g_run 30 2 rfl ?_
  refine g_callV 32 rfl cv_RX3_161 H.2.1 (c_replaceDamp H hr a) rfl rfl (by decide) (by omega) (by omega) (Nat.le_of_ble_eq_true rfl) (e_kw fun M96 hq96 => ?_) e_kwx
  have fr96 := e_fr_tr fr0 (e_fr_w hq96.2 (by omega))
  exact g_iret 33 rfl rfl (by first | exact trivial | exact Or.inl rfl | exact Or.inr rfl | (show _ ∨ _; omega)) ⟨rfl, rfl, hq96.1, hq96.2⟩
theorem c_carry5 (hK : KM Γ) (H : HM M h σ) (hr : Hok B σ) (hB : B ≤ 1000000000) (a b x y : Int) (h0 : rfBake σ a b = 0) : Ct (e_L r0) Γ mX3_carryOut 4 0 0 [vR h, vR 5, vI a, vI b, vI x, vI y] M n (e_wr (some (vI (runV σ 5 a b x y))) n fun M' => HM M' h (run σ 5 a b x y) ∧ e_fr h (h + 24) M M') := by
  have fr0 : e_fr h (h + 24) M M := e_fr_refl
  have q := hr.2.1
  have q0 := hr.1 0 (by decide)
  have h0 := rfBake_0 h0
  refine g_start ok_X3_carryOut rfl rfl ?_
  refine g_low (fun hl => ?_)
  refine g_gets 0 rfl (by exact List.mem_of_getElem? (i := 16) rfl) fs_RX3_70 ?_
  refine g_run 1 1 rfl ?_
  refine g_callU 2 rfl cu_RX3_75 (k_cmd hK hl 5 (by decide)) (c_ordC (o := 5) (k_cmd hK hl 5 (by decide)) (by decide)) rfl rfl (by decide) (by omega) (by omega) (Nat.le_of_ble_eq_true rfl) (e_kr ?_) e_kx
  refine g_iald 3 5 rfl rfl (k_swC hK hl) (by first | rfl | omega) (by omega) (by decide) ?_
  refine g_tsw 100 5 dw_X3_carryOut_8 rfl (by decide) (by decide) rfl rfl ?_
  refine g_run 34 3 rfl ?_
  refine g_callV 37 rfl cv_RX3_164 H.2.1 (c_putIn H hr a b h0.1 h0.2.1) rfl rfl (by decide) (by omega) (by omega) (Nat.le_of_ble_eq_true rfl) (e_kw fun M103 hq103 => ?_) e_kwx
  have fr103 := e_fr_tr fr0 (e_fr_w hq103.2 (by omega))
  exact g_iret 38 rfl rfl (by first | exact trivial | exact Or.inl rfl | exact Or.inr rfl | (show _ ∨ _; omega)) ⟨rfl, rfl, hq103.1, hq103.2⟩
theorem c_carry6 (hK : KM Γ) (H : HM M h σ) (hr : Hok B σ) (hB : B ≤ 1000000000) (a b x y : Int) (h0 : rfHours a = 0) : Ct (e_L r0) Γ mX3_carryOut 4 0 0 [vR h, vR 6, vI a, vI b, vI x, vI y] M n (e_wr (some (vI (runV σ 6 a b x y))) n fun M' => HM M' h (run σ 6 a b x y) ∧ e_fr h (h + 24) M M') := by
  have fr0 : e_fr h (h + 24) M M := e_fr_refl
  have q := hr.2.1
  have q0 := hr.1 0 (by decide)
  have h0 := rfHours_0 h0
  refine g_start ok_X3_carryOut rfl rfl ?_
  refine g_low (fun hl => ?_)
  refine g_gets 0 rfl (by exact List.mem_of_getElem? (i := 16) rfl) fs_RX3_70 ?_
  refine g_run 1 1 rfl ?_
  refine g_callU 2 rfl cu_RX3_75 (k_cmd hK hl 6 (by decide)) (c_ordC (o := 6) (k_cmd hK hl 6 (by decide)) (by decide)) rfl rfl (by decide) (by omega) (by omega) (Nat.le_of_ble_eq_true rfl) (e_kr ?_) e_kx
  refine g_iald 3 6 rfl rfl (k_swC hK hl) (by first | rfl | omega) (by omega) (by decide) ?_
  refine g_tswD 122 dw_X3_carryOut_8 (by decide) (by decide) rfl ?_
  refine g_run 48 2 rfl ?_
  refine g_callV 50 rfl cv_RX3_170 H.2.1 (c_letHoursPass H hr (by omega) a (by omega)) rfl rfl (by decide) (by omega) (by omega) (Nat.le_of_ble_eq_true rfl) (e_kw fun M124 hq124 => ?_) e_kwx
  have fr124 := e_fr_tr fr0 (e_fr_w hq124.2 (by omega))
  exact g_iret 51 rfl rfl (by first | exact trivial | exact Or.inl rfl | exact Or.inr rfl | (show _ ∨ _; omega)) ⟨rfl, rfl, hq124.1, hq124.2⟩
theorem c_carry7 (hK : KM Γ) (H : HM M h σ) (hr : Hok B σ) (hB : B ≤ 1000000000) (a b x y : Int) (h0 : rfHours a = 0) : Ct (e_L r0) Γ mX3_carryOut 4 0 0 [vR h, vR 7, vI a, vI b, vI x, vI y] M n (e_wr (some (vI (runV σ 7 a b x y))) n fun M' => HM M' h (run σ 7 a b x y) ∧ e_fr h (h + 24) M M') := by
  have fr0 : e_fr h (h + 24) M M := e_fr_refl
  have q := hr.2.1
  have q0 := hr.1 0 (by decide)
  have h0 := rfHours_0 h0
  refine g_start ok_X3_carryOut rfl rfl ?_
  refine g_low (fun hl => ?_)
  refine g_gets 0 rfl (by exact List.mem_of_getElem? (i := 16) rfl) fs_RX3_70 ?_
  refine g_run 1 1 rfl ?_
  refine g_callU 2 rfl cu_RX3_75 (k_cmd hK hl 7 (by decide)) (c_ordC (o := 7) (k_cmd hK hl 7 (by decide)) (by decide)) rfl rfl (by decide) (by omega) (by omega) (Nat.le_of_ble_eq_true rfl) (e_kr ?_) e_kx
  refine g_iald 3 7 rfl rfl (k_swC hK hl) (by first | rfl | omega) (by omega) (by decide) ?_
  refine g_tswD 122 dw_X3_carryOut_8 (by decide) (by decide) rfl ?_
  refine g_run 48 2 rfl ?_
  refine g_callV 50 rfl cv_RX3_170 H.2.1 (c_letHoursPass H hr (by omega) a (by omega)) rfl rfl (by decide) (by omega) (by omega) (Nat.le_of_ble_eq_true rfl) (e_kw fun M124 hq124 => ?_) e_kwx
  have fr124 := e_fr_tr fr0 (e_fr_w hq124.2 (by omega))
  exact g_iret 51 rfl rfl (by first | exact trivial | exact Or.inl rfl | exact Or.inr rfl | (show _ ∨ _; omega)) ⟨rfl, rfl, hq124.1, hq124.2⟩
theorem c_carry8 (hK : KM Γ) (H : HM M h σ) (hr : Hok B σ) (hB : B ≤ 1000000000) (a b x y : Int) (h0 : rfHours a = 0) : Ct (e_L r0) Γ mX3_carryOut 4 0 0 [vR h, vR 8, vI a, vI b, vI x, vI y] M n (e_wr (some (vI (runV σ 8 a b x y))) n fun M' => HM M' h (run σ 8 a b x y) ∧ e_fr h (h + 24) M M') := by
  have fr0 : e_fr h (h + 24) M M := e_fr_refl
  have q := hr.2.1
  have q0 := hr.1 0 (by decide)
  have h0 := rfHours_0 h0
  refine g_start ok_X3_carryOut rfl rfl ?_
  refine g_low (fun hl => ?_)
  refine g_gets 0 rfl (by exact List.mem_of_getElem? (i := 16) rfl) fs_RX3_70 ?_
  refine g_run 1 1 rfl ?_
  refine g_callU 2 rfl cu_RX3_75 (k_cmd hK hl 8 (by decide)) (c_ordC (o := 8) (k_cmd hK hl 8 (by decide)) (by decide)) rfl rfl (by decide) (by omega) (by omega) (Nat.le_of_ble_eq_true rfl) (e_kr ?_) e_kx
  refine g_iald 3 8 rfl rfl (k_swC hK hl) (by first | rfl | omega) (by omega) (by decide) ?_
  refine g_tswD 122 dw_X3_carryOut_8 (by decide) (by decide) rfl ?_
  refine g_run 48 2 rfl ?_
  refine g_callV 50 rfl cv_RX3_170 H.2.1 (c_letHoursPass H hr (by omega) a (by omega)) rfl rfl (by decide) (by omega) (by omega) (Nat.le_of_ble_eq_true rfl) (e_kw fun M124 hq124 => ?_) e_kwx
  have fr124 := e_fr_tr fr0 (e_fr_w hq124.2 (by omega))
  exact g_iret 51 rfl rfl (by first | exact trivial | exact Or.inl rfl | exact Or.inr rfl | (show _ ∨ _; omega)) ⟨rfl, rfl, hq124.1, hq124.2⟩
theorem c_carry9 (hK : KM Γ) (H : HM M h σ) (hr : Hok B σ) (hB : B ≤ 1000000000) (a b x y : Int) (h0 : rfSet σ a b x y = 0) : Ct (e_L r0) Γ mX3_carryOut 4 0 0 [vR h, vR 9, vI a, vI b, vI x, vI y] M n (e_wr (some (vI (runV σ 9 a b x y))) n fun M' => HM M' h (run σ 9 a b x y) ∧ e_fr h (h + 24) M M') := by
  have fr0 : e_fr h (h + 24) M M := e_fr_refl
  have q := hr.2.1
  have q0 := hr.1 0 (by decide)
  have h0 := rfSet_0 h0
  refine g_start ok_X3_carryOut rfl rfl ?_
  refine g_low (fun hl => ?_)
  refine g_gets 0 rfl (by exact List.mem_of_getElem? (i := 16) rfl) fs_RX3_70 ?_
  refine g_run 1 1 rfl ?_
  refine g_callU 2 rfl cu_RX3_75 (k_cmd hK hl 9 (by decide)) (c_ordC (o := 9) (k_cmd hK hl 9 (by decide)) (by decide)) rfl rfl (by decide) (by omega) (by omega) (Nat.le_of_ble_eq_true rfl) (e_kr ?_) e_kx
  refine g_iald 3 9 rfl rfl (k_swC hK hl) (by first | rfl | omega) (by omega) (by decide) ?_
  refine g_tsw 107 6 dw_X3_carryOut_8 rfl (by decide) (by decide) rfl rfl ?_
  refine g_run 39 1 rfl ?_
  refine g_get 40 rfl fl_RX3_11 H.2.1 rfl ?_
  refine g_run 41 1 rfl ?_
  refine g_aald 42 a.toNat rfl rfl H.2.2.1 (Int.toNat_of_nonneg (by omega)).symm (by omega) (by decide) ?_
  rw [lkR_at (by omega)]
  have kl112 := H.2.2.2.2.2.2.2 a.toNat (by omega)
  refine g_run 43 3 rfl ?_
  refine g_callV 46 rfl cv_RX3_167 kl112.2.1 (c_setPositions kl112 (hr.2.2.2.2 _ (by omega)) b x y h0.2.1.1 h0.2.1.2.1 h0.2.1.2.2) rfl rfl (by decide) (by omega) (by omega) (Nat.le_of_ble_eq_true rfl) (e_kw fun M118 hq118 => ?_) e_kwx
  have k118_this := (hq118.2 h (by omega)).trans H.2.1
  have k118_this_locks := (hq118.2 (h + 1) (by omega)).trans H.2.2.1
  have k118_this_ovenDoors := (hq118.2 (h + 2) (by omega)).trans H.2.2.2.1
  have k118_this_ovenHours := (hq118.2 (h + 3) (by omega)).trans H.2.2.2.2.1
  have k118_this_triedDoors := (hq118.2 (h + 4) (by omega)).trans H.2.2.2.2.2.1
  have k118_this_triesOpened := (hq118.2 (h + 5) (by omega)).trans H.2.2.2.2.2.2.1
  have fr118 := e_fr_tr fr0 (e_fr_w hq118.2 (by omega))
  have k118_LKS := LF_up hq118.2 hq118.1 H.2.2.2.2.2.2.2
  exact g_iret 47 rfl rfl (by first | exact trivial | exact Or.inl rfl | exact Or.inr rfl | (show _ ∨ _; omega)) ⟨rfl, rfl, ⟨H.1, k118_this, k118_this_locks, k118_this_ovenDoors, k118_this_ovenHours, k118_this_triedDoors, k118_this_triesOpened, k118_LKS⟩, fr118⟩
theorem c_carryOut (hK : KM Γ) (H : HM M h σ) (hr : Hok B σ) (hB : B ≤ 1000000000) (c : Nat) (hc : c < 10) (a b x y : Int) (h0 : rf σ c a b x y = 0) : Ct (e_L r0) Γ mX3_carryOut 4 0 0 [vR h, vR c, vI a, vI b, vI x, vI y] M n (e_wr (some (vI (runV σ c a b x y))) n fun M' => HM M' h (run σ c a b x y) ∧ e_fr h (h + 24) M M') := by
  match c, hc, h0 with
  | 0, _, h0 => exact c_carry0 hK H hr hB a b x y h0
  | 1, _, h0 => exact c_carry1 hK H hr hB a b x y h0
  | 2, _, h0 => exact c_carry2 hK H hr hB a b x y h0
  | 3, _, h0 => exact c_carry3 hK H hr hB a b x y h0
  | 4, _, h0 => exact c_carry4 hK H hr hB a b x y h0
  | 5, _, h0 => exact c_carry5 hK H hr hB a b x y h0
  | 6, _, h0 => exact c_carry6 hK H hr hB a b x y h0
  | 7, _, h0 => exact c_carry7 hK H hr hB a b x y h0
  | 8, _, h0 => exact c_carry8 hK H hr hB a b x y h0
  | 9, _, h0 => exact c_carry9 hK H hr hB a b x y h0
  | _ + 10, hc, _ => exact absurd hc (by omega)
end CC
