/-! Lock: contracts (wip/whole/gen/c_lock.py prints this part) -/
/-- a lock: open, crumbs, dials, combination -/
abbrev LkS : Type := Int × Int × (Nat → Int) × (Nat → Int)
abbrev LkS.op (L : LkS) : Int := L.1
abbrev LkS.cr (L : LkS) : Int := L.2.1
abbrev LkS.dl (L : LkS) : Nat → Int := L.2.2.1
abbrev LkS.cb (L : LkS) : Nat → Int := L.2.2.2
/-- the lock L lies at a -/
def LM (M : Mem) (a : Nat) (L : LkS) : Prop := 100 ≤ a ∧ M a = cO 6 [vR (a + 1), vR (a + 2), vI L.op, vI L.cr] ∧ M (a + 1) = cI 0 3 L.dl ∧ M (a + 2) = cI 0 3 L.cb
def Lok (L : LkS) : Prop := (L.op = 0 ∨ L.op = 1) ∧ (0 ≤ L.cr ∧ L.cr ≤ 20) ∧ ∀ j, j < 3 → 0 ≤ L.dl j ∧ L.dl j ≤ 9 ∧ 0 ≤ L.cb j ∧ L.cb j ≤ 9
theorem LM_fr {a b x : Nat} {M M' : Mem} {L : LkS} (hf : e_fr a b M M') (hx : x + 3 ≤ a ∨ b ≤ x) (h : LM M x L) : LM M' x L := ⟨h.1, (hf _ (by omega)).trans h.2.1, (hf _ (by omega)).trans h.2.2.1, (hf _ (by omega)).trans h.2.2.2⟩
def p_up (c d : Int) : Int := (c - d + 10) % 10
def p_dist (c d : Int) : Int := if p_up c d < 10 - p_up c d then p_up c d else 10 - p_up c d
theorem p_dist_rng (c d : Int) : 0 ≤ p_dist c d ∧ p_dist c d ≤ 10 := by
  unfold p_dist p_up
  split <;> omega
def p_fitN (dl cb : Nat → Int) (pl : Int) : Nat → Int
  | 0 => 0
  | k + 1 => p_fitN dl cb pl k + (if p_dist (cb k) (dl k) ≤ pl then 1 else 0)
theorem p_fitN_rng (dl cb : Nat → Int) (pl : Int) : ∀ k : Nat, 0 ≤ p_fitN dl cb pl k ∧ p_fitN dl cb pl k ≤ k
  | 0 => by simp [p_fitN]
  | k + 1 => by
    have := p_fitN_rng dl cb pl k
    unfold p_fitN
    split <;> omega
def p_stepN (dl cb : Nat → Int) (pl : Int) : Nat → Int
  | 0 => 0
  | k + 1 => p_stepN dl cb pl k + (if 0 < p_dist (cb k) (dl k) - pl then p_dist (cb k) (dl k) - pl else 0)
theorem p_stepN_rng (dl cb : Nat → Int) (pl : Int) (hp : 0 ≤ pl) : ∀ k : Nat, 0 ≤ p_stepN dl cb pl k ∧ p_stepN dl cb pl k ≤ 10 * k
  | 0 => by simp [p_stepN]
  | k + 1 => by
    have := p_stepN_rng dl cb pl hp k
    have := p_dist_rng (cb k) (dl k)
    unfold p_stepN
    split <;> omega
def p_turn (z x : Int) : Int := (z + x + 10) % 10
def p_tu (c p dir : Int) : Int → Nat → Int
  | _, 0 => 0
  | z, k + 1 => if p_dist c z ≤ p then 0 else 1 + p_tu c p dir (p_turn z dir) k
theorem p_tu_rng (c p dir : Int) : ∀ (k : Nat) (z : Int), 0 ≤ p_tu c p dir z k ∧ p_tu c p dir z k ≤ k
  | 0, z => by simp [p_tu]
  | k + 1, z => by
    have := p_tu_rng c p dir k (p_turn z dir)
    unfold p_tu
    split <;> omega
theorem p_tu_fin : ∀ c : Fin 10, ∀ z : Fin 10, ∀ p : Fin 5, (if p_tu c.val p.val (-1) z.val 10 < p_tu c.val p.val 1 z.val 10 then p_tu c.val p.val (-1) z.val 10 else p_tu c.val p.val 1 z.val 10) = (if 0 < p_dist c.val z.val - p.val then p_dist c.val z.val - p.val else 0) := by decide +kernel
theorem p_tu_eq {c z p : Int} (hc : 0 ≤ c ∧ c ≤ 9) (hz : 0 ≤ z ∧ z ≤ 9) (hp : 0 ≤ p ∧ p ≤ 4) : (if p_tu c p (-1) z 10 < p_tu c p 1 z 10 then p_tu c p (-1) z 10 else p_tu c p 1 z 10) = (if 0 < p_dist c z - p then p_dist c z - p else 0) := by
  have h := p_tu_fin ⟨c.toNat, by omega⟩ ⟨z.toNat, by omega⟩ ⟨p.toNat, by omega⟩
  simp only [Int.toNat_of_nonneg hc.1, Int.toNat_of_nonneg hz.1, Int.toNat_of_nonneg hp.1] at h
  exact h
def lFit (L : LkS) : Int := p_fitN L.dl L.cb (L.cr / 5) 3
def lSteps (L : LkS) : Int := p_stepN L.dl L.cb (L.cr / 5) 3
def lTurn (L : LkS) (d : Nat) (x : Int) : LkS := (L.op, L.cr, va_up L.dl d (p_turn (L.dl d) x), L.cb)
def lTry (L : LkS) : LkS := if lFit L = 3 then (1, L.cr, L.dl, L.cb) else (if (if L.cr + 3 - lFit L < 20 then L.cr + 3 - lFit L else 20) = 20 then 1 else 0, if L.cr + 3 - lFit L < 20 then L.cr + 3 - lFit L else 20, L.dl, L.cb)
def lPut (L : LkS) (d : Nat) (x : Int) : LkS := (L.op, L.cr, L.dl, va_up L.cb d x)
def lSet (L : LkS) (a b c : Int) : LkS := lPut (lPut (lPut L 0 a) 1 b) 2 c
def lDiff (L : LkS) (a b c : Int) : Int := 0 + (if L.cb 0 = a then 0 else 1) + (if L.cb 1 = b then 0 else 1) + (if L.cb 2 = c then 0 else 1)
def lNew (L : LkS) : LkS := (0, 0, fun _ => 0, L.cb)
def L0 : LkS := (0, 0, fun _ => 0, fun _ => 0)
theorem Lok_turn {L : LkS} (h : Lok L) (d : Nat) (x : Int) : Lok (lTurn L d x) := by
  refine ⟨h.1, h.2.1, fun j hj => ?_⟩
  have q := h.2.2 j hj
  show 0 ≤ va_up L.dl d _ j ∧ va_up L.dl d _ j ≤ 9 ∧ 0 ≤ L.cb j ∧ L.cb j ≤ 9
  by_cases e : j = d
  · subst e; rw [va_up_self]; unfold p_turn; omega
  · rw [va_up_ne _ _ e]; exact q
theorem Lok_put {L : LkS} (h : Lok L) (d : Nat) {x : Int} (hx : 0 ≤ x ∧ x ≤ 9) : Lok (lPut L d x) := by
  refine ⟨h.1, h.2.1, fun j hj => ?_⟩
  have q := h.2.2 j hj
  show 0 ≤ L.dl j ∧ L.dl j ≤ 9 ∧ 0 ≤ va_up L.cb d _ j ∧ va_up L.cb d _ j ≤ 9
  by_cases e : j = d
  · subst e; rw [va_up_self]; omega
  · rw [va_up_ne _ _ e]; exact q
theorem Lok_set {L : LkS} (h : Lok L) {a b c : Int} (ha : 0 ≤ a ∧ a ≤ 9) (hb : 0 ≤ b ∧ b ≤ 9) (hc : 0 ≤ c ∧ c ≤ 9) : Lok (lSet L a b c) := Lok_put (Lok_put (Lok_put h 0 ha) 1 hb) 2 hc
theorem Lok_new {L : LkS} (h : Lok L) : Lok (lNew L) := ⟨Or.inl rfl, ⟨by show (0 : Int) ≤ 0; omega, by show (0 : Int) ≤ 20; omega⟩, fun j hj => by have q := h.2.2 j hj; show (0 : Int) ≤ 0 ∧ (0 : Int) ≤ 9 ∧ 0 ≤ L.cb j ∧ L.cb j ≤ 9; omega⟩
theorem Lok_0 : Lok L0 := ⟨Or.inl rfl, ⟨by show (0 : Int) ≤ 0; omega, by show (0 : Int) ≤ 20; omega⟩, fun j hj => by show (0 : Int) ≤ 0 ∧ (0 : Int) ≤ 9 ∧ (0 : Int) ≤ 0 ∧ (0 : Int) ≤ 9; omega⟩
theorem lFit_rng (L : LkS) : 0 ≤ lFit L ∧ lFit L ≤ 3 := p_fitN_rng _ _ _ 3
theorem Lok_try {L : LkS} (h : Lok L) : Lok (lTry L) := by
  have q := lFit_rng L
  have h1 := h.2.1
  unfold lTry
  split
  · exact ⟨Or.inr rfl, h.2.1, h.2.2⟩
  · refine ⟨?_, ?_, h.2.2⟩
    · generalize (if L.cr + 3 - lFit L < 20 then L.cr + 3 - lFit L else 20) = y
      show (if y = 20 then (1 : Int) else 0) = 0 ∨ (if y = 20 then (1 : Int) else 0) = 1
      split
      · exact Or.inr rfl
      · exact Or.inl rfl
    · show 0 ≤ (if L.cr + 3 - lFit L < 20 then L.cr + 3 - lFit L else 20) ∧ (if L.cr + 3 - lFit L < 20 then L.cr + 3 - lFit L else 20) ≤ 20
      split <;> omega
section CL
variable {r0 : Option Nat} {Γ : Cx} {M : Mem} {n a : Nat} {L : LkS}
theorem c_hasMostCrumbs (h : LM M a L) (hr : 0 ≤ L.cr ∧ L.cr ≤ 20) : Ct (e_L r0) Γ mX4_hasMostCrumbs 0 0 0 [vR a] M n (e_rt (.inl (some (vI (if L.cr = 20 then 1 else 0)))) M n) := by
  refine g_start ok_X4_hasMostCrumbs rfl rfl ?_
  refine g_run 0 1 rfl ?_
  refine g_get 1 rfl fl_RX4_22 h.2.1 rfl ?_
  refine g_run 2 1 rfl ?_
  refine g_icmp_ne 3 13 rfl rfl (by omega) (by omega) (fun c6 => ?_) (fun c6 => ?_)
  · rw [if_neg c6]
    refine g_run 6 1 rfl ?_
    exact g_iret 7 rfl rfl (by first | exact trivial | exact Or.inl rfl | exact Or.inr rfl | (show _ ∨ _; omega)) ⟨rfl, rfl, rfl⟩
  · rw [if_pos c6]
    refine g_run 4 2 rfl ?_
    exact g_iret 7 rfl rfl (by first | exact trivial | exact Or.inl rfl | exact Or.inr rfl | (show _ ∨ _; omega)) ⟨rfl, rfl, rfl⟩
theorem c_playNow (h : LM M a L) (hr : 0 ≤ L.cr ∧ L.cr ≤ 20) : Ct (e_L r0) Γ mX4_playNow 0 0 0 [vR a] M n (e_rt (.inl (some (vI (L.cr / 5)))) M n) := by
  refine g_start ok_X4_playNow rfl rfl ?_
  refine g_run 0 1 rfl ?_
  refine g_get 1 rfl fl_RX4_22 h.2.1 rfl ?_
  refine g_run 2 1 rfl ?_
  refine g_idiv 3 rfl (by omega) (by omega) ?_
  exact g_iret 4 rfl rfl (by first | exact trivial | exact Or.inl rfl | exact Or.inr rfl | (show _ ∨ _; omega)) ⟨rfl, rfl, rfl⟩
theorem c_distanceOf (h : LM M a L) (hr : Lok L) (d : Nat) (hd : d < 3) : Ct (e_L r0) Γ mX4_distanceOf 0 0 0 [vR a, vI (d : Int)] M n (e_rt (.inl (some (vI (p_dist (L.cb d) (L.dl d))))) M n) := by
  have q := hr.2.2 d hd
  refine g_start ok_X4_distanceOf rfl rfl ?_
  refine g_run 0 1 rfl ?_
  refine g_get 1 rfl fl_RX4_15 h.2.1 rfl ?_
  refine g_run 2 1 rfl ?_
  refine g_iald 3 d rfl rfl h.2.2.2 rfl (by omega) (by decide) ?_
  refine g_run 4 1 rfl ?_
  refine g_get 5 rfl fl_RX4_9 h.2.1 rfl ?_
  refine g_run 6 1 rfl ?_
  refine g_iald 7 d rfl rfl h.2.2.1 rfl (by omega) (by decide) ?_
  refine g_run 8 4 rfl ?_
  refine g_irem 12 rfl (by omega) (by omega) ?_
  refine g_run 13 7 rfl ?_
  refine g_icmp_ge 20 34 rfl rfl (by omega) (by omega) (fun c27 => ?_) (fun c27 => ?_)
  · rw [show p_dist (L.cb d) (L.dl d) = 10 - (L.cb d - L.dl d + 10) % 10 from if_neg (by unfold p_up; omega)]
    refine g_run 23 1 rfl ?_
    exact g_iret 24 rfl rfl (by first | exact trivial | exact Or.inl rfl | exact Or.inr rfl | (show _ ∨ _; omega)) ⟨rfl, rfl, rfl⟩
  · rw [show p_dist (L.cb d) (L.dl d) = (L.cb d - L.dl d + 10) % 10 from if_pos (by unfold p_up; omega)]
    refine g_run 21 2 rfl ?_
    exact g_iret 24 rfl rfl (by first | exact trivial | exact Or.inl rfl | exact Or.inr rfl | (show _ ∨ _; omega)) ⟨rfl, rfl, rfl⟩
theorem c_countFitting (h : LM M a L) (hr : Lok L) : Ct (e_L r0) Γ mX4_countFitting 1 0 0 [vR a] M n (e_rt (.inl (some (vI (lFit L)))) M n) := by
  have q := hr.2.1
  refine g_start ok_X4_countFitting rfl rfl ?_
  refine g_run 0 3 rfl ?_
  refine g_callV 3 rfl cv_RX4_32 h.2.1 (c_playNow h hr.2.1) rfl rfl (by decide) (by omega) (by omega) (Nat.le_of_ble_eq_true rfl) (e_kr ?_) e_kx
  refine g_run 4 3 rfl ?_
  refine e_down (P := fun k => G (e_L r0) Γ mX4_countFitting 1 0 0 _ 9 [some (vR a), some (vI (p_fitN L.dl L.cb (L.cr / 5) k)), some (vI (L.cr / 5)), some (vI (k : Int))] [] M n 0 0) 3 ?_ 0 (by omega)
  intro k hk ih
  have qk := p_fitN_rng L.dl L.cb (L.cr / 5) k
  refine g_run 7 2 rfl ?_
  refine g_icmp_ge 9 32 rfl rfl (by omega) (by omega) (fun c11 => ?_) (fun c11 => ?_)
  · obtain rfl : k = 3 := by omega
    refine g_run 18 1 rfl ?_
    exact g_iret 19 rfl rfl (by first | exact trivial | exact Or.inl rfl | exact Or.inr rfl | (show _ ∨ _; omega)) ⟨rfl, rfl, rfl⟩
  · refine g_run 10 2 rfl ?_
    refine g_callV 12 rfl cv_RX4_36 h.2.1 (c_distanceOf h hr k (by omega)) rfl rfl (by decide) (by omega) (by omega) (Nat.le_of_ble_eq_true rfl) (e_kr ?_) e_kx
    have qd := p_dist_rng (L.cb k) (L.dl k)
    refine g_run 13 1 rfl ?_
    refine g_icmp_gt 14 26 rfl rfl (by omega) (by omega) (fun c20 => ?_) (fun c20 => ?_)
    · have ih9 := ih (by omega)
      rw [show p_fitN L.dl L.cb (L.cr / 5) (k + 1) = p_fitN L.dl L.cb (L.cr / 5) k from by rw [p_fitN, if_neg (by omega)]; omega] at ih9
      refine g_run 16 2 rfl ?_
      exact ih9
    · have ih9 := ih (by omega)
      rw [show p_fitN L.dl L.cb (L.cr / 5) (k + 1) = p_fitN L.dl L.cb (L.cr / 5) k + 1 from by rw [p_fitN, if_pos (by omega)]] at ih9
      refine g_run 15 3 rfl ?_
      exact ih9
theorem c_stepsByDistances (h : LM M a L) (hr : Lok L) : Ct (e_L r0) Γ mX4_stepsByDistances 1 0 0 [vR a] M n (e_rt (.inl (some (vI (lSteps L)))) M n) := by
  have q := hr.2.1
  refine g_start ok_X4_stepsByDistances rfl rfl ?_
  refine g_run 0 4 rfl ?_
  refine e_down (P := fun k => G (e_L r0) Γ mX4_stepsByDistances 1 0 0 _ 4 [some (vR a), some (vI (p_stepN L.dl L.cb (L.cr / 5) k)), some (vI (k : Int))] [] M n 0 0) 3 ?_ 0 (by omega)
  intro k hk ih
  refine g_run 4 2 rfl ?_
  refine g_icmp_ge 6 32 rfl rfl (by omega) (by omega) (fun c6 => ?_) (fun c6 => ?_)
  · obtain rfl : k = 3 := by omega
    refine g_run 20 1 rfl ?_
    exact g_iret 21 rfl rfl (by first | exact trivial | exact Or.inl rfl | exact Or.inr rfl | (show _ ∨ _; omega)) ⟨rfl, rfl, rfl⟩
  · refine g_run 7 4 rfl ?_
    refine g_callV 11 rfl cv_RX4_36 h.2.1 (c_distanceOf h hr k (by omega)) rfl rfl (by decide) (by omega) (by omega) (Nat.le_of_ble_eq_true rfl) (e_kr ?_) e_kx
    have qd := p_dist_rng (L.cb k) (L.dl k)
    refine g_run 12 1 rfl ?_
    refine g_callV 13 rfl cv_RX4_32 h.2.1 (c_playNow h hr.2.1) rfl rfl (by decide) (by omega) (by omega) (Nat.le_of_ble_eq_true rfl) (e_kr ?_) e_kx
    refine g_run 14 1 rfl ?_
    refine g_max 15 rfl cm_RX4_40 (by omega) (by omega) (Nat.le_of_ble_eq_true rfl) ?_
    refine g_run 16 4 rfl ?_
    exact ih (by omega)
theorem c_lockInit (ha : 100 ≤ a) (hn : n = a + 1) (h : M a = cO 6 [vN, vN, vI 0, vI 0]) : Ct (e_L r0) Γ mX4_init 0 2 6 [vR a] M n (e_wr none (n + 2) fun M' => LM M' a L0 ∧ e_fr a (a + 3) M M') := by
  refine g_start ok_X4_init rfl rfl ?_
  refine g_run 0 1 rfl ?_
  refine g_obj 1 rfl co_RX4_3 (Nat.le_of_ble_eq_true rfl) ?_
  refine g_run 2 2 rfl ?_
  refine g_newaI (kd := 0) 4 3 rfl (by decide) rfl ac_I rfl (by omega) (by omega) (by omega) (fun M6 hM6 => ?_)
  have k6 := (congrFun hM6 a).trans ((va_up_ne _ _ (by omega)).trans h)
  have k6d := (congrFun hM6 n).trans (va_up_self _ _ _)
  have fr6 : e_fr a (a + 3) M M6 := e_fr_up hM6 (by omega)
  refine g_putF 5 rfl fp_RX4_9 rfl k6 rfl trivial (fun M8 hM8 => ?_)
  have k8_this := (congrFun hM8 a).trans (va_up_self _ _ _)
  have fr8 := e_fr_tr fr6 (e_fr_up hM8 (by omega))
  have k8_this_dials := (congrFun hM8 n).trans ((va_up_ne _ _ (by omega)).trans k6d)
  refine g_run 6 2 rfl ?_
  refine g_newaI (kd := 0) 8 3 rfl (by decide) rfl ac_I rfl (by omega) (by omega) (by omega) (fun M13 hM13 => ?_)
  have k13 := (congrFun hM13 a).trans ((va_up_ne _ _ (by omega)).trans k8_this)
  have k13d := (congrFun hM13 n).trans ((va_up_ne _ _ (by omega)).trans k8_this_dials)
  have k13c := (congrFun hM13 (n + 1)).trans (va_up_self _ _ _)
  have fr13 := e_fr_tr fr8 (e_fr_up hM13 (by omega))
  refine g_putF 9 rfl fp_RX4_15 rfl k13 rfl trivial (fun M15 hM15 => ?_)
  have k15_this := (congrFun hM15 a).trans (va_up_self _ _ _)
  have fr15 := e_fr_tr fr13 (e_fr_up hM15 (by omega))
  have k15_this_dials := (congrFun hM15 n).trans ((va_up_ne _ _ (by omega)).trans k13d)
  have k15_this_combination := (congrFun hM15 (n + 1)).trans ((va_up_ne _ _ (by omega)).trans k13c)
  refine g_run 10 2 rfl ?_
  refine g_put 12 rfl fp_RX4_18 k15_this rfl (by show _ ∨ _; first | exact Or.inl rfl | exact Or.inr rfl | omega) (fun M20 hM20 => ?_)
  have k20_this := (congrFun hM20 a).trans (va_up_self _ _ _)
  have fr20 := e_fr_tr fr15 (e_fr_up hM20 (by omega))
  have k20_this_dials := (congrFun hM20 n).trans ((va_up_ne _ _ (by omega)).trans k15_this_dials)
  have k20_this_combination := (congrFun hM20 (n + 1)).trans ((va_up_ne _ _ (by omega)).trans k15_this_combination)
  refine g_run 13 2 rfl ?_
  refine g_put 15 rfl fp_RX4_22 k20_this rfl trivial (fun M25 hM25 => ?_)
  have k25_this := (congrFun hM25 a).trans (va_up_self _ _ _)
  have fr25 := e_fr_tr fr20 (e_fr_up hM25 (by omega))
  have k25_this_dials := (congrFun hM25 n).trans ((va_up_ne _ _ (by omega)).trans k20_this_dials)
  have k25_this_combination := (congrFun hM25 (n + 1)).trans ((va_up_ne _ _ (by omega)).trans k20_this_combination)
  subst hn
  exact g_vret 16 rfl rfl ⟨rfl, rfl, ⟨ha, k25_this, k25_this_dials, k25_this_combination⟩, fr25⟩
theorem c_lockCopy {b : Nat} {B : LkS} (h : LM M a L) (hb : LM M b B) (hab : a + 3 ≤ b ∨ b + 3 ≤ a) (hop : B.op = 0 ∨ B.op = 1) : Ct (e_L r0) Γ mX4_copyFrom 0 0 0 [vR a, vR b] M n (e_wr none n fun M' => LM M' a B ∧ e_fr a (a + 3) M M') := by
  have fr0 : e_fr a (a + 3) M M := e_fr_refl
  refine g_start ok_X4_copyFrom rfl rfl ?_
  refine g_run 0 1 rfl ?_
  refine g_get 1 rfl fl_RX4_9 hb.2.1 rfl ?_
  refine g_run 2 2 rfl ?_
  refine g_get 4 rfl fl_RX4_9 h.2.1 rfl ?_
  refine g_run 5 2 rfl ?_
  refine g_copy 7 0 0 3 rfl cy9_RX4_26 (by decide) hb.2.2.1 h.2.2.1 rfl rfl rfl (by decide) (by decide) (by decide) (by decide) (fun _ _ => trivial) (Nat.le_of_ble_eq_true rfl) (fun M11 hM11 => ?_)
  have k11_this := (congrFun hM11 a).trans ((va_up_ne _ _ (by omega)).trans h.2.1)
  have k11_this_dials := (congrFun hM11 (a + 1)).trans (va_up_self _ _ _)
  have k11_this_combination := (congrFun hM11 (a + 2)).trans ((va_up_ne _ _ (by omega)).trans h.2.2.2)
  have k11_other := (congrFun hM11 b).trans ((va_up_ne _ _ (by omega)).trans hb.2.1)
  have k11_other_dials := (congrFun hM11 (b + 1)).trans ((va_up_ne _ _ (by omega)).trans hb.2.2.1)
  have k11_other_combination := (congrFun hM11 (b + 2)).trans ((va_up_ne _ _ (by omega)).trans hb.2.2.2)
  have fr11 := e_fr_tr fr0 (e_fr_up hM11 (by omega))
  refine g_nI B.dl (by have := h.1; omega) k11_this_dials (fun _ => e_cpy0) (fun M12 hM12 => ?_)
  have k12_this := (congrFun hM12 a).trans ((va_up_ne _ _ (by omega)).trans k11_this)
  have k12_this_dials := (congrFun hM12 (a + 1)).trans (va_up_self _ _ _)
  have k12_this_combination := (congrFun hM12 (a + 2)).trans ((va_up_ne _ _ (by omega)).trans k11_this_combination)
  have k12_other := (congrFun hM12 b).trans ((va_up_ne _ _ (by omega)).trans k11_other)
  have k12_other_dials := (congrFun hM12 (b + 1)).trans ((va_up_ne _ _ (by omega)).trans k11_other_dials)
  have k12_other_combination := (congrFun hM12 (b + 2)).trans ((va_up_ne _ _ (by omega)).trans k11_other_combination)
  have fr12 := e_fr_tr fr11 (e_fr_up hM12 (by omega))
  refine g_run 8 1 rfl ?_
  refine g_get 9 rfl fl_RX4_15 k12_other rfl ?_
  refine g_run 10 2 rfl ?_
  refine g_get 12 rfl fl_RX4_15 k12_this rfl ?_
  refine g_run 13 2 rfl ?_
  refine g_copy 15 0 0 3 rfl cy9_RX4_26 (by decide) k12_other_combination k12_this_combination rfl rfl rfl (by decide) (by decide) (by decide) (by decide) (fun _ _ => trivial) (Nat.le_of_ble_eq_true rfl) (fun M25 hM25 => ?_)
  have k25_this := (congrFun hM25 a).trans ((va_up_ne _ _ (by omega)).trans k12_this)
  have k25_this_dials := (congrFun hM25 (a + 1)).trans ((va_up_ne _ _ (by omega)).trans k12_this_dials)
  have k25_this_combination := (congrFun hM25 (a + 2)).trans (va_up_self _ _ _)
  have k25_other := (congrFun hM25 b).trans ((va_up_ne _ _ (by omega)).trans k12_other)
  have k25_other_dials := (congrFun hM25 (b + 1)).trans ((va_up_ne _ _ (by omega)).trans k12_other_dials)
  have k25_other_combination := (congrFun hM25 (b + 2)).trans ((va_up_ne _ _ (by omega)).trans k12_other_combination)
  have fr25 := e_fr_tr fr12 (e_fr_up hM25 (by omega))
  refine g_nI B.cb (by have := h.1; omega) k25_this_combination (fun _ => e_cpy0) (fun M26 hM26 => ?_)
  have k26_this := (congrFun hM26 a).trans ((va_up_ne _ _ (by omega)).trans k25_this)
  have k26_this_dials := (congrFun hM26 (a + 1)).trans ((va_up_ne _ _ (by omega)).trans k25_this_dials)
  have k26_this_combination := (congrFun hM26 (a + 2)).trans (va_up_self _ _ _)
  have k26_other := (congrFun hM26 b).trans ((va_up_ne _ _ (by omega)).trans k25_other)
  have k26_other_dials := (congrFun hM26 (b + 1)).trans ((va_up_ne _ _ (by omega)).trans k25_other_dials)
  have k26_other_combination := (congrFun hM26 (b + 2)).trans ((va_up_ne _ _ (by omega)).trans k25_other_combination)
  have fr26 := e_fr_tr fr25 (e_fr_up hM26 (by omega))
  refine g_run 16 2 rfl ?_
  refine g_get 18 rfl fl_RX4_18 k26_other rfl ?_
  refine g_put 19 rfl fp_RX4_18 k26_this rfl hop (fun M33 hM33 => ?_)
  have k33_this := (congrFun hM33 a).trans (va_up_self _ _ _)
  have k33_this_dials := (congrFun hM33 (a + 1)).trans ((va_up_ne _ _ (by omega)).trans k26_this_dials)
  have k33_this_combination := (congrFun hM33 (a + 2)).trans ((va_up_ne _ _ (by omega)).trans k26_this_combination)
  have k33_other := (congrFun hM33 b).trans ((va_up_ne _ _ (by omega)).trans k26_other)
  have k33_other_dials := (congrFun hM33 (b + 1)).trans ((va_up_ne _ _ (by omega)).trans k26_other_dials)
  have k33_other_combination := (congrFun hM33 (b + 2)).trans ((va_up_ne _ _ (by omega)).trans k26_other_combination)
  have fr33 := e_fr_tr fr26 (e_fr_up hM33 (by omega))
  refine g_run 20 2 rfl ?_
  refine g_get 22 rfl fl_RX4_22 k33_other rfl ?_
  refine g_put 23 rfl fp_RX4_22 k33_this rfl trivial (fun M41 hM41 => ?_)
  have k41_this := (congrFun hM41 a).trans (va_up_self _ _ _)
  have k41_this_dials := (congrFun hM41 (a + 1)).trans ((va_up_ne _ _ (by omega)).trans k33_this_dials)
  have k41_this_combination := (congrFun hM41 (a + 2)).trans ((va_up_ne _ _ (by omega)).trans k33_this_combination)
  have k41_other := (congrFun hM41 b).trans ((va_up_ne _ _ (by omega)).trans k33_other)
  have k41_other_dials := (congrFun hM41 (b + 1)).trans ((va_up_ne _ _ (by omega)).trans k33_other_dials)
  have k41_other_combination := (congrFun hM41 (b + 2)).trans ((va_up_ne _ _ (by omega)).trans k33_other_combination)
  have fr41 := e_fr_tr fr33 (e_fr_up hM41 (by omega))
  exact g_vret 24 rfl rfl ⟨rfl, rfl, ⟨h.1, k41_this, k41_this_dials, k41_this_combination⟩, fr41⟩
theorem c_turnBy (h : LM M a L) (hr : Lok L) (d : Nat) (hd : d < 3) (x : Int) (hx : -9 ≤ x ∧ x ≤ 9) : Ct (e_L r0) Γ mX4_turnBy 0 0 0 [vR a, vI (d : Int), vI x] M n (e_wr (some (vI (p_turn (L.dl d) x))) n fun M' => LM M' a (lTurn L d x) ∧ e_fr a (a + 3) M M') := by
  have fr0 : e_fr a (a + 3) M M := e_fr_refl
  have q := hr.2.2 d hd
  refine g_start ok_X4_turnBy rfl rfl ?_
  refine g_run 0 1 rfl ?_
  refine g_get 1 rfl fl_RX4_9 h.2.1 rfl ?_
  refine g_run 2 2 rfl ?_
  refine g_get 4 rfl fl_RX4_9 h.2.1 rfl ?_
  refine g_run 5 1 rfl ?_
  refine g_iald 6 d rfl rfl h.2.2.1 rfl (by omega) (by decide) ?_
  refine g_run 7 5 rfl ?_
  refine g_irem 12 rfl (by omega) (by omega) ?_
  refine g_iast 13 d rfl rfl (by decide) h.2.2.1 rfl (by omega) (by decide) (fun M19 hM19 => ?_)
  have k19_this := (congrFun hM19 a).trans ((va_up_ne _ _ (by omega)).trans h.2.1)
  have k19_this_dials := (congrFun hM19 (a + 1)).trans (va_up_self _ _ _)
  have k19_this_combination := (congrFun hM19 (a + 2)).trans ((va_up_ne _ _ (by omega)).trans h.2.2.2)
  have fr19 := e_fr_tr fr0 (e_fr_up hM19 (by omega))
  refine g_run 14 1 rfl ?_
  refine g_get 15 rfl fl_RX4_9 k19_this rfl ?_
  refine g_run 16 1 rfl ?_
  refine g_iald 17 d rfl rfl k19_this_dials rfl (by omega) (by decide) ?_
  rw [va_up_self]
  exact g_iret 18 rfl rfl (by first | exact trivial | exact Or.inl rfl | exact Or.inr rfl | (show _ ∨ _; omega)) ⟨rfl, rfl, ⟨h.1, k19_this, k19_this_dials, k19_this_combination⟩, fr19⟩
theorem c_setPosition (h : LM M a L) (hr : Lok L) (d : Nat) (hd : d < 3) (x : Int) (hx : 0 ≤ x ∧ x ≤ 9) : Ct (e_L r0) Γ mX4_setPosition 0 0 0 [vR a, vI (d : Int), vI x] M n (e_wr (some (vI (if L.cb d = x then 0 else 1))) n fun M' => LM M' a (lPut L d x) ∧ e_fr a (a + 3) M M') := by
  have fr0 : e_fr a (a + 3) M M := e_fr_refl
  have q := hr.2.2 d hd
  refine g_start ok_X4_setPosition rfl rfl ?_
  refine g_run 0 1 rfl ?_
  refine g_get 1 rfl fl_RX4_15 h.2.1 rfl ?_
  refine g_run 2 1 rfl ?_
  refine g_iald 3 d rfl rfl h.2.2.2 rfl (by omega) (by decide) ?_
  refine g_run 4 1 rfl ?_
  refine g_icmp_ne 5 14 rfl rfl (by omega) (by omega) (fun c7 => ?_) (fun c7 => ?_)
  · rw [if_neg c7]
    refine g_run 8 3 rfl ?_
    refine g_get 11 rfl fl_RX4_15 h.2.1 rfl ?_
    refine g_run 12 2 rfl ?_
    refine g_iast 14 d rfl rfl (by decide) h.2.2.2 rfl (by omega) (by decide) (fun M22 hM22 => ?_)
    have k22_this := (congrFun hM22 a).trans ((va_up_ne _ _ (by omega)).trans h.2.1)
    have k22_this_dials := (congrFun hM22 (a + 1)).trans ((va_up_ne _ _ (by omega)).trans h.2.2.1)
    have k22_this_combination := (congrFun hM22 (a + 2)).trans (va_up_self _ _ _)
    have fr22 := e_fr_tr fr0 (e_fr_up hM22 (by omega))
    refine g_run 15 1 rfl ?_
    exact g_iret 16 rfl rfl (by first | exact trivial | exact Or.inl rfl | exact Or.inr rfl | (show _ ∨ _; omega)) ⟨rfl, rfl, ⟨h.1, k22_this, k22_this_dials, k22_this_combination⟩, fr22⟩
  · rw [if_pos c7]
    refine g_run 6 2 rfl ?_
    refine g_run 9 2 rfl ?_
    refine g_get 11 rfl fl_RX4_15 h.2.1 rfl ?_
    refine g_run 12 2 rfl ?_
    refine g_iast 14 d rfl rfl (by decide) h.2.2.2 rfl (by omega) (by decide) (fun M22 hM22 => ?_)
    have k22_this := (congrFun hM22 a).trans ((va_up_ne _ _ (by omega)).trans h.2.1)
    have k22_this_dials := (congrFun hM22 (a + 1)).trans ((va_up_ne _ _ (by omega)).trans h.2.2.1)
    have k22_this_combination := (congrFun hM22 (a + 2)).trans (va_up_self _ _ _)
    have fr22 := e_fr_tr fr0 (e_fr_up hM22 (by omega))
    refine g_run 15 1 rfl ?_
    exact g_iret 16 rfl rfl (by first | exact trivial | exact Or.inl rfl | exact Or.inr rfl | (show _ ∨ _; omega)) ⟨rfl, rfl, ⟨h.1, k22_this, k22_this_dials, k22_this_combination⟩, fr22⟩
theorem c_setPositions (h : LM M a L) (hr : Lok L) (f s t : Int) (hf : 0 ≤ f ∧ f ≤ 9) (hs : 0 ≤ s ∧ s ≤ 9) (ht : 0 ≤ t ∧ t ≤ 9) : Ct (e_L r0) Γ mX4_setPositions 1 0 0 [vR a, vI f, vI s, vI t] M n (e_wr (some (vI (lDiff L f s t))) n fun M' => LM M' a (lSet L f s t) ∧ e_fr a (a + 3) M M') := by
  have fr0 : e_fr a (a + 3) M M := e_fr_refl
  refine g_start ok_X4_setPositions rfl rfl ?_
  refine g_run 0 6 rfl ?_
  refine g_callV 6 rfl cv_RX4_66 h.2.1 (c_setPosition h hr 0 (by decide) f hf) rfl rfl (by decide) (by omega) (by omega) (Nat.le_of_ble_eq_true rfl) (e_kw fun M8 hq8 => ?_) e_kwx
  have fr8 := e_fr_tr fr0 (e_fr_w hq8.2 (by omega))
  refine g_run 7 6 rfl ?_
  refine g_callV 13 rfl cv_RX4_66 hq8.1.2.1 (c_setPosition hq8.1 (Lok_put hr 0 hf) 1 (by decide) s hs) rfl rfl (by decide) (by omega) (by omega) (Nat.le_of_ble_eq_true rfl) (e_kw fun M19 hq19 => ?_) e_kwx
  have fr19 := e_fr_tr fr8 (e_fr_w hq19.2 (by omega))
  refine g_run 14 6 rfl ?_
  refine g_callV 20 rfl cv_RX4_66 hq19.1.2.1 (c_setPosition hq19.1 (Lok_put (Lok_put hr 0 hf) 1 hs) 2 (by decide) t ht) rfl rfl (by decide) (by omega) (by omega) (Nat.le_of_ble_eq_true rfl) (e_kw fun M30 hq30 => ?_) e_kwx
  have fr30 := e_fr_tr fr19 (e_fr_w hq30.2 (by omega))
  refine g_run 21 3 rfl ?_
  rw [show (lPut L 0 f).cb 1 = L.cb 1 from rfl, show (lPut (lPut L 0 f) 1 s).cb 2 = L.cb 2 from rfl, show 0 + (if L.cb 0 = f then 0 else 1) + (if L.cb 1 = s then 0 else 1) + (if L.cb 2 = t then 0 else 1) = lDiff L f s t from rfl]
  exact g_iret 24 rfl rfl (by first | exact trivial | exact Or.inl rfl | exact Or.inr rfl | (show _ ∨ _; omega)) ⟨rfl, rfl, hq30.1, fr30⟩
end CL
theorem lTurn_self {L : LkS} {d : Nat} {x : Int} : (lTurn L d x).dl d = p_turn (L.dl d) x := va_up_self _ _ _
section CL2
variable {r0 : Option Nat} {Γ : Cx} {n a : Nat}
/-- turning until it fits, from the state at hand: k turns are left -/
theorem c_tuf9 {Q : Rv → Mem → Nat → Prop} (d : Nat) (hd : d < 3) (dir pl : Int) (hdir : dir = 1 ∨ dir = -1) (hpl : 0 ≤ pl ∧ pl ≤ 4) : ∀ (k : Nat) (M : Mem) (L : LkS), k ≤ 10 → LM M a L → Lok L →
    (∀ M' L', LM M' a L' → e_fr a (a + 3) M M' → Q (.inl (some (vI (10 - k + p_tu (L.cb d) pl dir (L.dl d) k)))) M' n) →
    G (e_L r0) Γ mX4_turnUntilFitting 1 0 0 Q 8 [some (vR a), some (vI (d : Int)), some (vI dir), some (vI (10 - k)), some (vI pl)] [] M n 0 0 := by
  intro k
  induction k with
  | zero =>
    intro M L hk h hr hQ
    have hQ := hQ M L h e_fr_refl
    rw [show (10 : Int) - ((0 : Nat) : Int) + p_tu (L.cb d) pl dir (L.dl d) 0 = 10 - ((0 : Nat) : Int) from by show (10 : Int) - 0 + 0 = 10 - 0; omega] at hQ
    refine g_run 5 2 rfl ?_
    refine g_icmp_ge 7 37 rfl rfl (by omega) (by omega) (fun c11 => ?_) (fun c11 => ?_)
    · refine g_run 20 1 rfl ?_
      exact g_iret 21 rfl rfl (by first | exact trivial | exact Or.inl rfl | exact Or.inr rfl | (show _ ∨ _; omega)) hQ
    · exact absurd c11 (by omega)
  | succ k ih =>
    intro M L hk h hr hQ
    refine g_run 5 2 rfl ?_
    refine g_icmp_ge 7 37 rfl rfl (by omega) (by omega) (fun c11 => ?_) (fun c11 => ?_)
    · exact absurd c11 (by omega)
    · refine g_run 8 2 rfl ?_
      refine g_callV 10 rfl cv_RX4_36 h.2.1 (c_distanceOf h hr d hd) rfl rfl (by decide) (by omega) (by omega) (Nat.le_of_ble_eq_true rfl) (e_kr ?_) e_kx
      have qd := p_dist_rng (L.cb d) (L.dl d)
      refine g_run 11 1 rfl ?_
      refine g_icmp_le 12 37 rfl rfl (by omega) (by omega) (fun c21 => ?_) (fun c21 => ?_)
      · have hQ9 := hQ M L h e_fr_refl
        rw [p_tu, if_pos (by omega), Int.add_zero] at hQ9
        refine g_run 20 1 rfl ?_
        exact g_iret 21 rfl rfl (by first | exact trivial | exact Or.inl rfl | exact Or.inr rfl | (show _ ∨ _; omega)) hQ9
      · refine g_run 13 3 rfl ?_
        refine g_callV 16 rfl cv_RX4_56 h.2.1 (c_turnBy h hr d hd dir (by omega)) rfl rfl (by decide) (by omega) (by omega) (Nat.le_of_ble_eq_true rfl) (e_kw fun M27 hq27 => ?_) e_kwx
        refine g_run 17 3 rfl ?_
        have e9 : (10 : Int) - ((k + 1 : Nat) : Int) + 1 = 10 - (k : Int) := by omega
        rw [e9]
        refine ih M27 (lTurn L d dir) (by omega) hq27.1 (Lok_turn hr d dir) (fun M' L' h1 h2 => ?_)
        have hQ9 := hQ M' L' h1 (e_fr_tr hq27.2 h2)
        rw [show (10 : Int) - ((k + 1 : Nat) : Int) + p_tu (L.cb d) pl dir (L.dl d) (k + 1) = 10 - (k : Int) + p_tu ((lTurn L d dir).cb d) pl dir ((lTurn L d dir).dl d) k from by rw [lTurn_self, show (lTurn L d dir).cb d = L.cb d from rfl, p_tu, if_neg (by omega)]; omega] at hQ9
        exact hQ9
variable {M : Mem} {L : LkS}
theorem c_turnUntilFitting (h : LM M a L) (hr : Lok L) (d : Nat) (hd : d < 3) (dir : Int) (hdir : dir = 1 ∨ dir = -1) : Ct (e_L r0) Γ mX4_turnUntilFitting 1 0 0 [vR a, vI (d : Int), vI dir] M n (e_wr (some (vI (p_tu (L.cb d) (L.cr / 5) dir (L.dl d) 10))) n fun M' => (∃ L', LM M' a L') ∧ e_fr a (a + 3) M M') := by
  have q := hr.2.1
  refine g_start ok_X4_turnUntilFitting rfl rfl ?_
  refine g_run 0 3 rfl ?_
  refine g_callV 3 rfl cv_RX4_32 h.2.1 (c_playNow h hr.2.1) rfl rfl (by decide) (by omega) (by omega) (Nat.le_of_ble_eq_true rfl) (e_kr ?_) e_kx
  refine g_run 4 1 rfl ?_
  have e9 := c_tuf9 (r0 := r0) (Γ := Γ) (n := n) (Q := e_wr (some (vI (p_tu (L.cb d) (L.cr / 5) dir (L.dl d) 10))) n fun M' => (∃ L', LM M' a L') ∧ e_fr a (a + 3) M M') d hd dir (L.cr / 5) hdir (by omega) 10 M L (by omega) h hr (fun M' L' h1 h2 => ⟨by rw [show (10 : Int) - ((10 : Nat) : Int) + p_tu (L.cb d) (L.cr / 5) dir (L.dl d) 10 = p_tu (L.cb d) (L.cr / 5) dir (L.dl d) 10 from by omega], rfl, ⟨L', h1⟩, h2⟩)
  exact e9
theorem c_takeTry (h : LM M a L) (hr : Lok L) : Ct (e_L r0) Γ mX4_takeTry 2 0 0 [vR a] M n (e_wr (some (vI (if lFit L = 3 then 1 else 0))) n fun M' => LM M' a (lTry L) ∧ e_fr a (a + 3) M M') := by
  have fr0 : e_fr a (a + 3) M M := e_fr_refl
  have q := hr.2.1
  refine g_start ok_X4_takeTry rfl rfl ?_
  refine g_run 0 1 rfl ?_
  refine g_callV 1 rfl cv_RX4_59 h.2.1 (c_countFitting h hr) rfl rfl (by decide) (by omega) (by omega) (Nat.le_of_ble_eq_true rfl) (e_kr ?_) e_kx
  have qf := lFit_rng L
  refine g_run 2 3 rfl ?_
  refine g_icmp_ne 5 17 rfl rfl (by omega) (by omega) (fun c7 => ?_) (fun c7 => ?_)
  · rw [show lTry L = _ from if_neg c7, if_neg c7]
    refine g_run 11 3 rfl ?_
    refine g_get 14 rfl fl_RX4_22 h.2.1 rfl ?_
    refine g_run 15 4 rfl ?_
    refine g_min 19 rfl cm_RX4_53 (by omega) (by omega) (Nat.le_of_ble_eq_true rfl) ?_
    refine g_put 20 rfl fp_RX4_22 h.2.1 rfl trivial (fun M31 hM31 => ?_)
    have k31_this := (congrFun hM31 a).trans (va_up_self _ _ _)
    have k31_this_dials := (congrFun hM31 (a + 1)).trans ((va_up_ne _ _ (by omega)).trans h.2.2.1)
    have k31_this_combination := (congrFun hM31 (a + 2)).trans ((va_up_ne _ _ (by omega)).trans h.2.2.2)
    have fr31 := e_fr_tr fr0 (e_fr_up hM31 (by omega))
    refine g_run 21 2 rfl ?_
    have h36 : LM M31 a (L.op, if L.cr + 3 - lFit L < 20 then L.cr + 3 - lFit L else 20, L.dl, L.cb) := ⟨h.1, k31_this, k31_this_dials, k31_this_combination⟩
    have q36 : 0 ≤ (if L.cr + 3 - lFit L < 20 then L.cr + 3 - lFit L else 20) ∧ (if L.cr + 3 - lFit L < 20 then L.cr + 3 - lFit L else 20) ≤ 20 := by split <;> omega
    refine g_callV 23 rfl cv_RX4_62 k31_this (c_hasMostCrumbs h36 q36) rfl rfl (by decide) (by omega) (by omega) (Nat.le_of_ble_eq_true rfl) (e_kr ?_) e_kx
    refine g_put 24 rfl fp_RX4_18 k31_this rfl (by show _ ∨ _; generalize (if L.cr + 3 - lFit L < 20 then L.cr + 3 - lFit L else 20) = y; show (if y = 20 then (1 : Int) else 0) = 0 ∨ (if y = 20 then (1 : Int) else 0) = 1; split; exact Or.inr rfl; exact Or.inl rfl) (fun M39 hM39 => ?_)
    have k39_this := (congrFun hM39 a).trans (va_up_self _ _ _)
    have k39_this_dials := (congrFun hM39 (a + 1)).trans ((va_up_ne _ _ (by omega)).trans k31_this_dials)
    have k39_this_combination := (congrFun hM39 (a + 2)).trans ((va_up_ne _ _ (by omega)).trans k31_this_combination)
    have fr39 := e_fr_tr fr31 (e_fr_up hM39 (by omega))
    refine g_run 25 1 rfl ?_
    exact g_iret 26 rfl rfl (by first | exact trivial | exact Or.inl rfl | exact Or.inr rfl | (show _ ∨ _; omega)) ⟨rfl, rfl, ⟨h.1, k39_this, k39_this_dials, k39_this_combination⟩, fr39⟩
  · rw [show lTry L = _ from if_pos c7, if_pos c7]
    refine g_run 6 2 rfl ?_
    refine g_put 8 rfl fp_RX4_18 h.2.1 rfl (by show _ ∨ _; first | exact Or.inl rfl | exact Or.inr rfl | omega) (fun M12 hM12 => ?_)
    have k12_this := (congrFun hM12 a).trans (va_up_self _ _ _)
    have k12_this_dials := (congrFun hM12 (a + 1)).trans ((va_up_ne _ _ (by omega)).trans h.2.2.1)
    have k12_this_combination := (congrFun hM12 (a + 2)).trans ((va_up_ne _ _ (by omega)).trans h.2.2.2)
    have fr12 := e_fr_tr fr0 (e_fr_up hM12 (by omega))
    refine g_run 9 1 rfl ?_
    exact g_iret 10 rfl rfl (by first | exact trivial | exact Or.inl rfl | exact Or.inr rfl | (show _ ∨ _; omega)) ⟨rfl, rfl, ⟨h.1, k12_this, k12_this_dials, k12_this_combination⟩, fr12⟩
theorem c_renew (h : LM M a L) (hr : Lok L) : Ct (e_L r0) Γ mX4_renew 0 0 0 [vR a] M n (e_wr none n fun M' => LM M' a (lNew L) ∧ e_fr a (a + 3) M M') := by
  have fr0 : e_fr a (a + 3) M M := e_fr_refl
  refine g_start ok_X4_renew rfl rfl ?_
  refine g_run 0 2 rfl ?_
  refine e_down (P := fun k => ∀ M', LM M' a (L.op, L.cr, (fun j => if j < k then 0 else L.dl j), L.cb) → e_fr a (a + 3) M M' → G (e_L r0) Γ mX4_renew 0 0 0 _ 2 [some (vR a), some (vI (k : Int))] [] M' n 0 0) 3 ?_ 0 (by omega) M h fr0
  intro k hk ih M2 h2 fr2
  refine g_run 2 2 rfl ?_
  refine g_icmp_ge 4 20 rfl rfl (by omega) (by omega) (fun c4 => ?_) (fun c4 => ?_)
  · obtain rfl : k = 3 := by omega
    refine g_nI (fun _ => 0) (by have := h.1; omega) h2.2.2.1 (fun j hj => if_pos hj) (fun M19 hM19 => ?_)
    have k19_this := (congrFun hM19 a).trans ((va_up_ne _ _ (by omega)).trans h2.2.1)
    have k19_this_dials := (congrFun hM19 (a + 1)).trans (va_up_self _ _ _)
    have k19_this_combination := (congrFun hM19 (a + 2)).trans ((va_up_ne _ _ (by omega)).trans h2.2.2.2)
    have fr19 := e_fr_tr fr2 (e_fr_up hM19 (by omega))
    refine g_run 12 2 rfl ?_
    refine g_put 14 rfl fp_RX4_18 k19_this rfl (by show _ ∨ _; first | exact Or.inl rfl | exact Or.inr rfl | omega) (fun M22 hM22 => ?_)
    have k22_this := (congrFun hM22 a).trans (va_up_self _ _ _)
    have k22_this_dials := (congrFun hM22 (a + 1)).trans ((va_up_ne _ _ (by omega)).trans k19_this_dials)
    have k22_this_combination := (congrFun hM22 (a + 2)).trans ((va_up_ne _ _ (by omega)).trans k19_this_combination)
    have fr22 := e_fr_tr fr19 (e_fr_up hM22 (by omega))
    refine g_run 15 2 rfl ?_
    refine g_put 17 rfl fp_RX4_22 k22_this rfl trivial (fun M27 hM27 => ?_)
    have k27_this := (congrFun hM27 a).trans (va_up_self _ _ _)
    have k27_this_dials := (congrFun hM27 (a + 1)).trans ((va_up_ne _ _ (by omega)).trans k22_this_dials)
    have k27_this_combination := (congrFun hM27 (a + 2)).trans ((va_up_ne _ _ (by omega)).trans k22_this_combination)
    have fr27 := e_fr_tr fr22 (e_fr_up hM27 (by omega))
    exact g_vret 18 rfl rfl ⟨rfl, rfl, ⟨h.1, k27_this, k27_this_dials, k27_this_combination⟩, fr27⟩
  · refine g_run 5 1 rfl ?_
    refine g_get 6 rfl fl_RX4_9 h2.2.1 rfl ?_
    refine g_run 7 2 rfl ?_
    refine g_iast 9 k rfl rfl (by decide) h2.2.2.1 rfl (by omega) (by decide) (fun M13 hM13 => ?_)
    have k13_this := (congrFun hM13 a).trans ((va_up_ne _ _ (by omega)).trans h2.2.1)
    have k13_this_dials := (congrFun hM13 (a + 1)).trans (va_up_self _ _ _)
    have k13_this_combination := (congrFun hM13 (a + 2)).trans ((va_up_ne _ _ (by omega)).trans h2.2.2.2)
    have fr13 := e_fr_tr fr2 (e_fr_up hM13 (by omega))
    refine g_run 10 2 rfl ?_
    refine g_nI (fun j => if j < k + 1 then 0 else L.dl j) (by have := h.1; omega) k13_this_dials (fun j hj => ?_) (fun M14 hM14 => ?_)
    · by_cases e : j = k
      · subst e; rw [va_up_self, if_pos (by omega)]
      · rw [va_up_ne _ _ e]
        show (if j < k then 0 else L.dl j) = _
        by_cases e2 : j < k
        · rw [if_pos e2, if_pos (by omega)]
        · rw [if_neg e2, if_neg (by omega)]
    have k14_this := (congrFun hM14 a).trans ((va_up_ne _ _ (by omega)).trans k13_this)
    have k14_this_dials := (congrFun hM14 (a + 1)).trans (va_up_self _ _ _)
    have k14_this_combination := (congrFun hM14 (a + 2)).trans ((va_up_ne _ _ (by omega)).trans k13_this_combination)
    have fr14 := e_fr_tr fr13 (e_fr_up hM14 (by omega))
    exact ih (by omega) M14 ⟨h.1, k14_this, k14_this_dials, k14_this_combination⟩ fr14
theorem c_stepsByTurning {b : Nat} {B : LkS} (h : LM M a L) (hb : LM M b B) (hr : Lok L) (hab : a + 3 ≤ b ∨ b + 3 ≤ a) : Ct (e_L r0) Γ mX4_stepsByTurning 2 0 0 [vR a, vR b] M n (e_wr (some (vI (lSteps L))) n fun M' => (∃ B', LM M' b B') ∧ e_fr b (b + 3) M M') := by
  have fr0 : e_fr b (b + 3) M M := e_fr_refl
  refine g_start ok_X4_stepsByTurning rfl rfl ?_
  refine g_run 0 4 rfl ?_
  refine e_down (P := fun k => ∀ M', LM M' a L → (∃ B', LM M' b B') → e_fr b (b + 3) M M' → ∀ x y : Option aV, G (e_L r0) Γ mX4_stepsByTurning 2 0 0 _ 4 [some (vR a), some (vR b), some (vI (p_stepN L.dl L.cb (L.cr / 5) k)), some (vI (k : Int)), x, y] [] M' n 0 0) 3 ?_ 0 (by omega) M h ⟨B, hb⟩ fr0 _ _
  intro k hk ih M2 h2 hB fr2 x y
  obtain ⟨B2, hB⟩ := hB
  refine g_run 4 2 rfl ?_
  refine g_icmp_ge 6 51 rfl rfl (by omega) (by omega) (fun c6 => ?_) (fun c6 => ?_)
  · obtain rfl : k = 3 := by omega
    refine g_run 31 1 rfl ?_
    exact g_iret 32 rfl rfl (by first | exact trivial | exact Or.inl rfl | exact Or.inr rfl | (show _ ∨ _; omega)) ⟨rfl, rfl, ⟨_, hB⟩, fr2⟩
  · have qk := hr.2.2 k (by omega)
    have qc := hr.2.1
    refine g_run 7 2 rfl ?_
    refine g_callV 9 rfl cv_RX4_46 hB.2.1 (c_lockCopy hB h2 (by omega) hr.1) rfl rfl (by decide) (by omega) (by omega) (Nat.le_of_ble_eq_true rfl) (e_kw fun M11 hq11 => ?_) e_kwx
    have k11_this := (hq11.2 a (by omega)).trans h2.2.1
    have k11_this_dials := (hq11.2 (a + 1) (by omega)).trans h2.2.2.1
    have k11_this_combination := (hq11.2 (a + 2) (by omega)).trans h2.2.2.2
    have k11_L := LM_fr hq11.2 (by omega) h2
    have fr11 := e_fr_tr fr2 (e_fr_w hq11.2 (by omega))
    refine g_run 10 3 rfl ?_
    refine g_callV 13 rfl cv_RX4_50 hq11.1.2.1 (c_turnUntilFitting hq11.1 hr k (by omega) 1 (Or.inl rfl)) rfl rfl (by decide) (by omega) (by omega) (Nat.le_of_ble_eq_true rfl) (e_kw fun M17 hq17 => ?_) e_kwx
    have k17_this := (hq17.2 a (by omega)).trans k11_this
    have k17_this_dials := (hq17.2 (a + 1) (by omega)).trans k11_this_dials
    have k17_this_combination := (hq17.2 (a + 2) (by omega)).trans k11_this_combination
    have k17_L := LM_fr hq17.2 (by omega) k11_L
    have fr17 := e_fr_tr fr11 (e_fr_w hq17.2 (by omega))
    obtain ⟨B17, q17⟩ := hq17.1
    refine g_run 14 3 rfl ?_
    refine g_callV 17 rfl cv_RX4_46 q17.2.1 (c_lockCopy q17 k17_L (by omega) hr.1) rfl rfl (by decide) (by omega) (by omega) (Nat.le_of_ble_eq_true rfl) (e_kw fun M24 hq24 => ?_) e_kwx
    have k24_this := (hq24.2 a (by omega)).trans k17_this
    have k24_this_dials := (hq24.2 (a + 1) (by omega)).trans k17_this_dials
    have k24_this_combination := (hq24.2 (a + 2) (by omega)).trans k17_this_combination
    have k24_L := LM_fr hq24.2 (by omega) k17_L
    have fr24 := e_fr_tr fr17 (e_fr_w hq24.2 (by omega))
    refine g_run 18 3 rfl ?_
    refine g_callV 21 rfl cv_RX4_50 hq24.1.2.1 (c_turnUntilFitting hq24.1 hr k (by omega) (-1) (Or.inr rfl)) rfl rfl (by decide) (by omega) (by omega) (Nat.le_of_ble_eq_true rfl) (e_kw fun M30 hq30 => ?_) e_kwx
    have k30_this := (hq30.2 a (by omega)).trans k24_this
    have k30_this_dials := (hq30.2 (a + 1) (by omega)).trans k24_this_dials
    have k30_this_combination := (hq30.2 (a + 2) (by omega)).trans k24_this_combination
    have k30_L := LM_fr hq30.2 (by omega) k24_L
    have fr30 := e_fr_tr fr24 (e_fr_w hq30.2 (by omega))
    obtain ⟨B30, q30⟩ := hq30.1
    have t1 := p_tu_rng (L.cb k) (L.cr / 5) 1 10 (L.dl k)
    have t2 := p_tu_rng (L.cb k) (L.cr / 5) (-1) 10 (L.dl k)
    refine g_run 22 4 rfl ?_
    refine g_min 26 rfl cm_RX4_53 (by omega) (by omega) (Nat.le_of_ble_eq_true rfl) ?_
    refine g_run 27 4 rfl ?_
    have e9 : ∀ x y : Int, p_stepN L.dl L.cb (L.cr / 5) (k + 1) = p_stepN L.dl L.cb (L.cr / 5) k + (if p_tu (L.cb k) (L.cr / 5) (-1) (L.dl k) 10 < p_tu (L.cb k) (L.cr / 5) 1 (L.dl k) 10 then p_tu (L.cb k) (L.cr / 5) (-1) (L.dl k) 10 else p_tu (L.cb k) (L.cr / 5) 1 (L.dl k) 10) := fun _ _ => by rw [p_tu_eq (by omega) (by omega) (by omega)]; rfl
    rw [← e9 0 0]
    exact ih (by omega) _ k30_L ⟨_, q30⟩ fr30 _ _
end CL2
