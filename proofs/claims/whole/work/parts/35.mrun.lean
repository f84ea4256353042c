/-! the reference does its commands (wip/whole/gen/c_mrun.py prints this part) -/
/-- a command's exception and its new row -/
def tC (v : Nat → Int) (j : Nat) (a b x y : Int) : Int := match j with
  | 0 => tDoor v a b x
  | 1 => tTurn v a b x
  | 2 => tTry v a
  | 3 => tShut v a
  | 4 => tDamp a
  | 5 => tBake v a b
  | 6 => tHours a
  | 7 => tHours a
  | 8 => tHours a
  | _ => tSet v a b x y
def vC (v : Nat → Int) (j : Nat) (a b x y : Int) : Nat → Int := match j with
  | 0 => mDoor v a b x
  | 1 => mTurn v a b x
  | 2 => mTry v a
  | 3 => mShut v a
  | 4 => va_up v 1 a
  | 5 => mBake v a b
  | 6 => mHrs v a.toNat
  | 7 => mHrs v a.toNat
  | 8 => mHrs v a.toNat
  | _ => mComb v a.toNat b x y
theorem tC_rng (v : Nat → Int) (j : Nat) (a b x y : Int) : 0 ≤ tC v j a b x y ∧ tC v j a b x y ≤ 3 := by
  unfold tC
  split
  · unfold tDoor; (repeat' split) <;> omega
  · unfold tTurn; (repeat' split) <;> omega
  · unfold tTry; (repeat' split) <;> omega
  · unfold tShut; (repeat' split) <;> omega
  · unfold tDamp; (repeat' split) <;> omega
  · unfold tBake; (repeat' split) <;> omega
  · unfold tHours; (repeat' split) <;> omega
  · unfold tHours; (repeat' split) <;> omega
  · unfold tHours; (repeat' split) <;> omega
  · unfold tSet; (repeat' split) <;> omega
/-- the script's commands one after the other -/
abbrev cJ (t : Nat → Int) (l c : Nat) : Nat := rJ t l (sT t l c)
abbrev cA (t : Nat → Int) (l c p : Nat) : Int := rA t (sT t l c) (cJ t l c) p
def vS (t : Nat → Int) (l : Nat) (v : Nat → Int) : Nat → (Nat → Int)
  | 0 => v
  | c + 1 => vC (vS t l v c) (cJ t l c) (cA t l c 0) (cA t l c 1) (cA t l c 2) (cA t l c 3)
def tS (t : Nat → Int) (l : Nat) (v : Nat → Int) (c : Nat) : Int := tC (vS t l v c) (cJ t l c) (cA t l c 0) (cA t l c 1) (cA t l c 2) (cA t l c 3)
section MD
variable {r0 : Option Nat} {Γ : Cx} {M : Mem} {n m : Nat} {q : Nat → Int} {A : Nat → Nat → Int} {B : Int}
theorem m_does0 (H : MM M m q A) (hV : Vh B (A 0)) (hB : B ≤ 900000000) (z : Int) (k : Nat) (hz : z = 5 * (k : Int)) (hk : 5 * k + 4 < 155) (x : Nat → Int) (hkd : A 7 (5 * k) = rKd 0) (h0 : ∀ p, p < rAr 0 → A 7 (5 * k + 1 + p) = x p ∧ i32 (x p)) : Ct (e_L r0) Γ mX8_does 6 0 0 [vR m, vI z] M n (fun r' M' n' => n' = n ∧ e_fr m (m + 9) M M' ∧ ∃ y : Int, r' = .inl (some (vI y)) ∧ MM M' m (va_up q 6 (tC (A 0) 0 (x 0) (x 1) (x 2) (x 3))) (if tC (A 0) 0 (x 0) (x 1) (x 2) (x 3) = 0 then va_up A 0 (vC (A 0) 0 (x 0) (x 1) (x 2) (x 3)) else A)) := by
  have hv := hV.1
  have fr0 : e_fr m (m + 9) M M := e_fr_refl
  refine g_start ok_X8_does rfl rfl ?_
  refine g_run 0 1 rfl ?_
  refine g_get 1 rfl fl_RX8_38 H.2.1 rfl ?_
  refine g_run 2 3 rfl ?_
  refine g_iald 5 (5 * k + 1) rfl rfl H.2.2.2.2.2.2.2.2.2 (by first | rfl | omega) (by omega) (by decide) ?_
  rw [show A 7 (5 * k + 1) = x 0 from (h0 0 (by decide)).1]
  refine g_run 6 2 rfl ?_
  refine g_get 8 rfl fl_RX8_38 H.2.1 rfl ?_
  refine g_run 9 3 rfl ?_
  refine g_iald 12 (5 * k + 2) rfl rfl H.2.2.2.2.2.2.2.2.2 (by first | rfl | omega) (by omega) (by decide) ?_
  rw [show A 7 (5 * k + 2) = x 1 from (h0 1 (by decide)).1]
  refine g_run 13 2 rfl ?_
  refine g_get 15 rfl fl_RX8_38 H.2.1 rfl ?_
  refine g_run 16 3 rfl ?_
  refine g_iald 19 (5 * k + 3) rfl rfl H.2.2.2.2.2.2.2.2.2 (by first | rfl | omega) (by omega) (by decide) ?_
  rw [show A 7 (5 * k + 3) = x 2 from (h0 2 (by decide)).1]
  refine g_run 20 2 rfl ?_
  refine g_get 22 rfl fl_RX8_38 H.2.1 rfl ?_
  refine g_run 23 1 rfl ?_
  refine g_iald 24 (5 * k) rfl rfl H.2.2.2.2.2.2.2.2.2 (by first | rfl | omega) (by omega) (by decide) ?_
  rw [show A 7 (5 * k) = 100 from hkd]
  refine g_tsw 143 3 dw_X8_does_34 rfl (by decide) (by decide) rfl rfl ?_
  refine g_run 35 4 rfl ?_
  refine g_callV 39 rfl cv_RX8_84 H.2.1 (m_doors H hv (x 0) (x 1) (x 2) (h0 0 (by decide)).2 (h0 1 (by decide)).2 (h0 2 (by decide)).2) rfl rfl (by decide) (by omega) (by omega) (Nat.le_of_ble_eq_true rfl) (e_kw fun M148 hq148 => ?_) e_kwx
  have fr148 := e_fr_tr fr0 (e_fr_w hq148.2 (by omega))
  exact g_iret 40 rfl rfl (by first | exact trivial | exact Or.inl rfl | exact Or.inr rfl | (show _ ∨ _; omega)) ⟨rfl, fr148, _, rfl, hq148.1⟩
theorem m_does1 (H : MM M m q A) (hV : Vh B (A 0)) (hB : B ≤ 900000000) (z : Int) (k : Nat) (hz : z = 5 * (k : Int)) (hk : 5 * k + 4 < 155) (x : Nat → Int) (hkd : A 7 (5 * k) = rKd 1) (h0 : ∀ p, p < rAr 1 → A 7 (5 * k + 1 + p) = x p ∧ i32 (x p)) : Ct (e_L r0) Γ mX8_does 6 0 0 [vR m, vI z] M n (fun r' M' n' => n' = n ∧ e_fr m (m + 9) M M' ∧ ∃ y : Int, r' = .inl (some (vI y)) ∧ MM M' m (va_up q 6 (tC (A 0) 1 (x 0) (x 1) (x 2) (x 3))) (if tC (A 0) 1 (x 0) (x 1) (x 2) (x 3) = 0 then va_up A 0 (vC (A 0) 1 (x 0) (x 1) (x 2) (x 3)) else A)) := by
  have hv := hV.1
  have fr0 : e_fr m (m + 9) M M := e_fr_refl
  refine g_start ok_X8_does rfl rfl ?_
  refine g_run 0 1 rfl ?_
  refine g_get 1 rfl fl_RX8_38 H.2.1 rfl ?_
  refine g_run 2 3 rfl ?_
  refine g_iald 5 (5 * k + 1) rfl rfl H.2.2.2.2.2.2.2.2.2 (by first | rfl | omega) (by omega) (by decide) ?_
  rw [show A 7 (5 * k + 1) = x 0 from (h0 0 (by decide)).1]
  refine g_run 6 2 rfl ?_
  refine g_get 8 rfl fl_RX8_38 H.2.1 rfl ?_
  refine g_run 9 3 rfl ?_
  refine g_iald 12 (5 * k + 2) rfl rfl H.2.2.2.2.2.2.2.2.2 (by first | rfl | omega) (by omega) (by decide) ?_
  rw [show A 7 (5 * k + 2) = x 1 from (h0 1 (by decide)).1]
  refine g_run 13 2 rfl ?_
  refine g_get 15 rfl fl_RX8_38 H.2.1 rfl ?_
  refine g_run 16 3 rfl ?_
  refine g_iald 19 (5 * k + 3) rfl rfl H.2.2.2.2.2.2.2.2.2 (by first | rfl | omega) (by omega) (by decide) ?_
  rw [show A 7 (5 * k + 3) = x 2 from (h0 2 (by decide)).1]
  refine g_run 20 2 rfl ?_
  refine g_get 22 rfl fl_RX8_38 H.2.1 rfl ?_
  refine g_run 23 1 rfl ?_
  refine g_iald 24 (5 * k) rfl rfl H.2.2.2.2.2.2.2.2.2 (by first | rfl | omega) (by omega) (by decide) ?_
  rw [show A 7 (5 * k) = 116 from hkd]
  refine g_tsw 128 19 dw_X8_does_34 rfl (by decide) (by decide) rfl rfl ?_
  refine g_run 25 4 rfl ?_
  refine g_callV 29 rfl cv_RX8_98 H.2.1 (m_turns H hv (x 0) (x 1) (x 2) (h0 0 (by decide)).2 (h0 1 (by decide)).2 (h0 2 (by decide)).2) rfl rfl (by decide) (by omega) (by omega) (Nat.le_of_ble_eq_true rfl) (e_kw fun M133 hq133 => ?_) e_kwx
  have fr133 := e_fr_tr fr0 (e_fr_w hq133.2 (by omega))
  exact g_iret 30 rfl rfl (by first | exact trivial | exact Or.inl rfl | exact Or.inr rfl | (show _ ∨ _; omega)) ⟨rfl, fr133, _, rfl, hq133.1⟩
theorem m_does2 (H : MM M m q A) (hV : Vh B (A 0)) (hB : B ≤ 900000000) (z : Int) (k : Nat) (hz : z = 5 * (k : Int)) (hk : 5 * k + 4 < 155) (x : Nat → Int) (hkd : A 7 (5 * k) = rKd 2) (h0 : ∀ p, p < rAr 2 → A 7 (5 * k + 1 + p) = x p ∧ i32 (x p)) : Ct (e_L r0) Γ mX8_does 6 0 0 [vR m, vI z] M n (fun r' M' n' => n' = n ∧ e_fr m (m + 9) M M' ∧ ∃ y : Int, r' = .inl (some (vI y)) ∧ MM M' m (va_up q 6 (tC (A 0) 2 (x 0) (x 1) (x 2) (x 3))) (if tC (A 0) 2 (x 0) (x 1) (x 2) (x 3) = 0 then va_up A 0 (vC (A 0) 2 (x 0) (x 1) (x 2) (x 3)) else A)) := by
  have hv := hV.1
  have fr0 : e_fr m (m + 9) M M := e_fr_refl
  refine g_start ok_X8_does rfl rfl ?_
  refine g_run 0 1 rfl ?_
  refine g_get 1 rfl fl_RX8_38 H.2.1 rfl ?_
  refine g_run 2 3 rfl ?_
  refine g_iald 5 (5 * k + 1) rfl rfl H.2.2.2.2.2.2.2.2.2 (by first | rfl | omega) (by omega) (by decide) ?_
  rw [show A 7 (5 * k + 1) = x 0 from (h0 0 (by decide)).1]
  refine g_run 6 2 rfl ?_
  refine g_get 8 rfl fl_RX8_38 H.2.1 rfl ?_
  refine g_run 9 3 rfl ?_
  refine g_iald 12 (5 * k + 2) rfl rfl H.2.2.2.2.2.2.2.2.2 (by first | rfl | omega) (by omega) (by decide) ?_
  refine g_run 13 2 rfl ?_
  refine g_get 15 rfl fl_RX8_38 H.2.1 rfl ?_
  refine g_run 16 3 rfl ?_
  refine g_iald 19 (5 * k + 3) rfl rfl H.2.2.2.2.2.2.2.2.2 (by first | rfl | omega) (by omega) (by decide) ?_
  refine g_run 20 2 rfl ?_
  refine g_get 22 rfl fl_RX8_38 H.2.1 rfl ?_
  refine g_run 23 1 rfl ?_
  refine g_iald 24 (5 * k) rfl rfl H.2.2.2.2.2.2.2.2.2 (by first | rfl | omega) (by omega) (by decide) ?_
  rw [show A 7 (5 * k) = 114 from hkd]
  refine g_tsw 137 17 dw_X8_does_34 rfl (by decide) (by decide) rfl rfl ?_
  refine g_run 31 2 rfl ?_
  refine g_callV 33 rfl cv_RX8_117 H.2.1 (m_tries H hv hV.2.2.2 (x 0) (h0 0 (by decide)).2) rfl rfl (by decide) (by omega) (by omega) (Nat.le_of_ble_eq_true rfl) (e_kw fun M139 hq139 => ?_) e_kwx
  have fr139 := e_fr_tr fr0 (e_fr_w hq139.2 (by omega))
  exact g_iret 34 rfl rfl (by first | exact trivial | exact Or.inl rfl | exact Or.inr rfl | (show _ ∨ _; omega)) ⟨rfl, fr139, _, rfl, hq139.1⟩
theorem m_does3 (H : MM M m q A) (hV : Vh B (A 0)) (hB : B ≤ 900000000) (z : Int) (k : Nat) (hz : z = 5 * (k : Int)) (hk : 5 * k + 4 < 155) (x : Nat → Int) (hkd : A 7 (5 * k) = rKd 3) (h0 : ∀ p, p < rAr 3 → A 7 (5 * k + 1 + p) = x p ∧ i32 (x p)) : Ct (e_L r0) Γ mX8_does 6 0 0 [vR m, vI z] M n (fun r' M' n' => n' = n ∧ e_fr m (m + 9) M M' ∧ ∃ y : Int, r' = .inl (some (vI y)) ∧ MM M' m (va_up q 6 (tC (A 0) 3 (x 0) (x 1) (x 2) (x 3))) (if tC (A 0) 3 (x 0) (x 1) (x 2) (x 3) = 0 then va_up A 0 (vC (A 0) 3 (x 0) (x 1) (x 2) (x 3)) else A)) := by
  have hv := hV.1
  have fr0 : e_fr m (m + 9) M M := e_fr_refl
  refine g_start ok_X8_does rfl rfl ?_
  refine g_run 0 1 rfl ?_
  refine g_get 1 rfl fl_RX8_38 H.2.1 rfl ?_
  refine g_run 2 3 rfl ?_
  refine g_iald 5 (5 * k + 1) rfl rfl H.2.2.2.2.2.2.2.2.2 (by first | rfl | omega) (by omega) (by decide) ?_
  rw [show A 7 (5 * k + 1) = x 0 from (h0 0 (by decide)).1]
  refine g_run 6 2 rfl ?_
  refine g_get 8 rfl fl_RX8_38 H.2.1 rfl ?_
  refine g_run 9 3 rfl ?_
  refine g_iald 12 (5 * k + 2) rfl rfl H.2.2.2.2.2.2.2.2.2 (by first | rfl | omega) (by omega) (by decide) ?_
  refine g_run 13 2 rfl ?_
  refine g_get 15 rfl fl_RX8_38 H.2.1 rfl ?_
  refine g_run 16 3 rfl ?_
  refine g_iald 19 (5 * k + 3) rfl rfl H.2.2.2.2.2.2.2.2.2 (by first | rfl | omega) (by omega) (by decide) ?_
  refine g_run 20 2 rfl ?_
  refine g_get 22 rfl fl_RX8_38 H.2.1 rfl ?_
  refine g_run 23 1 rfl ?_
  refine g_iald 24 (5 * k) rfl rfl H.2.2.2.2.2.2.2.2.2 (by first | rfl | omega) (by omega) (by decide) ?_
  rw [show A 7 (5 * k) = 115 from hkd]
  refine g_tsw 158 18 dw_X8_does_34 rfl (by decide) (by decide) rfl rfl ?_
  refine g_run 45 2 rfl ?_
  refine g_callV 47 rfl cv_RX8_124 H.2.1 (m_shuts H hv (x 0) (h0 0 (by decide)).2) rfl rfl (by decide) (by omega) (by omega) (Nat.le_of_ble_eq_true rfl) (e_kw fun M160 hq160 => ?_) e_kwx
  have fr160 := e_fr_tr fr0 (e_fr_w hq160.2 (by omega))
  exact g_iret 48 rfl rfl (by first | exact trivial | exact Or.inl rfl | exact Or.inr rfl | (show _ ∨ _; omega)) ⟨rfl, fr160, _, rfl, hq160.1⟩
theorem m_does4 (H : MM M m q A) (hV : Vh B (A 0)) (hB : B ≤ 900000000) (z : Int) (k : Nat) (hz : z = 5 * (k : Int)) (hk : 5 * k + 4 < 155) (x : Nat → Int) (hkd : A 7 (5 * k) = rKd 4) (h0 : ∀ p, p < rAr 4 → A 7 (5 * k + 1 + p) = x p ∧ i32 (x p)) : Ct (e_L r0) Γ mX8_does 6 0 0 [vR m, vI z] M n (fun r' M' n' => n' = n ∧ e_fr m (m + 9) M M' ∧ ∃ y : Int, r' = .inl (some (vI y)) ∧ MM M' m (va_up q 6 (tC (A 0) 4 (x 0) (x 1) (x 2) (x 3))) (if tC (A 0) 4 (x 0) (x 1) (x 2) (x 3) = 0 then va_up A 0 (vC (A 0) 4 (x 0) (x 1) (x 2) (x 3)) else A)) := by
  have hv := hV.1
  have fr0 : e_fr m (m + 9) M M := e_fr_refl
  refine g_start ok_X8_does rfl rfl ?_
  refine g_run 0 1 rfl ?_
  refine g_get 1 rfl fl_RX8_38 H.2.1 rfl ?_
  refine g_run 2 3 rfl ?_
  refine g_iald 5 (5 * k + 1) rfl rfl H.2.2.2.2.2.2.2.2.2 (by first | rfl | omega) (by omega) (by decide) ?_
  rw [show A 7 (5 * k + 1) = x 0 from (h0 0 (by decide)).1]
  refine g_run 6 2 rfl ?_
  refine g_get 8 rfl fl_RX8_38 H.2.1 rfl ?_
  refine g_run 9 3 rfl ?_
  refine g_iald 12 (5 * k + 2) rfl rfl H.2.2.2.2.2.2.2.2.2 (by first | rfl | omega) (by omega) (by decide) ?_
  refine g_run 13 2 rfl ?_
  refine g_get 15 rfl fl_RX8_38 H.2.1 rfl ?_
  refine g_run 16 3 rfl ?_
  refine g_iald 19 (5 * k + 3) rfl rfl H.2.2.2.2.2.2.2.2.2 (by first | rfl | omega) (by omega) (by decide) ?_
  refine g_run 20 2 rfl ?_
  refine g_get 22 rfl fl_RX8_38 H.2.1 rfl ?_
  refine g_run 23 1 rfl ?_
  refine g_iald 24 (5 * k) rfl rfl H.2.2.2.2.2.2.2.2.2 (by first | rfl | omega) (by omega) (by decide) ?_
  rw [show A 7 (5 * k) = 97 from hkd]
  refine g_tsw 152 0 dw_X8_does_34 rfl (by decide) (by decide) rfl rfl ?_
  refine g_run 41 2 rfl ?_
  refine g_callV 43 rfl cv_RX8_131 H.2.1 (m_damps H hv (x 0) (h0 0 (by decide)).2) rfl rfl (by decide) (by omega) (by omega) (Nat.le_of_ble_eq_true rfl) (e_kw fun M154 hq154 => ?_) e_kwx
  have fr154 := e_fr_tr fr0 (e_fr_w hq154.2 (by omega))
  exact g_iret 44 rfl rfl (by first | exact trivial | exact Or.inl rfl | exact Or.inr rfl | (show _ ∨ _; omega)) ⟨rfl, fr154, _, rfl, hq154.1⟩
theorem m_does5 (H : MM M m q A) (hV : Vh B (A 0)) (hB : B ≤ 900000000) (z : Int) (k : Nat) (hz : z = 5 * (k : Int)) (hk : 5 * k + 4 < 155) (x : Nat → Int) (hkd : A 7 (5 * k) = rKd 5) (h0 : ∀ p, p < rAr 5 → A 7 (5 * k + 1 + p) = x p ∧ i32 (x p)) : Ct (e_L r0) Γ mX8_does 6 0 0 [vR m, vI z] M n (fun r' M' n' => n' = n ∧ e_fr m (m + 9) M M' ∧ ∃ y : Int, r' = .inl (some (vI y)) ∧ MM M' m (va_up q 6 (tC (A 0) 5 (x 0) (x 1) (x 2) (x 3))) (if tC (A 0) 5 (x 0) (x 1) (x 2) (x 3) = 0 then va_up A 0 (vC (A 0) 5 (x 0) (x 1) (x 2) (x 3)) else A)) := by
  have hv := hV.1
  have fr0 : e_fr m (m + 9) M M := e_fr_refl
  refine g_start ok_X8_does rfl rfl ?_
  refine g_run 0 1 rfl ?_
  refine g_get 1 rfl fl_RX8_38 H.2.1 rfl ?_
  refine g_run 2 3 rfl ?_
  refine g_iald 5 (5 * k + 1) rfl rfl H.2.2.2.2.2.2.2.2.2 (by first | rfl | omega) (by omega) (by decide) ?_
  rw [show A 7 (5 * k + 1) = x 0 from (h0 0 (by decide)).1]
  refine g_run 6 2 rfl ?_
  refine g_get 8 rfl fl_RX8_38 H.2.1 rfl ?_
  refine g_run 9 3 rfl ?_
  refine g_iald 12 (5 * k + 2) rfl rfl H.2.2.2.2.2.2.2.2.2 (by first | rfl | omega) (by omega) (by decide) ?_
  rw [show A 7 (5 * k + 2) = x 1 from (h0 1 (by decide)).1]
  refine g_run 13 2 rfl ?_
  refine g_get 15 rfl fl_RX8_38 H.2.1 rfl ?_
  refine g_run 16 3 rfl ?_
  refine g_iald 19 (5 * k + 3) rfl rfl H.2.2.2.2.2.2.2.2.2 (by first | rfl | omega) (by omega) (by decide) ?_
  refine g_run 20 2 rfl ?_
  refine g_get 22 rfl fl_RX8_38 H.2.1 rfl ?_
  refine g_run 23 1 rfl ?_
  refine g_iald 24 (5 * k) rfl rfl H.2.2.2.2.2.2.2.2.2 (by first | rfl | omega) (by omega) (by decide) ?_
  rw [show A 7 (5 * k) = 98 from hkd]
  refine g_tsw 181 1 dw_X8_does_34 rfl (by decide) (by decide) rfl rfl ?_
  refine g_run 61 3 rfl ?_
  refine g_callV 64 rfl cv_RX8_143 H.2.1 (m_bakings H hv (x 0) (x 1) (h0 0 (by decide)).2 (h0 1 (by decide)).2) rfl rfl (by decide) (by omega) (by omega) (Nat.le_of_ble_eq_true rfl) (e_kw fun M184 hq184 => ?_) e_kwx
  have fr184 := e_fr_tr fr0 (e_fr_w hq184.2 (by omega))
  exact g_iret 65 rfl rfl (by first | exact trivial | exact Or.inl rfl | exact Or.inr rfl | (show _ ∨ _; omega)) ⟨rfl, fr184, _, rfl, hq184.1⟩
theorem m_does6 (H : MM M m q A) (hV : Vh B (A 0)) (hB : B ≤ 900000000) (z : Int) (k : Nat) (hz : z = 5 * (k : Int)) (hk : 5 * k + 4 < 155) (x : Nat → Int) (hkd : A 7 (5 * k) = rKd 6) (h0 : ∀ p, p < rAr 6 → A 7 (5 * k + 1 + p) = x p ∧ i32 (x p)) : Ct (e_L r0) Γ mX8_does 6 0 0 [vR m, vI z] M n (fun r' M' n' => n' = n ∧ e_fr m (m + 9) M M' ∧ ∃ y : Int, r' = .inl (some (vI y)) ∧ MM M' m (va_up q 6 (tC (A 0) 6 (x 0) (x 1) (x 2) (x 3))) (if tC (A 0) 6 (x 0) (x 1) (x 2) (x 3) = 0 then va_up A 0 (vC (A 0) 6 (x 0) (x 1) (x 2) (x 3)) else A)) := by
  have hv := hV.1
  have fr0 : e_fr m (m + 9) M M := e_fr_refl
  refine g_start ok_X8_does rfl rfl ?_
  refine g_run 0 1 rfl ?_
  refine g_get 1 rfl fl_RX8_38 H.2.1 rfl ?_
  refine g_run 2 3 rfl ?_
  refine g_iald 5 (5 * k + 1) rfl rfl H.2.2.2.2.2.2.2.2.2 (by first | rfl | omega) (by omega) (by decide) ?_
  rw [show A 7 (5 * k + 1) = x 0 from (h0 0 (by decide)).1]
  refine g_run 6 2 rfl ?_
  refine g_get 8 rfl fl_RX8_38 H.2.1 rfl ?_
  refine g_run 9 3 rfl ?_
  refine g_iald 12 (5 * k + 2) rfl rfl H.2.2.2.2.2.2.2.2.2 (by first | rfl | omega) (by omega) (by decide) ?_
  refine g_run 13 2 rfl ?_
  refine g_get 15 rfl fl_RX8_38 H.2.1 rfl ?_
  refine g_run 16 3 rfl ?_
  refine g_iald 19 (5 * k + 3) rfl rfl H.2.2.2.2.2.2.2.2.2 (by first | rfl | omega) (by omega) (by decide) ?_
  refine g_run 20 2 rfl ?_
  refine g_get 22 rfl fl_RX8_38 H.2.1 rfl ?_
  refine g_run 23 1 rfl ?_
  refine g_iald 24 (5 * k) rfl rfl H.2.2.2.2.2.2.2.2.2 (by first | rfl | omega) (by omega) (by decide) ?_
  rw [show A 7 (5 * k) = 104 from hkd]
  refine g_tsw 188 7 dw_X8_does_34 rfl (by decide) (by decide) rfl rfl ?_
  refine g_run 66 2 rfl ?_
  refine g_callV 68 rfl cv_RX8_156 H.2.1 (m_waits H hv hV hB (x 0) (h0 0 (by decide)).2) rfl rfl (by decide) (by omega) (by omega) (Nat.le_of_ble_eq_true rfl) (e_kw fun M190 hq190 => ?_) e_kwx
  have fr190 := e_fr_tr fr0 (e_fr_w hq190.2 (by omega))
  exact g_iret 69 rfl rfl (by first | exact trivial | exact Or.inl rfl | exact Or.inr rfl | (show _ ∨ _; omega)) ⟨rfl, fr190, _, rfl, hq190.1⟩
theorem m_does7 (H : MM M m q A) (hV : Vh B (A 0)) (hB : B ≤ 900000000) (z : Int) (k : Nat) (hz : z = 5 * (k : Int)) (hk : 5 * k + 4 < 155) (x : Nat → Int) (hkd : A 7 (5 * k) = rKd 7) (h0 : ∀ p, p < rAr 7 → A 7 (5 * k + 1 + p) = x p ∧ i32 (x p)) : Ct (e_L r0) Γ mX8_does 6 0 0 [vR m, vI z] M n (fun r' M' n' => n' = n ∧ e_fr m (m + 9) M M' ∧ ∃ y : Int, r' = .inl (some (vI y)) ∧ MM M' m (va_up q 6 (tC (A 0) 7 (x 0) (x 1) (x 2) (x 3))) (if tC (A 0) 7 (x 0) (x 1) (x 2) (x 3) = 0 then va_up A 0 (vC (A 0) 7 (x 0) (x 1) (x 2) (x 3)) else A)) := by
  have hv := hV.1
  have fr0 : e_fr m (m + 9) M M := e_fr_refl
  refine g_start ok_X8_does rfl rfl ?_
  refine g_run 0 1 rfl ?_
  refine g_get 1 rfl fl_RX8_38 H.2.1 rfl ?_
  refine g_run 2 3 rfl ?_
  refine g_iald 5 (5 * k + 1) rfl rfl H.2.2.2.2.2.2.2.2.2 (by first | rfl | omega) (by omega) (by decide) ?_
  rw [show A 7 (5 * k + 1) = x 0 from (h0 0 (by decide)).1]
  refine g_run 6 2 rfl ?_
  refine g_get 8 rfl fl_RX8_38 H.2.1 rfl ?_
  refine g_run 9 3 rfl ?_
  refine g_iald 12 (5 * k + 2) rfl rfl H.2.2.2.2.2.2.2.2.2 (by first | rfl | omega) (by omega) (by decide) ?_
  refine g_run 13 2 rfl ?_
  refine g_get 15 rfl fl_RX8_38 H.2.1 rfl ?_
  refine g_run 16 3 rfl ?_
  refine g_iald 19 (5 * k + 3) rfl rfl H.2.2.2.2.2.2.2.2.2 (by first | rfl | omega) (by omega) (by decide) ?_
  refine g_run 20 2 rfl ?_
  refine g_get 22 rfl fl_RX8_38 H.2.1 rfl ?_
  refine g_run 23 1 rfl ?_
  refine g_iald 24 (5 * k) rfl rfl H.2.2.2.2.2.2.2.2.2 (by first | rfl | omega) (by omega) (by decide) ?_
  rw [show A 7 (5 * k) = 104 from hkd]
  refine g_tsw 188 7 dw_X8_does_34 rfl (by decide) (by decide) rfl rfl ?_
  refine g_run 66 2 rfl ?_
  refine g_callV 68 rfl cv_RX8_156 H.2.1 (m_waits H hv hV hB (x 0) (h0 0 (by decide)).2) rfl rfl (by decide) (by omega) (by omega) (Nat.le_of_ble_eq_true rfl) (e_kw fun M190 hq190 => ?_) e_kwx
  have fr190 := e_fr_tr fr0 (e_fr_w hq190.2 (by omega))
  exact g_iret 69 rfl rfl (by first | exact trivial | exact Or.inl rfl | exact Or.inr rfl | (show _ ∨ _; omega)) ⟨rfl, fr190, _, rfl, hq190.1⟩
theorem m_does8 (H : MM M m q A) (hV : Vh B (A 0)) (hB : B ≤ 900000000) (z : Int) (k : Nat) (hz : z = 5 * (k : Int)) (hk : 5 * k + 4 < 155) (x : Nat → Int) (hkd : A 7 (5 * k) = rKd 8) (h0 : ∀ p, p < rAr 8 → A 7 (5 * k + 1 + p) = x p ∧ i32 (x p)) : Ct (e_L r0) Γ mX8_does 6 0 0 [vR m, vI z] M n (fun r' M' n' => n' = n ∧ e_fr m (m + 9) M M' ∧ ∃ y : Int, r' = .inl (some (vI y)) ∧ MM M' m (va_up q 6 (tC (A 0) 8 (x 0) (x 1) (x 2) (x 3))) (if tC (A 0) 8 (x 0) (x 1) (x 2) (x 3) = 0 then va_up A 0 (vC (A 0) 8 (x 0) (x 1) (x 2) (x 3)) else A)) := by
  have hv := hV.1
  have fr0 : e_fr m (m + 9) M M := e_fr_refl
  refine g_start ok_X8_does rfl rfl ?_
  refine g_run 0 1 rfl ?_
  refine g_get 1 rfl fl_RX8_38 H.2.1 rfl ?_
  refine g_run 2 3 rfl ?_
  refine g_iald 5 (5 * k + 1) rfl rfl H.2.2.2.2.2.2.2.2.2 (by first | rfl | omega) (by omega) (by decide) ?_
  rw [show A 7 (5 * k + 1) = x 0 from (h0 0 (by decide)).1]
  refine g_run 6 2 rfl ?_
  refine g_get 8 rfl fl_RX8_38 H.2.1 rfl ?_
  refine g_run 9 3 rfl ?_
  refine g_iald 12 (5 * k + 2) rfl rfl H.2.2.2.2.2.2.2.2.2 (by first | rfl | omega) (by omega) (by decide) ?_
  refine g_run 13 2 rfl ?_
  refine g_get 15 rfl fl_RX8_38 H.2.1 rfl ?_
  refine g_run 16 3 rfl ?_
  refine g_iald 19 (5 * k + 3) rfl rfl H.2.2.2.2.2.2.2.2.2 (by first | rfl | omega) (by omega) (by decide) ?_
  refine g_run 20 2 rfl ?_
  refine g_get 22 rfl fl_RX8_38 H.2.1 rfl ?_
  refine g_run 23 1 rfl ?_
  refine g_iald 24 (5 * k) rfl rfl H.2.2.2.2.2.2.2.2.2 (by first | rfl | omega) (by omega) (by decide) ?_
  rw [show A 7 (5 * k) = 104 from hkd]
  refine g_tsw 188 7 dw_X8_does_34 rfl (by decide) (by decide) rfl rfl ?_
  refine g_run 66 2 rfl ?_
  refine g_callV 68 rfl cv_RX8_156 H.2.1 (m_waits H hv hV hB (x 0) (h0 0 (by decide)).2) rfl rfl (by decide) (by omega) (by omega) (Nat.le_of_ble_eq_true rfl) (e_kw fun M190 hq190 => ?_) e_kwx
  have fr190 := e_fr_tr fr0 (e_fr_w hq190.2 (by omega))
  exact g_iret 69 rfl rfl (by first | exact trivial | exact Or.inl rfl | exact Or.inr rfl | (show _ ∨ _; omega)) ⟨rfl, fr190, _, rfl, hq190.1⟩
theorem m_does9 (H : MM M m q A) (hV : Vh B (A 0)) (hB : B ≤ 900000000) (z : Int) (k : Nat) (hz : z = 5 * (k : Int)) (hk : 5 * k + 4 < 155) (x : Nat → Int) (hkd : A 7 (5 * k) = rKd 9) (h0 : ∀ p, p < rAr 9 → A 7 (5 * k + 1 + p) = x p ∧ i32 (x p)) : Ct (e_L r0) Γ mX8_does 6 0 0 [vR m, vI z] M n (fun r' M' n' => n' = n ∧ e_fr m (m + 9) M M' ∧ ∃ y : Int, r' = .inl (some (vI y)) ∧ MM M' m (va_up q 6 (tC (A 0) 9 (x 0) (x 1) (x 2) (x 3))) (if tC (A 0) 9 (x 0) (x 1) (x 2) (x 3) = 0 then va_up A 0 (vC (A 0) 9 (x 0) (x 1) (x 2) (x 3)) else A)) := by
  have hv := hV.1
  have fr0 : e_fr m (m + 9) M M := e_fr_refl
  refine g_start ok_X8_does rfl rfl ?_
  refine g_run 0 1 rfl ?_
  refine g_get 1 rfl fl_RX8_38 H.2.1 rfl ?_
  refine g_run 2 3 rfl ?_
  refine g_iald 5 (5 * k + 1) rfl rfl H.2.2.2.2.2.2.2.2.2 (by first | rfl | omega) (by omega) (by decide) ?_
  rw [show A 7 (5 * k + 1) = x 0 from (h0 0 (by decide)).1]
  refine g_run 6 2 rfl ?_
  refine g_get 8 rfl fl_RX8_38 H.2.1 rfl ?_
  refine g_run 9 3 rfl ?_
  refine g_iald 12 (5 * k + 2) rfl rfl H.2.2.2.2.2.2.2.2.2 (by first | rfl | omega) (by omega) (by decide) ?_
  rw [show A 7 (5 * k + 2) = x 1 from (h0 1 (by decide)).1]
  refine g_run 13 2 rfl ?_
  refine g_get 15 rfl fl_RX8_38 H.2.1 rfl ?_
  refine g_run 16 3 rfl ?_
  refine g_iald 19 (5 * k + 3) rfl rfl H.2.2.2.2.2.2.2.2.2 (by first | rfl | omega) (by omega) (by decide) ?_
  rw [show A 7 (5 * k + 3) = x 2 from (h0 2 (by decide)).1]
  refine g_run 20 2 rfl ?_
  refine g_get 22 rfl fl_RX8_38 H.2.1 rfl ?_
  refine g_run 23 1 rfl ?_
  refine g_iald 24 (5 * k) rfl rfl H.2.2.2.2.2.2.2.2.2 (by first | rfl | omega) (by omega) (by decide) ?_
  rw [show A 7 (5 * k) = 101 from hkd]
  refine g_tsw 164 4 dw_X8_does_34 rfl (by decide) (by decide) rfl rfl ?_
  refine g_run 49 5 rfl ?_
  refine g_get 54 rfl fl_RX8_38 H.2.1 rfl ?_
  refine g_run 55 3 rfl ?_
  refine g_iald 58 (5 * k + 4) rfl rfl H.2.2.2.2.2.2.2.2.2 (by first | rfl | omega) (by omega) (by decide) ?_
  rw [show A 7 (5 * k + 4) = x 3 from (h0 3 (by decide)).1]
  refine g_callV 59 rfl cv_RX8_127 H.2.1 (m_combined H hv (x 0) (x 1) (x 2) (x 3) (h0 0 (by decide)).2 (h0 1 (by decide)).2 (h0 2 (by decide)).2 (h0 3 (by decide)).2) rfl rfl (by decide) (by omega) (by omega) (Nat.le_of_ble_eq_true rfl) (e_kw fun M177 hq177 => ?_) e_kwx
  have fr177 := e_fr_tr fr0 (e_fr_w hq177.2 (by omega))
  exact g_iret 60 rfl rfl (by first | exact trivial | exact Or.inl rfl | exact Or.inr rfl | (show _ ∨ _; omega)) ⟨rfl, fr177, _, rfl, hq177.1⟩
theorem m_does (j : Nat) (hj : j < 10) (H : MM M m q A) (hV : Vh B (A 0)) (hB : B ≤ 900000000) (z : Int) (k : Nat) (hz : z = 5 * (k : Int)) (hk : 5 * k + 4 < 155) (x : Nat → Int) (hkd : A 7 (5 * k) = rKd j) (h0 : ∀ p, p < rAr j → A 7 (5 * k + 1 + p) = x p ∧ i32 (x p)) : Ct (e_L r0) Γ mX8_does 6 0 0 [vR m, vI z] M n (fun r' M' n' => n' = n ∧ e_fr m (m + 9) M M' ∧ ∃ y : Int, r' = .inl (some (vI y)) ∧ MM M' m (va_up q 6 (tC (A 0) j (x 0) (x 1) (x 2) (x 3))) (if tC (A 0) j (x 0) (x 1) (x 2) (x 3) = 0 then va_up A 0 (vC (A 0) j (x 0) (x 1) (x 2) (x 3)) else A)) := by
  match j, hj with
  | 0, _ => exact m_does0 H hV hB z k hz hk x hkd h0
  | 1, _ => exact m_does1 H hV hB z k hz hk x hkd h0
  | 2, _ => exact m_does2 H hV hB z k hz hk x hkd h0
  | 3, _ => exact m_does3 H hV hB z k hz hk x hkd h0
  | 4, _ => exact m_does4 H hV hB z k hz hk x hkd h0
  | 5, _ => exact m_does5 H hV hB z k hz hk x hkd h0
  | 6, _ => exact m_does6 H hV hB z k hz hk x hkd h0
  | 7, _ => exact m_does7 H hV hB z k hz hk x hkd h0
  | 8, _ => exact m_does8 H hV hB z k hz hk x hkd h0
  | 9, _ => exact m_does9 H hV hB z k hz hk x hkd h0
end MD
