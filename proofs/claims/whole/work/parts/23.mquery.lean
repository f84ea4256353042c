/-! the reference's queries (wip/whole/gen/c_mquery.py prints this part) -/
abbrev tD (v : Nat → Int) (z : Int) : Int := if vDoor v z then 0 else 1
section MQ
variable {r0 : Option Nat} {Γ : Cx} {M : Mem} {n m : Nat} {q : Nat → Int} {A : Nat → Nat → Int} {B : Int}
theorem m_doorCountQ (H : MM M m q A) (hv : Vok B (A 0))  : Ct (e_L r0) Γ mX8_doorCount 0 0 0 [vR m] M n (e_wr (some (vI (A 0 2))) n fun M' => MM M' m (va_up q 6 (0)) A ∧ e_fr m (m + 9) M M') := by
  have fr0 : e_fr m (m + 9) M M := e_fr_refl
  refine g_start ok_X8_doorCount rfl rfl ?_
  refine g_run 0 2 rfl ?_
  refine g_put 2 rfl fp_RX8_41 H.2.1 rfl trivial (fun M2 hM2 => ?_)
  have H2 := MM_q6 H hM2
  have fr2 := e_fr_tr fr0 (e_fr_up hM2 (by omega))
  refine g_run 3 1 rfl ?_
  refine g_get 4 rfl fl_RX8_9 H2.2.1 rfl ?_
  refine g_run 5 1 rfl ?_
  refine g_iald 6 2 rfl rfl H2.2.2.1 (by first | rfl | omega) (by omega) (by decide) ?_
  have H9 := H2
  try rw [up_up] at H9
  exact g_iret 7 rfl rfl (by first | trivial | exact b_01 | exact Or.inl rfl | exact Or.inr rfl) ⟨rfl, rfl, H9, fr2⟩
theorem m_rememberedTriesQ (H : MM M m q A) (hv : Vok B (A 0))  : Ct (e_L r0) Γ mX8_rememberedTries 0 0 0 [vR m] M n (e_wr (some (vI (A 0 6))) n fun M' => MM M' m (va_up q 6 (0)) A ∧ e_fr m (m + 9) M M') := by
  have fr0 : e_fr m (m + 9) M M := e_fr_refl
  refine g_start ok_X8_rememberedTries rfl rfl ?_
  refine g_run 0 2 rfl ?_
  refine g_put 2 rfl fp_RX8_41 H.2.1 rfl trivial (fun M2 hM2 => ?_)
  have H2 := MM_q6 H hM2
  have fr2 := e_fr_tr fr0 (e_fr_up hM2 (by omega))
  refine g_run 3 1 rfl ?_
  refine g_get 4 rfl fl_RX8_9 H2.2.1 rfl ?_
  refine g_run 5 1 rfl ?_
  refine g_iald 6 6 rfl rfl H2.2.2.1 (by first | rfl | omega) (by omega) (by decide) ?_
  have H9 := H2
  try rw [up_up] at H9
  exact g_iret 7 rfl rfl (by first | trivial | exact b_01 | exact Or.inl rfl | exact Or.inr rfl) ⟨rfl, rfl, H9, fr2⟩
theorem m_dampQ (H : MM M m q A) (hv : Vok B (A 0))  : Ct (e_L r0) Γ mX8_damp 0 0 0 [vR m] M n (e_wr (some (vI (A 0 1))) n fun M' => MM M' m (va_up q 6 (0)) A ∧ e_fr m (m + 9) M M') := by
  have fr0 : e_fr m (m + 9) M M := e_fr_refl
  refine g_start ok_X8_damp rfl rfl ?_
  refine g_run 0 2 rfl ?_
  refine g_put 2 rfl fp_RX8_41 H.2.1 rfl trivial (fun M2 hM2 => ?_)
  have H2 := MM_q6 H hM2
  have fr2 := e_fr_tr fr0 (e_fr_up hM2 (by omega))
  refine g_run 3 1 rfl ?_
  refine g_get 4 rfl fl_RX8_9 H2.2.1 rfl ?_
  refine g_run 5 1 rfl ?_
  refine g_iald 6 1 rfl rfl H2.2.2.1 (by first | rfl | omega) (by omega) (by decide) ?_
  have H9 := H2
  try rw [up_up] at H9
  exact g_iret 7 rfl rfl (by first | trivial | exact b_01 | exact Or.inl rfl | exact Or.inr rfl) ⟨rfl, rfl, H9, fr2⟩
theorem m_hourQ (H : MM M m q A) (hv : Vok B (A 0))  : Ct (e_L r0) Γ mX8_hour 0 0 0 [vR m] M n (e_wr (some (vI (A 0 0))) n fun M' => MM M' m (va_up q 6 (0)) A ∧ e_fr m (m + 9) M M') := by
  have fr0 : e_fr m (m + 9) M M := e_fr_refl
  refine g_start ok_X8_hour rfl rfl ?_
  refine g_run 0 2 rfl ?_
  refine g_put 2 rfl fp_RX8_41 H.2.1 rfl trivial (fun M2 hM2 => ?_)
  have H2 := MM_q6 H hM2
  have fr2 := e_fr_tr fr0 (e_fr_up hM2 (by omega))
  refine g_run 3 1 rfl ?_
  refine g_get 4 rfl fl_RX8_9 H2.2.1 rfl ?_
  refine g_run 5 1 rfl ?_
  refine g_iald 6 0 rfl rfl H2.2.2.1 (by first | rfl | omega) (by omega) (by decide) ?_
  have H9 := H2
  try rw [up_up] at H9
  exact g_iret 7 rfl rfl (by first | trivial | exact b_01 | exact Or.inl rfl | exact Or.inr rfl) ⟨rfl, rfl, H9, fr2⟩
theorem m_tryTotalQ (H : MM M m q A) (hv : Vok B (A 0))  : Ct (e_L r0) Γ mX8_tryTotal 0 0 0 [vR m] M n (e_wr (some (vI (A 0 3))) n fun M' => MM M' m (va_up q 6 (0)) A ∧ e_fr m (m + 9) M M') := by
  have fr0 : e_fr m (m + 9) M M := e_fr_refl
  refine g_start ok_X8_tryTotal rfl rfl ?_
  refine g_run 0 2 rfl ?_
  refine g_put 2 rfl fp_RX8_41 H.2.1 rfl trivial (fun M2 hM2 => ?_)
  have H2 := MM_q6 H hM2
  have fr2 := e_fr_tr fr0 (e_fr_up hM2 (by omega))
  refine g_run 3 1 rfl ?_
  refine g_get 4 rfl fl_RX8_9 H2.2.1 rfl ?_
  refine g_run 5 1 rfl ?_
  refine g_iald 6 3 rfl rfl H2.2.2.1 (by first | rfl | omega) (by omega) (by decide) ?_
  have H9 := H2
  try rw [up_up] at H9
  exact g_iret 7 rfl rfl (by first | trivial | exact b_01 | exact Or.inl rfl | exact Or.inr rfl) ⟨rfl, rfl, H9, fr2⟩
theorem m_openedTotalQ (H : MM M m q A) (hv : Vok B (A 0))  : Ct (e_L r0) Γ mX8_openedTotal 0 0 0 [vR m] M n (e_wr (some (vI (A 0 4))) n fun M' => MM M' m (va_up q 6 (0)) A ∧ e_fr m (m + 9) M M') := by
  have fr0 : e_fr m (m + 9) M M := e_fr_refl
  refine g_start ok_X8_openedTotal rfl rfl ?_
  refine g_run 0 2 rfl ?_
  refine g_put 2 rfl fp_RX8_41 H.2.1 rfl trivial (fun M2 hM2 => ?_)
  have H2 := MM_q6 H hM2
  have fr2 := e_fr_tr fr0 (e_fr_up hM2 (by omega))
  refine g_run 3 1 rfl ?_
  refine g_get 4 rfl fl_RX8_9 H2.2.1 rfl ?_
  refine g_run 5 1 rfl ?_
  refine g_iald 6 4 rfl rfl H2.2.2.1 (by first | rfl | omega) (by omega) (by decide) ?_
  have H9 := H2
  try rw [up_up] at H9
  exact g_iret 7 rfl rfl (by first | trivial | exact b_01 | exact Or.inl rfl | exact Or.inr rfl) ⟨rfl, rfl, H9, fr2⟩
theorem m_bakedTotalQ (H : MM M m q A) (hv : Vok B (A 0))  : Ct (e_L r0) Γ mX8_bakedTotal 0 0 0 [vR m] M n (e_wr (some (vI (A 0 5))) n fun M' => MM M' m (va_up q 6 (0)) A ∧ e_fr m (m + 9) M M') := by
  have fr0 : e_fr m (m + 9) M M := e_fr_refl
  refine g_start ok_X8_bakedTotal rfl rfl ?_
  refine g_run 0 2 rfl ?_
  refine g_put 2 rfl fp_RX8_41 H.2.1 rfl trivial (fun M2 hM2 => ?_)
  have H2 := MM_q6 H hM2
  have fr2 := e_fr_tr fr0 (e_fr_up hM2 (by omega))
  refine g_run 3 1 rfl ?_
  refine g_get 4 rfl fl_RX8_9 H2.2.1 rfl ?_
  refine g_run 5 1 rfl ?_
  refine g_iald 6 5 rfl rfl H2.2.2.1 (by first | rfl | omega) (by omega) (by decide) ?_
  have H9 := H2
  try rw [up_up] at H9
  exact g_iret 7 rfl rfl (by first | trivial | exact b_01 | exact Or.inl rfl | exact Or.inr rfl) ⟨rfl, rfl, H9, fr2⟩
theorem m_shutLocks (H : MM M m q A) (hv : Vok B (A 0))  : Ct (e_L r0) Γ mX8_shutLocks 4 0 0 [vR m] M n (e_wr (some (vI (vShut (A 0) (A 0 2).toNat))) n fun M' => MM M' m (va_up q 6 (0)) A ∧ e_fr m (m + 9) M M') := by
  have fr0 : e_fr m (m + 9) M M := e_fr_refl
  refine g_start ok_X8_shutLocks rfl rfl ?_
  refine g_run 0 2 rfl ?_
  refine g_put 2 rfl fp_RX8_41 H.2.1 rfl trivial (fun M2 hM2 => ?_)
  have H2 := MM_q6 H hM2
  have fr2 := e_fr_tr fr0 (e_fr_up hM2 (by omega))
  refine g_run 3 1 rfl ?_
  refine g_callV 4 rfl cv_RX8_120 H2.2.1 (m_manyShut H2 hv) rfl rfl (by decide) (by omega) (by omega) (Nat.le_of_ble_eq_true rfl) (e_kr ?_) e_kx
  have H9 := H2
  try rw [up_up] at H9
  exact g_iret 5 rfl rfl (by first | trivial | exact b_01 | exact Or.inl rfl | exact Or.inr rfl) ⟨rfl, rfl, H9, fr2⟩
theorem m_shutLocks2 (H : MM M m q A) (hv : Vok B (A 0))  : Ct (e_L r0) Γ mX8_shutLocksByAccounts 5 0 0 [vR m] M n (e_wr (some (vI (vShut (A 0) (A 0 2).toNat))) n fun M' => MM M' m (va_up q 6 (0)) A ∧ e_fr m (m + 9) M M') := by
  have fr0 : e_fr m (m + 9) M M := e_fr_refl
  refine g_start ok_X8_shutLocksByAccounts rfl rfl ?_
  refine g_run 0 1 rfl ?_
  refine g_callV 1 rfl cv_RX8_172 H.2.1 (m_shutLocks H hv) rfl rfl (by decide) (by omega) (by omega) (Nat.le_of_ble_eq_true rfl) (e_kw fun M1 hq1 => ?_) e_kwx
  have fr1 := e_fr_tr fr0 (e_fr_w hq1.2 (by omega))
  have H9 := hq1.1
  try rw [up_up] at H9
  exact g_iret 2 rfl rfl (by first | trivial | exact b_01 | exact Or.inl rfl | exact Or.inr rfl) ⟨rfl, rfl, H9, fr1⟩
theorem m_crumbs (H : MM M m q A) (hv : Vok B (A 0)) (z : Int) (hz : i32 z) : Ct (e_L r0) Γ mX8_crumbs 2 0 0 [vR m, vI z] M n (e_wr (some (vI (if tD (A 0) z = 0 then A 0 (7 + 9 * z.toNat + 7) else 0))) n fun M' => MM M' m (va_up q 6 (tD (A 0) z)) A ∧ e_fr m (m + 9) M M') := by
  have fr0 : e_fr m (m + 9) M M := e_fr_refl
  refine g_start ok_X8_crumbs rfl rfl ?_
  refine g_run 0 3 rfl ?_
  refine g_callV 3 rfl cv_RX8_92 H.2.1 (m_isDoor H hv z hz) rfl rfl (by decide) (by omega) (by omega) (Nat.le_of_ble_eq_true rfl) (e_kr ?_) e_kx
  refine g_if_ne 4 13 rfl rfl b_r (fun c6 => ?_) (fun c6 => ?_)
  · replace c6 := b_1.mp c6
    have q2 := hv.2.2.1
    rw [show tD (A 0) z = 0 from if_pos c6]
    refine g_run 7 2 rfl ?_
    refine g_callV 9 rfl cv_RX8_73 H.2.1 (m_isThrown H _ 1 (by first | exact Or.inl rfl | exact Or.inr rfl | exact b_01)) rfl rfl (by decide) (by omega) (by omega) (Nat.le_of_ble_eq_true rfl) (e_kw fun M15 hq15 => ?_) e_kwx
    have fr15 := e_fr_tr fr0 (e_fr_w hq15.2 (by omega))
    refine g_if_eq 10 25 rfl rfl (by decide) (fun _ => ?_) (fun c18 => absurd c18 (by decide))
    refine g_run 13 3 rfl ?_
    refine g_callV 16 rfl cv_RX8_55 hq15.1.2.1 (m_of hq15.1 z 7 z.toNat 7 (by omega) rfl (by omega)) rfl rfl (by decide) (by omega) (by omega) (Nat.le_of_ble_eq_true rfl) (e_kr ?_) e_kx
    have H9 := hq15.1
    try rw [up_up] at H9
    exact g_iret 17 rfl rfl (by first | trivial | exact b_01 | exact Or.inl rfl | exact Or.inr rfl) ⟨rfl, rfl, H9, fr15⟩
  · replace c6 := b_0.mp c6
    rw [show tD (A 0) z = 1 from if_neg c6]
    refine g_run 5 2 rfl ?_
    refine g_run 8 1 rfl ?_
    refine g_callV 9 rfl cv_RX8_73 H.2.1 (m_isThrown H _ 1 (by first | exact Or.inl rfl | exact Or.inr rfl | exact b_01)) rfl rfl (by decide) (by omega) (by omega) (Nat.le_of_ble_eq_true rfl) (e_kw fun M15 hq15 => ?_) e_kwx
    have fr15 := e_fr_tr fr0 (e_fr_w hq15.2 (by omega))
    refine g_if_eq 10 25 rfl rfl (by decide) (fun c18 => absurd c18 (by decide)) (fun _ => ?_)
    refine g_run 11 2 rfl ?_
    have H9 := hq15.1
    try rw [up_up] at H9
    exact g_iret 17 rfl rfl (by first | trivial | exact b_01 | exact Or.inl rfl | exact Or.inr rfl) ⟨rfl, rfl, H9, fr15⟩
theorem m_play (H : MM M m q A) (hv : Vok B (A 0)) (z : Int) (hz : i32 z) : Ct (e_L r0) Γ mX8_play 2 0 0 [vR m, vI z] M n (e_wr (some (vI (if tD (A 0) z = 0 then A 0 (7 + 9 * z.toNat + 7) / 5 else 0))) n fun M' => MM M' m (va_up q 6 (tD (A 0) z)) A ∧ e_fr m (m + 9) M M') := by
  have fr0 : e_fr m (m + 9) M M := e_fr_refl
  refine g_start ok_X8_play rfl rfl ?_
  refine g_run 0 3 rfl ?_
  refine g_callV 3 rfl cv_RX8_92 H.2.1 (m_isDoor H hv z hz) rfl rfl (by decide) (by omega) (by omega) (Nat.le_of_ble_eq_true rfl) (e_kr ?_) e_kx
  refine g_if_ne 4 13 rfl rfl b_r (fun c6 => ?_) (fun c6 => ?_)
  · replace c6 := b_1.mp c6
    have q2 := hv.2.2.1
    rw [show tD (A 0) z = 0 from if_pos c6]
    refine g_run 7 2 rfl ?_
    refine g_callV 9 rfl cv_RX8_73 H.2.1 (m_isThrown H _ 1 (by first | exact Or.inl rfl | exact Or.inr rfl | exact b_01)) rfl rfl (by decide) (by omega) (by omega) (Nat.le_of_ble_eq_true rfl) (e_kw fun M15 hq15 => ?_) e_kwx
    have fr15 := e_fr_tr fr0 (e_fr_w hq15.2 (by omega))
    refine g_if_eq 10 25 rfl rfl (by decide) (fun _ => ?_) (fun c18 => absurd c18 (by decide))
    refine g_run 13 2 rfl ?_
    refine g_callV 15 rfl cv_RX8_104 hq15.1.2.1 (m_playOf hq15.1 hv z z.toNat (by omega) (by omega)) rfl rfl (by decide) (by omega) (by omega) (Nat.le_of_ble_eq_true rfl) (e_kr ?_) e_kx
    have H9 := hq15.1
    try rw [up_up] at H9
    exact g_iret 16 rfl rfl (by first | trivial | exact b_01 | exact Or.inl rfl | exact Or.inr rfl) ⟨rfl, rfl, H9, fr15⟩
  · replace c6 := b_0.mp c6
    rw [show tD (A 0) z = 1 from if_neg c6]
    refine g_run 5 2 rfl ?_
    refine g_run 8 1 rfl ?_
    refine g_callV 9 rfl cv_RX8_73 H.2.1 (m_isThrown H _ 1 (by first | exact Or.inl rfl | exact Or.inr rfl | exact b_01)) rfl rfl (by decide) (by omega) (by omega) (Nat.le_of_ble_eq_true rfl) (e_kw fun M15 hq15 => ?_) e_kwx
    have fr15 := e_fr_tr fr0 (e_fr_w hq15.2 (by omega))
    refine g_if_eq 10 25 rfl rfl (by decide) (fun c18 => absurd c18 (by decide)) (fun _ => ?_)
    refine g_run 11 2 rfl ?_
    have H9 := hq15.1
    try rw [up_up] at H9
    exact g_iret 16 rfl rfl (by first | trivial | exact b_01 | exact Or.inl rfl | exact Or.inr rfl) ⟨rfl, rfl, H9, fr15⟩
theorem m_fittingDials (H : MM M m q A) (hv : Vok B (A 0)) (z : Int) (hz : i32 z) : Ct (e_L r0) Γ mX8_fittingDials 3 0 0 [vR m, vI z] M n (e_wr (some (vI (if tD (A 0) z = 0 then 3 - vMany (A 0) z.toNat else 0))) n fun M' => MM M' m (va_up q 6 (tD (A 0) z)) A ∧ e_fr m (m + 9) M M') := by
  have fr0 : e_fr m (m + 9) M M := e_fr_refl
  refine g_start ok_X8_fittingDials rfl rfl ?_
  refine g_run 0 3 rfl ?_
  refine g_callV 3 rfl cv_RX8_92 H.2.1 (m_isDoor H hv z hz) rfl rfl (by decide) (by omega) (by omega) (Nat.le_of_ble_eq_true rfl) (e_kr ?_) e_kx
  refine g_if_ne 4 13 rfl rfl b_r (fun c6 => ?_) (fun c6 => ?_)
  · replace c6 := b_1.mp c6
    have q2 := hv.2.2.1
    rw [show tD (A 0) z = 0 from if_pos c6]
    refine g_run 7 2 rfl ?_
    refine g_callV 9 rfl cv_RX8_73 H.2.1 (m_isThrown H _ 1 (by first | exact Or.inl rfl | exact Or.inr rfl | exact b_01)) rfl rfl (by decide) (by omega) (by omega) (Nat.le_of_ble_eq_true rfl) (e_kw fun M15 hq15 => ?_) e_kwx
    have fr15 := e_fr_tr fr0 (e_fr_w hq15.2 (by omega))
    refine g_if_eq 10 25 rfl rfl (by decide) (fun _ => ?_) (fun c18 => absurd c18 (by decide))
    refine g_run 13 5 rfl ?_
    refine g_callV 18 rfl cv_RX8_104 hq15.1.2.1 (m_playOf hq15.1 hv z z.toNat (by omega) (by omega)) rfl rfl (by decide) (by omega) (by omega) (Nat.le_of_ble_eq_true rfl) (e_kr ?_) e_kx
    have q7 := hv.2.2.2.2.2.2.1 z.toNat (by omega)
    refine g_callV 19 rfl cv_RX8_107 hq15.1.2.1 (m_misfits hq15.1 hv z z.toNat (by omega) (by omega) _ (by omega)) rfl rfl (by decide) (by omega) (by omega) (Nat.le_of_ble_eq_true rfl) (e_kr ?_) e_kx
    refine g_run 20 1 rfl ?_
    have H9 := hq15.1
    try rw [up_up] at H9
    exact g_iret 21 rfl rfl (by first | trivial | exact b_01 | exact Or.inl rfl | exact Or.inr rfl) ⟨rfl, rfl, H9, fr15⟩
  · replace c6 := b_0.mp c6
    rw [show tD (A 0) z = 1 from if_neg c6]
    refine g_run 5 2 rfl ?_
    refine g_run 8 1 rfl ?_
    refine g_callV 9 rfl cv_RX8_73 H.2.1 (m_isThrown H _ 1 (by first | exact Or.inl rfl | exact Or.inr rfl | exact b_01)) rfl rfl (by decide) (by omega) (by omega) (Nat.le_of_ble_eq_true rfl) (e_kw fun M15 hq15 => ?_) e_kwx
    have fr15 := e_fr_tr fr0 (e_fr_w hq15.2 (by omega))
    refine g_if_eq 10 25 rfl rfl (by decide) (fun c18 => absurd c18 (by decide)) (fun _ => ?_)
    refine g_run 11 2 rfl ?_
    have H9 := hq15.1
    try rw [up_up] at H9
    exact g_iret 21 rfl rfl (by first | trivial | exact b_01 | exact Or.inl rfl | exact Or.inr rfl) ⟨rfl, rfl, H9, fr15⟩
theorem m_stepsToOpen (H : MM M m q A) (hv : Vok B (A 0)) (z : Int) (hz : i32 z) : Ct (e_L r0) Γ mX8_stepsToOpen 3 0 0 [vR m, vI z] M n (e_wr (some (vI (if tD (A 0) z = 0 then vSteps (A 0) z.toNat 3 else 0))) n fun M' => MM M' m (va_up q 6 (tD (A 0) z)) A ∧ e_fr m (m + 9) M M') := by
  have fr0 : e_fr m (m + 9) M M := e_fr_refl
  refine g_start ok_X8_stepsToOpen rfl rfl ?_
  refine g_run 0 3 rfl ?_
  refine g_callV 3 rfl cv_RX8_92 H.2.1 (m_isDoor H hv z hz) rfl rfl (by decide) (by omega) (by omega) (Nat.le_of_ble_eq_true rfl) (e_kr ?_) e_kx
  refine g_if_ne 4 13 rfl rfl b_r (fun c6 => ?_) (fun c6 => ?_)
  · replace c6 := b_1.mp c6
    have q2 := hv.2.2.1
    rw [show tD (A 0) z = 0 from if_pos c6]
    refine g_run 7 2 rfl ?_
    refine g_callV 9 rfl cv_RX8_73 H.2.1 (m_isThrown H _ 1 (by first | exact Or.inl rfl | exact Or.inr rfl | exact b_01)) rfl rfl (by decide) (by omega) (by omega) (Nat.le_of_ble_eq_true rfl) (e_kw fun M15 hq15 => ?_) e_kwx
    have fr15 := e_fr_tr fr0 (e_fr_w hq15.2 (by omega))
    refine g_if_eq 10 25 rfl rfl (by decide) (fun _ => ?_) (fun c18 => absurd c18 (by decide))
    refine g_run 13 2 rfl ?_
    refine g_callV 15 rfl cv_RX8_159 hq15.1.2.1 (m_steps hq15.1 hv z z.toNat (by omega) (by omega)) rfl rfl (by decide) (by omega) (by omega) (Nat.le_of_ble_eq_true rfl) (e_kr ?_) e_kx
    have H9 := hq15.1
    try rw [up_up] at H9
    exact g_iret 16 rfl rfl (by first | trivial | exact b_01 | exact Or.inl rfl | exact Or.inr rfl) ⟨rfl, rfl, H9, fr15⟩
  · replace c6 := b_0.mp c6
    rw [show tD (A 0) z = 1 from if_neg c6]
    refine g_run 5 2 rfl ?_
    refine g_run 8 1 rfl ?_
    refine g_callV 9 rfl cv_RX8_73 H.2.1 (m_isThrown H _ 1 (by first | exact Or.inl rfl | exact Or.inr rfl | exact b_01)) rfl rfl (by decide) (by omega) (by omega) (Nat.le_of_ble_eq_true rfl) (e_kw fun M15 hq15 => ?_) e_kwx
    have fr15 := e_fr_tr fr0 (e_fr_w hq15.2 (by omega))
    refine g_if_eq 10 25 rfl rfl (by decide) (fun c18 => absurd c18 (by decide)) (fun _ => ?_)
    refine g_run 11 2 rfl ?_
    have H9 := hq15.1
    try rw [up_up] at H9
    exact g_iret 16 rfl rfl (by first | trivial | exact b_01 | exact Or.inl rfl | exact Or.inr rfl) ⟨rfl, rfl, H9, fr15⟩
theorem m_stepsToOpen2 (H : MM M m q A) (hv : Vok B (A 0)) (z : Int) (hz : i32 z) : Ct (e_L r0) Γ mX8_stepsToOpenByTurning 4 0 0 [vR m, vI z] M n (e_wr (some (vI (if tD (A 0) z = 0 then vSteps (A 0) z.toNat 3 else 0))) n fun M' => MM M' m (va_up q 6 (tD (A 0) z)) A ∧ e_fr m (m + 9) M M') := by
  have fr0 : e_fr m (m + 9) M M := e_fr_refl
  refine g_start ok_X8_stepsToOpenByTurning rfl rfl ?_
  refine g_run 0 2 rfl ?_
  refine g_callV 2 rfl cv_RX8_162 H.2.1 (m_stepsToOpen H hv z hz) rfl rfl (by decide) (by omega) (by omega) (Nat.le_of_ble_eq_true rfl) (e_kw fun M2 hq2 => ?_) e_kwx
  have fr2 := e_fr_tr fr0 (e_fr_w hq2.2 (by omega))
  have H9 := hq2.1
  try rw [up_up] at H9
  exact g_iret 3 rfl rfl (by first | trivial | exact b_01 | exact Or.inl rfl | exact Or.inr rfl) ⟨rfl, rfl, H9, fr2⟩
theorem m_openingSettings (H : MM M m q A) (hv : Vok B (A 0)) (z : Int) (hz : i32 z) : Ct (e_L r0) Γ mX8_openingSettings 2 0 0 [vR m, vI z] M n (e_wr (some (vI (if tD (A 0) z = 0 then (2 * (A 0 (7 + 9 * z.toNat + 7) / 5) + 1) * (2 * (A 0 (7 + 9 * z.toNat + 7) / 5) + 1) * (2 * (A 0 (7 + 9 * z.toNat + 7) / 5) + 1) else 0))) n fun M' => MM M' m (va_up q 6 (tD (A 0) z)) A ∧ e_fr m (m + 9) M M') := by
  have fr0 : e_fr m (m + 9) M M := e_fr_refl
  refine g_start ok_X8_openingSettings rfl rfl ?_
  refine g_run 0 3 rfl ?_
  refine g_callV 3 rfl cv_RX8_92 H.2.1 (m_isDoor H hv z hz) rfl rfl (by decide) (by omega) (by omega) (Nat.le_of_ble_eq_true rfl) (e_kr ?_) e_kx
  refine g_if_ne 4 13 rfl rfl b_r (fun c6 => ?_) (fun c6 => ?_)
  · replace c6 := b_1.mp c6
    have q2 := hv.2.2.1
    rw [show tD (A 0) z = 0 from if_pos c6]
    refine g_run 7 2 rfl ?_
    refine g_callV 9 rfl cv_RX8_73 H.2.1 (m_isThrown H _ 1 (by first | exact Or.inl rfl | exact Or.inr rfl | exact b_01)) rfl rfl (by decide) (by omega) (by omega) (Nat.le_of_ble_eq_true rfl) (e_kw fun M15 hq15 => ?_) e_kwx
    have fr15 := e_fr_tr fr0 (e_fr_w hq15.2 (by omega))
    refine g_if_eq 10 23 rfl rfl (by decide) (fun _ => ?_) (fun c18 => absurd c18 (by decide))
    refine g_run 13 3 rfl ?_
    refine g_callV 16 rfl cv_RX8_104 hq15.1.2.1 (m_playOf hq15.1 hv z z.toNat (by omega) (by omega)) rfl rfl (by decide) (by omega) (by omega) (Nat.le_of_ble_eq_true rfl) (e_kr ?_) e_kx
    refine g_run 17 9 rfl ?_
    have H9 := hq15.1
    try rw [up_up] at H9
    exact g_iret 26 rfl rfl (by first | trivial | exact b_01 | exact Or.inl rfl | exact Or.inr rfl) ⟨rfl, rfl, H9, fr15⟩
  · replace c6 := b_0.mp c6
    rw [show tD (A 0) z = 1 from if_neg c6]
    refine g_run 5 2 rfl ?_
    refine g_run 8 1 rfl ?_
    refine g_callV 9 rfl cv_RX8_73 H.2.1 (m_isThrown H _ 1 (by first | exact Or.inl rfl | exact Or.inr rfl | exact b_01)) rfl rfl (by decide) (by omega) (by omega) (Nat.le_of_ble_eq_true rfl) (e_kw fun M15 hq15 => ?_) e_kwx
    have fr15 := e_fr_tr fr0 (e_fr_w hq15.2 (by omega))
    refine g_if_eq 10 23 rfl rfl (by decide) (fun c18 => absurd c18 (by decide)) (fun _ => ?_)
    refine g_run 11 1 rfl ?_
    have H9 := hq15.1
    try rw [up_up] at H9
    exact g_iret 12 rfl rfl (by first | trivial | exact b_01 | exact Or.inl rfl | exact Or.inr rfl) ⟨rfl, rfl, H9, fr15⟩
theorem m_isOpen (H : MM M m q A) (hv : Vok B (A 0)) (z : Int) (hz : i32 z) : Ct (e_L r0) Γ mX8_isOpen 3 0 0 [vR m, vI z] M n (e_wr (some (vI (if tD (A 0) z = 0 then (if vOpen (A 0) z.toNat then (1 : Int) else 0) else 0))) n fun M' => MM M' m (va_up q 6 (tD (A 0) z)) A ∧ e_fr m (m + 9) M M') := by
  have fr0 : e_fr m (m + 9) M M := e_fr_refl
  refine g_start ok_X8_isOpen rfl rfl ?_
  refine g_run 0 3 rfl ?_
  refine g_callV 3 rfl cv_RX8_92 H.2.1 (m_isDoor H hv z hz) rfl rfl (by decide) (by omega) (by omega) (Nat.le_of_ble_eq_true rfl) (e_kr ?_) e_kx
  refine g_if_ne 4 13 rfl rfl b_r (fun c6 => ?_) (fun c6 => ?_)
  · replace c6 := b_1.mp c6
    have q2 := hv.2.2.1
    rw [show tD (A 0) z = 0 from if_pos c6]
    refine g_run 7 2 rfl ?_
    refine g_callV 9 rfl cv_RX8_73 H.2.1 (m_isThrown H _ 1 (by first | exact Or.inl rfl | exact Or.inr rfl | exact b_01)) rfl rfl (by decide) (by omega) (by omega) (Nat.le_of_ble_eq_true rfl) (e_kw fun M15 hq15 => ?_) e_kwx
    have fr15 := e_fr_tr fr0 (e_fr_w hq15.2 (by omega))
    refine g_if_ne 10 33 rfl rfl (by decide) (fun c18 => absurd c18 (by decide)) (fun _ => ?_)
    refine g_run 11 2 rfl ?_
    refine g_callV 13 rfl cv_RX8_101 hq15.1.2.1 (m_open hq15.1 hv z z.toNat (by omega) (by omega)) rfl rfl (by decide) (by omega) (by omega) (Nat.le_of_ble_eq_true rfl) (e_kr ?_) e_kx
    refine g_if_eq 14 33 rfl rfl b_r (fun c26 => ?_) (fun c26 => ?_)
    · replace c26 := b_0.mp c26
      rw [if_neg (c := vOpen (A 0) z.toNat) c26]
      refine g_run 17 1 rfl ?_
      have H9 := hq15.1
      try rw [up_up] at H9
      exact g_iret 18 rfl rfl (by first | trivial | exact b_01 | exact Or.inl rfl | exact Or.inr rfl) ⟨rfl, rfl, H9, fr15⟩
    · replace c26 := b_1.mp c26
      rw [if_pos (c := vOpen (A 0) z.toNat) c26]
      refine g_run 15 2 rfl ?_
      have H9 := hq15.1
      try rw [up_up] at H9
      exact g_iret 18 rfl rfl (by first | trivial | exact b_01 | exact Or.inl rfl | exact Or.inr rfl) ⟨rfl, rfl, H9, fr15⟩
  · replace c6 := b_0.mp c6
    rw [show tD (A 0) z = 1 from if_neg c6]
    refine g_run 5 2 rfl ?_
    refine g_run 8 1 rfl ?_
    refine g_callV 9 rfl cv_RX8_73 H.2.1 (m_isThrown H _ 1 (by first | exact Or.inl rfl | exact Or.inr rfl | exact b_01)) rfl rfl (by decide) (by omega) (by omega) (Nat.le_of_ble_eq_true rfl) (e_kw fun M15 hq15 => ?_) e_kwx
    have fr15 := e_fr_tr fr0 (e_fr_w hq15.2 (by omega))
    refine g_if_ne 10 33 rfl rfl (by decide) (fun _ => ?_) (fun c18 => absurd c18 (by decide))
    refine g_run 17 1 rfl ?_
    have H9 := hq15.1
    try rw [up_up] at H9
    exact g_iret 18 rfl rfl (by first | trivial | exact b_01 | exact Or.inl rfl | exact Or.inr rfl) ⟨rfl, rfl, H9, fr15⟩
theorem m_isBaking (H : MM M m q A) (hv : Vok B (A 0)) (z : Int) (hz : i32 z) : Ct (e_L r0) Γ mX8_isBaking 3 0 0 [vR m, vI z] M n (e_wr (some (vI (if tD (A 0) z = 0 then (if vBake (A 0) z.toNat then (1 : Int) else 0) else 0))) n fun M' => MM M' m (va_up q 6 (tD (A 0) z)) A ∧ e_fr m (m + 9) M M') := by
  have fr0 : e_fr m (m + 9) M M := e_fr_refl
  refine g_start ok_X8_isBaking rfl rfl ?_
  refine g_run 0 3 rfl ?_
  refine g_callV 3 rfl cv_RX8_92 H.2.1 (m_isDoor H hv z hz) rfl rfl (by decide) (by omega) (by omega) (Nat.le_of_ble_eq_true rfl) (e_kr ?_) e_kx
  refine g_if_ne 4 13 rfl rfl b_r (fun c6 => ?_) (fun c6 => ?_)
  · replace c6 := b_1.mp c6
    have q2 := hv.2.2.1
    rw [show tD (A 0) z = 0 from if_pos c6]
    refine g_run 7 2 rfl ?_
    refine g_callV 9 rfl cv_RX8_73 H.2.1 (m_isThrown H _ 1 (by first | exact Or.inl rfl | exact Or.inr rfl | exact b_01)) rfl rfl (by decide) (by omega) (by omega) (Nat.le_of_ble_eq_true rfl) (e_kw fun M15 hq15 => ?_) e_kwx
    have fr15 := e_fr_tr fr0 (e_fr_w hq15.2 (by omega))
    refine g_if_ne 10 33 rfl rfl (by decide) (fun c18 => absurd c18 (by decide)) (fun _ => ?_)
    refine g_run 11 2 rfl ?_
    refine g_callV 13 rfl cv_RX8_59 hq15.1.2.1 (m_bakes hq15.1 hv z z.toNat (by omega) (by omega)) rfl rfl (by decide) (by omega) (by omega) (Nat.le_of_ble_eq_true rfl) (e_kr ?_) e_kx
    refine g_if_eq 14 33 rfl rfl b_r (fun c26 => ?_) (fun c26 => ?_)
    · replace c26 := b_0.mp c26
      rw [if_neg (c := vBake (A 0) z.toNat) c26]
      refine g_run 17 1 rfl ?_
      have H9 := hq15.1
      try rw [up_up] at H9
      exact g_iret 18 rfl rfl (by first | trivial | exact b_01 | exact Or.inl rfl | exact Or.inr rfl) ⟨rfl, rfl, H9, fr15⟩
    · replace c26 := b_1.mp c26
      rw [if_pos (c := vBake (A 0) z.toNat) c26]
      refine g_run 15 2 rfl ?_
      have H9 := hq15.1
      try rw [up_up] at H9
      exact g_iret 18 rfl rfl (by first | trivial | exact b_01 | exact Or.inl rfl | exact Or.inr rfl) ⟨rfl, rfl, H9, fr15⟩
  · replace c6 := b_0.mp c6
    rw [show tD (A 0) z = 1 from if_neg c6]
    refine g_run 5 2 rfl ?_
    refine g_run 8 1 rfl ?_
    refine g_callV 9 rfl cv_RX8_73 H.2.1 (m_isThrown H _ 1 (by first | exact Or.inl rfl | exact Or.inr rfl | exact b_01)) rfl rfl (by decide) (by omega) (by omega) (Nat.le_of_ble_eq_true rfl) (e_kw fun M15 hq15 => ?_) e_kwx
    have fr15 := e_fr_tr fr0 (e_fr_w hq15.2 (by omega))
    refine g_if_ne 10 33 rfl rfl (by decide) (fun _ => ?_) (fun c18 => absurd c18 (by decide))
    refine g_run 17 1 rfl ?_
    have H9 := hq15.1
    try rw [up_up] at H9
    exact g_iret 18 rfl rfl (by first | trivial | exact b_01 | exact Or.inl rfl | exact Or.inr rfl) ⟨rfl, rfl, H9, fr15⟩
theorem m_isBroken (H : MM M m q A) (hv : Vok B (A 0)) (z : Int) (hz : i32 z) : Ct (e_L r0) Γ mX8_isBroken 3 0 0 [vR m, vI z] M n (e_wr (some (vI (if tD (A 0) z = 0 then (if A 0 (7 + 9 * z.toNat + 7) = 20 then (1 : Int) else 0) else 0))) n fun M' => MM M' m (va_up q 6 (tD (A 0) z)) A ∧ e_fr m (m + 9) M M') := by
  have fr0 : e_fr m (m + 9) M M := e_fr_refl
  refine g_start ok_X8_isBroken rfl rfl ?_
  refine g_run 0 3 rfl ?_
  refine g_callV 3 rfl cv_RX8_92 H.2.1 (m_isDoor H hv z hz) rfl rfl (by decide) (by omega) (by omega) (Nat.le_of_ble_eq_true rfl) (e_kr ?_) e_kx
  refine g_if_ne 4 13 rfl rfl b_r (fun c6 => ?_) (fun c6 => ?_)
  · replace c6 := b_1.mp c6
    have q2 := hv.2.2.1
    rw [show tD (A 0) z = 0 from if_pos c6]
    refine g_run 7 2 rfl ?_
    refine g_callV 9 rfl cv_RX8_73 H.2.1 (m_isThrown H _ 1 (by first | exact Or.inl rfl | exact Or.inr rfl | exact b_01)) rfl rfl (by decide) (by omega) (by omega) (Nat.le_of_ble_eq_true rfl) (e_kw fun M15 hq15 => ?_) e_kwx
    have fr15 := e_fr_tr fr0 (e_fr_w hq15.2 (by omega))
    refine g_if_ne 10 37 rfl rfl (by decide) (fun c18 => absurd c18 (by decide)) (fun _ => ?_)
    refine g_run 11 3 rfl ?_
    refine g_callV 14 rfl cv_RX8_55 hq15.1.2.1 (m_of hq15.1 z 7 z.toNat 7 (by omega) rfl (by omega)) rfl rfl (by decide) (by omega) (by omega) (Nat.le_of_ble_eq_true rfl) (e_kr ?_) e_kx
    have q7 := hv.2.2.2.2.2.2.1 z.toNat (by omega)
    refine g_run 15 1 rfl ?_
    refine g_icmp_ne 16 37 rfl rfl (by omega) (by omega) (fun c30 => ?_) (fun c30 => ?_)
    · rw [if_neg (c := A 0 (7 + 9 * z.toNat + 7) = 20) c30]
      refine g_run 19 1 rfl ?_
      have H9 := hq15.1
      try rw [up_up] at H9
      exact g_iret 20 rfl rfl (by first | trivial | exact b_01 | exact Or.inl rfl | exact Or.inr rfl) ⟨rfl, rfl, H9, fr15⟩
    · rw [if_pos (c := A 0 (7 + 9 * z.toNat + 7) = 20) c30]
      refine g_run 17 2 rfl ?_
      have H9 := hq15.1
      try rw [up_up] at H9
      exact g_iret 20 rfl rfl (by first | trivial | exact b_01 | exact Or.inl rfl | exact Or.inr rfl) ⟨rfl, rfl, H9, fr15⟩
  · replace c6 := b_0.mp c6
    rw [show tD (A 0) z = 1 from if_neg c6]
    refine g_run 5 2 rfl ?_
    refine g_run 8 1 rfl ?_
    refine g_callV 9 rfl cv_RX8_73 H.2.1 (m_isThrown H _ 1 (by first | exact Or.inl rfl | exact Or.inr rfl | exact b_01)) rfl rfl (by decide) (by omega) (by omega) (Nat.le_of_ble_eq_true rfl) (e_kw fun M15 hq15 => ?_) e_kwx
    have fr15 := e_fr_tr fr0 (e_fr_w hq15.2 (by omega))
    refine g_if_ne 10 37 rfl rfl (by decide) (fun _ => ?_) (fun c18 => absurd c18 (by decide))
    refine g_run 19 1 rfl ?_
    have H9 := hq15.1
    try rw [up_up] at H9
    exact g_iret 20 rfl rfl (by first | trivial | exact b_01 | exact Or.inl rfl | exact Or.inr rfl) ⟨rfl, rfl, H9, fr15⟩
abbrev tDD (v : Nat → Int) (z d : Int) : Int := if vDoor v z ∧ 0 ≤ d ∧ d ≤ 2 then 0 else 1
theorem m_dialQ (H : MM M m q A) (hv : Vok B (A 0)) (z d : Int) (hz : i32 z) (hd : i32 d) : Ct (e_L r0) Γ mX8_dial 2 0 0 [vR m, vI z, vI d] M n (e_wr (some (vI (if tDD (A 0) z d = 0 then A 0 (7 + 9 * z.toNat + (0 + d.toNat)) else 0))) n fun M' => MM M' m (va_up q 6 (tDD (A 0) z d)) A ∧ e_fr m (m + 9) M M') := by
  have fr0 : e_fr m (m + 9) M M := e_fr_refl
  refine g_start ok_X8_dial rfl rfl ?_
  refine g_run 0 3 rfl ?_
  refine g_callV 3 rfl cv_RX8_92 H.2.1 (m_isDoor H hv z hz) rfl rfl (by decide) (by omega) (by omega) (Nat.le_of_ble_eq_true rfl) (e_kr ?_) e_kx
  refine g_if_eq 4 16 rfl rfl b_r (fun c6 => ?_) (fun c6 => ?_)
  · replace c6 := b_0.mp c6
    rw [show tDD (A 0) z d = 1 from if_neg (fun e => c6 e.1)]
    refine g_run 8 2 rfl ?_
    refine g_run 11 1 rfl ?_
    refine g_callV 12 rfl cv_RX8_73 H.2.1 (m_isThrown H _ 1 (by first | exact Or.inl rfl | exact Or.inr rfl | exact b_01)) rfl rfl (by decide) (by omega) (by omega) (Nat.le_of_ble_eq_true rfl) (e_kw fun M22 hq22 => ?_) e_kwx
    have fr22 := e_fr_tr fr0 (e_fr_w hq22.2 (by omega))
    refine g_if_eq 13 32 rfl rfl (by decide) (fun c25 => absurd c25 (by decide)) (fun _ => ?_)
    refine g_run 14 2 rfl ?_
    have H9 := hq22.1
    try rw [up_up] at H9
    exact g_iret 22 rfl rfl (by first | trivial | exact b_01 | exact Or.inl rfl | exact Or.inr rfl) ⟨rfl, rfl, H9, fr22⟩
  · replace c6 := b_1.mp c6
    refine g_run 5 1 rfl ?_
    refine g_callS 6 rfl cs_RX8_95 (m_isDial d hd) rfl rfl (by decide) (by omega) (by omega) (Nat.le_of_ble_eq_true rfl) (e_kr ?_) e_kx
    refine g_if_ne 7 20 rfl rfl b_r (fun c13 => ?_) (fun c13 => ?_)
    · replace c13 := b_1.mp c13
      have q2 := hv.2.2.1
      rw [show tDD (A 0) z d = 0 from if_pos ⟨c6, c13⟩]
      refine g_run 10 2 rfl ?_
      refine g_callV 12 rfl cv_RX8_73 H.2.1 (m_isThrown H _ 1 (by first | exact Or.inl rfl | exact Or.inr rfl | exact b_01)) rfl rfl (by decide) (by omega) (by omega) (Nat.le_of_ble_eq_true rfl) (e_kw fun M22 hq22 => ?_) e_kwx
      have fr22 := e_fr_tr fr0 (e_fr_w hq22.2 (by omega))
      refine g_if_eq 13 32 rfl rfl (by decide) (fun _ => ?_) (fun c25 => absurd c25 (by decide))
      refine g_run 16 5 rfl ?_
      refine g_callV 21 rfl cv_RX8_55 hq22.1.2.1 (m_of hq22.1 z (0 + d) z.toNat (0 + d.toNat) (by omega) (by omega) (by omega)) rfl rfl (by decide) (by omega) (by omega) (Nat.le_of_ble_eq_true rfl) (e_kr ?_) e_kx
      have H9 := hq22.1
      try rw [up_up] at H9
      exact g_iret 22 rfl rfl (by first | trivial | exact b_01 | exact Or.inl rfl | exact Or.inr rfl) ⟨rfl, rfl, H9, fr22⟩
    · replace c13 := b_0.mp c13
      rw [show tDD (A 0) z d = 1 from if_neg (fun e => c13 e.2)]
      refine g_run 8 2 rfl ?_
      refine g_run 11 1 rfl ?_
      refine g_callV 12 rfl cv_RX8_73 H.2.1 (m_isThrown H _ 1 (by first | exact Or.inl rfl | exact Or.inr rfl | exact b_01)) rfl rfl (by decide) (by omega) (by omega) (Nat.le_of_ble_eq_true rfl) (e_kw fun M22 hq22 => ?_) e_kwx
      have fr22 := e_fr_tr fr0 (e_fr_w hq22.2 (by omega))
      refine g_if_eq 13 32 rfl rfl (by decide) (fun c25 => absurd c25 (by decide)) (fun _ => ?_)
      refine g_run 14 2 rfl ?_
      have H9 := hq22.1
      try rw [up_up] at H9
      exact g_iret 22 rfl rfl (by first | trivial | exact b_01 | exact Or.inl rfl | exact Or.inr rfl) ⟨rfl, rfl, H9, fr22⟩
theorem m_combinationQ (H : MM M m q A) (hv : Vok B (A 0)) (z d : Int) (hz : i32 z) (hd : i32 d) : Ct (e_L r0) Γ mX8_combination 2 0 0 [vR m, vI z, vI d] M n (e_wr (some (vI (if tDD (A 0) z d = 0 then A 0 (7 + 9 * z.toNat + (3 + d.toNat)) else 0))) n fun M' => MM M' m (va_up q 6 (tDD (A 0) z d)) A ∧ e_fr m (m + 9) M M') := by
  have fr0 : e_fr m (m + 9) M M := e_fr_refl
  refine g_start ok_X8_combination rfl rfl ?_
  refine g_run 0 3 rfl ?_
  refine g_callV 3 rfl cv_RX8_92 H.2.1 (m_isDoor H hv z hz) rfl rfl (by decide) (by omega) (by omega) (Nat.le_of_ble_eq_true rfl) (e_kr ?_) e_kx
  refine g_if_eq 4 16 rfl rfl b_r (fun c6 => ?_) (fun c6 => ?_)
  · replace c6 := b_0.mp c6
    rw [show tDD (A 0) z d = 1 from if_neg (fun e => c6 e.1)]
    refine g_run 8 2 rfl ?_
    refine g_run 11 1 rfl ?_
    refine g_callV 12 rfl cv_RX8_73 H.2.1 (m_isThrown H _ 1 (by first | exact Or.inl rfl | exact Or.inr rfl | exact b_01)) rfl rfl (by decide) (by omega) (by omega) (Nat.le_of_ble_eq_true rfl) (e_kw fun M22 hq22 => ?_) e_kwx
    have fr22 := e_fr_tr fr0 (e_fr_w hq22.2 (by omega))
    refine g_if_eq 13 32 rfl rfl (by decide) (fun c25 => absurd c25 (by decide)) (fun _ => ?_)
    refine g_run 14 2 rfl ?_
    have H9 := hq22.1
    try rw [up_up] at H9
    exact g_iret 22 rfl rfl (by first | trivial | exact b_01 | exact Or.inl rfl | exact Or.inr rfl) ⟨rfl, rfl, H9, fr22⟩
  · replace c6 := b_1.mp c6
    refine g_run 5 1 rfl ?_
    refine g_callS 6 rfl cs_RX8_95 (m_isDial d hd) rfl rfl (by decide) (by omega) (by omega) (Nat.le_of_ble_eq_true rfl) (e_kr ?_) e_kx
    refine g_if_ne 7 20 rfl rfl b_r (fun c13 => ?_) (fun c13 => ?_)
    · replace c13 := b_1.mp c13
      have q2 := hv.2.2.1
      rw [show tDD (A 0) z d = 0 from if_pos ⟨c6, c13⟩]
      refine g_run 10 2 rfl ?_
      refine g_callV 12 rfl cv_RX8_73 H.2.1 (m_isThrown H _ 1 (by first | exact Or.inl rfl | exact Or.inr rfl | exact b_01)) rfl rfl (by decide) (by omega) (by omega) (Nat.le_of_ble_eq_true rfl) (e_kw fun M22 hq22 => ?_) e_kwx
      have fr22 := e_fr_tr fr0 (e_fr_w hq22.2 (by omega))
      refine g_if_eq 13 32 rfl rfl (by decide) (fun _ => ?_) (fun c25 => absurd c25 (by decide))
      refine g_run 16 5 rfl ?_
      refine g_callV 21 rfl cv_RX8_55 hq22.1.2.1 (m_of hq22.1 z (3 + d) z.toNat (3 + d.toNat) (by omega) (by omega) (by omega)) rfl rfl (by decide) (by omega) (by omega) (Nat.le_of_ble_eq_true rfl) (e_kr ?_) e_kx
      have H9 := hq22.1
      try rw [up_up] at H9
      exact g_iret 22 rfl rfl (by first | trivial | exact b_01 | exact Or.inl rfl | exact Or.inr rfl) ⟨rfl, rfl, H9, fr22⟩
    · replace c13 := b_0.mp c13
      rw [show tDD (A 0) z d = 1 from if_neg (fun e => c13 e.2)]
      refine g_run 8 2 rfl ?_
      refine g_run 11 1 rfl ?_
      refine g_callV 12 rfl cv_RX8_73 H.2.1 (m_isThrown H _ 1 (by first | exact Or.inl rfl | exact Or.inr rfl | exact b_01)) rfl rfl (by decide) (by omega) (by omega) (Nat.le_of_ble_eq_true rfl) (e_kw fun M22 hq22 => ?_) e_kwx
      have fr22 := e_fr_tr fr0 (e_fr_w hq22.2 (by omega))
      refine g_if_eq 13 32 rfl rfl (by decide) (fun c25 => absurd c25 (by decide)) (fun _ => ?_)
      refine g_run 14 2 rfl ?_
      have H9 := hq22.1
      try rw [up_up] at H9
      exact g_iret 22 rfl rfl (by first | trivial | exact b_01 | exact Or.inl rfl | exact Or.inr rfl) ⟨rfl, rfl, H9, fr22⟩
abbrev tO (o : Int) : Int := if 0 ≤ o ∧ o ≤ 1 then 0 else 1
abbrev tOB (v : Nat → Int) (o : Int) : Int := if 0 ≤ o ∧ o ≤ 1 then (if v (61 + 2 * o.toNat + 0) = 0 then 2 else 0) else 1
theorem m_bakingHours (H : MM M m q A) (hv : Vok B (A 0)) (o : Int) (ho : i32 o) : Ct (e_L r0) Γ mX8_bakingHours 2 0 0 [vR m, vI o] M n (e_wr (some (vI (if tO o = 0 then A 0 (61 + 2 * o.toNat + 1) else 0))) n fun M' => MM M' m (va_up q 6 (tO o)) A ∧ e_fr m (m + 9) M M') := by
  have fr0 : e_fr m (m + 9) M M := e_fr_refl
  refine g_start ok_X8_bakingHours rfl rfl ?_
  refine g_run 0 2 rfl ?_
  refine g_callS 2 rfl cs_RX8_134 (m_isOven o ho) rfl rfl (by decide) (by omega) (by omega) (Nat.le_of_ble_eq_true rfl) (e_kr ?_) e_kx
  refine g_if_ne 3 12 rfl rfl b_r (fun c5 => ?_) (fun c5 => ?_)
  · replace c5 := b_1.mp c5
    rw [show tO o = 0 from if_pos c5]
    refine g_run 6 2 rfl ?_
    refine g_callV 8 rfl cv_RX8_73 H.2.1 (m_isThrown H _ 1 (by first | exact Or.inl rfl | exact Or.inr rfl | exact b_01)) rfl rfl (by decide) (by omega) (by omega) (Nat.le_of_ble_eq_true rfl) (e_kw fun M14 hq14 => ?_) e_kwx
    have fr14 := e_fr_tr fr0 (e_fr_w hq14.2 (by omega))
    refine g_if_eq 9 24 rfl rfl (by decide) (fun _ => ?_) (fun c17 => absurd c17 (by decide))
    refine g_run 12 3 rfl ?_
    refine g_callV 15 rfl cv_RX8_137 hq14.1.2.1 (m_ofOven hq14.1 o 1 o.toNat 1 (by omega) rfl (by omega)) rfl rfl (by decide) (by omega) (by omega) (Nat.le_of_ble_eq_true rfl) (e_kr ?_) e_kx
    have H9 := hq14.1
    try rw [up_up] at H9
    exact g_iret 16 rfl rfl (by first | trivial | exact b_01 | exact Or.inl rfl | exact Or.inr rfl) ⟨rfl, rfl, H9, fr14⟩
  · replace c5 := b_0.mp c5
    rw [show tO o = 1 from if_neg c5]
    refine g_run 4 2 rfl ?_
    refine g_run 7 1 rfl ?_
    refine g_callV 8 rfl cv_RX8_73 H.2.1 (m_isThrown H _ 1 (by first | exact Or.inl rfl | exact Or.inr rfl | exact b_01)) rfl rfl (by decide) (by omega) (by omega) (Nat.le_of_ble_eq_true rfl) (e_kw fun M14 hq14 => ?_) e_kwx
    have fr14 := e_fr_tr fr0 (e_fr_w hq14.2 (by omega))
    refine g_if_eq 9 24 rfl rfl (by decide) (fun c17 => absurd c17 (by decide)) (fun _ => ?_)
    refine g_run 10 2 rfl ?_
    have H9 := hq14.1
    try rw [up_up] at H9
    exact g_iret 16 rfl rfl (by first | trivial | exact b_01 | exact Or.inl rfl | exact Or.inr rfl) ⟨rfl, rfl, H9, fr14⟩
theorem m_bakedDoor (H : MM M m q A) (hv : Vok B (A 0)) (o : Int) (ho : i32 o) : Ct (e_L r0) Γ mX8_bakedDoor 2 0 0 [vR m, vI o] M n (e_wr (some (vI (if tOB (A 0) o = 0 then A 0 (61 + 2 * o.toNat + 0) - 1 else 0))) n fun M' => MM M' m (va_up q 6 (tOB (A 0) o)) A ∧ e_fr m (m + 9) M M') := by
  have fr0 : e_fr m (m + 9) M M := e_fr_refl
  refine g_start ok_X8_bakedDoor rfl rfl ?_
  refine g_run 0 2 rfl ?_
  refine g_callS 2 rfl cs_RX8_134 (m_isOven o ho) rfl rfl (by decide) (by omega) (by omega) (Nat.le_of_ble_eq_true rfl) (e_kr ?_) e_kx
  refine g_if_ne 3 12 rfl rfl b_r (fun c5 => ?_) (fun c5 => ?_)
  · replace c5 := b_1.mp c5
    have qo := hv.2.2.2.2.2.2.2.2.1 o.toNat (by omega)
    have qo0 : 0 ≤ A 0 (61 + 2 * o.toNat + 0) ∧ A 0 (61 + 2 * o.toNat + 0) ≤ 6 := ⟨qo.1, qo.2.1⟩
    refine g_run 6 2 rfl ?_
    refine g_callV 8 rfl cv_RX8_73 H.2.1 (m_isThrown H _ 1 (by first | exact Or.inl rfl | exact Or.inr rfl | exact b_01)) rfl rfl (by decide) (by omega) (by omega) (Nat.le_of_ble_eq_true rfl) (e_kw fun M14 hq14 => ?_) e_kwx
    have fr14 := e_fr_tr fr0 (e_fr_w hq14.2 (by omega))
    refine g_if_ne 9 42 rfl rfl (by decide) (fun c17 => absurd c17 (by decide)) (fun _ => ?_)
    refine g_run 10 4 rfl ?_
    refine g_callV 14 rfl cv_RX8_137 hq14.1.2.1 (m_ofOven hq14.1 o 0 o.toNat 0 (by omega) rfl (by omega)) rfl rfl (by decide) (by omega) (by omega) (Nat.le_of_ble_eq_true rfl) (e_kr ?_) e_kx
    refine g_if_ne 15 34 rfl rfl (by omega) (fun c27 => ?_) (fun c27 => ?_)
    · rw [show tOB (A 0) o = 0 from (if_pos c5).trans (if_neg c27)]
      refine g_run 18 2 rfl ?_
      refine g_callV 20 rfl cv_RX8_73 hq14.1.2.1 (m_isThrown hq14.1 _ 2 (by first | exact Or.inl rfl | exact Or.inr rfl | exact b_01)) rfl rfl (by decide) (by omega) (by omega) (Nat.le_of_ble_eq_true rfl) (e_kw fun M36 hq36 => ?_) e_kwx
      have fr36 := e_fr_tr fr14 (e_fr_w hq36.2 (by omega))
      refine g_if_eq 21 46 rfl rfl (by decide) (fun _ => ?_) (fun c39 => absurd c39 (by decide))
      refine g_run 24 3 rfl ?_
      refine g_callV 27 rfl cv_RX8_137 hq36.1.2.1 (m_ofOven hq36.1 o 0 o.toNat 0 (by omega) rfl (by omega)) rfl rfl (by decide) (by omega) (by omega) (Nat.le_of_ble_eq_true rfl) (e_kr ?_) e_kx
      refine g_run 28 2 rfl ?_
      have H9 := hq36.1
      try rw [up_up] at H9
      exact g_iret 30 rfl rfl (by first | trivial | exact b_01 | exact Or.inl rfl | exact Or.inr rfl) ⟨rfl, rfl, H9, fr36⟩
    · rw [show tOB (A 0) o = 2 from (if_pos c5).trans (if_pos c27)]
      refine g_run 16 2 rfl ?_
      refine g_run 19 1 rfl ?_
      refine g_callV 20 rfl cv_RX8_73 hq14.1.2.1 (m_isThrown hq14.1 _ 2 (by first | exact Or.inl rfl | exact Or.inr rfl | exact b_01)) rfl rfl (by decide) (by omega) (by omega) (Nat.le_of_ble_eq_true rfl) (e_kw fun M36 hq36 => ?_) e_kwx
      have fr36 := e_fr_tr fr14 (e_fr_w hq36.2 (by omega))
      refine g_if_eq 21 46 rfl rfl (by decide) (fun c39 => absurd c39 (by decide)) (fun _ => ?_)
      refine g_run 22 2 rfl ?_
      have H9 := hq36.1
      try rw [up_up] at H9
      exact g_iret 30 rfl rfl (by first | trivial | exact b_01 | exact Or.inl rfl | exact Or.inr rfl) ⟨rfl, rfl, H9, fr36⟩
  · replace c5 := b_0.mp c5
    rw [show tOB (A 0) o = 1 from if_neg c5]
    refine g_run 4 2 rfl ?_
    refine g_run 7 1 rfl ?_
    refine g_callV 8 rfl cv_RX8_73 H.2.1 (m_isThrown H _ 1 (by first | exact Or.inl rfl | exact Or.inr rfl | exact b_01)) rfl rfl (by decide) (by omega) (by omega) (Nat.le_of_ble_eq_true rfl) (e_kw fun M14 hq14 => ?_) e_kwx
    have fr14 := e_fr_tr fr0 (e_fr_w hq14.2 (by omega))
    refine g_if_ne 9 42 rfl rfl (by decide) (fun _ => ?_) (fun c17 => absurd c17 (by decide))
    refine g_run 22 2 rfl ?_
    have H9 := hq14.1
    try rw [up_up] at H9
    exact g_iret 30 rfl rfl (by first | trivial | exact b_01 | exact Or.inl rfl | exact Or.inr rfl) ⟨rfl, rfl, H9, fr14⟩
abbrev tR (v : Nat → Int) (r : Int) : Int := if 0 ≤ r ∧ r ≤ v 6 - 1 then 0 else 1
theorem m_ofTry (H : MM M m q A) (hv : Vok B (A 0)) (r x : Int) (e : Nat) (hr : i32 r) (hx : x = e) (he : e < 2) : Ct (e_L r0) Γ mX8_ofTry 2 0 0 [vR m, vI r, vI x] M n (e_wr (some (vI (if tR (A 0) r = 0 then A 0 (65 + 2 * r.toNat + e) else 0))) n fun M' => MM M' m (va_up q 6 (tR (A 0) r)) A ∧ e_fr m (m + 9) M M') := by
  have fr0 : e_fr m (m + 9) M M := e_fr_refl
  refine g_start ok_X8_ofTry rfl rfl ?_
  refine g_run 0 4 rfl ?_
  refine g_get 4 rfl fl_RX8_9 H.2.1 rfl ?_
  refine g_run 5 1 rfl ?_
  refine g_iald 6 6 rfl rfl H.2.2.1 (by first | rfl | omega) (by omega) (by decide) ?_
  refine g_run 7 2 rfl ?_
  refine g_callS 9 rfl cs_RX8_51 (m_isIn r 0 (A 0 6 - 1) hr (by omega) (by have := hv.2.2.2.1; omega)) rfl rfl (by decide) (by omega) (by omega) (Nat.le_of_ble_eq_true rfl) (e_kr ?_) e_kx
  refine g_if_ne 10 22 rfl rfl b_r (fun c15 => ?_) (fun c15 => ?_)
  · replace c15 := b_1.mp c15
    have q6 := hv.2.2.2.1
    rw [show tR (A 0) r = 0 from if_pos c15]
    refine g_run 13 2 rfl ?_
    refine g_callV 15 rfl cv_RX8_73 H.2.1 (m_isThrown H _ 1 (by first | exact Or.inl rfl | exact Or.inr rfl | exact b_01)) rfl rfl (by decide) (by omega) (by omega) (Nat.le_of_ble_eq_true rfl) (e_kw fun M24 hq24 => ?_) e_kwx
    have fr24 := e_fr_tr fr0 (e_fr_w hq24.2 (by omega))
    refine g_if_eq 16 34 rfl rfl (by decide) (fun _ => ?_) (fun c27 => absurd c27 (by decide))
    refine g_run 19 1 rfl ?_
    refine g_get 20 rfl fl_RX8_9 hq24.1.2.1 rfl ?_
    refine g_run 21 7 rfl ?_
    refine g_iald 28 (65 + 2 * r.toNat + e) rfl rfl hq24.1.2.2.1 (by first | rfl | omega) (by omega) (by decide) ?_
    have H9 := hq24.1
    try rw [up_up] at H9
    exact g_iret 29 rfl rfl (by first | trivial | exact b_01 | exact Or.inl rfl | exact Or.inr rfl) ⟨rfl, rfl, H9, fr24⟩
  · replace c15 := b_0.mp c15
    rw [show tR (A 0) r = 1 from if_neg c15]
    refine g_run 11 2 rfl ?_
    refine g_run 14 1 rfl ?_
    refine g_callV 15 rfl cv_RX8_73 H.2.1 (m_isThrown H _ 1 (by first | exact Or.inl rfl | exact Or.inr rfl | exact b_01)) rfl rfl (by decide) (by omega) (by omega) (Nat.le_of_ble_eq_true rfl) (e_kw fun M24 hq24 => ?_) e_kwx
    have fr24 := e_fr_tr fr0 (e_fr_w hq24.2 (by omega))
    refine g_if_eq 16 34 rfl rfl (by decide) (fun c27 => absurd c27 (by decide)) (fun _ => ?_)
    refine g_run 17 2 rfl ?_
    have H9 := hq24.1
    try rw [up_up] at H9
    exact g_iret 29 rfl rfl (by first | trivial | exact b_01 | exact Or.inl rfl | exact Or.inr rfl) ⟨rfl, rfl, H9, fr24⟩
theorem m_triedDoor (H : MM M m q A) (hv : Vok B (A 0)) (r : Int) (hr : i32 r) : Ct (e_L r0) Γ mX8_triedDoor 3 0 0 [vR m, vI r] M n (e_wr (some (vI (if tR (A 0) r = 0 then A 0 (65 + 2 * r.toNat + 0) else 0))) n fun M' => MM M' m (va_up q 6 (tR (A 0) r)) A ∧ e_fr m (m + 9) M M') := by
  have fr0 : e_fr m (m + 9) M M := e_fr_refl
  refine g_start ok_X8_triedDoor rfl rfl ?_
  refine g_run 0 3 rfl ?_
  refine g_callV 3 rfl cv_RX8_169 H.2.1 (m_ofTry H hv r 0 0 hr rfl (by decide)) rfl rfl (by decide) (by omega) (by omega) (Nat.le_of_ble_eq_true rfl) (e_kw fun M3 hq3 => ?_) e_kwx
  have fr3 := e_fr_tr fr0 (e_fr_w hq3.2 (by omega))
  have H9 := hq3.1
  try rw [up_up] at H9
  exact g_iret 4 rfl rfl (by first | trivial | exact b_01 | exact Or.inl rfl | exact Or.inr rfl) ⟨rfl, rfl, H9, fr3⟩
theorem m_errorPosition (H : MM M m q A) (hv : Vok B (A 0)) (hq : i32 (q 7)) : Ct (e_L r0) Γ mX8_errorPosition 1 0 0 [vR m] M n (e_wr (some (vI (if (if q 7 < 0 then (1 : Int) else 0) = 0 then q 7 else 0))) n fun M' => MM M' m (va_up q 6 ((if q 7 < 0 then (1 : Int) else 0))) A ∧ e_fr m (m + 9) M M') := by
  have fr0 : e_fr m (m + 9) M M := e_fr_refl
  refine g_start ok_X8_errorPosition rfl rfl ?_
  refine g_run 0 2 rfl ?_
  refine g_get 2 rfl fl_RX8_25 H.2.1 rfl ?_
  refine g_if_ge 3 12 rfl rfl (by omega) (fun c5 => ?_) (fun c5 => ?_)
  · rw [show (if q 7 < 0 then (1 : Int) else 0) = (0 : Int) from if_neg (by omega)]
    refine g_run 6 2 rfl ?_
    refine g_callV 8 rfl cv_RX8_73 H.2.1 (m_isThrown H _ 1 (by first | exact Or.inl rfl | exact Or.inr rfl | exact b_01)) rfl rfl (by decide) (by omega) (by omega) (Nat.le_of_ble_eq_true rfl) (e_kw fun M14 hq14 => ?_) e_kwx
    have fr14 := e_fr_tr fr0 (e_fr_w hq14.2 (by omega))
    refine g_if_eq 9 24 rfl rfl (by decide) (fun _ => ?_) (fun c17 => absurd c17 (by decide))
    refine g_run 12 1 rfl ?_
    refine g_get 13 rfl fl_RX8_25 hq14.1.2.1 rfl ?_
    rw [show va_up q 6 (if (0 : Int) = 0 then 0 else 1) 7 = q 7 from rfl]
    have H9 := hq14.1
    try rw [up_up] at H9
    exact g_iret 14 rfl rfl (by first | trivial | exact b_01 | exact Or.inl rfl | exact Or.inr rfl) ⟨rfl, rfl, H9, fr14⟩
  · rw [show (if q 7 < 0 then (1 : Int) else 0) = (1 : Int) from if_pos (by omega)]
    refine g_run 4 2 rfl ?_
    refine g_run 7 1 rfl ?_
    refine g_callV 8 rfl cv_RX8_73 H.2.1 (m_isThrown H _ 1 (by first | exact Or.inl rfl | exact Or.inr rfl | exact b_01)) rfl rfl (by decide) (by omega) (by omega) (Nat.le_of_ble_eq_true rfl) (e_kw fun M14 hq14 => ?_) e_kwx
    have fr14 := e_fr_tr fr0 (e_fr_w hq14.2 (by omega))
    refine g_if_eq 9 24 rfl rfl (by decide) (fun c17 => absurd c17 (by decide)) (fun _ => ?_)
    refine g_run 10 2 rfl ?_
    have H9 := hq14.1
    try rw [up_up] at H9
    exact g_iret 14 rfl rfl (by first | trivial | exact b_01 | exact Or.inl rfl | exact Or.inr rfl) ⟨rfl, rfl, H9, fr14⟩
theorem m_failedCommand (H : MM M m q A) (hv : Vok B (A 0)) (hq : i32 (q 8)) : Ct (e_L r0) Γ mX8_failedCommand 1 0 0 [vR m] M n (e_wr (some (vI (if (if q 8 < 0 then (1 : Int) else 0) = 0 then q 8 else 0))) n fun M' => MM M' m (va_up q 6 ((if q 8 < 0 then (1 : Int) else 0))) A ∧ e_fr m (m + 9) M M') := by
  have fr0 : e_fr m (m + 9) M M := e_fr_refl
  refine g_start ok_X8_failedCommand rfl rfl ?_
  refine g_run 0 2 rfl ?_
  refine g_get 2 rfl fl_RX8_29 H.2.1 rfl ?_
  refine g_if_ge 3 12 rfl rfl (by omega) (fun c5 => ?_) (fun c5 => ?_)
  · rw [show (if q 8 < 0 then (1 : Int) else 0) = (0 : Int) from if_neg (by omega)]
    refine g_run 6 2 rfl ?_
    refine g_callV 8 rfl cv_RX8_73 H.2.1 (m_isThrown H _ 1 (by first | exact Or.inl rfl | exact Or.inr rfl | exact b_01)) rfl rfl (by decide) (by omega) (by omega) (Nat.le_of_ble_eq_true rfl) (e_kw fun M14 hq14 => ?_) e_kwx
    have fr14 := e_fr_tr fr0 (e_fr_w hq14.2 (by omega))
    refine g_if_eq 9 24 rfl rfl (by decide) (fun _ => ?_) (fun c17 => absurd c17 (by decide))
    refine g_run 12 1 rfl ?_
    refine g_get 13 rfl fl_RX8_29 hq14.1.2.1 rfl ?_
    rw [show va_up q 6 (if (0 : Int) = 0 then 0 else 1) 8 = q 8 from rfl]
    have H9 := hq14.1
    try rw [up_up] at H9
    exact g_iret 14 rfl rfl (by first | trivial | exact b_01 | exact Or.inl rfl | exact Or.inr rfl) ⟨rfl, rfl, H9, fr14⟩
  · rw [show (if q 8 < 0 then (1 : Int) else 0) = (1 : Int) from if_pos (by omega)]
    refine g_run 4 2 rfl ?_
    refine g_run 7 1 rfl ?_
    refine g_callV 8 rfl cv_RX8_73 H.2.1 (m_isThrown H _ 1 (by first | exact Or.inl rfl | exact Or.inr rfl | exact b_01)) rfl rfl (by decide) (by omega) (by omega) (Nat.le_of_ble_eq_true rfl) (e_kw fun M14 hq14 => ?_) e_kwx
    have fr14 := e_fr_tr fr0 (e_fr_w hq14.2 (by omega))
    refine g_if_eq 9 24 rfl rfl (by decide) (fun c17 => absurd c17 (by decide)) (fun _ => ?_)
    refine g_run 10 2 rfl ?_
    have H9 := hq14.1
    try rw [up_up] at H9
    exact g_iret 14 rfl rfl (by first | trivial | exact b_01 | exact Or.inl rfl | exact Or.inr rfl) ⟨rfl, rfl, H9, fr14⟩
theorem m_undo (H : MM M m q A) (c : Nat) (hc : q 5 = c) (hc8 : c ≤ 8) : Ct (e_L r0) Γ mX8_undo 1 0 0 [vR m] M n (e_wr (some (vI (if c = 0 then 0 else (c : Int) - 1))) n fun M' => MM M' m (if c = 0 then va_up q 6 1 else va_up (va_up q 6 0) 5 ((c : Int) - 1)) (if c = 0 then A else va_up A 0 (fun j => A 4 (85 * (c - 1) + j))) ∧ e_fr m (m + 9) M M') := by
  have fr0 : e_fr m (m + 9) M M := e_fr_refl
  refine g_start ok_X8_undo rfl rfl ?_
  refine g_run 0 2 rfl ?_
  refine g_get 2 rfl fl_RX8_48 H.2.1 rfl ?_
  refine g_if_ne 3 12 rfl rfl (by omega) (fun c5 => ?_) (fun c5 => ?_)
  · have hn0 : c ≠ 0 := by omega
    rw [if_neg hn0]
    refine g_run 6 2 rfl ?_
    refine g_callV 8 rfl cv_RX8_73 H.2.1 (m_isThrown H _ 1 (by first | exact Or.inl rfl | exact Or.inr rfl | exact b_01)) rfl rfl (by decide) (by omega) (by omega) (Nat.le_of_ble_eq_true rfl) (e_kw fun M14 hq14 => ?_) e_kwx
    have fr14 := e_fr_tr fr0 (e_fr_w hq14.2 (by omega))
    refine g_if_eq 9 22 rfl rfl (by decide) (fun _ => ?_) (fun c17 => absurd c17 (by decide))
    refine g_run 12 2 rfl ?_
    refine g_get 14 rfl fl_RX8_48 hq14.1.2.1 rfl ?_
    rw [show va_up q 6 (if (0 : Int) = 0 then 0 else 1) 5 = q 5 from rfl, hc]
    refine g_run 15 2 rfl ?_
    refine g_put 17 rfl fp_RX8_48 hq14.1.2.1 rfl trivial (fun M29 hM29 => ?_)
    have H29 := MM_q5 hq14.1 hM29
    have fr29 := e_fr_tr fr14 (e_fr_up hM29 (by omega))
    refine g_run 18 1 rfl ?_
    refine g_get 19 rfl fl_RX8_22 H29.2.1 rfl ?_
    refine g_run 20 2 rfl ?_
    refine g_get 22 rfl fl_RX8_48 H29.2.1 rfl ?_
    rw [va_up_self]
    refine g_run 23 2 rfl ?_
    refine g_get 25 rfl fl_RX8_9 H29.2.1 rfl ?_
    refine g_run 26 1 rfl ?_
    refine g_callS 27 rfl cs_RX8_44 (m_copies H29.2.2.2.2.2.2.1 H29.2.2.1 (by omega) (85 * ((c : Int) - 1)) 0 (85 * (c - 1)) 0 (by omega) rfl (by omega) (by omega) (by omega) (by omega)) rfl rfl (by decide) (by omega) (by omega) (Nat.le_of_ble_eq_true rfl) (e_kw fun M48 hM48 => ?_) e_kwx
    have H48 := MM_A0 H29 hM48
    have fr48 := e_fr_tr fr29 (e_fr_up hM48 (by omega))
    refine g_nI (fun j => A 4 (85 * (c - 1) + j)) (by have := H.1; omega) H48.2.2.1 (fun j hj => ?_) (fun M49 hM49 => ?_)
    · show va_cpy (A 4) (A 0) (85 * (c - 1)) 0 85 j = _
      unfold va_cpy
      rw [if_pos ⟨by omega, by omega⟩, Nat.sub_zero]
    have H49 := MM_A0 H48 hM49
    rw [up_up] at H49
    have fr49 := e_fr_tr fr48 (e_fr_up hM49 (by omega))
    refine g_run 28 1 rfl ?_
    refine g_get 29 rfl fl_RX8_48 H49.2.1 rfl ?_
    rw [va_up_self]
    exact g_iret 30 rfl rfl (by first | exact trivial | exact Or.inl rfl | exact Or.inr rfl | (show _ ∨ _; omega)) ⟨rfl, rfl, by rw [if_neg hn0, if_neg hn0]; exact H49, fr49⟩
  · have h0 : c = 0 := by omega
    rw [if_pos h0]
    refine g_run 4 2 rfl ?_
    refine g_run 7 1 rfl ?_
    refine g_callV 8 rfl cv_RX8_73 H.2.1 (m_isThrown H _ 1 (by first | exact Or.inl rfl | exact Or.inr rfl | exact b_01)) rfl rfl (by decide) (by omega) (by omega) (Nat.le_of_ble_eq_true rfl) (e_kw fun M14 hq14 => ?_) e_kwx
    have fr14 := e_fr_tr fr0 (e_fr_w hq14.2 (by omega))
    refine g_if_eq 9 22 rfl rfl (by decide) (fun c17 => absurd c17 (by decide)) (fun _ => ?_)
    refine g_run 10 1 rfl ?_
    exact g_iret 11 rfl rfl (by first | exact trivial | exact Or.inl rfl | exact Or.inr rfl | (show _ ∨ _; omega)) ⟨rfl, rfl, by rw [if_pos h0, if_pos h0]; exact hq14.1, fr14⟩
theorem m_save (H : MM M m q A) : Ct (e_L r0) Γ mX8_save 1 0 0 [vR m] M n (e_wr (some (vI (A 0 2))) n fun M' => MM M' m (va_up (va_up q 6 0) 10 1) (va_up A 3 (A 0)) ∧ e_fr m (m + 9) M M') := by
  have fr0 : e_fr m (m + 9) M M := e_fr_refl
  refine g_start ok_X8_save rfl rfl ?_
  refine g_run 0 2 rfl ?_
  refine g_put 2 rfl fp_RX8_41 H.2.1 rfl trivial (fun M2 hM2 => ?_)
  have H2 := MM_q6 H hM2
  have fr2 := e_fr_tr fr0 (e_fr_up hM2 (by omega))
  refine g_run 3 1 rfl ?_
  refine g_get 4 rfl fl_RX8_9 H2.2.1 rfl ?_
  refine g_run 5 2 rfl ?_
  refine g_get 7 rfl fl_RX8_19 H2.2.1 rfl ?_
  refine g_run 8 1 rfl ?_
  refine g_callS 9 rfl cs_RX8_44 (m_copies H2.2.2.1 H2.2.2.2.2.2.1 (by omega) 0 0 0 0 rfl rfl (by omega) (by omega) (by omega) (by omega)) rfl rfl (by decide) (by omega) (by omega) (Nat.le_of_ble_eq_true rfl) (e_kw fun M15 hM15 => ?_) e_kwx
  have H15 := MM_A3 H2 hM15
  have fr15 := e_fr_tr fr2 (e_fr_up hM15 (by omega))
  refine g_nI (A 0) (by have := H.1; omega) H15.2.2.2.2.2.1 (fun _ => e_cpy0) (fun M16 hM16 => ?_)
  have H16 := MM_A3 H15 hM16
  rw [up_up] at H16
  have fr16 := e_fr_tr fr15 (e_fr_up hM16 (by omega))
  refine g_run 10 2 rfl ?_
  refine g_put 12 rfl fp_RX8_268 H16.2.1 rfl (Or.inr rfl) (fun M20 hM20 => ?_)
  have H20 := MM_q10 H16 hM20
  have fr20 := e_fr_tr fr16 (e_fr_up hM20 (by omega))
  refine g_run 13 1 rfl ?_
  refine g_get 14 rfl fl_RX8_9 H20.2.1 rfl ?_
  refine g_run 15 1 rfl ?_
  refine g_iald 16 2 rfl rfl H20.2.2.1 (by first | rfl | omega) (by omega) (by decide) ?_
  exact g_iret 17 rfl rfl (by first | exact trivial | exact Or.inl rfl | exact Or.inr rfl | (show _ ∨ _; omega)) ⟨rfl, rfl, H20, fr20⟩
theorem m_restore (H : MM M m q A) (hs : q 10 = 0 ∨ q 10 = 1) : Ct (e_L r0) Γ mX8_restore 1 0 0 [vR m] M n (e_wr (some (vI (if q 10 = 0 then 0 else A 3 2))) n fun M' => MM M' m (if q 10 = 0 then va_up q 6 1 else va_up (va_up q 6 0) 5 0) (if q 10 = 0 then A else va_up A 0 (A 3)) ∧ e_fr m (m + 9) M M') := by
  have fr0 : e_fr m (m + 9) M M := e_fr_refl
  refine g_start ok_X8_restore rfl rfl ?_
  refine g_run 0 2 rfl ?_
  refine g_get 2 rfl fl_RX8_268 H.2.1 rfl ?_
  refine g_if_ne 3 12 rfl rfl (by omega) (fun c5 => ?_) (fun c5 => ?_)
  · rw [if_neg c5]
    refine g_run 6 2 rfl ?_
    refine g_callV 8 rfl cv_RX8_73 H.2.1 (m_isThrown H _ 1 (by first | exact Or.inl rfl | exact Or.inr rfl | exact b_01)) rfl rfl (by decide) (by omega) (by omega) (Nat.le_of_ble_eq_true rfl) (e_kw fun M14 hq14 => ?_) e_kwx
    have fr14 := e_fr_tr fr0 (e_fr_w hq14.2 (by omega))
    refine g_if_eq 9 22 rfl rfl (by decide) (fun _ => ?_) (fun c17 => absurd c17 (by decide))
    refine g_run 12 1 rfl ?_
    refine g_get 13 rfl fl_RX8_19 hq14.1.2.1 rfl ?_
    refine g_run 14 2 rfl ?_
    refine g_get 16 rfl fl_RX8_9 hq14.1.2.1 rfl ?_
    refine g_run 17 1 rfl ?_
    refine g_callS 18 rfl cs_RX8_44 (m_copies hq14.1.2.2.2.2.2.1 hq14.1.2.2.1 (by omega) 0 0 0 0 rfl rfl (by omega) (by omega) (by omega) (by omega)) rfl rfl (by decide) (by omega) (by omega) (Nat.le_of_ble_eq_true rfl) (e_kw fun M32 hM32 => ?_) e_kwx
    have H32 := MM_A0 hq14.1 hM32
    have fr32 := e_fr_tr fr14 (e_fr_up hM32 (by omega))
    refine g_nI (A 3) (by have := H.1; omega) H32.2.2.1 (fun _ => e_cpy0) (fun M33 hM33 => ?_)
    have H33 := MM_A0 H32 hM33
    rw [up_up] at H33
    have fr33 := e_fr_tr fr32 (e_fr_up hM33 (by omega))
    refine g_run 19 2 rfl ?_
    refine g_put 21 rfl fp_RX8_48 H33.2.1 rfl trivial (fun M37 hM37 => ?_)
    have H37 := MM_q5 H33 hM37
    have fr37 := e_fr_tr fr33 (e_fr_up hM37 (by omega))
    refine g_run 22 1 rfl ?_
    refine g_get 23 rfl fl_RX8_9 H37.2.1 rfl ?_
    refine g_run 24 1 rfl ?_
    refine g_iald 25 2 rfl rfl H37.2.2.1 (by first | rfl | omega) (by omega) (by decide) ?_
    rw [va_up_self]
    exact g_iret 26 rfl rfl (by first | exact trivial | exact Or.inl rfl | exact Or.inr rfl | (show _ ∨ _; omega)) ⟨rfl, rfl, by rw [if_neg c5, if_neg c5]; exact H37, fr37⟩
  · rw [if_pos c5]
    refine g_run 4 2 rfl ?_
    refine g_run 7 1 rfl ?_
    refine g_callV 8 rfl cv_RX8_73 H.2.1 (m_isThrown H _ 1 (by first | exact Or.inl rfl | exact Or.inr rfl | exact b_01)) rfl rfl (by decide) (by omega) (by omega) (Nat.le_of_ble_eq_true rfl) (e_kw fun M14 hq14 => ?_) e_kwx
    have fr14 := e_fr_tr fr0 (e_fr_w hq14.2 (by omega))
    refine g_if_eq 9 22 rfl rfl (by decide) (fun c17 => absurd c17 (by decide)) (fun _ => ?_)
    refine g_run 10 1 rfl ?_
    exact g_iret 11 rfl rfl (by first | exact trivial | exact Or.inl rfl | exact Or.inr rfl | (show _ ∨ _; omega)) ⟨rfl, rfl, by rw [if_pos c5, if_pos c5]; exact hq14.1, fr14⟩
theorem m_didOpen (H : MM M m q A) (hv : Vok B (A 0)) (r : Int) (hr : i32 r) : Ct (e_L r0) Γ mX8_didOpen 3 0 0 [vR m, vI r] M n (e_wr (some (vI (if (if tR (A 0) r = 0 then A 0 (65 + 2 * r.toNat + 1) else 0) = 1 then 1 else 0))) n fun M' => MM M' m (va_up q 6 (tR (A 0) r)) A ∧ e_fr m (m + 9) M M') := by
  have fr0 : e_fr m (m + 9) M M := e_fr_refl
  refine g_start ok_X8_didOpen rfl rfl ?_
  refine g_run 0 3 rfl ?_
  refine g_callV 3 rfl cv_RX8_169 H.2.1 (m_ofTry H hv r 1 1 hr rfl (by decide)) rfl rfl (by decide) (by omega) (by omega) (Nat.le_of_ble_eq_true rfl) (e_kw fun M3 hq3 => ?_) e_kwx
  have fr3 := e_fr_tr fr0 (e_fr_w hq3.2 (by omega))
  refine g_run 4 1 rfl ?_
  refine g_icmp_ne 5 14 rfl rfl (by split; (have q6 := hv.2.2.2.1; have q9 := hv.1 (65 + 2 * r.toNat + 1) (by unfold tR at *; split at * <;> omega); have q10 := hv.2.2.2.2.2.2.2.2.2; omega); omega) (by omega) (fun c7 => ?_) (fun c7 => ?_)
  · rw [if_neg c7]
    refine g_run 8 1 rfl ?_
    exact g_iret 9 rfl rfl (by first | exact trivial | exact Or.inl rfl | exact Or.inr rfl | (show _ ∨ _; omega)) ⟨rfl, rfl, hq3.1, fr3⟩
  · rw [if_pos c7]
    refine g_run 6 2 rfl ?_
    exact g_iret 9 rfl rfl (by first | exact trivial | exact Or.inl rfl | exact Or.inr rfl | (show _ ∨ _; omega)) ⟨rfl, rfl, hq3.1, fr3⟩
abbrev vAhead (v : Nat → Int) (d e : Nat) : Prop := v (7 + 9 * e + 7) < v (7 + 9 * d + 7) ∨ (v (7 + 9 * d + 7) = v (7 + 9 * e + 7) ∧ (vSteps v d 3 < vSteps v e 3 ∨ (vSteps v d 3 = vSteps v e 3 ∧ d < e)))
theorem m_isAhead (H : MM M m q A) (hv : Vok B (A 0)) (d e : Nat) (hd : d < 6) (he : e < 6) : Ct (e_L r0) Γ mX8_isAhead 3 0 0 [vR m, vI (d : Int), vI (e : Int)] M n (e_rt (.inl (some (vI (if vAhead (A 0) d e then 1 else 0)))) M n) := by
  have s1 := vSteps_rng hv d hd 3 (by omega)
  have s2 := vSteps_rng hv e he 3 (by omega)
  have c1 := hv.2.2.2.2.2.2.1 d hd
  have c2 := hv.2.2.2.2.2.2.1 e he
  refine g_start ok_X8_isAhead rfl rfl ?_
  refine g_run 0 3 rfl ?_
  refine g_callV 3 rfl cv_RX8_55 H.2.1 (m_of H d 7 d 7 rfl rfl (by omega)) rfl rfl (by decide) (by omega) (by omega) (Nat.le_of_ble_eq_true rfl) (e_kr ?_) e_kx
  refine g_run 4 3 rfl ?_
  refine g_callV 7 rfl cv_RX8_55 H.2.1 (m_of H e 7 e 7 rfl rfl (by omega)) rfl rfl (by decide) (by omega) (by omega) (Nat.le_of_ble_eq_true rfl) (e_kr ?_) e_kx
  refine g_run 8 3 rfl ?_
  refine g_if_eq 11 30 rfl rfl (by omega) (fun c17 => ?_) (fun c17 => ?_)
  · refine g_run 18 2 rfl ?_
    refine g_callV 20 rfl cv_RX8_159 H.2.1 (m_steps H hv e e rfl he) rfl rfl (by decide) (by omega) (by omega) (Nat.le_of_ble_eq_true rfl) (e_kr ?_) e_kx
    refine g_run 21 2 rfl ?_
    refine g_callV 23 rfl cv_RX8_159 H.2.1 (m_steps H hv d d rfl hd) rfl rfl (by decide) (by omega) (by omega) (Nat.le_of_ble_eq_true rfl) (e_kr ?_) e_kx
    refine g_run 24 3 rfl ?_
    refine g_if_eq 27 61 rfl rfl (by omega) (fun c45 => ?_) (fun c45 => ?_)
    · refine g_run 34 2 rfl ?_
      refine g_icmp_ge 36 70 rfl rfl (by omega) (by omega) (fun c63 => ?_) (fun c63 => ?_)
      · rw [if_neg (c := vAhead (A 0) d e) (by unfold vAhead; omega)]
        refine g_run 39 1 rfl ?_
        exact g_iret 40 rfl rfl (by first | exact trivial | exact Or.inl rfl | exact Or.inr rfl | (show _ ∨ _; omega)) ⟨rfl, rfl, rfl⟩
      · rw [if_pos (c := vAhead (A 0) d e) (by unfold vAhead; omega)]
        refine g_run 37 2 rfl ?_
        exact g_iret 40 rfl rfl (by first | exact trivial | exact Or.inl rfl | exact Or.inr rfl | (show _ ∨ _; omega)) ⟨rfl, rfl, rfl⟩
    · refine g_run 28 1 rfl ?_
      refine g_if_le 29 57 rfl rfl (by omega) (fun c50 => ?_) (fun c50 => ?_)
      · rw [if_neg (c := vAhead (A 0) d e) (by unfold vAhead; omega)]
        refine g_run 32 2 rfl ?_
        exact g_iret 40 rfl rfl (by first | exact trivial | exact Or.inl rfl | exact Or.inr rfl | (show _ ∨ _; omega)) ⟨rfl, rfl, rfl⟩
      · rw [if_pos (c := vAhead (A 0) d e) (by unfold vAhead; omega)]
        refine g_run 30 2 rfl ?_
        exact g_iret 40 rfl rfl (by first | exact trivial | exact Or.inl rfl | exact Or.inr rfl | (show _ ∨ _; omega)) ⟨rfl, rfl, rfl⟩
  · refine g_run 12 1 rfl ?_
    refine g_if_le 13 28 rfl rfl (by omega) (fun c21 => ?_) (fun c21 => ?_)
    · rw [if_neg (c := vAhead (A 0) d e) (by unfold vAhead; omega)]
      refine g_run 16 1 rfl ?_
      exact g_iret 17 rfl rfl (by first | exact trivial | exact Or.inl rfl | exact Or.inr rfl | (show _ ∨ _; omega)) ⟨rfl, rfl, rfl⟩
    · rw [if_pos (c := vAhead (A 0) d e) (by unfold vAhead; omega)]
      refine g_run 14 2 rfl ?_
      exact g_iret 17 rfl rfl (by first | exact trivial | exact Or.inl rfl | exact Or.inr rfl | (show _ ∨ _; omega)) ⟨rfl, rfl, rfl⟩
end MQ
