/-! the reference's face: keeps, ends and the changes (wip/whole/gen/c_mface.py prints this part) -/
def shN (p : Nat → Int) (k : Nat) : Nat → Int := fun j => if j < 85 * k then p (j + 85) else p j
theorem shN_0 {p : Nat → Int} : shN p 0 = p := funext fun j => if_neg (by omega)
theorem shN_up {p : Nat → Int} {k : Nat} : va_cpy (shN p k) (shN p k) (85 * (k + 1)) (85 * k) 85 = shN p (k + 1) := by
  funext j
  unfold va_cpy
  by_cases e : 85 * k ≤ j ∧ j < 85 * k + 85
  · rw [if_pos e]
    unfold shN
    rw [if_neg (by omega), if_pos (by omega), show 85 * (k + 1) + (j - 85 * k) = j + 85 from by omega]
  · rw [if_neg e]
    unfold shN
    by_cases e2 : j < 85 * k
    · rw [if_pos e2, if_pos (by omega)]
    · rw [if_neg e2, if_neg (by omega)]
def ePast (p was : Nat → Int) (c : Nat) : Nat → Int := if c = 8 then va_cpy was (shN p 7) 0 595 85 else va_cpy was p 0 (85 * c) 85
section MF
variable {r0 : Option Nat} {Γ : Cx} {M : Mem} {n m : Nat} {q : Nat → Int} {A : Nat → Nat → Int} {B : Int}
section CP2
variable {p l1 : Nat} {f : Nat → Int}
theorem m_copiesS (hp : M p = cI 0 l1 f) (bz az : Int) (b a : Nat) (hb : bz = b) (ha : az = a) (h1 : b + 85 ≤ l1) (hab : a ≤ b) (hl1 : l1 ≤ 1000) : Ct (e_L r0) Γ mX8_copies 0 0 0 [vR p, vI bz, vR p, vI az] M n (e_wr none n fun M' => M' = va_up M p (cI 0 l1 (va_cpy f f b a 85))) := by
  refine g_start ok_X8_copies rfl rfl ?_
  refine g_run 0 2 rfl ?_
  refine e_down (P := fun k => ∀ M', M' = va_up M p (cI 0 l1 (va_cpy f f b a k)) → G (e_L r0) Γ mX8_copies 0 0 0 _ 3 [some (vR p), some (vI bz), some (vR p), some (vI az), some (vI (k : Int))] [] M' n 0 0) 85 ?_ 0 (by omega) M (by rw [cpy_0, ← hp, up_id])
  intro k hk ih M2 e2
  have k2p := (congrFun e2 p).trans (va_up_self _ _ _)
  refine g_run 2 2 rfl ?_
  refine g_icmp_ge 4 28 rfl rfl (by omega) (by omega) (fun c7 => ?_) (fun c7 => ?_)
  · obtain rfl : k = 85 := by omega
    exact g_vret 17 rfl rfl ⟨rfl, rfl, e2⟩
  · refine g_run 5 8 rfl ?_
    refine g_iald 13 (b + k) rfl rfl k2p (by first | rfl | omega) (by omega) (by omega) ?_
    rw [show va_cpy f f b a k (b + k) = f (b + k) from if_neg (by omega)]
    refine g_iast 14 (a + k) rfl rfl (by decide) k2p (by first | rfl | omega) (by omega) (by omega) (fun M21 hM21 => ?_)
    have k21_from := (congrFun hM21 p).trans (va_up_self _ _ _)
    refine g_run 15 2 rfl ?_
    exact ih (by omega) M21 (by rw [hM21, cpy_up, e2, up_up])
end CP2
theorem m_keeps (H : MM M m q A)  : Ct (e_L r0) Γ mX8_keeps 1 0 0 [vR m] M n (e_wr none n fun M' => MM M' m (va_up q 6 0) (va_up A 1 (A 0)) ∧ e_fr m (m + 9) M M') := by
  have fr0 : e_fr m (m + 9) M M := e_fr_refl
  refine g_start ok_X8_keeps rfl rfl ?_
  refine g_run 0 1 rfl ?_
  refine g_get 1 rfl fl_RX8_9 H.2.1 rfl ?_
  refine g_run 2 2 rfl ?_
  refine g_get 4 rfl fl_RX8_13 H.2.1 rfl ?_
  refine g_run 5 1 rfl ?_
  refine g_callS 6 rfl cs_RX8_44 (m_copies H.2.2.1 H.2.2.2.1 (by omega) 0 0 0 0 rfl rfl (by omega) (by omega) (by omega) (by omega)) rfl rfl (by decide) (by omega) (by omega) (Nat.le_of_ble_eq_true rfl) (e_kw fun M10 hM10 => ?_) e_kwx
  have H10 := MM_A1 H hM10
  have fr10 := e_fr_tr fr0 (e_fr_up hM10 (by omega))
  refine g_nI (A 0) (by have := H.1; omega) H10.2.2.2.1 (fun _ => e_cpy0) (fun M11 hM11 => ?_)
  have H11 := MM_A1 H10 hM11
  have fr11 := e_fr_tr fr10 (e_fr_up hM11 (by omega))
  rw [up_up] at H11
  refine g_run 7 2 rfl ?_
  refine g_put 9 rfl fp_RX8_41 H11.2.1 rfl trivial (fun M15 hM15 => ?_)
  have H15 := MM_q6 H11 hM15
  have fr15 := e_fr_tr fr11 (e_fr_up hM15 (by omega))
  exact g_vret 10 rfl rfl ⟨rfl, rfl, H15, fr15⟩
theorem m_endsT (H : MM M m q A) (h6 : q 6 ≠ 0) (hr : i32 (q 6)) (z : Int) : Ct (e_L r0) Γ mX8_ends 1 0 0 [vR m, vI z] M n (e_rt (.inl (some (vI 0))) M n) := by
  refine g_start ok_X8_ends rfl rfl ?_
  refine g_run 0 1 rfl ?_
  refine g_get 1 rfl fl_RX8_41 H.2.1 rfl ?_
  refine g_if_eq 2 9 rfl rfl (by omega) (fun c4 => ?_) (fun c4 => ?_)
  · exact absurd c4 h6
  · refine g_run 3 1 rfl ?_
    exact g_iret 4 rfl rfl (by first | exact trivial | exact Or.inl rfl | exact Or.inr rfl | (show _ ∨ _; omega)) ⟨rfl, rfl, rfl⟩
def yC9 (c : Nat) : Nat := if c = 8 then 8 else c + 1
/-- the end of a change, when room is there -/
theorem m_ends9 {Q : Rv → Mem → Nat → Prop} {M : Mem} (H : MM M m q A) (c : Nat) (hc : q 5 = c) (hc8 : c < 8) (z : Int) (x : Option aV) (hQ : ∀ M', MM M' m (va_up q 5 ((c + 1 : Nat) : Int)) (va_up A 4 (va_cpy (A 1) (A 4) 0 (85 * c) 85)) → e_fr m (m + 9) M M' → Q (.inl (some (vI z))) M' n) : G (e_L r0) Γ mX8_ends 1 0 0 Q 63 [some (vR m), some (vI z), x] [] M n 0 0 := by
  have fr0 : e_fr m (m + 9) M M := e_fr_refl
  refine g_run 35 1 rfl ?_
  refine g_get 36 rfl fl_RX8_13 H.2.1 rfl ?_
  refine g_run 37 2 rfl ?_
  refine g_get 39 rfl fl_RX8_22 H.2.1 rfl ?_
  refine g_run 40 2 rfl ?_
  refine g_get 42 rfl fl_RX8_48 H.2.1 rfl ?_
  refine g_run 43 1 rfl ?_
  refine g_callS 44 rfl cs_RX8_44 (m_copies H.2.2.2.1 H.2.2.2.2.2.2.1 (by omega) 0 (85 * q 5) 0 (85 * c) rfl (by omega) (by omega) (by omega) (by omega) (by omega)) rfl rfl (by decide) (by omega) (by omega) (Nat.le_of_ble_eq_true rfl) (e_kw fun M79 hM79 => ?_) e_kwx
  have H79 := MM_A4 H hM79
  have fr79 := e_fr_tr fr0 (e_fr_up hM79 (by omega))
  refine g_run 45 2 rfl ?_
  refine g_get 47 rfl fl_RX8_48 H79.2.1 rfl ?_
  refine g_run 48 2 rfl ?_
  refine g_put 50 rfl fp_RX8_48 H79.2.1 rfl trivial (fun M89 hM89 => ?_)
  have H89 := MM_q5 H79 hM89
  have fr89 := e_fr_tr fr79 (e_fr_up hM89 (by omega))
  rw [hc] at H89
  refine g_run 51 1 rfl ?_
  exact g_iret 52 rfl rfl (by first | exact trivial | exact Or.inl rfl | exact Or.inr rfl | (show _ ∨ _; omega)) (hQ _ H89 fr89)
theorem m_ends (H : MM M m q A) (h6 : q 6 = 0) (c : Nat) (hc : q 5 = c) (hc8 : c ≤ 8) (z : Int) : Ct (e_L r0) Γ mX8_ends 1 0 0 [vR m, vI z] M n (e_wr (some (vI z)) n fun M' => MM M' m (va_up q 5 (yC9 c)) (va_up A 4 (ePast (A 4) (A 1) c)) ∧ e_fr m (m + 9) M M') := by
  have fr0 : e_fr m (m + 9) M M := e_fr_refl
  refine g_start ok_X8_ends rfl rfl ?_
  refine g_run 0 1 rfl ?_
  refine g_get 1 rfl fl_RX8_41 H.2.1 rfl ?_
  refine g_if_eq 2 9 rfl rfl (by omega) (fun c4 => ?_) (fun c4 => ?_)
  · refine g_run 5 1 rfl ?_
    refine g_get 6 rfl fl_RX8_48 H.2.1 rfl ?_
    refine g_run 7 1 rfl ?_
    refine g_icmp_ne 8 63 rfl rfl (by omega) (by omega) (fun c15 => ?_) (fun c15 => ?_)
    · have e15 : c ≠ 8 := by omega
      have ep : ePast (A 4) (A 1) c = va_cpy (A 1) (A 4) 0 (85 * c) 85 := if_neg e15
      have ec : yC9 c = c + 1 := if_neg e15
      exact m_ends9 H c hc (by omega) z _ (fun M' h1 h2 => ⟨rfl, rfl, by rw [ep, ec]; exact h1, h2⟩)
    · have e15 : c = 8 := by omega
      have ep : ePast (A 4) (A 1) c = va_cpy (A 1) (shN (A 4) 7) 0 595 85 := if_pos e15
      have ec : yC9 c = 8 := if_pos e15
      refine g_run 9 2 rfl ?_
      refine e_down (P := fun k => ∀ M', MM M' m q (va_up A 4 (shN (A 4) k)) → e_fr m (m + 9) M M' → G (e_L r0) Γ mX8_ends 1 0 0 _ 20 [some (vR m), some (vI z), some (vI ((k : Int) + 1))] [] M' n 0 0) 7 ?_ 0 (by omega) M (by rw [shN_0, up_id]; exact H) fr0
      intro k hk ih M2 H2 fr2
      refine g_run 11 2 rfl ?_
      refine g_icmp_ge 13 53 rfl rfl (by omega) (by omega) (fun c23 => ?_) (fun c23 => ?_)
      · obtain rfl : k = 7 := by omega
        refine g_run 29 2 rfl ?_
        refine g_get 31 rfl fl_RX8_48 H2.2.1 rfl ?_
        refine g_run 32 2 rfl ?_
        refine g_put 34 rfl fp_RX8_48 H2.2.1 rfl trivial (fun M60 hM60 => ?_)
        have H60 := MM_q5 H2 hM60
        have fr60 := e_fr_tr fr2 (e_fr_up hM60 (by omega))
        have H9 := H60
        rw [show q 5 - 1 = ((7 : Nat) : Int) from by omega] at H9
        exact m_ends9 H9 7 (va_up_self _ _ _) (by omega) z _ (fun M' h1 h2 => ⟨rfl, rfl, by rw [up_up, up_up, va_up_self] at h1; rw [ep, ec]; exact h1, e_fr_tr fr60 h2⟩)
      · refine g_run 14 1 rfl ?_
        refine g_get 15 rfl fl_RX8_22 H2.2.1 rfl ?_
        refine g_run 16 4 rfl ?_
        refine g_get 20 rfl fl_RX8_22 H2.2.1 rfl ?_
        refine g_run 21 5 rfl ?_
        refine g_callS 26 rfl cs_RX8_44 (m_copiesS H2.2.2.2.2.2.2.1 (85 * ((k : Int) + 1)) (85 * ((k : Int) + 1 - 1)) (85 * (k + 1)) (85 * k) (by omega) (by omega) (by omega) (by omega) (by omega)) rfl rfl (by decide) (by omega) (by omega) (Nat.le_of_ble_eq_true rfl) (e_kw fun M44 hM44 => ?_) e_kwx
        have H44 := MM_A4 H2 hM44
        have fr44 := e_fr_tr fr2 (e_fr_up hM44 (by omega))
        refine g_run 27 2 rfl ?_
        have H9 := H44
        rw [up_up, va_up_self, shN_up] at H9
        rw [show ((k : Int) + 1) + 1 = ((k + 1 : Nat) : Int) + 1 from by omega]
        exact ih (by omega) M44 H9 fr44
  · exact absurd h6 c4
theorem m_addDoor (H : MM M m q A) (hv : Vok B (A 0)) (a b c9 : Int) (ha : i32 a) (hb : i32 b) (hc9 : i32 c9) (c : Nat) (hc : q 5 = c) (hc8 : c ≤ 8) : Ct (e_L r0) Γ mX8_addDoor 6 0 0 [vR m, vI a, vI b, vI c9] M n (e_wr (some (vI (if tDoor (A 0) a b c9 = 0 then A 0 2 else 0))) n fun M' => MM M' m (if tDoor (A 0) a b c9 = 0 then va_up (va_up q 6 0) 5 (yC9 c) else va_up q 6 (tDoor (A 0) a b c9)) (if tDoor (A 0) a b c9 = 0 then va_up (va_up (va_up A 1 (A 0)) 0 (mDoor (A 0) a b c9)) 4 (ePast (A 4) (A 0) c) else va_up A 1 (A 0)) ∧ e_fr m (m + 9) M M') := by
  have fr0 : e_fr m (m + 9) M M := e_fr_refl
  refine g_start ok_X8_addDoor rfl rfl ?_
  refine g_run 0 1 rfl ?_
  refine g_callV 1 rfl cv_RX8_81 H.2.1 (m_keeps H) rfl rfl (by decide) (by omega) (by omega) (Nat.le_of_ble_eq_true rfl) (e_kw fun M1 hq1 => ?_) e_kwx
  have fr1 := e_fr_tr fr0 (e_fr_w hq1.2 (by omega))
  refine g_run 2 5 rfl ?_
  refine g_callV 7 rfl cv_RX8_84 hq1.1.2.1 (m_doors hq1.1 hv a b c9 ha hb hc9) rfl rfl (by decide) (by omega) (by omega) (Nat.le_of_ble_eq_true rfl) (e_kw fun M9 hq9 => ?_) e_kwx
  have fr9 := e_fr_tr fr1 (e_fr_w hq9.2 (by omega))
  have h9 : MM M9 m (va_up q 6 (tDoor (A 0) a b c9)) (if tDoor (A 0) a b c9 = 0 then va_up (va_up A 1 (A 0)) 0 (mDoor (A 0) a b c9) else va_up A 1 (A 0)) := by
    have h8 := hq9.1
    rw [up_up] at h8
    exact h8
  by_cases ht : tDoor (A 0) a b c9 = 0
  · have h9 := h9
    rw [ht, if_pos rfl] at h9
    refine g_callV 8 rfl cv_RX8_88 h9.2.1 (m_ends h9 rfl c hc hc8 _) rfl rfl (by decide) (by omega) (by omega) (Nat.le_of_ble_eq_true rfl) (e_kw fun M12 hq12 => ?_) e_kwx
    have fr12 := e_fr_tr fr9 (e_fr_w hq12.2 (by omega))
    exact g_iret 9 rfl rfl (by first | trivial | exact b_01 | exact Or.inl rfl | exact Or.inr rfl) ⟨rfl, rfl, by rw [if_pos ht, if_pos ht]; exact hq12.1, fr12⟩
  · have hti : i32 (tDoor (A 0) a b c9) := by unfold tDoor; (repeat' split) <;> omega
    refine g_callV 8 rfl cv_RX8_88 h9.2.1 (m_endsT h9 ht (by show -2147483648 ≤ tDoor (A 0) a b c9 ∧ tDoor (A 0) a b c9 ≤ 2147483647; exact hti) _) rfl rfl (by decide) (by omega) (by omega) (Nat.le_of_ble_eq_true rfl) (e_kr ?_) e_kx
    exact g_iret 9 rfl rfl (by first | trivial | exact b_01 | exact Or.inl rfl | exact Or.inr rfl) ⟨congrArg (fun x : Int => (Sum.inl (some (vI x)) : Rv)) (if_neg ht).symm, rfl, by rw [if_neg ht, if_neg ht]; rw [if_neg ht] at h9; exact h9, fr9⟩
theorem m_turn (H : MM M m q A) (hv : Vok B (A 0)) (z d x : Int) (hz : i32 z) (hd : i32 d) (hx : i32 x) (c : Nat) (hc : q 5 = c) (hc8 : c ≤ 8) : Ct (e_L r0) Γ mX8_turn 6 0 0 [vR m, vI z, vI d, vI x] M n (e_wr (some (vI (if tTurn (A 0) z d x = 0 then p_turn (A 0 (7 + 9 * z.toNat + d.toNat)) x else 0))) n fun M' => MM M' m (if tTurn (A 0) z d x = 0 then va_up (va_up q 6 0) 5 (yC9 c) else va_up q 6 (tTurn (A 0) z d x)) (if tTurn (A 0) z d x = 0 then va_up (va_up (va_up A 1 (A 0)) 0 (mTurn (A 0) z d x)) 4 (ePast (A 4) (A 0) c) else va_up A 1 (A 0)) ∧ e_fr m (m + 9) M M') := by
  have fr0 : e_fr m (m + 9) M M := e_fr_refl
  refine g_start ok_X8_turn rfl rfl ?_
  refine g_run 0 1 rfl ?_
  refine g_callV 1 rfl cv_RX8_81 H.2.1 (m_keeps H) rfl rfl (by decide) (by omega) (by omega) (Nat.le_of_ble_eq_true rfl) (e_kw fun M1 hq1 => ?_) e_kwx
  have fr1 := e_fr_tr fr0 (e_fr_w hq1.2 (by omega))
  refine g_run 2 5 rfl ?_
  refine g_callV 7 rfl cv_RX8_98 hq1.1.2.1 (m_turns hq1.1 hv z d x hz hd hx) rfl rfl (by decide) (by omega) (by omega) (Nat.le_of_ble_eq_true rfl) (e_kw fun M9 hq9 => ?_) e_kwx
  have fr9 := e_fr_tr fr1 (e_fr_w hq9.2 (by omega))
  have h9 : MM M9 m (va_up q 6 (tTurn (A 0) z d x)) (if tTurn (A 0) z d x = 0 then va_up (va_up A 1 (A 0)) 0 (mTurn (A 0) z d x) else va_up A 1 (A 0)) := by
    have h8 := hq9.1
    rw [up_up] at h8
    exact h8
  by_cases ht : tTurn (A 0) z d x = 0
  · have h9 := h9
    rw [ht, if_pos rfl] at h9
    refine g_callV 8 rfl cv_RX8_88 h9.2.1 (m_ends h9 rfl c hc hc8 _) rfl rfl (by decide) (by omega) (by omega) (Nat.le_of_ble_eq_true rfl) (e_kw fun M12 hq12 => ?_) e_kwx
    have fr12 := e_fr_tr fr9 (e_fr_w hq12.2 (by omega))
    exact g_iret 9 rfl rfl (by first | trivial | exact b_01 | exact Or.inl rfl | exact Or.inr rfl) ⟨rfl, rfl, by rw [if_pos ht, if_pos ht]; exact hq12.1, fr12⟩
  · have hti : i32 (tTurn (A 0) z d x) := by unfold tTurn; (repeat' split) <;> omega
    refine g_callV 8 rfl cv_RX8_88 h9.2.1 (m_endsT h9 ht (by show -2147483648 ≤ tTurn (A 0) z d x ∧ tTurn (A 0) z d x ≤ 2147483647; exact hti) _) rfl rfl (by decide) (by omega) (by omega) (Nat.le_of_ble_eq_true rfl) (e_kr ?_) e_kx
    exact g_iret 9 rfl rfl (by first | trivial | exact b_01 | exact Or.inl rfl | exact Or.inr rfl) ⟨congrArg (fun x : Int => (Sum.inl (some (vI x)) : Rv)) (if_neg ht).symm, rfl, by rw [if_neg ht, if_neg ht]; rw [if_neg ht] at h9; exact h9, fr9⟩
theorem m_tryLock (H : MM M m q A) (hv : Vok B (A 0)) (hB : 20 ≤ B) (z : Int) (hz : i32 z) (c : Nat) (hc : q 5 = c) (hc8 : c ≤ 8) : Ct (e_L r0) Γ mX8_tryLock 6 0 0 [vR m, vI z] M n (e_wr (some (vI (if (if tTry (A 0) z = 0 then (if vMany (A 0) z.toNat = 0 then (1 : Int) else 0) else 0) = 1 then 1 else 0))) n fun M' => MM M' m (if tTry (A 0) z = 0 then va_up (va_up q 6 0) 5 (yC9 c) else va_up q 6 (tTry (A 0) z)) (if tTry (A 0) z = 0 then va_up (va_up (va_up A 1 (A 0)) 0 (mTry (A 0) z)) 4 (ePast (A 4) (A 0) c) else va_up A 1 (A 0)) ∧ e_fr m (m + 9) M M') := by
  have fr0 : e_fr m (m + 9) M M := e_fr_refl
  refine g_start ok_X8_tryLock rfl rfl ?_
  refine g_run 0 1 rfl ?_
  refine g_callV 1 rfl cv_RX8_81 H.2.1 (m_keeps H) rfl rfl (by decide) (by omega) (by omega) (Nat.le_of_ble_eq_true rfl) (e_kw fun M1 hq1 => ?_) e_kwx
  have fr1 := e_fr_tr fr0 (e_fr_w hq1.2 (by omega))
  refine g_run 2 3 rfl ?_
  refine g_callV 5 rfl cv_RX8_117 hq1.1.2.1 (m_tries hq1.1 hv hB z hz) rfl rfl (by decide) (by omega) (by omega) (Nat.le_of_ble_eq_true rfl) (e_kw fun M7 hq7 => ?_) e_kwx
  have fr7 := e_fr_tr fr1 (e_fr_w hq7.2 (by omega))
  have h9 : MM M7 m (va_up q 6 (tTry (A 0) z)) (if tTry (A 0) z = 0 then va_up (va_up A 1 (A 0)) 0 (mTry (A 0) z) else va_up A 1 (A 0)) := by
    have h8 := hq7.1
    rw [up_up] at h8
    exact h8
  by_cases ht : tTry (A 0) z = 0
  · have h9 := h9
    rw [ht, if_pos rfl] at h9
    refine g_callV 6 rfl cv_RX8_88 h9.2.1 (m_ends h9 rfl c hc hc8 _) rfl rfl (by decide) (by omega) (by omega) (Nat.le_of_ble_eq_true rfl) (e_kw fun M10 hq10 => ?_) e_kwx
    have fr10 := e_fr_tr fr7 (e_fr_w hq10.2 (by omega))
    refine g_run 7 1 rfl ?_
    refine g_icmp_ne 8 21 rfl rfl (by split <;> first | (split <;> omega) | omega) (by omega) (fun c14 => ?_) (fun c14 => ?_)
    · have cx := c14
      refine g_run 11 1 rfl ?_
      exact g_iret 12 rfl rfl (by first | trivial | exact b_01 | exact Or.inl rfl | exact Or.inr rfl) ⟨(by first | exact congrArg (fun x : Int => (Sum.inl (some (vI x)) : Rv)) (if_pos cx).symm | exact congrArg (fun x : Int => (Sum.inl (some (vI x)) : Rv)) (if_neg cx).symm), rfl, by rw [if_pos ht, if_pos ht]; exact hq10.1, fr10⟩
    · have cx := c14
      refine g_run 9 2 rfl ?_
      exact g_iret 12 rfl rfl (by first | trivial | exact b_01 | exact Or.inl rfl | exact Or.inr rfl) ⟨(by first | exact congrArg (fun x : Int => (Sum.inl (some (vI x)) : Rv)) (if_pos cx).symm | exact congrArg (fun x : Int => (Sum.inl (some (vI x)) : Rv)) (if_neg cx).symm), rfl, by rw [if_pos ht, if_pos ht]; exact hq10.1, fr10⟩
  · have hti : i32 (tTry (A 0) z) := by unfold tTry; (repeat' split) <;> omega
    refine g_callV 6 rfl cv_RX8_88 h9.2.1 (m_endsT h9 ht (by show -2147483648 ≤ tTry (A 0) z ∧ tTry (A 0) z ≤ 2147483647; exact hti) _) rfl rfl (by decide) (by omega) (by omega) (Nat.le_of_ble_eq_true rfl) (e_kr ?_) e_kx
    refine g_run 7 1 rfl ?_
    refine g_icmp_ne 8 21 rfl rfl (by omega) (by omega) (fun c14 => ?_) (fun c14 => ?_)
    · have cx := c14
      refine g_run 11 1 rfl ?_
      exact g_iret 12 rfl rfl (by first | trivial | exact b_01 | exact Or.inl rfl | exact Or.inr rfl) ⟨(by rw [if_neg ht]; first | rfl | exact absurd cx (by decide)), rfl, by rw [if_neg ht, if_neg ht]; rw [if_neg ht] at h9; exact h9, fr7⟩
    · have cx := c14
      refine g_run 9 2 rfl ?_
      exact g_iret 12 rfl rfl (by first | trivial | exact b_01 | exact Or.inl rfl | exact Or.inr rfl) ⟨(by rw [if_neg ht]; first | rfl | exact absurd cx (by decide)), rfl, by rw [if_neg ht, if_neg ht]; rw [if_neg ht] at h9; exact h9, fr7⟩
theorem m_shut (H : MM M m q A) (hv : Vok B (A 0)) (z : Int) (hz : i32 z) (c : Nat) (hc : q 5 = c) (hc8 : c ≤ 8) : Ct (e_L r0) Γ mX8_shut 6 0 0 [vR m, vI z] M n (e_wr (some (vI (if tShut (A 0) z = 0 then vShut (mShut (A 0) z) (A 0 2).toNat else 0))) n fun M' => MM M' m (if tShut (A 0) z = 0 then va_up (va_up q 6 0) 5 (yC9 c) else va_up q 6 (tShut (A 0) z)) (if tShut (A 0) z = 0 then va_up (va_up (va_up A 1 (A 0)) 0 (mShut (A 0) z)) 4 (ePast (A 4) (A 0) c) else va_up A 1 (A 0)) ∧ e_fr m (m + 9) M M') := by
  have fr0 : e_fr m (m + 9) M M := e_fr_refl
  refine g_start ok_X8_shut rfl rfl ?_
  refine g_run 0 1 rfl ?_
  refine g_callV 1 rfl cv_RX8_81 H.2.1 (m_keeps H) rfl rfl (by decide) (by omega) (by omega) (Nat.le_of_ble_eq_true rfl) (e_kw fun M1 hq1 => ?_) e_kwx
  have fr1 := e_fr_tr fr0 (e_fr_w hq1.2 (by omega))
  refine g_run 2 3 rfl ?_
  refine g_callV 5 rfl cv_RX8_124 hq1.1.2.1 (m_shuts hq1.1 hv z hz) rfl rfl (by decide) (by omega) (by omega) (Nat.le_of_ble_eq_true rfl) (e_kw fun M7 hq7 => ?_) e_kwx
  have fr7 := e_fr_tr fr1 (e_fr_w hq7.2 (by omega))
  have h9 : MM M7 m (va_up q 6 (tShut (A 0) z)) (if tShut (A 0) z = 0 then va_up (va_up A 1 (A 0)) 0 (mShut (A 0) z) else va_up A 1 (A 0)) := by
    have h8 := hq7.1
    rw [up_up] at h8
    exact h8
  by_cases ht : tShut (A 0) z = 0
  · have h9 := h9
    rw [ht, if_pos rfl] at h9
    refine g_callV 6 rfl cv_RX8_88 h9.2.1 (m_ends h9 rfl c hc hc8 _) rfl rfl (by decide) (by omega) (by omega) (Nat.le_of_ble_eq_true rfl) (e_kw fun M10 hq10 => ?_) e_kwx
    have fr10 := e_fr_tr fr7 (e_fr_w hq10.2 (by omega))
    exact g_iret 7 rfl rfl (by first | trivial | exact b_01 | exact Or.inl rfl | exact Or.inr rfl) ⟨rfl, rfl, by rw [if_pos ht, if_pos ht]; exact hq10.1, fr10⟩
  · have hti : i32 (tShut (A 0) z) := by unfold tShut; (repeat' split) <;> omega
    refine g_callV 6 rfl cv_RX8_88 h9.2.1 (m_endsT h9 ht (by show -2147483648 ≤ tShut (A 0) z ∧ tShut (A 0) z ≤ 2147483647; exact hti) _) rfl rfl (by decide) (by omega) (by omega) (Nat.le_of_ble_eq_true rfl) (e_kr ?_) e_kx
    exact g_iret 7 rfl rfl (by first | trivial | exact b_01 | exact Or.inl rfl | exact Or.inr rfl) ⟨congrArg (fun x : Int => (Sum.inl (some (vI x)) : Rv)) (if_neg ht).symm, rfl, by rw [if_neg ht, if_neg ht]; rw [if_neg ht] at h9; exact h9, fr7⟩
theorem m_setCombination (H : MM M m q A) (hv : Vok B (A 0)) (z a b c9 : Int) (hz : i32 z) (ha : i32 a) (hb : i32 b) (hc9 : i32 c9) (c : Nat) (hc : q 5 = c) (hc8 : c ≤ 8) : Ct (e_L r0) Γ mX8_setCombination 6 0 0 [vR m, vI z, vI a, vI b, vI c9] M n (e_wr (some (vI (if tSet (A 0) z a b c9 = 0 then rSet (A 0) z.toNat a b c9 else 0))) n fun M' => MM M' m (if tSet (A 0) z a b c9 = 0 then va_up (va_up q 6 0) 5 (yC9 c) else va_up q 6 (tSet (A 0) z a b c9)) (if tSet (A 0) z a b c9 = 0 then va_up (va_up (va_up A 1 (A 0)) 0 (mComb (A 0) z.toNat a b c9)) 4 (ePast (A 4) (A 0) c) else va_up A 1 (A 0)) ∧ e_fr m (m + 9) M M') := by
  have fr0 : e_fr m (m + 9) M M := e_fr_refl
  refine g_start ok_X8_setCombination rfl rfl ?_
  refine g_run 0 1 rfl ?_
  refine g_callV 1 rfl cv_RX8_81 H.2.1 (m_keeps H) rfl rfl (by decide) (by omega) (by omega) (Nat.le_of_ble_eq_true rfl) (e_kw fun M1 hq1 => ?_) e_kwx
  have fr1 := e_fr_tr fr0 (e_fr_w hq1.2 (by omega))
  refine g_run 2 6 rfl ?_
  refine g_callV 8 rfl cv_RX8_127 hq1.1.2.1 (m_combined hq1.1 hv z a b c9 hz ha hb hc9) rfl rfl (by decide) (by omega) (by omega) (Nat.le_of_ble_eq_true rfl) (e_kw fun M11 hq11 => ?_) e_kwx
  have fr11 := e_fr_tr fr1 (e_fr_w hq11.2 (by omega))
  have h9 : MM M11 m (va_up q 6 (tSet (A 0) z a b c9)) (if tSet (A 0) z a b c9 = 0 then va_up (va_up A 1 (A 0)) 0 (mComb (A 0) z.toNat a b c9) else va_up A 1 (A 0)) := by
    have h8 := hq11.1
    rw [up_up] at h8
    exact h8
  by_cases ht : tSet (A 0) z a b c9 = 0
  · have h9 := h9
    rw [ht, if_pos rfl] at h9
    refine g_callV 9 rfl cv_RX8_88 h9.2.1 (m_ends h9 rfl c hc hc8 _) rfl rfl (by decide) (by omega) (by omega) (Nat.le_of_ble_eq_true rfl) (e_kw fun M14 hq14 => ?_) e_kwx
    have fr14 := e_fr_tr fr11 (e_fr_w hq14.2 (by omega))
    exact g_iret 10 rfl rfl (by first | trivial | exact b_01 | exact Or.inl rfl | exact Or.inr rfl) ⟨rfl, rfl, by rw [if_pos ht, if_pos ht]; exact hq14.1, fr14⟩
  · have hti : i32 (tSet (A 0) z a b c9) := by unfold tSet; (repeat' split) <;> omega
    refine g_callV 9 rfl cv_RX8_88 h9.2.1 (m_endsT h9 ht (by show -2147483648 ≤ tSet (A 0) z a b c9 ∧ tSet (A 0) z a b c9 ≤ 2147483647; exact hti) _) rfl rfl (by decide) (by omega) (by omega) (Nat.le_of_ble_eq_true rfl) (e_kr ?_) e_kx
    exact g_iret 10 rfl rfl (by first | trivial | exact b_01 | exact Or.inl rfl | exact Or.inr rfl) ⟨congrArg (fun x : Int => (Sum.inl (some (vI x)) : Rv)) (if_neg ht).symm, rfl, by rw [if_neg ht, if_neg ht]; rw [if_neg ht] at h9; exact h9, fr11⟩
theorem m_setDamp (H : MM M m q A) (hv : Vok B (A 0)) (a : Int) (ha : i32 a) (c : Nat) (hc : q 5 = c) (hc8 : c ≤ 8) : Ct (e_L r0) Γ mX8_setDamp 6 0 0 [vR m, vI a] M n (e_wr (some (vI (if tDamp a = 0 then A 0 1 else 0))) n fun M' => MM M' m (if tDamp a = 0 then va_up (va_up q 6 0) 5 (yC9 c) else va_up q 6 (tDamp a)) (if tDamp a = 0 then va_up (va_up (va_up A 1 (A 0)) 0 (va_up (A 0) 1 a)) 4 (ePast (A 4) (A 0) c) else va_up A 1 (A 0)) ∧ e_fr m (m + 9) M M') := by
  have fr0 : e_fr m (m + 9) M M := e_fr_refl
  refine g_start ok_X8_setDamp rfl rfl ?_
  refine g_run 0 1 rfl ?_
  refine g_callV 1 rfl cv_RX8_81 H.2.1 (m_keeps H) rfl rfl (by decide) (by omega) (by omega) (Nat.le_of_ble_eq_true rfl) (e_kw fun M1 hq1 => ?_) e_kwx
  have fr1 := e_fr_tr fr0 (e_fr_w hq1.2 (by omega))
  refine g_run 2 3 rfl ?_
  refine g_callV 5 rfl cv_RX8_131 hq1.1.2.1 (m_damps hq1.1 hv a ha) rfl rfl (by decide) (by omega) (by omega) (Nat.le_of_ble_eq_true rfl) (e_kw fun M7 hq7 => ?_) e_kwx
  have fr7 := e_fr_tr fr1 (e_fr_w hq7.2 (by omega))
  have h9 : MM M7 m (va_up q 6 (tDamp a)) (if tDamp a = 0 then va_up (va_up A 1 (A 0)) 0 (va_up (A 0) 1 a) else va_up A 1 (A 0)) := by
    have h8 := hq7.1
    rw [up_up] at h8
    exact h8
  by_cases ht : tDamp a = 0
  · have h9 := h9
    rw [ht, if_pos rfl] at h9
    refine g_callV 6 rfl cv_RX8_88 h9.2.1 (m_ends h9 rfl c hc hc8 _) rfl rfl (by decide) (by omega) (by omega) (Nat.le_of_ble_eq_true rfl) (e_kw fun M10 hq10 => ?_) e_kwx
    have fr10 := e_fr_tr fr7 (e_fr_w hq10.2 (by omega))
    exact g_iret 7 rfl rfl (by first | trivial | exact b_01 | exact Or.inl rfl | exact Or.inr rfl) ⟨rfl, rfl, by rw [if_pos ht, if_pos ht]; exact hq10.1, fr10⟩
  · have hti : i32 (tDamp a) := by unfold tDamp; (repeat' split) <;> omega
    refine g_callV 6 rfl cv_RX8_88 h9.2.1 (m_endsT h9 ht (by show -2147483648 ≤ tDamp a ∧ tDamp a ≤ 2147483647; exact hti) _) rfl rfl (by decide) (by omega) (by omega) (Nat.le_of_ble_eq_true rfl) (e_kr ?_) e_kx
    exact g_iret 7 rfl rfl (by first | trivial | exact b_01 | exact Or.inl rfl | exact Or.inr rfl) ⟨congrArg (fun x : Int => (Sum.inl (some (vI x)) : Rv)) (if_neg ht).symm, rfl, by rw [if_neg ht, if_neg ht]; rw [if_neg ht] at h9; exact h9, fr7⟩
theorem m_bake (H : MM M m q A) (hv : Vok B (A 0)) (z o : Int) (hz : i32 z) (ho : i32 o) (c : Nat) (hc : q 5 = c) (hc8 : c ≤ 8) : Ct (e_L r0) Γ mX8_bake 6 0 0 [vR m, vI z, vI o] M n (e_wr (some (vI (if tBake (A 0) z o = 0 then 1 + A 0 (7 + 9 * z.toNat + 7) / 4 else 0))) n fun M' => MM M' m (if tBake (A 0) z o = 0 then va_up (va_up q 6 0) 5 (yC9 c) else va_up q 6 (tBake (A 0) z o)) (if tBake (A 0) z o = 0 then va_up (va_up (va_up A 1 (A 0)) 0 (mBake (A 0) z o)) 4 (ePast (A 4) (A 0) c) else va_up A 1 (A 0)) ∧ e_fr m (m + 9) M M') := by
  have fr0 : e_fr m (m + 9) M M := e_fr_refl
  refine g_start ok_X8_bake rfl rfl ?_
  refine g_run 0 1 rfl ?_
  refine g_callV 1 rfl cv_RX8_81 H.2.1 (m_keeps H) rfl rfl (by decide) (by omega) (by omega) (Nat.le_of_ble_eq_true rfl) (e_kw fun M1 hq1 => ?_) e_kwx
  have fr1 := e_fr_tr fr0 (e_fr_w hq1.2 (by omega))
  refine g_run 2 4 rfl ?_
  refine g_callV 6 rfl cv_RX8_143 hq1.1.2.1 (m_bakings hq1.1 hv z o hz ho) rfl rfl (by decide) (by omega) (by omega) (Nat.le_of_ble_eq_true rfl) (e_kw fun M8 hq8 => ?_) e_kwx
  have fr8 := e_fr_tr fr1 (e_fr_w hq8.2 (by omega))
  have h9 : MM M8 m (va_up q 6 (tBake (A 0) z o)) (if tBake (A 0) z o = 0 then va_up (va_up A 1 (A 0)) 0 (mBake (A 0) z o) else va_up A 1 (A 0)) := by
    have h8 := hq8.1
    rw [up_up] at h8
    exact h8
  by_cases ht : tBake (A 0) z o = 0
  · have h9 := h9
    rw [ht, if_pos rfl] at h9
    refine g_callV 7 rfl cv_RX8_88 h9.2.1 (m_ends h9 rfl c hc hc8 _) rfl rfl (by decide) (by omega) (by omega) (Nat.le_of_ble_eq_true rfl) (e_kw fun M11 hq11 => ?_) e_kwx
    have fr11 := e_fr_tr fr8 (e_fr_w hq11.2 (by omega))
    exact g_iret 8 rfl rfl (by first | trivial | exact b_01 | exact Or.inl rfl | exact Or.inr rfl) ⟨rfl, rfl, by rw [if_pos ht, if_pos ht]; exact hq11.1, fr11⟩
  · have hti : i32 (tBake (A 0) z o) := by unfold tBake; (repeat' split) <;> omega
    refine g_callV 7 rfl cv_RX8_88 h9.2.1 (m_endsT h9 ht (by show -2147483648 ≤ tBake (A 0) z o ∧ tBake (A 0) z o ≤ 2147483647; exact hti) _) rfl rfl (by decide) (by omega) (by omega) (Nat.le_of_ble_eq_true rfl) (e_kr ?_) e_kx
    exact g_iret 8 rfl rfl (by first | trivial | exact b_01 | exact Or.inl rfl | exact Or.inr rfl) ⟨congrArg (fun x : Int => (Sum.inl (some (vI x)) : Rv)) (if_neg ht).symm, rfl, by rw [if_neg ht, if_neg ht]; rw [if_neg ht] at h9; exact h9, fr8⟩
theorem m_passHours (H : MM M m q A) (hv : Vok B (A 0)) (hV : Vh B (A 0)) (hB : B ≤ 900000000) (a : Int) (ha : i32 a) (c : Nat) (hc : q 5 = c) (hc8 : c ≤ 8) : Ct (e_L r0) Γ mX8_passHours 6 0 0 [vR m, vI a] M n (e_wr (some (vI (if tHours a = 0 then mHrs (A 0) a.toNat 5 - A 0 5 else 0))) n fun M' => MM M' m (if tHours a = 0 then va_up (va_up q 6 0) 5 (yC9 c) else va_up q 6 (tHours a)) (if tHours a = 0 then va_up (va_up (va_up A 1 (A 0)) 0 (mHrs (A 0) a.toNat)) 4 (ePast (A 4) (A 0) c) else va_up A 1 (A 0)) ∧ e_fr m (m + 9) M M') := by
  have fr0 : e_fr m (m + 9) M M := e_fr_refl
  refine g_start ok_X8_passHours rfl rfl ?_
  refine g_run 0 1 rfl ?_
  refine g_callV 1 rfl cv_RX8_81 H.2.1 (m_keeps H) rfl rfl (by decide) (by omega) (by omega) (Nat.le_of_ble_eq_true rfl) (e_kw fun M1 hq1 => ?_) e_kwx
  have fr1 := e_fr_tr fr0 (e_fr_w hq1.2 (by omega))
  refine g_run 2 3 rfl ?_
  refine g_callV 5 rfl cv_RX8_156 hq1.1.2.1 (m_waits hq1.1 hv hV hB a ha) rfl rfl (by decide) (by omega) (by omega) (Nat.le_of_ble_eq_true rfl) (e_kw fun M7 hq7 => ?_) e_kwx
  have fr7 := e_fr_tr fr1 (e_fr_w hq7.2 (by omega))
  have h9 : MM M7 m (va_up q 6 (tHours a)) (if tHours a = 0 then va_up (va_up A 1 (A 0)) 0 (mHrs (A 0) a.toNat) else va_up A 1 (A 0)) := by
    have h8 := hq7.1
    rw [up_up] at h8
    exact h8
  by_cases ht : tHours a = 0
  · have h9 := h9
    rw [ht, if_pos rfl] at h9
    refine g_callV 6 rfl cv_RX8_88 h9.2.1 (m_ends h9 rfl c hc hc8 _) rfl rfl (by decide) (by omega) (by omega) (Nat.le_of_ble_eq_true rfl) (e_kw fun M10 hq10 => ?_) e_kwx
    have fr10 := e_fr_tr fr7 (e_fr_w hq10.2 (by omega))
    exact g_iret 7 rfl rfl (by first | trivial | exact b_01 | exact Or.inl rfl | exact Or.inr rfl) ⟨rfl, rfl, by rw [if_pos ht, if_pos ht]; exact hq10.1, fr10⟩
  · have hti : i32 (tHours a) := by unfold tHours; (repeat' split) <;> omega
    refine g_callV 6 rfl cv_RX8_88 h9.2.1 (m_endsT h9 ht (by show -2147483648 ≤ tHours a ∧ tHours a ≤ 2147483647; exact hti) _) rfl rfl (by decide) (by omega) (by omega) (Nat.le_of_ble_eq_true rfl) (e_kr ?_) e_kx
    exact g_iret 7 rfl rfl (by first | trivial | exact b_01 | exact Or.inl rfl | exact Or.inr rfl) ⟨congrArg (fun x : Int => (Sum.inl (some (vI x)) : Rv)) (if_neg ht).symm, rfl, by rw [if_neg ht, if_neg ht]; rw [if_neg ht] at h9; exact h9, fr7⟩
end MF
