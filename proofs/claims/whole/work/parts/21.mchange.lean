/-! the reference's changes (wip/whole/gen/c_mchange.py prints this part) -/
abbrev vDoor (v : Nat → Int) (z : Int) : Prop := 0 ≤ z ∧ z ≤ v 2 - 1
def tDamp (a : Int) : Int := if 0 ≤ a ∧ a ≤ 9 then 0 else 1
def tDoor (v : Nat → Int) (a b c : Int) : Int := if isPos a ∧ isPos b ∧ isPos c then (if v 2 = 6 then 2 else 0) else 1
def mDoor (v : Nat → Int) (a b c : Int) : Nat → Int := va_up (mComb v (v 2).toNat a b c) 2 (v 2 + 1)
def tTurn (v : Nat → Int) (z d x : Int) : Int := if vDoor v z ∧ 0 ≤ d ∧ d ≤ 2 then (if -9 ≤ x ∧ x ≤ 9 then (if vBake v z.toNat then 3 else 0) else 2) else 1
def mTurn (v : Nat → Int) (z d x : Int) : Nat → Int := va_up v (7 + 9 * z.toNat + d.toNat) (p_turn (v (7 + 9 * z.toNat + d.toNat)) x)
theorem mComb_lo {v : Nat → Int} {d k : Nat} {a b c : Int} (hk : k < 7) : mComb v d a b c k = v k := by
  unfold mComb
  rw [va_up_ne _ _ (by omega), va_up_ne _ _ (by omega), va_up_ne _ _ (by omega)]
section MC
variable {r0 : Option Nat} {Γ : Cx} {M : Mem} {n m : Nat} {q : Nat → Int} {A : Nat → Nat → Int} {B : Int}
theorem m_damps (H : MM M m q A) (hv : Vok B (A 0)) (a : Int) (ha : i32 a) : Ct (e_L r0) Γ mX8_damps 1 0 0 [vR m, vI a] M n (e_wr (some (vI (if tDamp a = 0 then A 0 1 else 0))) n fun M' => MM M' m (va_up q 6 (tDamp a)) (if tDamp a = 0 then va_up A 0 (va_up (A 0) 1 a) else A) ∧ e_fr m (m + 9) M M') := by
  have fr0 : e_fr m (m + 9) M M := e_fr_refl
  refine g_start ok_X8_damps rfl rfl ?_
  refine g_run 0 4 rfl ?_
  refine g_callS 4 rfl cs_RX8_51 (m_isIn a 0 9 ha (by omega) (by omega)) rfl rfl (by decide) (by omega) (by omega) (Nat.le_of_ble_eq_true rfl) (e_kr ?_) e_kx
  refine g_if_ne 5 15 rfl rfl b_r (fun c8 => ?_) (fun c8 => ?_)
  · replace c8 := b_1.mp c8
    rw [show tDamp a = 0 from if_pos c8]
    refine g_run 8 2 rfl ?_
    refine g_callV 10 rfl cv_RX8_73 H.2.1 (m_isThrown H _ 1 (by first | exact Or.inl rfl | exact Or.inr rfl | exact b_01)) rfl rfl (by decide) (by omega) (by omega) (Nat.le_of_ble_eq_true rfl) (e_kw fun M17 hq17 => ?_) e_kwx
    have fr17 := e_fr_tr fr0 (e_fr_w hq17.2 (by omega))
    refine g_if_eq 11 25 rfl rfl (by decide) (fun _ => ?_) (fun c20 => absurd c20 (by decide))
    refine g_run 14 1 rfl ?_
    refine g_get 15 rfl fl_RX8_9 hq17.1.2.1 rfl ?_
    refine g_run 16 1 rfl ?_
    refine g_iald 17 1 rfl rfl hq17.1.2.2.1 (by first | rfl | omega) (by omega) (by decide) ?_
    refine g_run 18 2 rfl ?_
    refine g_get 20 rfl fl_RX8_9 hq17.1.2.1 rfl ?_
    refine g_run 21 2 rfl ?_
    refine g_iast 23 1 rfl rfl (by decide) hq17.1.2.2.1 (by first | rfl | omega) (by omega) (by decide) (fun M38 hM38 => ?_)
    have H38 := MM_A0 hq17.1 hM38
    have fr38 := e_fr_tr fr17 (e_fr_up hM38 (by omega))
    refine g_run 24 1 rfl ?_
    have H9 := H38
    exact g_iret 25 rfl rfl (by first | exact trivial | exact Or.inl rfl | exact Or.inr rfl | (show _ ∨ _; omega)) ⟨rfl, rfl, H9, fr38⟩
  · replace c8 := b_0.mp c8
    rw [show tDamp a = 1 from if_neg c8]
    refine g_run 6 2 rfl ?_
    refine g_run 9 1 rfl ?_
    refine g_callV 10 rfl cv_RX8_73 H.2.1 (m_isThrown H _ 1 (by first | exact Or.inl rfl | exact Or.inr rfl | exact b_01)) rfl rfl (by decide) (by omega) (by omega) (Nat.le_of_ble_eq_true rfl) (e_kw fun M17 hq17 => ?_) e_kwx
    have fr17 := e_fr_tr fr0 (e_fr_w hq17.2 (by omega))
    refine g_if_eq 11 25 rfl rfl (by decide) (fun c20 => absurd c20 (by decide)) (fun _ => ?_)
    refine g_run 12 1 rfl ?_
    have H9 := hq17.1
    exact g_iret 13 rfl rfl (by first | exact trivial | exact Or.inl rfl | exact Or.inr rfl | (show _ ∨ _; omega)) ⟨rfl, rfl, H9, fr17⟩
theorem m_doors (H : MM M m q A) (hv : Vok B (A 0)) (a b c : Int) (ha : i32 a) (hb : i32 b) (hc : i32 c) : Ct (e_L r0) Γ mX8_doors 2 0 0 [vR m, vI a, vI b, vI c] M n (e_wr (some (vI (if tDoor (A 0) a b c = 0 then A 0 2 else 0))) n fun M' => MM M' m (va_up q 6 (tDoor (A 0) a b c)) (if tDoor (A 0) a b c = 0 then va_up A 0 (mDoor (A 0) a b c) else A) ∧ e_fr m (m + 9) M M') := by
  have fr0 : e_fr m (m + 9) M M := e_fr_refl
  refine g_start ok_X8_doors rfl rfl ?_
  refine g_run 0 4 rfl ?_
  refine g_callS 4 rfl cs_RX8_70 (m_isSetting a b c ha hb hc) rfl rfl (by decide) (by omega) (by omega) (Nat.le_of_ble_eq_true rfl) (e_kr ?_) e_kx
  refine g_if_ne 5 14 rfl rfl b_r (fun c7 => ?_) (fun c7 => ?_)
  · replace c7 := b_1.mp c7
    refine g_run 8 2 rfl ?_
    refine g_callV 10 rfl cv_RX8_73 H.2.1 (m_isThrown H _ 1 (by first | exact Or.inl rfl | exact Or.inr rfl | exact b_01)) rfl rfl (by decide) (by omega) (by omega) (Nat.le_of_ble_eq_true rfl) (e_kw fun M16 hq16 => ?_) e_kwx
    have fr16 := e_fr_tr fr0 (e_fr_w hq16.2 (by omega))
    refine g_if_ne 11 46 rfl rfl (by decide) (fun c19 => absurd c19 (by decide)) (fun _ => ?_)
    refine g_run 12 2 rfl ?_
    refine g_get 14 rfl fl_RX8_9 hq16.1.2.1 rfl ?_
    refine g_run 15 1 rfl ?_
    refine g_iald 16 2 rfl rfl hq16.1.2.2.1 (by first | rfl | omega) (by omega) (by decide) ?_
    have q2 := hv.2.2.1
    refine g_run 17 1 rfl ?_
    refine g_icmp_ne 18 38 rfl rfl (by omega) (by omega) (fun c31 => ?_) (fun c31 => ?_)
    · rw [show tDoor (A 0) a b c = 0 from (if_pos c7).trans (if_neg c31)]
      refine g_run 21 2 rfl ?_
      refine g_callV 23 rfl cv_RX8_73 hq16.1.2.1 (m_isThrown hq16.1 _ 2 (by first | exact Or.inl rfl | exact Or.inr rfl | exact b_01)) rfl rfl (by decide) (by omega) (by omega) (Nat.le_of_ble_eq_true rfl) (e_kw fun M40 hq40 => ?_) e_kwx
      have fr40 := e_fr_tr fr16 (e_fr_w hq40.2 (by omega))
      refine g_if_eq 24 48 rfl rfl (by decide) (fun _ => ?_) (fun c43 => absurd c43 (by decide))
      refine g_run 27 2 rfl ?_
      refine g_get 29 rfl fl_RX8_9 hq40.1.2.1 rfl ?_
      refine g_run 30 1 rfl ?_
      refine g_iald 31 2 rfl rfl hq40.1.2.2.1 (by first | rfl | omega) (by omega) (by decide) ?_
      refine g_run 32 3 rfl ?_
      refine g_callV 35 rfl cv_RX8_77 hq40.1.2.1 (m_combines hq40.1 (A 0 2) a b c (A 0 2).toNat (by omega) (by omega)) rfl rfl (by decide) (by omega) (by omega) (Nat.le_of_ble_eq_true rfl) (e_kw fun M58 hq58 => ?_) e_kwx
      have fr58 := e_fr_tr fr40 (e_fr_w hq58.2 (by omega))
      refine g_run 36 1 rfl ?_
      refine g_get 37 rfl fl_RX8_9 hq58.1.2.1 rfl ?_
      refine g_run 38 2 rfl ?_
      refine g_iald 40 2 rfl rfl hq58.1.2.2.1 (by first | rfl | omega) (by omega) (by decide) ?_
      rw [va_up_self, mComb_lo (by omega)]
      refine g_run 41 2 rfl ?_
      refine g_iast 43 2 rfl rfl (by decide) hq58.1.2.2.1 (by first | rfl | omega) (by omega) (by decide) (fun M70 hM70 => ?_)
      have H70 := MM_A0 hq58.1 hM70
      have fr70 := e_fr_tr fr58 (e_fr_up hM70 (by omega))
      refine g_run 44 1 rfl ?_
      refine g_get 45 rfl fl_RX8_9 H70.2.1 rfl ?_
      refine g_run 46 1 rfl ?_
      refine g_iald 47 2 rfl rfl H70.2.2.1 (by first | rfl | omega) (by omega) (by decide) ?_
      rw [va_up_self, va_up_self]
      refine g_run 48 2 rfl ?_
      rw [show A 0 2 + 1 - 1 = A 0 2 from by omega]
      have H9 := H70
      rw [up_up, up_up, va_up_self] at H9
      exact g_iret 50 rfl rfl (by first | exact trivial | exact Or.inl rfl | exact Or.inr rfl | (show _ ∨ _; omega)) ⟨rfl, rfl, H9, fr70⟩
    · rw [show tDoor (A 0) a b c = 2 from (if_pos c7).trans (if_pos c31)]
      refine g_run 19 2 rfl ?_
      refine g_run 22 1 rfl ?_
      refine g_callV 23 rfl cv_RX8_73 hq16.1.2.1 (m_isThrown hq16.1 _ 2 (by first | exact Or.inl rfl | exact Or.inr rfl | exact b_01)) rfl rfl (by decide) (by omega) (by omega) (Nat.le_of_ble_eq_true rfl) (e_kw fun M40 hq40 => ?_) e_kwx
      have fr40 := e_fr_tr fr16 (e_fr_w hq40.2 (by omega))
      refine g_if_eq 24 48 rfl rfl (by decide) (fun c43 => absurd c43 (by decide)) (fun _ => ?_)
      refine g_run 25 1 rfl ?_
      have H9 := hq40.1
      try rw [up_up] at H9
      exact g_iret 26 rfl rfl (by first | exact trivial | exact Or.inl rfl | exact Or.inr rfl | (show _ ∨ _; omega)) ⟨rfl, rfl, H9, fr40⟩
  · replace c7 := b_0.mp c7
    rw [show tDoor (A 0) a b c = 1 from if_neg c7]
    refine g_run 6 2 rfl ?_
    refine g_run 9 1 rfl ?_
    refine g_callV 10 rfl cv_RX8_73 H.2.1 (m_isThrown H _ 1 (by first | exact Or.inl rfl | exact Or.inr rfl | exact b_01)) rfl rfl (by decide) (by omega) (by omega) (Nat.le_of_ble_eq_true rfl) (e_kw fun M16 hq16 => ?_) e_kwx
    have fr16 := e_fr_tr fr0 (e_fr_w hq16.2 (by omega))
    refine g_if_ne 11 46 rfl rfl (by decide) (fun _ => ?_) (fun c19 => absurd c19 (by decide))
    refine g_run 25 1 rfl ?_
    have H9 := hq16.1
    try rw [up_up] at H9
    exact g_iret 26 rfl rfl (by first | exact trivial | exact Or.inl rfl | exact Or.inr rfl | (show _ ∨ _; omega)) ⟨rfl, rfl, H9, fr16⟩
theorem m_turns (H : MM M m q A) (hv : Vok B (A 0)) (z d x : Int) (hz : i32 z) (hd : i32 d) (hx : i32 x) : Ct (e_L r0) Γ mX8_turns 3 0 0 [vR m, vI z, vI d, vI x] M n (e_wr (some (vI (if tTurn (A 0) z d x = 0 then p_turn (A 0 (7 + 9 * z.toNat + d.toNat)) x else 0))) n fun M' => MM M' m (va_up q 6 (tTurn (A 0) z d x)) (if tTurn (A 0) z d x = 0 then va_up A 0 (mTurn (A 0) z d x) else A) ∧ e_fr m (m + 9) M M') := by
  have fr0 : e_fr m (m + 9) M M := e_fr_refl
  refine g_start ok_X8_turns rfl rfl ?_
  refine g_run 0 3 rfl ?_
  refine g_callV 3 rfl cv_RX8_92 H.2.1 (m_isDoor H hv z hz) rfl rfl (by decide) (by omega) (by omega) (Nat.le_of_ble_eq_true rfl) (e_kr ?_) e_kx
  refine g_if_eq 4 16 rfl rfl b_r (fun c6 => ?_) (fun c6 => ?_)
  · replace c6 := b_0.mp c6
    rw [show tTurn (A 0) z d x = 1 from if_neg (fun e => c6 e.1)]
    refine g_run 8 2 rfl ?_
    refine g_run 11 1 rfl ?_
    refine g_callV 12 rfl cv_RX8_73 H.2.1 (m_isThrown H _ 1 (by first | exact Or.inl rfl | exact Or.inr rfl | exact b_01)) rfl rfl (by decide) (by omega) (by omega) (Nat.le_of_ble_eq_true rfl) (e_kw fun M22 hq22 => ?_) e_kwx
    have fr22 := e_fr_tr fr0 (e_fr_w hq22.2 (by omega))
    refine g_if_ne 13 65 rfl rfl (by decide) (fun _ => ?_) (fun c25 => absurd c25 (by decide))
    refine g_run 33 1 rfl ?_
    have H9 := hq22.1
    try rw [if_pos c62] at H9
    try rw [up_up] at H9
    try rw [up_up] at H9
    exact g_iret 34 rfl rfl (by first | exact trivial | exact Or.inl rfl | exact Or.inr rfl | (show _ ∨ _; omega)) ⟨rfl, rfl, H9, fr22⟩
  · replace c6 := b_1.mp c6
    refine g_run 5 1 rfl ?_
    refine g_callS 6 rfl cs_RX8_95 (m_isDial d hd) rfl rfl (by decide) (by omega) (by omega) (Nat.le_of_ble_eq_true rfl) (e_kr ?_) e_kx
    refine g_if_ne 7 20 rfl rfl b_r (fun c13 => ?_) (fun c13 => ?_)
    · replace c13 := b_1.mp c13
      have q2 := hv.2.2.1
      refine g_run 10 2 rfl ?_
      refine g_callV 12 rfl cv_RX8_73 H.2.1 (m_isThrown H _ 1 (by first | exact Or.inl rfl | exact Or.inr rfl | exact b_01)) rfl rfl (by decide) (by omega) (by omega) (Nat.le_of_ble_eq_true rfl) (e_kw fun M22 hq22 => ?_) e_kwx
      have fr22 := e_fr_tr fr0 (e_fr_w hq22.2 (by omega))
      refine g_if_ne 13 65 rfl rfl (by decide) (fun c25 => absurd c25 (by decide)) (fun _ => ?_)
      refine g_run 14 4 rfl ?_
      refine g_callS 18 rfl cs_RX8_51 (m_isIn x (-9) 9 hx (by omega) (by omega)) rfl rfl (by decide) (by omega) (by omega) (Nat.le_of_ble_eq_true rfl) (e_kr ?_) e_kx
      refine g_if_ne 19 44 rfl rfl b_r (fun c37 => ?_) (fun c37 => ?_)
      · replace c37 := b_1.mp c37
        refine g_run 22 2 rfl ?_
        refine g_callV 24 rfl cv_RX8_73 hq22.1.2.1 (m_isThrown hq22.1 _ 2 (by first | exact Or.inl rfl | exact Or.inr rfl | exact b_01)) rfl rfl (by decide) (by omega) (by omega) (Nat.le_of_ble_eq_true rfl) (e_kw fun M46 hq46 => ?_) e_kwx
        have fr46 := e_fr_tr fr22 (e_fr_w hq46.2 (by omega))
        refine g_if_ne 25 65 rfl rfl (by decide) (fun c49 => absurd c49 (by decide)) (fun _ => ?_)
        refine g_run 26 3 rfl ?_
        refine g_callV 29 rfl cv_RX8_59 hq46.1.2.1 (m_bakes hq46.1 hv z z.toNat (by omega) (by omega)) rfl rfl (by decide) (by omega) (by omega) (Nat.le_of_ble_eq_true rfl) (e_kr ?_) e_kx
        refine g_run 30 1 rfl ?_
        refine g_callV 31 rfl cv_RX8_73 hq46.1.2.1 (m_isThrown hq46.1 _ 3 b_01) rfl rfl (by decide) (by omega) (by omega) (Nat.le_of_ble_eq_true rfl) (e_kw fun M59 hq59 => ?_) e_kwx
        have fr59 := e_fr_tr fr46 (e_fr_w hq59.2 (by omega))
        refine g_if_eq 32 67 rfl rfl b_r (fun c62 => ?_) (fun c62 => ?_)
        · replace c62 := b_0.mp c62
          rw [show tTurn (A 0) z d x = 0 from (if_pos ⟨c6, c13⟩).trans ((if_pos c37).trans (if_neg c62))]
          refine g_run 35 5 rfl ?_
          refine g_callV 40 rfl cv_RX8_55 hq59.1.2.1 (m_of hq59.1 z (0 + d) z.toNat d.toNat (by omega) (by omega) (by omega)) rfl rfl (by decide) (by omega) (by omega) (Nat.le_of_ble_eq_true rfl) (e_kr ?_) e_kx
          have qd := hv.2.2.2.2.1 z.toNat d.toNat (by omega) (by omega)
          refine g_run 41 5 rfl ?_
          refine g_irem 46 rfl (by omega) (by omega) ?_
          refine g_run 47 7 rfl ?_
          refine g_callV 54 rfl cv_RX8_66 hq59.1.2.1 (m_sets hq59.1 z (0 + d) _ z.toNat d.toNat (by omega) (by omega) (by omega)) rfl rfl (by decide) (by omega) (by omega) (Nat.le_of_ble_eq_true rfl) (e_kw fun M92 hq92 => ?_) e_kwx
          have fr92 := e_fr_tr fr59 (e_fr_w hq92.2 (by omega))
          refine g_run 55 1 rfl ?_
          have H9 := hq92.1
          rw [if_neg c62, up_up, up_up] at H9
          exact g_iret 56 rfl rfl (by first | exact trivial | exact Or.inl rfl | exact Or.inr rfl | (show _ ∨ _; omega)) ⟨rfl, rfl, H9, fr92⟩
        · replace c62 := b_1.mp c62
          rw [show tTurn (A 0) z d x = 3 from (if_pos ⟨c6, c13⟩).trans ((if_pos c37).trans (if_pos c62))]
          refine g_run 33 1 rfl ?_
          have H9 := hq59.1
          try rw [if_pos c62] at H9
          try rw [up_up] at H9
          try rw [up_up] at H9
          exact g_iret 34 rfl rfl (by first | exact trivial | exact Or.inl rfl | exact Or.inr rfl | (show _ ∨ _; omega)) ⟨rfl, rfl, H9, fr59⟩
      · replace c37 := b_0.mp c37
        rw [show tTurn (A 0) z d x = 2 from (if_pos ⟨c6, c13⟩).trans (if_neg c37)]
        refine g_run 20 2 rfl ?_
        refine g_run 23 1 rfl ?_
        refine g_callV 24 rfl cv_RX8_73 hq22.1.2.1 (m_isThrown hq22.1 _ 2 (by first | exact Or.inl rfl | exact Or.inr rfl | exact b_01)) rfl rfl (by decide) (by omega) (by omega) (Nat.le_of_ble_eq_true rfl) (e_kw fun M46 hq46 => ?_) e_kwx
        have fr46 := e_fr_tr fr22 (e_fr_w hq46.2 (by omega))
        refine g_if_ne 25 65 rfl rfl (by decide) (fun _ => ?_) (fun c49 => absurd c49 (by decide))
        refine g_run 33 1 rfl ?_
        have H9 := hq46.1
        try rw [if_pos c62] at H9
        try rw [up_up] at H9
        try rw [up_up] at H9
        exact g_iret 34 rfl rfl (by first | exact trivial | exact Or.inl rfl | exact Or.inr rfl | (show _ ∨ _; omega)) ⟨rfl, rfl, H9, fr46⟩
    · replace c13 := b_0.mp c13
      rw [show tTurn (A 0) z d x = 1 from if_neg (fun e => c13 e.2)]
      refine g_run 8 2 rfl ?_
      refine g_run 11 1 rfl ?_
      refine g_callV 12 rfl cv_RX8_73 H.2.1 (m_isThrown H _ 1 (by first | exact Or.inl rfl | exact Or.inr rfl | exact b_01)) rfl rfl (by decide) (by omega) (by omega) (Nat.le_of_ble_eq_true rfl) (e_kw fun M22 hq22 => ?_) e_kwx
      have fr22 := e_fr_tr fr0 (e_fr_w hq22.2 (by omega))
      refine g_if_ne 13 65 rfl rfl (by decide) (fun _ => ?_) (fun c25 => absurd c25 (by decide))
      refine g_run 33 1 rfl ?_
      have H9 := hq22.1
      try rw [if_pos c62] at H9
      try rw [up_up] at H9
      try rw [up_up] at H9
      exact g_iret 34 rfl rfl (by first | exact trivial | exact Or.inl rfl | exact Or.inr rfl | (show _ ∨ _; omega)) ⟨rfl, rfl, H9, fr22⟩
def vShut (v : Nat → Int) : Nat → Int
  | 0 => 0
  | k + 1 => vShut v k + (if vOpen v k then 0 else 1)
def tShut (v : Nat → Int) (z : Int) : Int := if vDoor v z then (if vOpen v z.toNat ∧ ¬ vBake v z.toNat then (if v (7 + 9 * z.toNat + 7) = 20 then 3 else 0) else 2) else 1
def mShut (v : Nat → Int) (z : Int) : Nat → Int := va_up v (7 + 9 * z.toNat + 6) 0
def tSet (v : Nat → Int) (z a b c : Int) : Int := if vDoor v z then (if isPos a ∧ isPos b ∧ isPos c then (if vOpen v z.toNat ∧ ¬ vBake v z.toNat then 0 else 3) else 2) else 1
def rSet (v : Nat → Int) (d : Nat) (a b c : Int) : Int := (if v (7 + 9 * d + 3) = a then 0 else 1) + (if v (7 + 9 * d + 4) = b then 0 else 1) + (if v (7 + 9 * d + 5) = c then 0 else 1)
def tBake (v : Nat → Int) (z o : Int) : Int := if vDoor v z ∧ 0 ≤ o ∧ o ≤ 1 then (if vBake v z.toNat then 2 else if 0 < v (61 + 2 * o.toNat + 0) then 3 else 0) else 1
def mBake (v : Nat → Int) (z o : Int) : Nat → Int := va_up (va_up (va_up v (7 + 9 * z.toNat + 8) (o + 1)) (61 + 2 * o.toNat + 0) (z + 1)) (61 + 2 * o.toNat + 1) (1 + v (7 + 9 * z.toNat + 7) / 4)
theorem m_manyShut (H : MM M m q A) (hv : Vok B (A 0)) : Ct (e_L r0) Γ mX8_manyShut 3 0 0 [vR m] M n (e_rt (.inl (some (vI (vShut (A 0) (A 0 2).toNat)))) M n) := by
  refine g_start ok_X8_manyShut rfl rfl ?_
  refine g_run 0 4 rfl ?_
  refine e_down (P := fun k => G (e_L r0) Γ mX8_manyShut 3 0 0 _ 4 [some (vR m), some (vI (vShut (A 0) k)), some (vI (k : Int))] [] M n 0 0) (A 0 2).toNat ?_ 0 (by omega)
  have q2 := hv.2.2.1
  intro k hk ih
  refine g_run 4 2 rfl ?_
  refine g_get 6 rfl fl_RX8_9 H.2.1 rfl ?_
  refine g_run 7 1 rfl ?_
  refine g_iald 8 2 rfl rfl H.2.2.1 (by first | rfl | omega) (by omega) (by decide) ?_
  refine g_icmp_ge 9 36 rfl rfl (by omega) (by omega) (fun c11 => ?_) (fun c11 => ?_)
  · obtain rfl : k = (A 0 2).toNat := by omega
    refine g_run 22 1 rfl ?_
    exact g_iret 23 rfl rfl (by first | exact trivial | exact Or.inl rfl | exact Or.inr rfl | (show _ ∨ _; omega)) ⟨rfl, rfl, rfl⟩
  · refine g_run 10 3 rfl ?_
    refine g_callV 13 rfl cv_RX8_101 H.2.1 (m_open H hv k k rfl (by omega)) rfl rfl (by decide) (by omega) (by omega) (Nat.le_of_ble_eq_true rfl) (e_kr ?_) e_kx
    refine g_if_eq 14 27 rfl rfl b_r (fun c20 => ?_) (fun c20 => ?_)
    · replace c20 := b_0.mp c20
      have ih9 := ih (by omega)
      rw [show vShut (A 0) (k + 1) = vShut (A 0) k + 1 from by rw [vShut, if_neg c20]] at ih9
      refine g_run 17 5 rfl ?_
      exact ih9
    · replace c20 := b_1.mp c20
      have ih9 := ih (by omega)
      rw [show vShut (A 0) (k + 1) = vShut (A 0) k + 0 from by rw [vShut, if_pos c20]] at ih9
      refine g_run 15 2 rfl ?_
      refine g_run 18 4 rfl ?_
      exact ih9
theorem Vok_s6 {v : Nat → Int} (hv : Vok B v) (d : Nat) (hd : d < 6) : Vok B (va_up v (7 + 9 * d + 6) 0) := by
  have h1 := hv.1
  have hB : 0 ≤ B := by have := hv.1 1 (by omega); have := hv.2.1; omega
  refine ⟨fun i hi => ?_, ?_, ?_, ?_, fun e j he hj => ?_, fun e he => ?_, fun e he => ?_, fun e he => ?_, fun o ho => ?_, hv.2.2.2.2.2.2.2.2.2⟩
  · by_cases e : i = 7 + 9 * d + 6
    · subst e; rw [va_up_self]; omega
    · rw [va_up_ne _ _ e]; exact h1 i hi
  · rw [va_up_ne _ _ (by omega)]; exact hv.2.1
  · rw [va_up_ne _ _ (by omega)]; exact hv.2.2.1
  · rw [va_up_ne _ _ (by omega)]; exact hv.2.2.2.1
  · rw [va_up_ne _ _ (by omega)]; exact hv.2.2.2.2.1 e j he hj
  · by_cases e2 : 7 + 9 * e + 6 = 7 + 9 * d + 6
    · rw [e2, va_up_self]; omega
    · rw [va_up_ne _ _ e2]; exact hv.2.2.2.2.2.1 e he
  · rw [va_up_ne _ _ (by omega)]; exact hv.2.2.2.2.2.2.1 e he
  · rw [va_up_ne _ _ (by omega)]; exact hv.2.2.2.2.2.2.2.1 e he
  · rw [va_up_ne _ _ (by omega), va_up_ne _ _ (by omega)]; exact hv.2.2.2.2.2.2.2.2.1 o ho
theorem m_shuts (H : MM M m q A) (hv : Vok B (A 0)) (z : Int) (hz : i32 z) : Ct (e_L r0) Γ mX8_shuts 4 0 0 [vR m, vI z] M n (e_wr (some (vI (if tShut (A 0) z = 0 then vShut (mShut (A 0) z) (A 0 2).toNat else 0))) n fun M' => MM M' m (va_up q 6 (tShut (A 0) z)) (if tShut (A 0) z = 0 then va_up A 0 (mShut (A 0) z) else A) ∧ e_fr m (m + 9) M M') := by
  have fr0 : e_fr m (m + 9) M M := e_fr_refl
  refine g_start ok_X8_shuts rfl rfl ?_
  refine g_run 0 3 rfl ?_
  refine g_callV 3 rfl cv_RX8_92 H.2.1 (m_isDoor H hv z hz) rfl rfl (by decide) (by omega) (by omega) (Nat.le_of_ble_eq_true rfl) (e_kr ?_) e_kx
  refine g_if_ne 4 13 rfl rfl b_r (fun c6 => ?_) (fun c6 => ?_)
  · replace c6 := b_1.mp c6
    have q2 := hv.2.2.1
    refine g_run 7 2 rfl ?_
    refine g_callV 9 rfl cv_RX8_73 H.2.1 (m_isThrown H _ 1 (by first | exact Or.inl rfl | exact Or.inr rfl | exact b_01)) rfl rfl (by decide) (by omega) (by omega) (Nat.le_of_ble_eq_true rfl) (e_kw fun M15 hq15 => ?_) e_kwx
    have fr15 := e_fr_tr fr0 (e_fr_w hq15.2 (by omega))
    refine g_if_ne 10 75 rfl rfl (by decide) (fun c18 => absurd c18 (by decide)) (fun _ => ?_)
    refine g_run 11 3 rfl ?_
    refine g_callV 14 rfl cv_RX8_101 hq15.1.2.1 (m_open hq15.1 hv z z.toNat (by omega) (by omega)) rfl rfl (by decide) (by omega) (by omega) (Nat.le_of_ble_eq_true rfl) (e_kr ?_) e_kx
    refine g_if_eq 15 38 rfl rfl b_r (fun c27 => ?_) (fun c27 => ?_)
    · replace c27 := b_0.mp c27
      rw [show tShut (A 0) z = 2 from (if_pos c6).trans (if_neg (fun e => c27 e.1))]
      refine g_run 20 2 rfl ?_
      refine g_run 23 1 rfl ?_
      refine g_callV 24 rfl cv_RX8_73 hq15.1.2.1 (m_isThrown hq15.1 _ 2 (by first | exact Or.inl rfl | exact Or.inr rfl | exact b_01)) rfl rfl (by decide) (by omega) (by omega) (Nat.le_of_ble_eq_true rfl) (e_kw fun M44 hq44 => ?_) e_kwx
      have fr44 := e_fr_tr fr15 (e_fr_w hq44.2 (by omega))
      refine g_if_ne 25 75 rfl rfl (by decide) (fun _ => ?_) (fun c47 => absurd c47 (by decide))
      refine g_run 39 1 rfl ?_
      have H9 := hq44.1
      try rw [if_pos c6] at H9
      try rw [up_up] at H9
      try rw [up_up] at H9
      exact g_iret 40 rfl rfl (by first | exact trivial | exact Or.inl rfl | exact Or.inr rfl | (show _ ∨ _; omega)) ⟨rfl, rfl, H9, fr44⟩
    · replace c27 := b_1.mp c27
      refine g_run 16 2 rfl ?_
      refine g_callV 18 rfl cv_RX8_59 hq15.1.2.1 (m_bakes hq15.1 hv z z.toNat (by omega) (by omega)) rfl rfl (by decide) (by omega) (by omega) (Nat.le_of_ble_eq_true rfl) (e_kr ?_) e_kx
      refine g_if_eq 19 42 rfl rfl b_r (fun c35 => ?_) (fun c35 => ?_)
      · replace c35 := b_0.mp c35
        refine g_run 22 2 rfl ?_
        refine g_callV 24 rfl cv_RX8_73 hq15.1.2.1 (m_isThrown hq15.1 _ 2 (by first | exact Or.inl rfl | exact Or.inr rfl | exact b_01)) rfl rfl (by decide) (by omega) (by omega) (Nat.le_of_ble_eq_true rfl) (e_kw fun M44 hq44 => ?_) e_kwx
        have fr44 := e_fr_tr fr15 (e_fr_w hq44.2 (by omega))
        refine g_if_ne 25 75 rfl rfl (by decide) (fun c47 => absurd c47 (by decide)) (fun _ => ?_)
        refine g_run 26 4 rfl ?_
        refine g_callV 30 rfl cv_RX8_55 hq44.1.2.1 (m_of hq44.1 z 7 z.toNat 7 (by omega) rfl (by omega)) rfl rfl (by decide) (by omega) (by omega) (Nat.le_of_ble_eq_true rfl) (e_kr ?_) e_kx
        have q7 := hv.2.2.2.2.2.2.1 z.toNat (by omega)
        refine g_run 31 1 rfl ?_
        refine g_icmp_ne 32 67 rfl rfl (by omega) (by omega) (fun c60 => ?_) (fun c60 => ?_)
        · rw [show tShut (A 0) z = 0 from (if_pos c6).trans ((if_pos ⟨c27, c35⟩).trans (if_neg c60))]
          refine g_run 35 2 rfl ?_
          refine g_callV 37 rfl cv_RX8_73 hq44.1.2.1 (m_isThrown hq44.1 _ 3 (by first | exact Or.inl rfl | exact Or.inr rfl | exact b_01)) rfl rfl (by decide) (by omega) (by omega) (Nat.le_of_ble_eq_true rfl) (e_kw fun M69 hq69 => ?_) e_kwx
          have fr69 := e_fr_tr fr44 (e_fr_w hq69.2 (by omega))
          refine g_if_eq 38 77 rfl rfl (by decide) (fun _ => ?_) (fun c72 => absurd c72 (by decide))
          refine g_run 41 4 rfl ?_
          refine g_callV 45 rfl cv_RX8_66 hq69.1.2.1 (m_sets hq69.1 z 6 0 z.toNat 6 (by omega) rfl (by omega)) rfl rfl (by decide) (by omega) (by omega) (Nat.le_of_ble_eq_true rfl) (e_kw fun M82 hq82 => ?_) e_kwx
          have fr82 := e_fr_tr fr69 (e_fr_w hq82.2 (by omega))
          refine g_run 46 1 rfl ?_
          refine g_callV 47 rfl cv_RX8_120 hq82.1.2.1 (m_manyShut hq82.1 (by rw [va_up_self]; exact Vok_s6 hv _ (by omega))) rfl rfl (by decide) (by omega) (by omega) (Nat.le_of_ble_eq_true rfl) (e_kr ?_) e_kx
          rw [va_up_self, va_up_ne (A 0) _ (show 2 ≠ 7 + 9 * z.toNat + 6 by omega)]
          have H9 := hq82.1
          rw [up_up, up_up] at H9
          exact g_iret 48 rfl rfl (by first | exact trivial | exact Or.inl rfl | exact Or.inr rfl | (show _ ∨ _; omega)) ⟨rfl, rfl, H9, fr82⟩
        · rw [show tShut (A 0) z = 3 from (if_pos c6).trans ((if_pos ⟨c27, c35⟩).trans (if_pos c60))]
          refine g_run 33 2 rfl ?_
          refine g_run 36 1 rfl ?_
          refine g_callV 37 rfl cv_RX8_73 hq44.1.2.1 (m_isThrown hq44.1 _ 3 (by first | exact Or.inl rfl | exact Or.inr rfl | exact b_01)) rfl rfl (by decide) (by omega) (by omega) (Nat.le_of_ble_eq_true rfl) (e_kw fun M69 hq69 => ?_) e_kwx
          have fr69 := e_fr_tr fr44 (e_fr_w hq69.2 (by omega))
          refine g_if_eq 38 77 rfl rfl (by decide) (fun c72 => absurd c72 (by decide)) (fun _ => ?_)
          refine g_run 39 1 rfl ?_
          have H9 := hq69.1
          try rw [if_pos c6] at H9
          try rw [up_up] at H9
          try rw [up_up] at H9
          exact g_iret 40 rfl rfl (by first | exact trivial | exact Or.inl rfl | exact Or.inr rfl | (show _ ∨ _; omega)) ⟨rfl, rfl, H9, fr69⟩
      · replace c35 := b_1.mp c35
        rw [show tShut (A 0) z = 2 from (if_pos c6).trans (if_neg (fun e => e.2 c35))]
        refine g_run 20 2 rfl ?_
        refine g_run 23 1 rfl ?_
        refine g_callV 24 rfl cv_RX8_73 hq15.1.2.1 (m_isThrown hq15.1 _ 2 (by first | exact Or.inl rfl | exact Or.inr rfl | exact b_01)) rfl rfl (by decide) (by omega) (by omega) (Nat.le_of_ble_eq_true rfl) (e_kw fun M44 hq44 => ?_) e_kwx
        have fr44 := e_fr_tr fr15 (e_fr_w hq44.2 (by omega))
        refine g_if_ne 25 75 rfl rfl (by decide) (fun _ => ?_) (fun c47 => absurd c47 (by decide))
        refine g_run 39 1 rfl ?_
        have H9 := hq44.1
        try rw [if_pos c6] at H9
        try rw [up_up] at H9
        try rw [up_up] at H9
        exact g_iret 40 rfl rfl (by first | exact trivial | exact Or.inl rfl | exact Or.inr rfl | (show _ ∨ _; omega)) ⟨rfl, rfl, H9, fr44⟩
  · replace c6 := b_0.mp c6
    rw [show tShut (A 0) z = 1 from if_neg c6]
    refine g_run 5 2 rfl ?_
    refine g_run 8 1 rfl ?_
    refine g_callV 9 rfl cv_RX8_73 H.2.1 (m_isThrown H _ 1 (by first | exact Or.inl rfl | exact Or.inr rfl | exact b_01)) rfl rfl (by decide) (by omega) (by omega) (Nat.le_of_ble_eq_true rfl) (e_kw fun M15 hq15 => ?_) e_kwx
    have fr15 := e_fr_tr fr0 (e_fr_w hq15.2 (by omega))
    refine g_if_ne 10 75 rfl rfl (by decide) (fun _ => ?_) (fun c18 => absurd c18 (by decide))
    refine g_run 39 1 rfl ?_
    have H9 := hq15.1
    try rw [if_pos c6] at H9
    try rw [up_up] at H9
    try rw [up_up] at H9
    exact g_iret 40 rfl rfl (by first | exact trivial | exact Or.inl rfl | exact Or.inr rfl | (show _ ∨ _; omega)) ⟨rfl, rfl, H9, fr15⟩
theorem m_combined (H : MM M m q A) (hv : Vok B (A 0)) (z a b c : Int) (hz : i32 z) (ha : i32 a) (hb : i32 b) (hc : i32 c) : Ct (e_L r0) Γ mX8_combined 4 0 0 [vR m, vI z, vI a, vI b, vI c] M n (e_wr (some (vI (if tSet (A 0) z a b c = 0 then rSet (A 0) z.toNat a b c else 0))) n fun M' => MM M' m (va_up q 6 (tSet (A 0) z a b c)) (if tSet (A 0) z a b c = 0 then va_up A 0 (mComb (A 0) z.toNat a b c) else A) ∧ e_fr m (m + 9) M M') := by
  have fr0 : e_fr m (m + 9) M M := e_fr_refl
  refine g_start ok_X8_combined rfl rfl ?_
  refine g_run 0 3 rfl ?_
  refine g_callV 3 rfl cv_RX8_92 H.2.1 (m_isDoor H hv z hz) rfl rfl (by decide) (by omega) (by omega) (Nat.le_of_ble_eq_true rfl) (e_kr ?_) e_kx
  refine g_if_ne 4 13 rfl rfl b_r (fun c6 => ?_) (fun c6 => ?_)
  · replace c6 := b_1.mp c6
    have q2 := hv.2.2.1
    refine g_run 7 2 rfl ?_
    refine g_callV 9 rfl cv_RX8_73 H.2.1 (m_isThrown H _ 1 (by first | exact Or.inl rfl | exact Or.inr rfl | exact b_01)) rfl rfl (by decide) (by omega) (by omega) (Nat.le_of_ble_eq_true rfl) (e_kw fun M15 hq15 => ?_) e_kwx
    have fr15 := e_fr_tr fr0 (e_fr_w hq15.2 (by omega))
    refine g_if_ne 10 73 rfl rfl (by decide) (fun c18 => absurd c18 (by decide)) (fun _ => ?_)
    refine g_run 11 4 rfl ?_
    refine g_callS 15 rfl cs_RX8_70 (m_isSetting a b c ha hb hc) rfl rfl (by decide) (by omega) (by omega) (Nat.le_of_ble_eq_true rfl) (e_kr ?_) e_kx
    refine g_if_ne 16 36 rfl rfl b_r (fun c29 => ?_) (fun c29 => ?_)
    · replace c29 := b_1.mp c29
      refine g_run 19 2 rfl ?_
      refine g_callV 21 rfl cv_RX8_73 hq15.1.2.1 (m_isThrown hq15.1 _ 2 (by first | exact Or.inl rfl | exact Or.inr rfl | exact b_01)) rfl rfl (by decide) (by omega) (by omega) (Nat.le_of_ble_eq_true rfl) (e_kw fun M38 hq38 => ?_) e_kwx
      have fr38 := e_fr_tr fr15 (e_fr_w hq38.2 (by omega))
      refine g_if_ne 22 73 rfl rfl (by decide) (fun c41 => absurd c41 (by decide)) (fun _ => ?_)
      refine g_run 23 3 rfl ?_
      refine g_callV 26 rfl cv_RX8_101 hq38.1.2.1 (m_open hq38.1 hv z z.toNat (by omega) (by omega)) rfl rfl (by decide) (by omega) (by omega) (Nat.le_of_ble_eq_true rfl) (e_kr ?_) e_kx
      refine g_if_eq 27 61 rfl rfl b_r (fun c50 => ?_) (fun c50 => ?_)
      · replace c50 := b_0.mp c50
        rw [show tSet (A 0) z a b c = 3 from (if_pos c6).trans ((if_pos c29).trans (if_neg (fun e => c50 e.1)))]
        refine g_run 32 2 rfl ?_
        refine g_run 35 1 rfl ?_
        refine g_callV 36 rfl cv_RX8_73 hq38.1.2.1 (m_isThrown hq38.1 _ 3 (by first | exact Or.inl rfl | exact Or.inr rfl | exact b_01)) rfl rfl (by decide) (by omega) (by omega) (Nat.le_of_ble_eq_true rfl) (e_kw fun M67 hq67 => ?_) e_kwx
        have fr67 := e_fr_tr fr38 (e_fr_w hq67.2 (by omega))
        refine g_if_eq 37 75 rfl rfl (by decide) (fun c70 => absurd c70 (by decide)) (fun _ => ?_)
        refine g_run 38 1 rfl ?_
        have H9 := hq67.1
        try rw [if_pos c6] at H9
        try rw [up_up] at H9
        try rw [up_up] at H9
        exact g_iret 39 rfl rfl (by first | exact trivial | exact Or.inl rfl | exact Or.inr rfl | (show _ ∨ _; omega)) ⟨rfl, rfl, H9, fr67⟩
      · replace c50 := b_1.mp c50
        refine g_run 28 2 rfl ?_
        refine g_callV 30 rfl cv_RX8_59 hq38.1.2.1 (m_bakes hq38.1 hv z z.toNat (by omega) (by omega)) rfl rfl (by decide) (by omega) (by omega) (Nat.le_of_ble_eq_true rfl) (e_kr ?_) e_kx
        refine g_if_eq 31 65 rfl rfl b_r (fun c58 => ?_) (fun c58 => ?_)
        · replace c58 := b_0.mp c58
          rw [show tSet (A 0) z a b c = 0 from (if_pos c6).trans ((if_pos c29).trans (if_pos ⟨c50, c58⟩))]
          refine g_run 34 2 rfl ?_
          refine g_callV 36 rfl cv_RX8_73 hq38.1.2.1 (m_isThrown hq38.1 _ 3 (by first | exact Or.inl rfl | exact Or.inr rfl | exact b_01)) rfl rfl (by decide) (by omega) (by omega) (Nat.le_of_ble_eq_true rfl) (e_kw fun M67 hq67 => ?_) e_kwx
          have fr67 := e_fr_tr fr38 (e_fr_w hq67.2 (by omega))
          refine g_if_eq 37 75 rfl rfl (by decide) (fun _ => ?_) (fun c70 => absurd c70 (by decide))
          refine g_run 40 3 rfl ?_
          refine g_callV 43 rfl cv_RX8_55 hq67.1.2.1 (m_of hq67.1 z 3 z.toNat 3 (by omega) rfl (by omega)) rfl rfl (by decide) (by omega) (by omega) (Nat.le_of_ble_eq_true rfl) (e_kr ?_) e_kx
          have p3 := hv.2.2.2.2.1 z.toNat 3 (by omega) (by omega)
          have p4 := hv.2.2.2.2.1 z.toNat 4 (by omega) (by omega)
          have p5 := hv.2.2.2.2.1 z.toNat 5 (by omega) (by omega)
          refine g_run 44 1 rfl ?_
          refine g_icmp_eq 45 89 rfl rfl (by omega) (by omega) (fun c82 => ?_) (fun c82 => ?_)
          · refine g_run 48 6 rfl ?_
            refine g_callV 54 rfl cv_RX8_55 hq67.1.2.1 (m_of hq67.1 z 4 z.toNat 4 (by omega) rfl (by omega)) rfl rfl (by decide) (by omega) (by omega) (Nat.le_of_ble_eq_true rfl) (e_kr ?_) e_kx
            refine g_run 55 1 rfl ?_
            refine g_icmp_eq 56 108 rfl rfl (by omega) (by omega) (fun c101 => ?_) (fun c101 => ?_)
            · refine g_run 59 7 rfl ?_
              refine g_callV 66 rfl cv_RX8_55 hq67.1.2.1 (m_of hq67.1 z 5 z.toNat 5 (by omega) rfl (by omega)) rfl rfl (by decide) (by omega) (by omega) (Nat.le_of_ble_eq_true rfl) (e_kr ?_) e_kx
              refine g_run 67 1 rfl ?_
              refine g_icmp_eq 68 129 rfl rfl (by omega) (by omega) (fun c122 => ?_) (fun c122 => ?_)
              · refine g_run 71 8 rfl ?_
                refine g_callV 79 rfl cv_RX8_77 hq67.1.2.1 (m_combines hq67.1 z a b c z.toNat (by omega) (by omega)) rfl rfl (by decide) (by omega) (by omega) (Nat.le_of_ble_eq_true rfl) (e_kw fun M139 hq139 => ?_) e_kwx
                have fr139 := e_fr_tr fr67 (e_fr_w hq139.2 (by omega))
                refine g_run 80 1 rfl ?_
                have H9 := hq139.1
                rw [up_up, up_up] at H9
                exact g_iret 81 rfl rfl (by first | exact trivial | exact Or.inl rfl | exact Or.inr rfl | (show _ ∨ _; omega)) ⟨congrArg (fun x : Int => (Sum.inl (some (vI x)) : Rv)) (by show _ = rSet (A 0) z.toNat a b c; unfold rSet; (repeat' split) <;> omega), rfl, H9, fr139⟩
              · refine g_run 69 2 rfl ?_
                refine g_run 72 7 rfl ?_
                refine g_callV 79 rfl cv_RX8_77 hq67.1.2.1 (m_combines hq67.1 z a b c z.toNat (by omega) (by omega)) rfl rfl (by decide) (by omega) (by omega) (Nat.le_of_ble_eq_true rfl) (e_kw fun M139 hq139 => ?_) e_kwx
                have fr139 := e_fr_tr fr67 (e_fr_w hq139.2 (by omega))
                refine g_run 80 1 rfl ?_
                have H9 := hq139.1
                rw [up_up, up_up] at H9
                exact g_iret 81 rfl rfl (by first | exact trivial | exact Or.inl rfl | exact Or.inr rfl | (show _ ∨ _; omega)) ⟨congrArg (fun x : Int => (Sum.inl (some (vI x)) : Rv)) (by show _ = rSet (A 0) z.toNat a b c; unfold rSet; (repeat' split) <;> omega), rfl, H9, fr139⟩
            · refine g_run 57 2 rfl ?_
              refine g_run 60 6 rfl ?_
              refine g_callV 66 rfl cv_RX8_55 hq67.1.2.1 (m_of hq67.1 z 5 z.toNat 5 (by omega) rfl (by omega)) rfl rfl (by decide) (by omega) (by omega) (Nat.le_of_ble_eq_true rfl) (e_kr ?_) e_kx
              refine g_run 67 1 rfl ?_
              refine g_icmp_eq 68 129 rfl rfl (by omega) (by omega) (fun c122 => ?_) (fun c122 => ?_)
              · refine g_run 71 8 rfl ?_
                refine g_callV 79 rfl cv_RX8_77 hq67.1.2.1 (m_combines hq67.1 z a b c z.toNat (by omega) (by omega)) rfl rfl (by decide) (by omega) (by omega) (Nat.le_of_ble_eq_true rfl) (e_kw fun M139 hq139 => ?_) e_kwx
                have fr139 := e_fr_tr fr67 (e_fr_w hq139.2 (by omega))
                refine g_run 80 1 rfl ?_
                have H9 := hq139.1
                rw [up_up, up_up] at H9
                exact g_iret 81 rfl rfl (by first | exact trivial | exact Or.inl rfl | exact Or.inr rfl | (show _ ∨ _; omega)) ⟨congrArg (fun x : Int => (Sum.inl (some (vI x)) : Rv)) (by show _ = rSet (A 0) z.toNat a b c; unfold rSet; (repeat' split) <;> omega), rfl, H9, fr139⟩
              · refine g_run 69 2 rfl ?_
                refine g_run 72 7 rfl ?_
                refine g_callV 79 rfl cv_RX8_77 hq67.1.2.1 (m_combines hq67.1 z a b c z.toNat (by omega) (by omega)) rfl rfl (by decide) (by omega) (by omega) (Nat.le_of_ble_eq_true rfl) (e_kw fun M139 hq139 => ?_) e_kwx
                have fr139 := e_fr_tr fr67 (e_fr_w hq139.2 (by omega))
                refine g_run 80 1 rfl ?_
                have H9 := hq139.1
                rw [up_up, up_up] at H9
                exact g_iret 81 rfl rfl (by first | exact trivial | exact Or.inl rfl | exact Or.inr rfl | (show _ ∨ _; omega)) ⟨congrArg (fun x : Int => (Sum.inl (some (vI x)) : Rv)) (by show _ = rSet (A 0) z.toNat a b c; unfold rSet; (repeat' split) <;> omega), rfl, H9, fr139⟩
          · refine g_run 46 2 rfl ?_
            refine g_run 49 5 rfl ?_
            refine g_callV 54 rfl cv_RX8_55 hq67.1.2.1 (m_of hq67.1 z 4 z.toNat 4 (by omega) rfl (by omega)) rfl rfl (by decide) (by omega) (by omega) (Nat.le_of_ble_eq_true rfl) (e_kr ?_) e_kx
            refine g_run 55 1 rfl ?_
            refine g_icmp_eq 56 108 rfl rfl (by omega) (by omega) (fun c101 => ?_) (fun c101 => ?_)
            · refine g_run 59 7 rfl ?_
              refine g_callV 66 rfl cv_RX8_55 hq67.1.2.1 (m_of hq67.1 z 5 z.toNat 5 (by omega) rfl (by omega)) rfl rfl (by decide) (by omega) (by omega) (Nat.le_of_ble_eq_true rfl) (e_kr ?_) e_kx
              refine g_run 67 1 rfl ?_
              refine g_icmp_eq 68 129 rfl rfl (by omega) (by omega) (fun c122 => ?_) (fun c122 => ?_)
              · refine g_run 71 8 rfl ?_
                refine g_callV 79 rfl cv_RX8_77 hq67.1.2.1 (m_combines hq67.1 z a b c z.toNat (by omega) (by omega)) rfl rfl (by decide) (by omega) (by omega) (Nat.le_of_ble_eq_true rfl) (e_kw fun M139 hq139 => ?_) e_kwx
                have fr139 := e_fr_tr fr67 (e_fr_w hq139.2 (by omega))
                refine g_run 80 1 rfl ?_
                have H9 := hq139.1
                rw [up_up, up_up] at H9
                exact g_iret 81 rfl rfl (by first | exact trivial | exact Or.inl rfl | exact Or.inr rfl | (show _ ∨ _; omega)) ⟨congrArg (fun x : Int => (Sum.inl (some (vI x)) : Rv)) (by show _ = rSet (A 0) z.toNat a b c; unfold rSet; (repeat' split) <;> omega), rfl, H9, fr139⟩
              · refine g_run 69 2 rfl ?_
                refine g_run 72 7 rfl ?_
                refine g_callV 79 rfl cv_RX8_77 hq67.1.2.1 (m_combines hq67.1 z a b c z.toNat (by omega) (by omega)) rfl rfl (by decide) (by omega) (by omega) (Nat.le_of_ble_eq_true rfl) (e_kw fun M139 hq139 => ?_) e_kwx
                have fr139 := e_fr_tr fr67 (e_fr_w hq139.2 (by omega))
                refine g_run 80 1 rfl ?_
                have H9 := hq139.1
                rw [up_up, up_up] at H9
                exact g_iret 81 rfl rfl (by first | exact trivial | exact Or.inl rfl | exact Or.inr rfl | (show _ ∨ _; omega)) ⟨congrArg (fun x : Int => (Sum.inl (some (vI x)) : Rv)) (by show _ = rSet (A 0) z.toNat a b c; unfold rSet; (repeat' split) <;> omega), rfl, H9, fr139⟩
            · refine g_run 57 2 rfl ?_
              refine g_run 60 6 rfl ?_
              refine g_callV 66 rfl cv_RX8_55 hq67.1.2.1 (m_of hq67.1 z 5 z.toNat 5 (by omega) rfl (by omega)) rfl rfl (by decide) (by omega) (by omega) (Nat.le_of_ble_eq_true rfl) (e_kr ?_) e_kx
              refine g_run 67 1 rfl ?_
              refine g_icmp_eq 68 129 rfl rfl (by omega) (by omega) (fun c122 => ?_) (fun c122 => ?_)
              · refine g_run 71 8 rfl ?_
                refine g_callV 79 rfl cv_RX8_77 hq67.1.2.1 (m_combines hq67.1 z a b c z.toNat (by omega) (by omega)) rfl rfl (by decide) (by omega) (by omega) (Nat.le_of_ble_eq_true rfl) (e_kw fun M139 hq139 => ?_) e_kwx
                have fr139 := e_fr_tr fr67 (e_fr_w hq139.2 (by omega))
                refine g_run 80 1 rfl ?_
                have H9 := hq139.1
                rw [up_up, up_up] at H9
                exact g_iret 81 rfl rfl (by first | exact trivial | exact Or.inl rfl | exact Or.inr rfl | (show _ ∨ _; omega)) ⟨congrArg (fun x : Int => (Sum.inl (some (vI x)) : Rv)) (by show _ = rSet (A 0) z.toNat a b c; unfold rSet; (repeat' split) <;> omega), rfl, H9, fr139⟩
              · refine g_run 69 2 rfl ?_
                refine g_run 72 7 rfl ?_
                refine g_callV 79 rfl cv_RX8_77 hq67.1.2.1 (m_combines hq67.1 z a b c z.toNat (by omega) (by omega)) rfl rfl (by decide) (by omega) (by omega) (Nat.le_of_ble_eq_true rfl) (e_kw fun M139 hq139 => ?_) e_kwx
                have fr139 := e_fr_tr fr67 (e_fr_w hq139.2 (by omega))
                refine g_run 80 1 rfl ?_
                have H9 := hq139.1
                rw [up_up, up_up] at H9
                exact g_iret 81 rfl rfl (by first | exact trivial | exact Or.inl rfl | exact Or.inr rfl | (show _ ∨ _; omega)) ⟨congrArg (fun x : Int => (Sum.inl (some (vI x)) : Rv)) (by show _ = rSet (A 0) z.toNat a b c; unfold rSet; (repeat' split) <;> omega), rfl, H9, fr139⟩
        · replace c58 := b_1.mp c58
          rw [show tSet (A 0) z a b c = 3 from (if_pos c6).trans ((if_pos c29).trans (if_neg (fun e => e.2 c58)))]
          refine g_run 32 2 rfl ?_
          refine g_run 35 1 rfl ?_
          refine g_callV 36 rfl cv_RX8_73 hq38.1.2.1 (m_isThrown hq38.1 _ 3 (by first | exact Or.inl rfl | exact Or.inr rfl | exact b_01)) rfl rfl (by decide) (by omega) (by omega) (Nat.le_of_ble_eq_true rfl) (e_kw fun M67 hq67 => ?_) e_kwx
          have fr67 := e_fr_tr fr38 (e_fr_w hq67.2 (by omega))
          refine g_if_eq 37 75 rfl rfl (by decide) (fun c70 => absurd c70 (by decide)) (fun _ => ?_)
          refine g_run 38 1 rfl ?_
          have H9 := hq67.1
          try rw [if_pos c6] at H9
          try rw [up_up] at H9
          try rw [up_up] at H9
          exact g_iret 39 rfl rfl (by first | exact trivial | exact Or.inl rfl | exact Or.inr rfl | (show _ ∨ _; omega)) ⟨rfl, rfl, H9, fr67⟩
    · replace c29 := b_0.mp c29
      rw [show tSet (A 0) z a b c = 2 from (if_pos c6).trans (if_neg c29)]
      refine g_run 17 2 rfl ?_
      refine g_run 20 1 rfl ?_
      refine g_callV 21 rfl cv_RX8_73 hq15.1.2.1 (m_isThrown hq15.1 _ 2 (by first | exact Or.inl rfl | exact Or.inr rfl | exact b_01)) rfl rfl (by decide) (by omega) (by omega) (Nat.le_of_ble_eq_true rfl) (e_kw fun M38 hq38 => ?_) e_kwx
      have fr38 := e_fr_tr fr15 (e_fr_w hq38.2 (by omega))
      refine g_if_ne 22 73 rfl rfl (by decide) (fun _ => ?_) (fun c41 => absurd c41 (by decide))
      refine g_run 38 1 rfl ?_
      have H9 := hq38.1
      try rw [if_pos c6] at H9
      try rw [up_up] at H9
      try rw [up_up] at H9
      exact g_iret 39 rfl rfl (by first | exact trivial | exact Or.inl rfl | exact Or.inr rfl | (show _ ∨ _; omega)) ⟨rfl, rfl, H9, fr38⟩
  · replace c6 := b_0.mp c6
    rw [show tSet (A 0) z a b c = 1 from if_neg c6]
    refine g_run 5 2 rfl ?_
    refine g_run 8 1 rfl ?_
    refine g_callV 9 rfl cv_RX8_73 H.2.1 (m_isThrown H _ 1 (by first | exact Or.inl rfl | exact Or.inr rfl | exact b_01)) rfl rfl (by decide) (by omega) (by omega) (Nat.le_of_ble_eq_true rfl) (e_kw fun M15 hq15 => ?_) e_kwx
    have fr15 := e_fr_tr fr0 (e_fr_w hq15.2 (by omega))
    refine g_if_ne 10 73 rfl rfl (by decide) (fun _ => ?_) (fun c18 => absurd c18 (by decide))
    refine g_run 38 1 rfl ?_
    have H9 := hq15.1
    try rw [if_pos c6] at H9
    try rw [up_up] at H9
    try rw [up_up] at H9
    exact g_iret 39 rfl rfl (by first | exact trivial | exact Or.inl rfl | exact Or.inr rfl | (show _ ∨ _; omega)) ⟨rfl, rfl, H9, fr15⟩
theorem m_bakings (H : MM M m q A) (hv : Vok B (A 0)) (z o : Int) (hz : i32 z) (ho : i32 o) : Ct (e_L r0) Γ mX8_bakings 3 0 0 [vR m, vI z, vI o] M n (e_wr (some (vI (if tBake (A 0) z o = 0 then 1 + A 0 (7 + 9 * z.toNat + 7) / 4 else 0))) n fun M' => MM M' m (va_up q 6 (tBake (A 0) z o)) (if tBake (A 0) z o = 0 then va_up A 0 (mBake (A 0) z o) else A) ∧ e_fr m (m + 9) M M') := by
  have fr0 : e_fr m (m + 9) M M := e_fr_refl
  refine g_start ok_X8_bakings rfl rfl ?_
  refine g_run 0 3 rfl ?_
  refine g_callV 3 rfl cv_RX8_92 H.2.1 (m_isDoor H hv z hz) rfl rfl (by decide) (by omega) (by omega) (Nat.le_of_ble_eq_true rfl) (e_kr ?_) e_kx
  refine g_if_eq 4 16 rfl rfl b_r (fun c6 => ?_) (fun c6 => ?_)
  · replace c6 := b_0.mp c6
    rw [show tBake (A 0) z o = 1 from if_neg (fun e => c6 e.1)]
    refine g_run 8 2 rfl ?_
    refine g_run 11 1 rfl ?_
    refine g_callV 12 rfl cv_RX8_73 H.2.1 (m_isThrown H _ 1 (by first | exact Or.inl rfl | exact Or.inr rfl | exact b_01)) rfl rfl (by decide) (by omega) (by omega) (Nat.le_of_ble_eq_true rfl) (e_kw fun M22 hq22 => ?_) e_kwx
    have fr22 := e_fr_tr fr0 (e_fr_w hq22.2 (by omega))
    refine g_if_ne 13 63 rfl rfl (by decide) (fun _ => ?_) (fun c25 => absurd c25 (by decide))
    refine g_run 33 1 rfl ?_
    have H9 := hq22.1
    try rw [if_pos c38] at H9
    try rw [up_up] at H9
    try rw [up_up] at H9
    exact g_iret 34 rfl rfl (by first | exact trivial | exact Or.inl rfl | exact Or.inr rfl | (show _ ∨ _; omega)) ⟨rfl, rfl, H9, fr22⟩
  · replace c6 := b_1.mp c6
    refine g_run 5 1 rfl ?_
    refine g_callS 6 rfl cs_RX8_134 (m_isOven o ho) rfl rfl (by decide) (by omega) (by omega) (Nat.le_of_ble_eq_true rfl) (e_kr ?_) e_kx
    refine g_if_ne 7 20 rfl rfl b_r (fun c13 => ?_) (fun c13 => ?_)
    · replace c13 := b_1.mp c13
      have q2 := hv.2.2.1
      have q7 := hv.2.2.2.2.2.2.1 z.toNat (by omega)
      have qo := hv.2.2.2.2.2.2.2.2.1 o.toNat (by omega)
      have qo0 : 0 ≤ A 0 (61 + 2 * o.toNat + 0) ∧ A 0 (61 + 2 * o.toNat + 0) ≤ 6 := ⟨qo.1, qo.2.1⟩
      refine g_run 10 2 rfl ?_
      refine g_callV 12 rfl cv_RX8_73 H.2.1 (m_isThrown H _ 1 (by first | exact Or.inl rfl | exact Or.inr rfl | exact b_01)) rfl rfl (by decide) (by omega) (by omega) (Nat.le_of_ble_eq_true rfl) (e_kw fun M22 hq22 => ?_) e_kwx
      have fr22 := e_fr_tr fr0 (e_fr_w hq22.2 (by omega))
      refine g_if_ne 13 63 rfl rfl (by decide) (fun c25 => absurd c25 (by decide)) (fun _ => ?_)
      refine g_run 14 3 rfl ?_
      refine g_callV 17 rfl cv_RX8_59 hq22.1.2.1 (m_bakes hq22.1 hv z z.toNat (by omega) (by omega)) rfl rfl (by decide) (by omega) (by omega) (Nat.le_of_ble_eq_true rfl) (e_kr ?_) e_kx
      refine g_run 18 1 rfl ?_
      refine g_callV 19 rfl cv_RX8_73 hq22.1.2.1 (m_isThrown hq22.1 _ 2 b_01) rfl rfl (by decide) (by omega) (by omega) (Nat.le_of_ble_eq_true rfl) (e_kw fun M35 hq35 => ?_) e_kwx
      have fr35 := e_fr_tr fr22 (e_fr_w hq35.2 (by omega))
      refine g_if_ne 20 63 rfl rfl b_r (fun c38 => ?_) (fun c38 => ?_)
      · replace c38 := b_1.mp c38
        rw [show tBake (A 0) z o = 2 from (if_pos ⟨c6, c13⟩).trans (if_pos c38)]
        refine g_run 33 1 rfl ?_
        have H9 := hq35.1
        try rw [if_pos c38] at H9
        try rw [up_up] at H9
        try rw [up_up] at H9
        exact g_iret 34 rfl rfl (by first | exact trivial | exact Or.inl rfl | exact Or.inr rfl | (show _ ∨ _; omega)) ⟨rfl, rfl, H9, fr35⟩
      · replace c38 := b_0.mp c38
        refine g_run 21 4 rfl ?_
        refine g_callV 25 rfl cv_RX8_137 hq35.1.2.1 (m_ofOven hq35.1 o 0 o.toNat 0 (by omega) rfl (by omega)) rfl rfl (by decide) (by omega) (by omega) (Nat.le_of_ble_eq_true rfl) (e_kr ?_) e_kx
        refine g_if_le 26 55 rfl rfl (by omega) (fun c48 => ?_) (fun c48 => ?_)
        · rw [show tBake (A 0) z o = 0 from (if_pos ⟨c6, c13⟩).trans ((if_neg c38).trans (if_neg (by omega)))]
          refine g_run 29 2 rfl ?_
          refine g_callV 31 rfl cv_RX8_73 hq35.1.2.1 (m_isThrown hq35.1 _ 3 (by first | exact Or.inl rfl | exact Or.inr rfl | exact b_01)) rfl rfl (by decide) (by omega) (by omega) (Nat.le_of_ble_eq_true rfl) (e_kw fun M57 hq57 => ?_) e_kwx
          have fr57 := e_fr_tr fr35 (e_fr_w hq57.2 (by omega))
          refine g_if_eq 32 65 rfl rfl (by decide) (fun _ => ?_) (fun c60 => absurd c60 (by decide))
          refine g_run 35 4 rfl ?_
          refine g_callV 39 rfl cv_RX8_55 hq57.1.2.1 (m_of hq57.1 z 7 z.toNat 7 (by omega) rfl (by omega)) rfl rfl (by decide) (by omega) (by omega) (Nat.le_of_ble_eq_true rfl) (e_kr ?_) e_kx
          refine g_run 40 1 rfl ?_
          refine g_idiv 41 rfl (by omega) (by omega) ?_
          refine g_run 42 8 rfl ?_
          refine g_callV 50 rfl cv_RX8_66 hq57.1.2.1 (m_sets hq57.1 z 8 (o + 1) z.toNat 8 (by omega) rfl (by omega)) rfl rfl (by decide) (by omega) (by omega) (Nat.le_of_ble_eq_true rfl) (e_kw fun M84 hq84 => ?_) e_kwx
          have fr84 := e_fr_tr fr57 (e_fr_w hq84.2 (by omega))
          refine g_run 51 6 rfl ?_
          refine g_callV 57 rfl cv_RX8_140 hq84.1.2.1 (m_setsOven hq84.1 o 0 (z + 1) o.toNat 0 (by omega) rfl (by omega)) rfl rfl (by decide) (by omega) (by omega) (Nat.le_of_ble_eq_true rfl) (e_kw fun M93 hq93 => ?_) e_kwx
          have fr93 := e_fr_tr fr84 (e_fr_w hq93.2 (by omega))
          refine g_run 58 4 rfl ?_
          refine g_callV 62 rfl cv_RX8_140 hq93.1.2.1 (m_setsOven hq93.1 o 1 _ o.toNat 1 (by omega) rfl (by omega)) rfl rfl (by decide) (by omega) (by omega) (Nat.le_of_ble_eq_true rfl) (e_kw fun M100 hq100 => ?_) e_kwx
          have fr100 := e_fr_tr fr93 (e_fr_w hq100.2 (by omega))
          refine g_run 63 1 rfl ?_
          have H9 := hq100.1
          rw [up_up, up_up, up_up, up_up, va_up_self, va_up_self] at H9
          exact g_iret 64 rfl rfl (by first | exact trivial | exact Or.inl rfl | exact Or.inr rfl | (show _ ∨ _; omega)) ⟨rfl, rfl, H9, fr100⟩
        · rw [show tBake (A 0) z o = 3 from (if_pos ⟨c6, c13⟩).trans ((if_neg c38).trans (if_pos (by omega)))]
          refine g_run 27 2 rfl ?_
          refine g_run 30 1 rfl ?_
          refine g_callV 31 rfl cv_RX8_73 hq35.1.2.1 (m_isThrown hq35.1 _ 3 (by first | exact Or.inl rfl | exact Or.inr rfl | exact b_01)) rfl rfl (by decide) (by omega) (by omega) (Nat.le_of_ble_eq_true rfl) (e_kw fun M57 hq57 => ?_) e_kwx
          have fr57 := e_fr_tr fr35 (e_fr_w hq57.2 (by omega))
          refine g_if_eq 32 65 rfl rfl (by decide) (fun c60 => absurd c60 (by decide)) (fun _ => ?_)
          refine g_run 33 1 rfl ?_
          have H9 := hq57.1
          try rw [if_pos c38] at H9
          try rw [up_up] at H9
          try rw [up_up] at H9
          exact g_iret 34 rfl rfl (by first | exact trivial | exact Or.inl rfl | exact Or.inr rfl | (show _ ∨ _; omega)) ⟨rfl, rfl, H9, fr57⟩
    · replace c13 := b_0.mp c13
      rw [show tBake (A 0) z o = 1 from if_neg (fun e => c13 e.2)]
      refine g_run 8 2 rfl ?_
      refine g_run 11 1 rfl ?_
      refine g_callV 12 rfl cv_RX8_73 H.2.1 (m_isThrown H _ 1 (by first | exact Or.inl rfl | exact Or.inr rfl | exact b_01)) rfl rfl (by decide) (by omega) (by omega) (Nat.le_of_ble_eq_true rfl) (e_kw fun M22 hq22 => ?_) e_kwx
      have fr22 := e_fr_tr fr0 (e_fr_w hq22.2 (by omega))
      refine g_if_ne 13 63 rfl rfl (by decide) (fun _ => ?_) (fun c25 => absurd c25 (by decide))
      refine g_run 33 1 rfl ?_
      have H9 := hq22.1
      try rw [if_pos c38] at H9
      try rw [up_up] at H9
      try rw [up_up] at H9
      exact g_iret 34 rfl rfl (by first | exact trivial | exact Or.inl rfl | exact Or.inr rfl | (show _ ∨ _; omega)) ⟨rfl, rfl, H9, fr22⟩
def recN (v : Nat → Int) (t : Nat) : Nat → Int := fun j => if 84 < j + t ∧ j ≤ 84 then v (j - 2) else v j
theorem recN_0 {v : Nat → Int} : recN v 0 = v := funext fun j => if_neg (by omega)
theorem recN_up {v : Nat → Int} {t : Nat} (ht : t < 18) : va_up (recN v t) (84 - t) (recN v t (82 - t)) = recN v (t + 1) := by
  funext j
  by_cases e : j = 84 - t
  · subst e
    rw [va_up_self]
    unfold recN
    rw [if_neg (by omega), if_pos (by omega), show 84 - t - 2 = 82 - t from by omega]
  · rw [va_up_ne _ _ e]
    unfold recN
    by_cases e2 : 84 < j + t ∧ j ≤ 84
    · rw [if_pos e2, if_pos (by omega)]
    · rw [if_neg e2, if_neg (by omega)]
def mRec (v : Nat → Int) (z b : Int) : Nat → Int := va_up (va_up (va_up (va_up (va_up (recN v 18) 65 z) 66 b) 6 (if v 6 < 10 then v 6 + 1 else v 6)) 3 (v 3 + 1)) 4 (v 4 + b)
theorem mRec_get {v : Nat → Int} {z b : Int} {k : Nat} (hk : k < 60) : va_up (va_up (recN v 18) 65 z) 66 b k = v k := by
  rw [va_up_ne _ _ (by omega), va_up_ne _ _ (by omega)]
  exact if_neg (by omega)
theorem m_records (H : MM M m q A) (hv : Vok B (A 0)) (z b : Int) : Ct (e_L r0) Γ mX8_records 0 0 0 [vR m, vI z, vI b] M n (e_wr none n fun M' => MM M' m q (va_up A 0 (mRec (A 0) z b)) ∧ e_fr m (m + 9) M M') := by
  have fr0 : e_fr m (m + 9) M M := e_fr_refl
  refine g_start ok_X8_records rfl rfl ?_
  refine g_run 0 2 rfl ?_
  refine e_down (P := fun t => ∀ M', MM M' m q (va_up A 0 (recN (A 0) t)) → e_fr m (m + 9) M M' → G (e_L r0) Γ mX8_records 0 0 0 _ 3 [some (vR m), some (vI z), some (vI b), some (vI (84 - (t : Int)))] [] M' n 0 0) 18 ?_ 0 (by omega) M (by rw [recN_0, up_id]; exact H) fr0
  intro t ht ih M2 H2 fr2
  refine g_run 2 2 rfl ?_
  refine g_icmp_lt 4 29 rfl rfl (by omega) (by omega) (fun c6 => ?_) (fun c6 => ?_)
  · obtain rfl : t = 18 := by omega
    refine g_run 17 1 rfl ?_
    refine g_get 18 rfl fl_RX8_9 H2.2.1 rfl ?_
    refine g_run 19 2 rfl ?_
    refine g_iast 21 65 rfl rfl (by decide) H2.2.2.1 (by first | rfl | omega) (by omega) (by decide) (fun M36 hM36 => ?_)
    have H36 := MM_A0 H2 hM36
    have fr36 := e_fr_tr fr2 (e_fr_up hM36 (by omega))
    refine g_run 22 1 rfl ?_
    refine g_get 23 rfl fl_RX8_9 H36.2.1 rfl ?_
    refine g_run 24 2 rfl ?_
    refine g_iast 26 66 rfl rfl (by decide) H36.2.2.1 (by first | rfl | omega) (by omega) (by decide) (fun M44 hM44 => ?_)
    have H44 := MM_A0 H36 hM44
    have fr44 := e_fr_tr fr36 (e_fr_up hM44 (by omega))
    have H45 := H44
    rw [up_up, up_up, va_up_self, va_up_self] at H45
    refine g_run 27 1 rfl ?_
    refine g_get 28 rfl fl_RX8_9 H45.2.1 rfl ?_
    refine g_run 29 2 rfl ?_
    refine g_iald 31 6 rfl rfl H45.2.2.1 (by first | rfl | omega) (by omega) (by decide) ?_
    rw [va_up_self, mRec_get (by omega)]
    refine g_run 32 1 rfl ?_
    refine g_get 33 rfl fl_RX8_9 H45.2.1 rfl ?_
    refine g_run 34 1 rfl ?_
    refine g_iald 35 6 rfl rfl H45.2.2.1 (by first | rfl | omega) (by omega) (by decide) ?_
    rw [va_up_self, mRec_get (by omega)]
    have q6 := hv.2.2.2.1
    refine g_run 36 1 rfl ?_
    refine g_icmp_ge 37 69 rfl rfl (by omega) (by omega) (fun c62 => ?_) (fun c62 => ?_)
    · have e6 : A 0 6 + 0 = (if A 0 6 < 10 then A 0 6 + 1 else A 0 6) := by rw [if_neg (by omega)]; omega
      refine g_run 40 2 rfl ?_
      rw [e6]
      refine g_iast 42 6 rfl rfl (by decide) H45.2.2.1 (by first | rfl | omega) (by omega) (by decide) (fun M71 hM71 => ?_)
      have H71 := MM_A0 H45 hM71
      have fr71 := e_fr_tr fr44 (e_fr_up hM71 (by omega))
      refine g_run 43 1 rfl ?_
      refine g_get 44 rfl fl_RX8_9 H71.2.1 rfl ?_
      refine g_run 45 2 rfl ?_
      refine g_iald 47 3 rfl rfl H71.2.2.1 (by first | rfl | omega) (by omega) (by decide) ?_
      rw [va_up_self, va_up_self, va_up_ne _ _ (by omega), mRec_get (by omega)]
      refine g_run 48 2 rfl ?_
      refine g_iast 50 3 rfl rfl (by decide) H71.2.2.1 (by first | rfl | omega) (by omega) (by decide) (fun M81 hM81 => ?_)
      have H81 := MM_A0 H71 hM81
      have fr81 := e_fr_tr fr71 (e_fr_up hM81 (by omega))
      refine g_run 51 1 rfl ?_
      refine g_get 52 rfl fl_RX8_9 H81.2.1 rfl ?_
      refine g_run 53 2 rfl ?_
      refine g_iald 55 4 rfl rfl H81.2.2.1 (by first | rfl | omega) (by omega) (by decide) ?_
      rw [va_up_self, va_up_self, va_up_self, va_up_ne _ _ (by omega), va_up_ne _ _ (by omega), mRec_get (by omega)]
      refine g_run 56 2 rfl ?_
      refine g_iast 58 4 rfl rfl (by decide) H81.2.2.1 (by first | rfl | omega) (by omega) (by decide) (fun M91 hM91 => ?_)
      have H91 := MM_A0 H81 hM91
      have fr91 := e_fr_tr fr81 (e_fr_up hM91 (by omega))
      have H9 := H91
      rw [up_up, up_up, up_up, va_up_self, va_up_self, va_up_self] at H9
      exact g_vret 59 rfl rfl ⟨rfl, rfl, H9, fr91⟩
    · have e6 : A 0 6 + 1 = (if A 0 6 < 10 then A 0 6 + 1 else A 0 6) := by rw [if_pos (by omega)]
      refine g_run 38 2 rfl ?_
      refine g_run 41 1 rfl ?_
      rw [e6]
      refine g_iast 42 6 rfl rfl (by decide) H45.2.2.1 (by first | rfl | omega) (by omega) (by decide) (fun M71 hM71 => ?_)
      have H71 := MM_A0 H45 hM71
      have fr71 := e_fr_tr fr44 (e_fr_up hM71 (by omega))
      refine g_run 43 1 rfl ?_
      refine g_get 44 rfl fl_RX8_9 H71.2.1 rfl ?_
      refine g_run 45 2 rfl ?_
      refine g_iald 47 3 rfl rfl H71.2.2.1 (by first | rfl | omega) (by omega) (by decide) ?_
      rw [va_up_self, va_up_self, va_up_ne _ _ (by omega), mRec_get (by omega)]
      refine g_run 48 2 rfl ?_
      refine g_iast 50 3 rfl rfl (by decide) H71.2.2.1 (by first | rfl | omega) (by omega) (by decide) (fun M81 hM81 => ?_)
      have H81 := MM_A0 H71 hM81
      have fr81 := e_fr_tr fr71 (e_fr_up hM81 (by omega))
      refine g_run 51 1 rfl ?_
      refine g_get 52 rfl fl_RX8_9 H81.2.1 rfl ?_
      refine g_run 53 2 rfl ?_
      refine g_iald 55 4 rfl rfl H81.2.2.1 (by first | rfl | omega) (by omega) (by decide) ?_
      rw [va_up_self, va_up_self, va_up_self, va_up_ne _ _ (by omega), va_up_ne _ _ (by omega), mRec_get (by omega)]
      refine g_run 56 2 rfl ?_
      refine g_iast 58 4 rfl rfl (by decide) H81.2.2.1 (by first | rfl | omega) (by omega) (by decide) (fun M91 hM91 => ?_)
      have H91 := MM_A0 H81 hM91
      have fr91 := e_fr_tr fr81 (e_fr_up hM91 (by omega))
      have H9 := H91
      rw [up_up, up_up, up_up, va_up_self, va_up_self, va_up_self] at H9
      exact g_vret 59 rfl rfl ⟨rfl, rfl, H9, fr91⟩
  · refine g_run 5 1 rfl ?_
    refine g_get 6 rfl fl_RX8_9 H2.2.1 rfl ?_
    refine g_run 7 2 rfl ?_
    refine g_get 9 rfl fl_RX8_9 H2.2.1 rfl ?_
    refine g_run 10 3 rfl ?_
    refine g_iald 13 (82 - t) rfl rfl H2.2.2.1 (by first | rfl | omega) (by omega) (by decide) ?_
    refine g_iast 14 (84 - t) rfl rfl (by decide) H2.2.2.1 (by first | rfl | omega) (by omega) (by decide) (fun M22 hM22 => ?_)
    have H22 := MM_A0 H2 hM22
    have fr22 := e_fr_tr fr2 (e_fr_up hM22 (by omega))
    refine g_run 15 2 rfl ?_
    have H9 := H22
    rw [up_up, va_up_self, recN_up (by omega)] at H9
    rw [show (84 - (t : Int)) + (-1) = 84 - ((t + 1 : Nat) : Int) from by omega]
    exact ih (by omega) M22 H9 fr22
def vMany (v : Nat → Int) (d : Nat) : Int := vMis v d (v (7 + 9 * d + 7) / 5) 3
def vCr (v : Nat → Int) (d : Nat) : Int := if v (7 + 9 * d + 7) + vMany v d ≤ 20 then v (7 + 9 * d + 7) + vMany v d else 20
def tTry (v : Nat → Int) (z : Int) : Int := if vDoor v z then (if vOpen v z.toNat then 2 else 0) else 1
def vT (v : Nat → Int) (d : Nat) : Nat → Int := va_up (va_up v (7 + 9 * d + 7) (vCr v d)) (7 + 9 * d + 6) (if vMany v d = 0 ∨ vCr v d = 20 then 1 else 0)
def mTry (v : Nat → Int) (z : Int) : Nat → Int := mRec (vT v z.toNat) z (if vMany v z.toNat = 0 then 1 else 0)
theorem Vok_up {v : Nat → Int} (hv : Vok B v) (k : Nat) (x : Int) (hx : -1 ≤ x ∧ x ≤ B) (h1 : k ≠ 1) (h2 : k ≠ 2) (h6 : k ≠ 6)
    (hs : ∀ d j, d < 6 → j < 9 → k = 7 + 9 * d + j → 0 ≤ x ∧ (j < 6 → x ≤ 9) ∧ (j = 6 → x ≤ 1) ∧ (j = 7 → x ≤ 20) ∧ (j = 8 → x ≤ 2))
    (ho : ∀ o, o < 2 → (k = 61 + 2 * o ∨ k = 61 + 2 * o + 1) → 0 ≤ x ∧ x ≤ 6) : Vok B (va_up v k x) := by
  have g : ∀ i, va_up v k x i = v i ∨ (i = k ∧ va_up v k x i = x) := fun i => by
    by_cases e : i = k
    · exact Or.inr ⟨e, by rw [e, va_up_self]⟩
    · exact Or.inl (va_up_ne _ _ e)
  refine ⟨fun i hi => ?_, ?_, ?_, ?_, fun d j hd hj => ?_, fun d hd => ?_, fun d hd => ?_, fun d hd => ?_, fun o h => ?_, hv.2.2.2.2.2.2.2.2.2⟩
  · rcases g i with e | ⟨-, e⟩
    · rw [e]; exact hv.1 i hi
    · rw [e]; exact hx
  · rw [va_up_ne _ _ (by omega)]; exact hv.2.1
  · rw [va_up_ne _ _ (by omega)]; exact hv.2.2.1
  · rw [va_up_ne _ _ (by omega)]; exact hv.2.2.2.1
  · rcases g (7 + 9 * d + j) with e | ⟨e1, e⟩
    · rw [e]; exact hv.2.2.2.2.1 d j hd hj
    · rw [e]; have := hs d j hd (by omega) e1.symm; exact ⟨this.1, this.2.1 hj⟩
  · rcases g (7 + 9 * d + 6) with e | ⟨e1, e⟩
    · rw [e]; exact hv.2.2.2.2.2.1 d hd
    · rw [e]; have := hs d 6 hd (by omega) e1.symm; exact ⟨this.1, this.2.2.1 rfl⟩
  · rcases g (7 + 9 * d + 7) with e | ⟨e1, e⟩
    · rw [e]; exact hv.2.2.2.2.2.2.1 d hd
    · rw [e]; have := hs d 7 hd (by omega) e1.symm; exact ⟨this.1, this.2.2.2.1 rfl⟩
  · rcases g (7 + 9 * d + 8) with e | ⟨e1, e⟩
    · rw [e]; exact hv.2.2.2.2.2.2.2.1 d hd
    · rw [e]; have := hs d 8 hd (by omega) e1.symm; exact ⟨this.1, this.2.2.2.2 rfl⟩
  · have q := hv.2.2.2.2.2.2.2.2.1 o h
    rcases g (61 + 2 * o) with e | ⟨e1, e⟩ <;> rcases g (61 + 2 * o + 1) with f | ⟨f1, f⟩
    · rw [e, f]; exact q
    · rw [e, f]; have := ho o h (Or.inr f1.symm); exact ⟨q.1, q.2.1, this⟩
    · rw [e, f]; have := ho o h (Or.inl e1.symm); exact ⟨this.1, this.2, q.2.2⟩
    · omega
theorem Vok_T {v : Nat → Int} (hv : Vok B v) (hB : 20 ≤ B) (d : Nat) (hd : d < 6) : Vok B (vT v d) := by
  have q7 := hv.2.2.2.2.2.2.1 d hd
  have qm := vMis_rng v d (v (7 + 9 * d + 7) / 5) 3
  have qc : 0 ≤ vCr v d ∧ vCr v d ≤ 20 := by unfold vCr vMany; split <;> omega
  unfold vT
  have qx : 0 ≤ (if vMany v d = 0 ∨ vCr v d = 20 then (1 : Int) else 0) ∧ (if vMany v d = 0 ∨ vCr v d = 20 then (1 : Int) else 0) ≤ 1 := by split <;> omega
  exact Vok_up (Vok_up hv _ _ (by omega) (by omega) (by omega) (by omega) (fun e j he hj h => by omega) (fun o h h2 => by omega)) _ _ (by omega) (by omega) (by omega) (by omega) (fun e j he hj h => by omega) (fun o h h2 => by omega)
theorem m_tries (H : MM M m q A) (hv : Vok B (A 0)) (hB : 20 ≤ B) (z : Int) (hz : i32 z) : Ct (e_L r0) Γ mX8_tries 4 0 0 [vR m, vI z] M n (e_wr (some (vI (if tTry (A 0) z = 0 then (if vMany (A 0) z.toNat = 0 then 1 else 0) else 0))) n fun M' => MM M' m (va_up q 6 (tTry (A 0) z)) (if tTry (A 0) z = 0 then va_up A 0 (mTry (A 0) z) else A) ∧ e_fr m (m + 9) M M') := by
  have fr0 : e_fr m (m + 9) M M := e_fr_refl
  refine g_start ok_X8_tries rfl rfl ?_
  refine g_run 0 3 rfl ?_
  refine g_callV 3 rfl cv_RX8_92 H.2.1 (m_isDoor H hv z hz) rfl rfl (by decide) (by omega) (by omega) (Nat.le_of_ble_eq_true rfl) (e_kr ?_) e_kx
  refine g_if_ne 4 13 rfl rfl b_r (fun c6 => ?_) (fun c6 => ?_)
  · replace c6 := b_1.mp c6
    have q2 := hv.2.2.1
    refine g_run 7 2 rfl ?_
    refine g_callV 9 rfl cv_RX8_73 H.2.1 (m_isThrown H _ 1 (by first | exact Or.inl rfl | exact Or.inr rfl | exact b_01)) rfl rfl (by decide) (by omega) (by omega) (Nat.le_of_ble_eq_true rfl) (e_kw fun M15 hq15 => ?_) e_kwx
    have fr15 := e_fr_tr fr0 (e_fr_w hq15.2 (by omega))
    refine g_if_ne 10 34 rfl rfl (by decide) (fun c18 => absurd c18 (by decide)) (fun _ => ?_)
    refine g_run 11 3 rfl ?_
    refine g_callV 14 rfl cv_RX8_101 hq15.1.2.1 (m_open hq15.1 hv z z.toNat (by omega) (by omega)) rfl rfl (by decide) (by omega) (by omega) (Nat.le_of_ble_eq_true rfl) (e_kr ?_) e_kx
    refine g_run 15 1 rfl ?_
    refine g_callV 16 rfl cv_RX8_73 hq15.1.2.1 (m_isThrown hq15.1 _ 2 b_01) rfl rfl (by decide) (by omega) (by omega) (Nat.le_of_ble_eq_true rfl) (e_kw fun M28 hq28 => ?_) e_kwx
    have fr28 := e_fr_tr fr15 (e_fr_w hq28.2 (by omega))
    refine g_if_eq 17 36 rfl rfl b_r (fun c31 => ?_) (fun c31 => ?_)
    · replace c31 := b_0.mp c31
      rw [show tTry (A 0) z = 0 from (if_pos c6).trans (if_neg c31)]
      have q7 := hv.2.2.2.2.2.2.1 z.toNat (by omega)
      have qm : 0 ≤ vMany (A 0) z.toNat ∧ vMany (A 0) z.toNat ≤ 3 := vMis_rng (A 0) z.toNat _ 3
      have qT := Vok_T hv hB z.toNat (by omega)
      refine g_run 20 4 rfl ?_
      refine g_callV 24 rfl cv_RX8_104 hq28.1.2.1 (m_playOf hq28.1 hv z z.toNat (by omega) (by omega)) rfl rfl (by decide) (by omega) (by omega) (Nat.le_of_ble_eq_true rfl) (e_kr ?_) e_kx
      refine g_callV 25 rfl cv_RX8_107 hq28.1.2.1 (m_misfits hq28.1 hv z z.toNat (by omega) (by omega) (A 0 (7 + 9 * z.toNat + 7) / 5) (by omega)) rfl rfl (by decide) (by omega) (by omega) (Nat.le_of_ble_eq_true rfl) (e_kr ?_) e_kx
      rw [show vMis (A 0) z.toNat (A 0 (7 + 9 * z.toNat + 7) / 5) 3 = vMany (A 0) z.toNat from rfl]
      refine g_run 26 7 rfl ?_
      refine g_callV 33 rfl cv_RX8_55 hq28.1.2.1 (m_of hq28.1 z 7 z.toNat 7 (by omega) rfl (by omega)) rfl rfl (by decide) (by omega) (by omega) (Nat.le_of_ble_eq_true rfl) (e_kr ?_) e_kx
      refine g_run 34 1 rfl ?_
      refine g_callS 35 rfl cs_RX8_110 (m_crumbled _ _ q7 qm) rfl rfl (by decide) (by omega) (by omega) (Nat.le_of_ble_eq_true rfl) (e_kr ?_) e_kx
      rw [show (if A 0 (7 + 9 * z.toNat + 7) + vMany (A 0) z.toNat ≤ 20 then A 0 (7 + 9 * z.toNat + 7) + vMany (A 0) z.toNat else 20) = vCr (A 0) z.toNat from rfl]
      refine g_callV 36 rfl cv_RX8_66 hq28.1.2.1 (m_sets hq28.1 z 7 (vCr (A 0) z.toNat) z.toNat 7 (by omega) rfl (by omega)) rfl rfl (by decide) (by omega) (by omega) (Nat.le_of_ble_eq_true rfl) (e_kw fun M62 hq62 => ?_) e_kwx
      have fr62 := e_fr_tr fr28 (e_fr_w hq62.2 (by omega))
      refine g_run 37 4 rfl ?_
      refine g_if_eq 41 85 rfl rfl (by omega) (fun c70 => ?_) (fun c70 => ?_)
      · have eT : vT (A 0) z.toNat = va_up (va_up (A 0) (7 + 9 * z.toNat + 7) (vCr (A 0) z.toNat)) (7 + 9 * z.toNat + 6) 1 := by unfold vT; rw [if_pos (Or.inl c70)]
        refine g_run 48 2 rfl ?_
        refine g_callV 51 rfl cv_RX8_66 hq62.1.2.1 (m_sets hq62.1 z 6 _ z.toNat 6 (by omega) rfl (by omega)) rfl rfl (by decide) (by omega) (by omega) (Nat.le_of_ble_eq_true rfl) (e_kw fun M90 hq90 => ?_) e_kwx
        have fr90 := e_fr_tr fr62 (e_fr_w hq90.2 (by omega))
        have H92 := hq90.1
        rw [up_up, up_up, va_up_self, ← eT] at H92
        refine g_run 52 3 rfl ?_
        refine g_if_ne 55 103 rfl rfl (by omega) (fun c96 => ?_) (fun c96 => ?_)
        · have e96 : (0 : Int) = (if vMany (A 0) z.toNat = 0 then 1 else 0) := (if_neg c96).symm
          refine g_run 58 1 rfl ?_
          refine g_callV 59 rfl cv_RX8_113 H92.2.1 (m_records (B := B) H92 (by rw [va_up_self]; exact qT) z _) rfl rfl (by decide) (by omega) (by omega) (Nat.le_of_ble_eq_true rfl) (e_kw fun M104 hq104 => ?_) e_kwx
          have fr104 := e_fr_tr fr90 (e_fr_w hq104.2 (by omega))
          refine g_run 60 1 rfl ?_
          refine g_if_ne 61 115 rfl rfl (by omega) (fun c108 => ?_) (fun c108 => ?_)
          · refine g_run 64 1 rfl ?_
            have H9 := hq104.1
            rw [if_neg c31, up_up, va_up_self] at H9
            exact g_iret 65 rfl rfl (by first | exact trivial | exact Or.inl rfl | exact Or.inr rfl | (show _ ∨ _; omega)) (by first | exact absurd c96 c108 | exact absurd c108 c96 | exact ⟨congrArg (fun x : Int => (Sum.inl (some (vI x)) : Rv)) e96, rfl, by show MM _ m (va_up q 6 0) (va_up A 0 (mTry (A 0) z)); unfold mTry; rw [← e96]; exact H9, fr104⟩)
          · refine g_run 62 2 rfl ?_
            have H9 := hq104.1
            rw [if_neg c31, up_up, va_up_self] at H9
            exact g_iret 65 rfl rfl (by first | exact trivial | exact Or.inl rfl | exact Or.inr rfl | (show _ ∨ _; omega)) (by first | exact absurd c96 c108 | exact absurd c108 c96 | exact ⟨congrArg (fun x : Int => (Sum.inl (some (vI x)) : Rv)) e96, rfl, by show MM _ m (va_up q 6 0) (va_up A 0 (mTry (A 0) z)); unfold mTry; rw [← e96]; exact H9, fr104⟩)
        · have e96 : (1 : Int) = (if vMany (A 0) z.toNat = 0 then 1 else 0) := (if_pos c96).symm
          refine g_run 56 2 rfl ?_
          refine g_callV 59 rfl cv_RX8_113 H92.2.1 (m_records (B := B) H92 (by rw [va_up_self]; exact qT) z _) rfl rfl (by decide) (by omega) (by omega) (Nat.le_of_ble_eq_true rfl) (e_kw fun M104 hq104 => ?_) e_kwx
          have fr104 := e_fr_tr fr90 (e_fr_w hq104.2 (by omega))
          refine g_run 60 1 rfl ?_
          refine g_if_ne 61 115 rfl rfl (by omega) (fun c108 => ?_) (fun c108 => ?_)
          · refine g_run 64 1 rfl ?_
            have H9 := hq104.1
            rw [if_neg c31, up_up, va_up_self] at H9
            exact g_iret 65 rfl rfl (by first | exact trivial | exact Or.inl rfl | exact Or.inr rfl | (show _ ∨ _; omega)) (by first | exact absurd c96 c108 | exact absurd c108 c96 | exact ⟨congrArg (fun x : Int => (Sum.inl (some (vI x)) : Rv)) e96, rfl, by show MM _ m (va_up q 6 0) (va_up A 0 (mTry (A 0) z)); unfold mTry; rw [← e96]; exact H9, fr104⟩)
          · refine g_run 62 2 rfl ?_
            have H9 := hq104.1
            rw [if_neg c31, up_up, va_up_self] at H9
            exact g_iret 65 rfl rfl (by first | exact trivial | exact Or.inl rfl | exact Or.inr rfl | (show _ ∨ _; omega)) (by first | exact absurd c96 c108 | exact absurd c108 c96 | exact ⟨congrArg (fun x : Int => (Sum.inl (some (vI x)) : Rv)) e96, rfl, by show MM _ m (va_up q 6 0) (va_up A 0 (mTry (A 0) z)); unfold mTry; rw [← e96]; exact H9, fr104⟩)
      · refine g_run 42 3 rfl ?_
        refine g_callV 45 rfl cv_RX8_55 hq62.1.2.1 (m_of hq62.1 z 7 z.toNat 7 (by omega) rfl (by omega)) rfl rfl (by decide) (by omega) (by omega) (Nat.le_of_ble_eq_true rfl) (e_kr ?_) e_kx
        rw [va_up_self, va_up_self]
        have qc : 0 ≤ vCr (A 0) z.toNat ∧ vCr (A 0) z.toNat ≤ 20 := by unfold vCr; split <;> omega
        refine g_run 46 1 rfl ?_
        refine g_icmp_ne 47 89 rfl rfl (by omega) (by omega) (fun c82 => ?_) (fun c82 => ?_)
        · have eT : vT (A 0) z.toNat = va_up (va_up (A 0) (7 + 9 * z.toNat + 7) (vCr (A 0) z.toNat)) (7 + 9 * z.toNat + 6) 0 := by unfold vT; rw [if_neg (show ¬ (vMany (A 0) z.toNat = 0 ∨ vCr (A 0) z.toNat = 20) by omega)]
          refine g_run 50 1 rfl ?_
          refine g_callV 51 rfl cv_RX8_66 hq62.1.2.1 (m_sets hq62.1 z 6 _ z.toNat 6 (by omega) rfl (by omega)) rfl rfl (by decide) (by omega) (by omega) (Nat.le_of_ble_eq_true rfl) (e_kw fun M90 hq90 => ?_) e_kwx
          have fr90 := e_fr_tr fr62 (e_fr_w hq90.2 (by omega))
          have H92 := hq90.1
          rw [up_up, up_up, va_up_self, ← eT] at H92
          refine g_run 52 3 rfl ?_
          refine g_if_ne 55 103 rfl rfl (by omega) (fun c96 => ?_) (fun c96 => ?_)
          · have e96 : (0 : Int) = (if vMany (A 0) z.toNat = 0 then 1 else 0) := (if_neg c96).symm
            refine g_run 58 1 rfl ?_
            refine g_callV 59 rfl cv_RX8_113 H92.2.1 (m_records (B := B) H92 (by rw [va_up_self]; exact qT) z _) rfl rfl (by decide) (by omega) (by omega) (Nat.le_of_ble_eq_true rfl) (e_kw fun M104 hq104 => ?_) e_kwx
            have fr104 := e_fr_tr fr90 (e_fr_w hq104.2 (by omega))
            refine g_run 60 1 rfl ?_
            refine g_if_ne 61 115 rfl rfl (by omega) (fun c108 => ?_) (fun c108 => ?_)
            · refine g_run 64 1 rfl ?_
              have H9 := hq104.1
              rw [if_neg c31, up_up, va_up_self] at H9
              exact g_iret 65 rfl rfl (by first | exact trivial | exact Or.inl rfl | exact Or.inr rfl | (show _ ∨ _; omega)) (by first | exact absurd c96 c108 | exact absurd c108 c96 | exact ⟨congrArg (fun x : Int => (Sum.inl (some (vI x)) : Rv)) e96, rfl, by show MM _ m (va_up q 6 0) (va_up A 0 (mTry (A 0) z)); unfold mTry; rw [← e96]; exact H9, fr104⟩)
            · refine g_run 62 2 rfl ?_
              have H9 := hq104.1
              rw [if_neg c31, up_up, va_up_self] at H9
              exact g_iret 65 rfl rfl (by first | exact trivial | exact Or.inl rfl | exact Or.inr rfl | (show _ ∨ _; omega)) (by first | exact absurd c96 c108 | exact absurd c108 c96 | exact ⟨congrArg (fun x : Int => (Sum.inl (some (vI x)) : Rv)) e96, rfl, by show MM _ m (va_up q 6 0) (va_up A 0 (mTry (A 0) z)); unfold mTry; rw [← e96]; exact H9, fr104⟩)
          · have e96 : (1 : Int) = (if vMany (A 0) z.toNat = 0 then 1 else 0) := (if_pos c96).symm
            refine g_run 56 2 rfl ?_
            refine g_callV 59 rfl cv_RX8_113 H92.2.1 (m_records (B := B) H92 (by rw [va_up_self]; exact qT) z _) rfl rfl (by decide) (by omega) (by omega) (Nat.le_of_ble_eq_true rfl) (e_kw fun M104 hq104 => ?_) e_kwx
            have fr104 := e_fr_tr fr90 (e_fr_w hq104.2 (by omega))
            refine g_run 60 1 rfl ?_
            refine g_if_ne 61 115 rfl rfl (by omega) (fun c108 => ?_) (fun c108 => ?_)
            · refine g_run 64 1 rfl ?_
              have H9 := hq104.1
              rw [if_neg c31, up_up, va_up_self] at H9
              exact g_iret 65 rfl rfl (by first | exact trivial | exact Or.inl rfl | exact Or.inr rfl | (show _ ∨ _; omega)) (by first | exact absurd c96 c108 | exact absurd c108 c96 | exact ⟨congrArg (fun x : Int => (Sum.inl (some (vI x)) : Rv)) e96, rfl, by show MM _ m (va_up q 6 0) (va_up A 0 (mTry (A 0) z)); unfold mTry; rw [← e96]; exact H9, fr104⟩)
            · refine g_run 62 2 rfl ?_
              have H9 := hq104.1
              rw [if_neg c31, up_up, va_up_self] at H9
              exact g_iret 65 rfl rfl (by first | exact trivial | exact Or.inl rfl | exact Or.inr rfl | (show _ ∨ _; omega)) (by first | exact absurd c96 c108 | exact absurd c108 c96 | exact ⟨congrArg (fun x : Int => (Sum.inl (some (vI x)) : Rv)) e96, rfl, by show MM _ m (va_up q 6 0) (va_up A 0 (mTry (A 0) z)); unfold mTry; rw [← e96]; exact H9, fr104⟩)
        · have eT : vT (A 0) z.toNat = va_up (va_up (A 0) (7 + 9 * z.toNat + 7) (vCr (A 0) z.toNat)) (7 + 9 * z.toNat + 6) 1 := by unfold vT; rw [if_pos (Or.inr c82)]
          refine g_run 48 2 rfl ?_
          refine g_callV 51 rfl cv_RX8_66 hq62.1.2.1 (m_sets hq62.1 z 6 _ z.toNat 6 (by omega) rfl (by omega)) rfl rfl (by decide) (by omega) (by omega) (Nat.le_of_ble_eq_true rfl) (e_kw fun M90 hq90 => ?_) e_kwx
          have fr90 := e_fr_tr fr62 (e_fr_w hq90.2 (by omega))
          have H92 := hq90.1
          rw [up_up, up_up, va_up_self, ← eT] at H92
          refine g_run 52 3 rfl ?_
          refine g_if_ne 55 103 rfl rfl (by omega) (fun c96 => ?_) (fun c96 => ?_)
          · have e96 : (0 : Int) = (if vMany (A 0) z.toNat = 0 then 1 else 0) := (if_neg c96).symm
            refine g_run 58 1 rfl ?_
            refine g_callV 59 rfl cv_RX8_113 H92.2.1 (m_records (B := B) H92 (by rw [va_up_self]; exact qT) z _) rfl rfl (by decide) (by omega) (by omega) (Nat.le_of_ble_eq_true rfl) (e_kw fun M104 hq104 => ?_) e_kwx
            have fr104 := e_fr_tr fr90 (e_fr_w hq104.2 (by omega))
            refine g_run 60 1 rfl ?_
            refine g_if_ne 61 115 rfl rfl (by omega) (fun c108 => ?_) (fun c108 => ?_)
            · refine g_run 64 1 rfl ?_
              have H9 := hq104.1
              rw [if_neg c31, up_up, va_up_self] at H9
              exact g_iret 65 rfl rfl (by first | exact trivial | exact Or.inl rfl | exact Or.inr rfl | (show _ ∨ _; omega)) (by first | exact absurd c96 c108 | exact absurd c108 c96 | exact ⟨congrArg (fun x : Int => (Sum.inl (some (vI x)) : Rv)) e96, rfl, by show MM _ m (va_up q 6 0) (va_up A 0 (mTry (A 0) z)); unfold mTry; rw [← e96]; exact H9, fr104⟩)
            · refine g_run 62 2 rfl ?_
              have H9 := hq104.1
              rw [if_neg c31, up_up, va_up_self] at H9
              exact g_iret 65 rfl rfl (by first | exact trivial | exact Or.inl rfl | exact Or.inr rfl | (show _ ∨ _; omega)) (by first | exact absurd c96 c108 | exact absurd c108 c96 | exact ⟨congrArg (fun x : Int => (Sum.inl (some (vI x)) : Rv)) e96, rfl, by show MM _ m (va_up q 6 0) (va_up A 0 (mTry (A 0) z)); unfold mTry; rw [← e96]; exact H9, fr104⟩)
          · have e96 : (1 : Int) = (if vMany (A 0) z.toNat = 0 then 1 else 0) := (if_pos c96).symm
            refine g_run 56 2 rfl ?_
            refine g_callV 59 rfl cv_RX8_113 H92.2.1 (m_records (B := B) H92 (by rw [va_up_self]; exact qT) z _) rfl rfl (by decide) (by omega) (by omega) (Nat.le_of_ble_eq_true rfl) (e_kw fun M104 hq104 => ?_) e_kwx
            have fr104 := e_fr_tr fr90 (e_fr_w hq104.2 (by omega))
            refine g_run 60 1 rfl ?_
            refine g_if_ne 61 115 rfl rfl (by omega) (fun c108 => ?_) (fun c108 => ?_)
            · refine g_run 64 1 rfl ?_
              have H9 := hq104.1
              rw [if_neg c31, up_up, va_up_self] at H9
              exact g_iret 65 rfl rfl (by first | exact trivial | exact Or.inl rfl | exact Or.inr rfl | (show _ ∨ _; omega)) (by first | exact absurd c96 c108 | exact absurd c108 c96 | exact ⟨congrArg (fun x : Int => (Sum.inl (some (vI x)) : Rv)) e96, rfl, by show MM _ m (va_up q 6 0) (va_up A 0 (mTry (A 0) z)); unfold mTry; rw [← e96]; exact H9, fr104⟩)
            · refine g_run 62 2 rfl ?_
              have H9 := hq104.1
              rw [if_neg c31, up_up, va_up_self] at H9
              exact g_iret 65 rfl rfl (by first | exact trivial | exact Or.inl rfl | exact Or.inr rfl | (show _ ∨ _; omega)) (by first | exact absurd c96 c108 | exact absurd c108 c96 | exact ⟨congrArg (fun x : Int => (Sum.inl (some (vI x)) : Rv)) e96, rfl, by show MM _ m (va_up q 6 0) (va_up A 0 (mTry (A 0) z)); unfold mTry; rw [← e96]; exact H9, fr104⟩)
    · replace c31 := b_1.mp c31
      rw [show tTry (A 0) z = 2 from (if_pos c6).trans (if_pos c31)]
      refine g_run 18 1 rfl ?_
      have H9 := hq28.1
      try rw [if_pos c31] at H9
      try rw [up_up] at H9
      exact g_iret 19 rfl rfl (by first | exact trivial | exact Or.inl rfl | exact Or.inr rfl | (show _ ∨ _; omega)) ⟨rfl, rfl, H9, fr28⟩
  · replace c6 := b_0.mp c6
    rw [show tTry (A 0) z = 1 from if_neg c6]
    refine g_run 5 2 rfl ?_
    refine g_run 8 1 rfl ?_
    refine g_callV 9 rfl cv_RX8_73 H.2.1 (m_isThrown H _ 1 (by first | exact Or.inl rfl | exact Or.inr rfl | exact b_01)) rfl rfl (by decide) (by omega) (by omega) (Nat.le_of_ble_eq_true rfl) (e_kw fun M15 hq15 => ?_) e_kwx
    have fr15 := e_fr_tr fr0 (e_fr_w hq15.2 (by omega))
    refine g_if_ne 10 34 rfl rfl (by decide) (fun _ => ?_) (fun c18 => absurd c18 (by decide))
    refine g_run 18 1 rfl ?_
    have H9 := hq15.1
    try rw [if_pos c31] at H9
    try rw [up_up] at H9
    exact g_iret 19 rfl rfl (by first | exact trivial | exact Or.inl rfl | exact Or.inr rfl | (show _ ∨ _; omega)) ⟨rfl, rfl, H9, fr15⟩
def driftN (v : Nat → Int) (t : Nat) : Nat → (Nat → Int)
  | 0 => v
  | k + 1 => if vOpen (driftN v t k) k then driftN v t k else va_up (driftN v t k) (7 + 9 * k + t) ((driftN v t k (7 + 9 * k + t) + 1) % 10)
theorem driftN_lo {v : Nat → Int} {t j : Nat} (hj : j < 7) : ∀ k : Nat, driftN v t k j = v j
  | 0 => rfl
  | k + 1 => by
    have := driftN_lo (v := v) (t := t) hj k
    unfold driftN
    split
    · exact this
    · rw [va_up_ne _ _ (by omega)]; exact this
theorem Vok_mono {v : Nat → Int} {B' : Int} (hv : Vok B v) (h : B ≤ B') (h2 : B' ≤ 1000000000) : Vok B' v := ⟨fun i hi => by have := hv.1 i hi; omega, hv.2.1, hv.2.2.1, hv.2.2.2.1, hv.2.2.2.2.1, hv.2.2.2.2.2.1, hv.2.2.2.2.2.2.1, hv.2.2.2.2.2.2.2.1, hv.2.2.2.2.2.2.2.2.1, h2⟩
theorem Vok_drift {v : Nat → Int} (hv : Vok B v) (hB : 20 ≤ B) (t : Nat) (ht : t < 3) : ∀ k : Nat, k ≤ 6 → Vok B (driftN v t k)
  | 0, _ => hv
  | k + 1, hk => by
    have h := Vok_drift hv hB t ht k (by omega)
    have q := h.2.2.2.2.1 k t (by omega) (by omega)
    unfold driftN
    split
    · exact h
    · exact Vok_up h _ _ (by omega) (by omega) (by omega) (by omega) (fun e j he hj h => by omega) (fun o h h2 => by omega)
def zN (v : Nat → Int) (d : Nat) : Nat → (Nat → Int)
  | 0 => v
  | k + 1 => va_up (zN v d k) (7 + 9 * d + k) 0
theorem zN_lo {v : Nat → Int} {d j : Nat} (hj : j < 7 ∨ 61 ≤ j) (hd : d < 6) : ∀ k : Nat, k ≤ 3 → zN v d k j = v j
  | 0, _ => rfl
  | k + 1, hk => by
    have := zN_lo (v := v) hj hd k (by omega)
    unfold zN
    rw [va_up_ne _ _ (by omega)]; exact this
def mCool (v : Nat → Int) (o d : Nat) : Nat → Int := va_up (va_up (va_up (va_up (va_up (zN v d 3) (7 + 9 * d + 6) 0) (7 + 9 * d + 7) 0) (7 + 9 * d + 8) 0) (61 + 2 * o + 0) 0) 5 (v 5 + 1)
def mHeat (v : Nat → Int) (o : Nat) : Nat → Int := if v (61 + 2 * o + 0) = 0 then v else if 0 < v (61 + 2 * o + 1) - 1 then va_up v (61 + 2 * o + 1) (v (61 + 2 * o + 1) - 1) else mCool (va_up v (61 + 2 * o + 1) (v (61 + 2 * o + 1) - 1)) o (v (61 + 2 * o + 0) - 1).toNat
def mHour1 (v : Nat → Int) : Nat → Int := va_up v 0 (v 0 + 1)
def mHour2 (v : Nat → Int) : Nat → Int := if (v 0 + 1) % (10 - v 1) = 0 then driftN (mHour1 v) ((v 0 + 1) % 3).toNat (v 2).toNat else mHour1 v
def mHour (v : Nat → Int) : Nat → Int := mHeat (mHeat (mHour2 v) 0) 1
def mHrs (v : Nat → Int) : Nat → (Nat → Int)
  | 0 => v
  | k + 1 => mHour (mHrs v k)
theorem m_drifts (H : MM M m q A) (hv : Vok B (A 0)) (hB : 20 ≤ B) (h0 : 0 ≤ A 0 0) : Ct (e_L r0) Γ mX8_drifts 3 0 0 [vR m] M n (e_wr none n fun M' => MM M' m q (va_up A 0 (driftN (A 0) (A 0 0 % 3).toNat (A 0 2).toNat)) ∧ e_fr m (m + 9) M M') := by
  have fr0 : e_fr m (m + 9) M M := e_fr_refl
  refine g_start ok_X8_drifts rfl rfl ?_
  refine g_run 0 1 rfl ?_
  refine g_get 1 rfl fl_RX8_9 H.2.1 rfl ?_
  refine g_run 2 1 rfl ?_
  refine g_iald 3 0 rfl rfl H.2.2.1 (by first | rfl | omega) (by omega) (by decide) ?_
  have q0 := hv.1 0 (by decide)
  have qB := hv.2.2.2.2.2.2.2.2.2
  have q2 := hv.2.2.1
  refine g_run 4 1 rfl ?_
  refine g_irem 5 rfl (by omega) (by omega) ?_
  refine g_run 6 3 rfl ?_
  refine e_down (P := fun k => ∀ M', MM M' m q (va_up A 0 (driftN (A 0) (A 0 0 % 3).toNat k)) → e_fr m (m + 9) M M' → G (e_L r0) Γ mX8_drifts 3 0 0 _ 11 [some (vR m), some (vI (A 0 0 % 3)), some (vI (k : Int))] [] M' n 0 0) (A 0 2).toNat ?_ 0 (by omega) M (by rw [show driftN (A 0) (A 0 0 % 3).toNat 0 = A 0 from rfl, up_id]; exact H) fr0
  intro k hk ih M2 H2 fr2
  refine g_run 9 2 rfl ?_
  refine g_get 11 rfl fl_RX8_9 H2.2.1 rfl ?_
  refine g_run 12 1 rfl ?_
  refine g_iald 13 2 rfl rfl H2.2.2.1 (by first | rfl | omega) (by omega) (by decide) ?_
  rw [va_up_self, driftN_lo (by omega)]
  refine g_icmp_ge 14 56 rfl rfl (by omega) (by omega) (fun c18 => ?_) (fun c18 => ?_)
  · obtain rfl : k = (A 0 2).toNat := by omega
    exact g_vret 37 rfl rfl ⟨rfl, rfl, H2, fr2⟩
  · have hv2 : Vok B (va_up A 0 (driftN (A 0) (A 0 0 % 3).toNat k) 0) := by rw [va_up_self]; exact Vok_drift hv hB _ (by omega) k (by omega)
    have hp := hv2.2.2.2.2.1 k (A 0 0 % 3).toNat (by omega) (by omega)
    refine g_run 15 2 rfl ?_
    refine g_callV 17 rfl cv_RX8_101 H2.2.1 (m_open H2 hv2 k k rfl (by omega)) rfl rfl (by decide) (by omega) (by omega) (Nat.le_of_ble_eq_true rfl) (e_kr ?_) e_kx
    refine g_if_ne 18 50 rfl rfl b_r (fun c26 => ?_) (fun c26 => ?_)
    · replace c26 := b_1.mp c26
      refine g_run 35 2 rfl ?_
      have H9 := H2
      first | (rw [up_up, va_up_self] at H9; exact ih (by omega) M47 (by rw [show driftN (A 0) (A 0 0 % 3).toNat (k + 1) = va_up (driftN (A 0) (A 0 0 % 3).toNat k) (7 + 9 * k + (A 0 0 % 3).toNat) (((driftN (A 0) (A 0 0 % 3).toNat k) (7 + 9 * k + (A 0 0 % 3).toNat) + 1) % 10) from if_neg c26]; exact H9) fr2) | exact ih (by omega) M2 (by rw [show driftN (A 0) (A 0 0 % 3).toNat (k + 1) = (driftN (A 0) (A 0 0 % 3).toNat k) from if_pos c26]; exact H9) fr2
    · replace c26 := b_0.mp c26
      refine g_run 19 10 rfl ?_
      refine g_callV 29 rfl cv_RX8_55 H2.2.1 (m_of H2 k (0 + A 0 0 % 3) k (A 0 0 % 3).toNat rfl (by omega) (by omega)) rfl rfl (by decide) (by omega) (by omega) (Nat.le_of_ble_eq_true rfl) (e_kr ?_) e_kx
      refine g_run 30 3 rfl ?_
      refine g_irem 33 rfl (by omega) (by omega) ?_
      refine g_callV 34 rfl cv_RX8_66 H2.2.1 (m_sets H2 k (0 + A 0 0 % 3) _ k (A 0 0 % 3).toNat rfl (by omega) (by omega)) rfl rfl (by decide) (by omega) (by omega) (Nat.le_of_ble_eq_true rfl) (e_kw fun M47 hq47 => ?_) e_kwx
      have fr47 := e_fr_tr fr2 (e_fr_w hq47.2 (by omega))
      refine g_run 35 2 rfl ?_
      have H9 := hq47.1
      first | (rw [up_up, va_up_self] at H9; exact ih (by omega) M47 (by rw [show driftN (A 0) (A 0 0 % 3).toNat (k + 1) = va_up (driftN (A 0) (A 0 0 % 3).toNat k) (7 + 9 * k + (A 0 0 % 3).toNat) (((driftN (A 0) (A 0 0 % 3).toNat k) (7 + 9 * k + (A 0 0 % 3).toNat) + 1) % 10) from if_neg c26]; exact H9) fr47) | exact ih (by omega) M2 (by rw [show driftN (A 0) (A 0 0 % 3).toNat (k + 1) = (driftN (A 0) (A 0 0 % 3).toNat k) from if_pos c26]; exact H9) fr47
theorem m_heats (H : MM M m q A) (hv : Vok B (A 0)) (o : Nat) (ho : o < 2) : Ct (e_L r0) Γ mX8_heats 1 0 0 [vR m, vI (o : Int)] M n (e_wr none n fun M' => MM M' m q (va_up A 0 (mHeat (A 0) o)) ∧ e_fr m (m + 9) M M') := by
  have fr0 : e_fr m (m + 9) M M := e_fr_refl
  refine g_start ok_X8_heats rfl rfl ?_
  refine g_run 0 3 rfl ?_
  refine g_callV 3 rfl cv_RX8_137 H.2.1 (m_ofOven H o 0 o 0 rfl rfl (by omega)) rfl rfl (by decide) (by omega) (by omega) (Nat.le_of_ble_eq_true rfl) (e_kr ?_) e_kx
  have qo := hv.2.2.2.2.2.2.2.2.1 o ho
  have qo0 : 0 ≤ A 0 (61 + 2 * o + 0) ∧ A 0 (61 + 2 * o + 0) ≤ 6 := ⟨qo.1, qo.2.1⟩
  refine g_if_ne 4 10 rfl rfl (by omega) (fun c6 => ?_) (fun c6 => ?_)
  · refine g_run 6 6 rfl ?_
    refine g_callV 12 rfl cv_RX8_137 H.2.1 (m_ofOven H o 1 o 1 rfl rfl (by omega)) rfl rfl (by decide) (by omega) (by omega) (Nat.le_of_ble_eq_true rfl) (e_kr ?_) e_kx
    refine g_run 13 2 rfl ?_
    refine g_callV 15 rfl cv_RX8_140 H.2.1 (m_setsOven H o 1 _ o 1 rfl rfl (by omega)) rfl rfl (by decide) (by omega) (by omega) (Nat.le_of_ble_eq_true rfl) (e_kw fun M21 hq21 => ?_) e_kwx
    have fr21 := e_fr_tr fr0 (e_fr_w hq21.2 (by omega))
    refine g_run 16 3 rfl ?_
    refine g_callV 19 rfl cv_RX8_137 hq21.1.2.1 (m_ofOven hq21.1 o 1 o 1 rfl rfl (by omega)) rfl rfl (by decide) (by omega) (by omega) (Nat.le_of_ble_eq_true rfl) (e_kr ?_) e_kx
    rw [va_up_self, va_up_self]
    refine g_if_le 20 34 rfl rfl (by omega) (fun c30 => ?_) (fun c30 => ?_)
    · rw [show mHeat (A 0) o = _ from (if_neg c6).trans (if_neg (by omega))]
      refine g_run 22 3 rfl ?_
      refine g_callV 25 rfl cv_RX8_137 hq21.1.2.1 (m_ofOven hq21.1 o 0 o 0 rfl rfl (by omega)) rfl rfl (by decide) (by omega) (by omega) (Nat.le_of_ble_eq_true rfl) (e_kr ?_) e_kx
      rw [va_up_self, va_up_ne _ _ (by omega)]
      refine g_run 26 5 rfl ?_
      generalize hw : va_up (A 0) (61 + 2 * o + 1) (A 0 (61 + 2 * o + 1) - 1) = w at *
      have hw5 : w 5 = A 0 5 := by rw [← hw, va_up_ne _ _ (by omega)]
      obtain ⟨d, hd⟩ : ∃ d : Nat, A 0 (61 + 2 * o + 0) - 1 = (d : Int) := ⟨(A 0 (61 + 2 * o + 0) - 1).toNat, by omega⟩
      rw [hd, show ((d : Nat) : Int).toNat = d from rfl]
      have hd6 : d < 6 := by omega
      refine e_down (P := fun k => ∀ M', MM M' m q (va_up A 0 (zN w d k)) → e_fr m (m + 9) M M' → G (e_L r0) Γ mX8_heats 1 0 0 _ 45 [some (vR m), some (vI (o : Int)), some (vI (d : Int)), some (vI (k : Int))] [] M' n 0 0) 3 ?_ 0 (by omega) M21 hq21.1 fr21
      intro k hk ih M2 H2 fr2
      refine g_run 31 2 rfl ?_
      refine g_icmp_ge 33 65 rfl rfl (by omega) (by omega) (fun c47 => ?_) (fun c47 => ?_)
      · obtain rfl : k = 3 := by omega
        refine g_run 43 4 rfl ?_
        refine g_callV 47 rfl cv_RX8_66 H2.2.1 (m_sets H2 d 6 0 d 6 rfl rfl (by omega)) rfl rfl (by decide) (by omega) (by omega) (Nat.le_of_ble_eq_true rfl) (e_kw fun M70 hq70 => ?_) e_kwx
        have fr70 := e_fr_tr fr2 (e_fr_w hq70.2 (by omega))
        refine g_run 48 4 rfl ?_
        refine g_callV 52 rfl cv_RX8_66 hq70.1.2.1 (m_sets hq70.1 d 7 0 d 7 rfl rfl (by omega)) rfl rfl (by decide) (by omega) (by omega) (Nat.le_of_ble_eq_true rfl) (e_kw fun M78 hq78 => ?_) e_kwx
        have fr78 := e_fr_tr fr70 (e_fr_w hq78.2 (by omega))
        refine g_run 53 4 rfl ?_
        refine g_callV 57 rfl cv_RX8_66 hq78.1.2.1 (m_sets hq78.1 d 8 0 d 8 rfl rfl (by omega)) rfl rfl (by decide) (by omega) (by omega) (Nat.le_of_ble_eq_true rfl) (e_kw fun M86 hq86 => ?_) e_kwx
        have fr86 := e_fr_tr fr78 (e_fr_w hq86.2 (by omega))
        refine g_run 58 4 rfl ?_
        refine g_callV 62 rfl cv_RX8_140 hq86.1.2.1 (m_setsOven hq86.1 o 0 0 o 0 rfl rfl (by omega)) rfl rfl (by decide) (by omega) (by omega) (Nat.le_of_ble_eq_true rfl) (e_kw fun M93 hq93 => ?_) e_kwx
        have fr93 := e_fr_tr fr86 (e_fr_w hq93.2 (by omega))
        have H94 := hq93.1
        rw [up_up, up_up, up_up, up_up, va_up_self, va_up_self, va_up_self, va_up_self] at H94
        refine g_run 63 1 rfl ?_
        refine g_get 64 rfl fl_RX8_9 H94.2.1 rfl ?_
        refine g_run 65 2 rfl ?_
        refine g_iald 67 5 rfl rfl H94.2.2.1 (by first | rfl | omega) (by omega) (by decide) ?_
        rw [va_up_self, va_up_ne _ _ (by omega), va_up_ne _ _ (by omega), va_up_ne _ _ (by omega), va_up_ne _ _ (by omega), zN_lo (by omega) hd6 3 (by omega)]
        refine g_run 68 2 rfl ?_
        refine g_iast 70 5 rfl rfl (by decide) H94.2.2.1 (by first | rfl | omega) (by omega) (by decide) (fun M105 hM105 => ?_)
        have H105 := MM_A0 H94 hM105
        have fr105 := e_fr_tr fr93 (e_fr_up hM105 (by omega))
        have H9 := H105
        rw [up_up, va_up_self] at H9
        exact g_vret 71 rfl rfl ⟨rfl, rfl, H9, fr105⟩
      · refine g_run 34 6 rfl ?_
        refine g_callV 40 rfl cv_RX8_66 H2.2.1 (m_sets H2 d (0 + (k : Int)) 0 d k rfl (by omega) (by omega)) rfl rfl (by decide) (by omega) (by omega) (Nat.le_of_ble_eq_true rfl) (e_kw fun M56 hq56 => ?_) e_kwx
        have fr56 := e_fr_tr fr2 (e_fr_w hq56.2 (by omega))
        refine g_run 41 2 rfl ?_
        have H9 := hq56.1
        rw [up_up, va_up_self] at H9
        exact ih (by omega) M56 H9 fr56
    · rw [show mHeat (A 0) o = _ from (if_neg c6).trans (if_pos (by omega))]
      exact g_vret 21 rfl rfl ⟨rfl, rfl, hq21.1, fr21⟩
  · rw [show mHeat (A 0) o = A 0 from if_pos c6, up_id]
    exact g_vret 5 rfl rfl ⟨rfl, rfl, H, fr0⟩
theorem Vok_lo {v : Nat → Int} (hv : Vok B v) (k : Nat) (x : Int) (hx : -1 ≤ x ∧ x ≤ B) (hk : k = 0 ∨ k = 3 ∨ k = 4 ∨ k = 5) : Vok B (va_up v k x) := Vok_up hv k x hx (by omega) (by omega) (by omega) (fun d j hd hj h => by omega) (fun o h h2 => by omega)
theorem Vok_0 {v : Nat → Int} (hv : Vok B v) (hB : 20 ≤ B) (k d j : Nat) (hd : d < 6) (hj : j < 9) (hk : k = 7 + 9 * d + j) : Vok B (va_up v k 0) := Vok_up hv k 0 (by omega) (by omega) (by omega) (by omega) (fun d j hd hj h => by omega) (fun o h h2 => by omega)
theorem Vok_o {v : Nat → Int} (hv : Vok B v) (hB : 20 ≤ B) (k o : Nat) (x : Int) (ho : o < 2) (hk : k = 61 + 2 * o ∨ k = 61 + 2 * o + 1) (hx : 0 ≤ x ∧ x ≤ 6) : Vok B (va_up v k x) := Vok_up hv k x (by omega) (by omega) (by omega) (by omega) (fun d j hd hj h => by omega) (fun o h h2 => by omega)
theorem Vok_z {v : Nat → Int} (hv : Vok B v) (hB : 20 ≤ B) (d : Nat) (hd : d < 6) : ∀ k : Nat, k ≤ 3 → Vok B (zN v d k)
  | 0, _ => hv
  | k + 1, hk => Vok_0 (Vok_z hv hB d hd k (by omega)) hB _ d k hd (by omega) rfl
/-- an oven holds a door and an hour at least, or none -/
abbrev vHot (v : Nat → Int) : Prop := ∀ o, o < 2 → v (61 + 2 * o + 0) = 0 ∨ 1 ≤ v (61 + 2 * o + 1)
theorem Vok_heat {v : Nat → Int} (hv : Vok B v) (hh : vHot v) (hB : 20 ≤ B) (hB2 : B + 1 ≤ 1000000000) (o : Nat) (ho : o < 2) : Vok (B + 1) (mHeat v o) := by
  have q := hv.2.2.2.2.2.2.2.2.1 o ho
  have q0 : 0 ≤ v (61 + 2 * o + 0) ∧ v (61 + 2 * o + 0) ≤ 6 := ⟨q.1, q.2.1⟩
  have h1 := hh o ho
  have h9 := Vok_mono hv (show B ≤ B + 1 by omega) hB2
  unfold mHeat
  split
  · exact h9
  · have h2 := Vok_o h9 (by omega) (61 + 2 * o + 1) o (v (61 + 2 * o + 1) - 1) ho (Or.inr rfl) (by omega)
    split
    · exact h2
    · unfold mCool
      have hd : (v (61 + 2 * o + 0) - 1).toNat < 6 := by omega
      have q5 := hv.1 5 (by omega)
      refine Vok_lo (Vok_o (Vok_0 (Vok_0 (Vok_0 (Vok_z h2 (by omega) _ hd 3 (by omega)) (by omega) _ _ 6 hd (by omega) rfl) (by omega) _ _ 7 hd (by omega) rfl) (by omega) _ _ 8 hd (by omega) rfl) (by omega) _ o 0 ho (Or.inl rfl) (by omega)) 5 _ ?_ (by omega)
      rw [va_up_ne _ _ (by omega)]
      omega
theorem mHeat_lo {v : Nat → Int} {o j : Nat} (ho : o < 2) (hj : j < 5) (hv : Vok B v) : mHeat v o j = v j := by
  have q := hv.2.2.2.2.2.2.2.2.1 o ho
  have q0 : 0 ≤ v (61 + 2 * o + 0) ∧ v (61 + 2 * o + 0) ≤ 6 := ⟨q.1, q.2.1⟩
  unfold mHeat
  split
  · rfl
  · split
    · exact va_up_ne _ _ (by omega)
    · unfold mCool
      rw [va_up_ne _ _ (by omega), va_up_ne _ _ (by omega), va_up_ne _ _ (by omega), va_up_ne _ _ (by omega), va_up_ne _ _ (by omega), zN_lo (by omega) (by omega) 3 (by omega), va_up_ne _ _ (by omega)]
theorem driftN_hi {v : Nat → Int} {t j : Nat} (ht : t < 3) (hj : 61 ≤ j) : ∀ k : Nat, k ≤ 6 → driftN v t k j = v j
  | 0, _ => rfl
  | k + 1, hk => by
    have := driftN_hi (v := v) ht hj k (by omega)
    unfold driftN
    split
    · exact this
    · rw [va_up_ne _ _ (by omega)]; exact this
theorem mHeat_hot {v : Nat → Int} (hv : Vok B v) (hh : vHot v) (o : Nat) (ho : o < 2) : vHot (mHeat v o) := by
  intro p hp
  have q := hv.2.2.2.2.2.2.2.2.1 o ho
  have q0 : 0 ≤ v (61 + 2 * o + 0) ∧ v (61 + 2 * o + 0) ≤ 6 := ⟨q.1, q.2.1⟩
  have h1 := hh p hp
  unfold mHeat
  split
  · exact h1
  · split
    · by_cases e : p = o
      · subst e; right; rw [va_up_self]; omega
      · rw [va_up_ne _ _ (by omega), va_up_ne _ _ (by omega)]; exact h1
    · unfold mCool
      by_cases e : p = o
      · subst e; left; rw [va_up_ne _ _ (by omega), va_up_self]
      · rw [va_up_ne _ _ (by omega), va_up_ne _ _ (by omega), va_up_ne _ _ (by omega), va_up_ne _ _ (by omega), va_up_ne _ _ (by omega), zN_lo (by omega) (by omega) 3 (by omega), va_up_ne _ _ (by omega), va_up_ne _ _ (by omega), va_up_ne _ _ (by omega), va_up_ne _ _ (by omega), va_up_ne _ _ (by omega), va_up_ne _ _ (by omega), zN_lo (by omega) (by omega) 3 (by omega), va_up_ne _ _ (by omega)]
        exact h1
theorem Vok_hour1 {v : Nat → Int} (hv : Vok B v) (hB2 : B + 1 ≤ 1000000000) : Vok (B + 1) (mHour1 v) := Vok_lo (Vok_mono hv (by omega) hB2) 0 _ (by have := hv.1 0 (by omega); omega) (by omega)
theorem Vok_hour2 {v : Nat → Int} (hv : Vok B v) (h0 : 0 ≤ v 0) (hB : 20 ≤ B) (hB2 : B + 1 ≤ 1000000000) : Vok (B + 1) (mHour2 v) := by
  have q2 := hv.2.2.1
  unfold mHour2
  split
  · exact Vok_drift (Vok_hour1 hv hB2) (by omega) _ (by omega) _ (by omega)
  · exact Vok_hour1 hv hB2
theorem mHour2_hot {v : Nat → Int} (hv : Vok B v) (hh : vHot v) (h0 : 0 ≤ v 0) : vHot (mHour2 v) := by
  intro o ho
  have q2 := hv.2.2.1
  have h1 := hh o ho
  unfold mHour2
  split
  · rw [driftN_hi (by omega) (by omega) _ (by omega), driftN_hi (by omega) (by omega) _ (by omega)]
    unfold mHour1
    rw [va_up_ne _ _ (by omega), va_up_ne _ _ (by omega)]; exact h1
  · unfold mHour1
    rw [va_up_ne _ _ (by omega), va_up_ne _ _ (by omega)]; exact h1
theorem mHour2_0 {v : Nat → Int} : mHour2 v 0 = v 0 + 1 := by
  unfold mHour2
  split
  · rw [driftN_lo (by omega)]; exact va_up_self _ _ _
  · exact va_up_self _ _ _
/-- what a row keeps through the hours -/
def Vh (B : Int) (v : Nat → Int) : Prop := Vok B v ∧ vHot v ∧ 0 ≤ v 0 ∧ 20 ≤ B
theorem Vh_hour {v : Nat → Int} (h : Vh B v) (hB2 : B + 3 ≤ 1000000000) : Vh (B + 3) (mHour v) := by
  obtain ⟨hv, hh, h0, hB⟩ := h
  have a1 := Vok_hour2 hv h0 hB (by omega)
  have b1 := mHour2_hot hv hh h0
  have a2 := Vok_heat a1 b1 (by omega) (by omega) 0 (by omega)
  have b2 := mHeat_hot a1 b1 0 (by omega)
  have a3 := Vok_heat a2 b2 (by omega) (by omega) 1 (by omega)
  rw [show B + 1 + 1 + 1 = B + 3 from by omega] at a3
  refine ⟨a3, mHeat_hot a2 b2 1 (by omega), ?_, by omega⟩
  unfold mHour
  rw [mHeat_lo (by omega) (by omega) a2, mHeat_lo (by omega) (by omega) a1, mHour2_0]; omega
theorem Vh_hrs {v : Nat → Int} (h : Vh B v) : ∀ k : Nat, B + 3 * k ≤ 1000000000 → Vh (B + 3 * k) (mHrs v k)
  | 0, _ => by
    rw [show B + 3 * ((0 : Nat) : Int) = B from by omega]
    exact h
  | k + 1, hk => by
    rw [show B + 3 * ((k + 1 : Nat) : Int) = B + 3 * k + 3 from by omega]
    exact Vh_hour (Vh_hrs h k (by omega)) (by omega)
/-- the ovens' loop of an hour -/
theorem m_hour9 {Q : Rv → Mem → Nat → Prop} {M : Mem} (H : MM M m q (va_up A 0 (mHour2 (A 0)))) (hV : Vh B (A 0)) (hB : B + 3 ≤ 1000000000) (hQ : ∀ M', MM M' m q (va_up A 0 (mHour (A 0))) → e_fr m (m + 9) M M' → Q (.inl none) M' n) (x : Option aV) : G (e_L r0) Γ mX8_hourPasses 4 0 0 Q 33 [some (vR m), x] [] M n 0 0 := by
  have fr0 : e_fr m (m + 9) M M := e_fr_refl
  have a1 := Vok_hour2 hV.1 hV.2.2.1 hV.2.2.2 (by omega)
  have b1 := mHour2_hot hV.1 hV.2.1 hV.2.2.1
  have hB0 := hV.2.2.2
  have a2 := Vok_heat a1 b1 (by omega) (by omega) 0 (by omega)
  refine g_run 22 2 rfl ?_
  refine e_down (P := fun k => ∀ (M' : Mem) (v : Nat → Int), MM M' m q (va_up A 0 v) → e_fr m (m + 9) M M' → (k < 2 → Vok (B + 2) v) → (k = 0 → v = mHour2 (A 0)) → (k = 1 → v = mHeat (mHour2 (A 0)) 0) → (k = 2 → v = mHour (A 0)) → G (e_L r0) Γ mX8_hourPasses 4 0 0 Q 35 [some (vR m), some (vI (k : Int))] [] M' n 0 0) 2 ?_ 0 (by omega) M _ H fr0 (fun _ => Vok_mono a1 (by omega) (by omega)) (fun _ => rfl) (fun h => by omega) (fun h => by omega)
  intro k hk ih M2 v H2 fr2 hv e0 e1 e2
  refine g_run 24 2 rfl ?_
  refine g_icmp_ge 26 51 rfl rfl (by omega) (by omega) (fun c37 => ?_) (fun c37 => ?_)
  · obtain rfl : k = 2 := by omega
    have H9 := H2
    rw [e2 rfl] at H9
    exact g_vret 32 rfl rfl (hQ M2 H9 fr2)
  · refine g_run 27 2 rfl ?_
    refine g_callV 29 rfl cv_RX8_149 H2.2.1 (m_heats (B := B + 2) H2 (by rw [va_up_self]; exact hv (by omega)) k (by omega)) rfl rfl (by decide) (by omega) (by omega) (Nat.le_of_ble_eq_true rfl) (e_kw fun M42 hq42 => ?_) e_kwx
    have fr42 := e_fr_tr fr2 (e_fr_w hq42.2 (by omega))
    refine g_run 30 2 rfl ?_
    have H9 := hq42.1
    rw [up_up, va_up_self] at H9
    refine ih (by omega) M42 _ H9 fr42 (fun h => ?_) (fun h => by omega) (fun h => ?_) (fun h => ?_)
    · obtain rfl : k = 0 := by omega
      rw [e0 rfl]
      rw [show B + 1 + 1 = B + 2 from by omega] at a2
      exact a2
    · obtain rfl : k = 0 := by omega
      rw [e0 rfl]
    · obtain rfl : k = 1 := by omega
      rw [e1 rfl]; rfl
theorem m_hour (H : MM M m q A) (hV : Vh B (A 0)) (hB : B + 3 ≤ 1000000000) : Ct (e_L r0) Γ mX8_hourPasses 4 0 0 [vR m] M n (e_wr none n fun M' => MM M' m q (va_up A 0 (mHour (A 0))) ∧ e_fr m (m + 9) M M') := by
  have fr0 : e_fr m (m + 9) M M := e_fr_refl
  have q0 := hV.2.2.1
  have q0b := hV.1.1 0 (by decide)
  have q1 := hV.1.2.1
  have q2 := hV.1.2.2.1
  have q3 := hV.2.2.2
  refine g_start ok_X8_hourPasses rfl rfl ?_
  refine g_run 0 1 rfl ?_
  refine g_get 1 rfl fl_RX8_9 H.2.1 rfl ?_
  refine g_run 2 2 rfl ?_
  refine g_iald 4 0 rfl rfl H.2.2.1 (by first | rfl | omega) (by omega) (by decide) ?_
  refine g_run 5 2 rfl ?_
  refine g_iast 7 0 rfl rfl (by decide) H.2.2.1 (by first | rfl | omega) (by omega) (by decide) (fun M9 hM9 => ?_)
  have H9 := MM_A0 H hM9
  have fr9 := e_fr_tr fr0 (e_fr_up hM9 (by omega))
  have H10 := H9
  rw [show va_up (A 0) 0 (A 0 0 + 1) = mHour1 (A 0) from rfl] at H10
  refine g_run 8 1 rfl ?_
  refine g_get 9 rfl fl_RX8_9 H10.2.1 rfl ?_
  refine g_run 10 1 rfl ?_
  refine g_iald 11 0 rfl rfl H10.2.2.1 (by first | rfl | omega) (by omega) (by decide) ?_
  rw [va_up_self, show mHour1 (A 0) 0 = A 0 0 + 1 from va_up_self _ _ _]
  refine g_run 12 2 rfl ?_
  refine g_get 14 rfl fl_RX8_9 H10.2.1 rfl ?_
  refine g_run 15 1 rfl ?_
  refine g_iald 16 1 rfl rfl H10.2.2.1 (by first | rfl | omega) (by omega) (by decide) ?_
  rw [va_up_self, show mHour1 (A 0) 1 = A 0 1 from va_up_ne _ _ (by omega)]
  refine g_run 17 1 rfl ?_
  refine g_irem 18 rfl (by omega) (by omega) ?_
  have m1 := Int.emod_nonneg (A 0 0 + 1) (show 10 - A 0 1 ≠ 0 by omega)
  have m2 := Int.emod_lt_of_pos (A 0 0 + 1) (show 0 < 10 - A 0 1 by omega)
  refine g_if_ne 19 33 rfl rfl (by omega) (fun c26 => ?_) (fun c26 => ?_)
  · have e26 : mHour2 (A 0) = mHour1 (A 0) := if_neg c26
    have HH9 := H10
    rw [← e26] at HH9
    exact m_hour9 (B := B) HH9 hV hB (fun M' h1 h2 => ⟨rfl, rfl, h1, e_fr_tr fr9 h2⟩) _
  · have e26 : mHour2 (A 0) = driftN (mHour1 (A 0)) ((A 0 0 + 1) % 3).toNat (A 0 2).toNat := if_pos c26
    refine g_run 20 1 rfl ?_
    refine g_callV 21 rfl cv_RX8_146 H10.2.1 (m_drifts (B := B + 1) H10 (by rw [va_up_self]; exact Vok_hour1 hV.1 (by omega)) (by omega) (by rw [va_up_self, show mHour1 (A 0) 0 = A 0 0 + 1 from va_up_self _ _ _]; omega)) rfl rfl (by decide) (by omega) (by omega) (Nat.le_of_ble_eq_true rfl) (e_kw fun M30 hq30 => ?_) e_kwx
    have fr30 := e_fr_tr fr9 (e_fr_w hq30.2 (by omega))
    have H31 := hq30.1
    rw [up_up, va_up_self, show mHour1 (A 0) 0 = A 0 0 + 1 from va_up_self _ _ _, show mHour1 (A 0) 2 = A 0 2 from va_up_ne _ _ (by omega)] at H31
    have HH9 := H31
    rw [← e26] at HH9
    exact m_hour9 (B := B) HH9 hV hB (fun M' h1 h2 => ⟨rfl, rfl, h1, e_fr_tr fr30 h2⟩) _
def tHours (a : Int) : Int := if 1 ≤ a ∧ a ≤ 60 then 0 else 1
theorem m_waits (H : MM M m q A) (hv : Vok B (A 0)) (hV : Vh B (A 0)) (hB : B ≤ 900000000) (a : Int) (ha : i32 a) : Ct (e_L r0) Γ mX8_waits 5 0 0 [vR m, vI a] M n (e_wr (some (vI (if tHours a = 0 then mHrs (A 0) a.toNat 5 - A 0 5 else 0))) n fun M' => MM M' m (va_up q 6 (tHours a)) (if tHours a = 0 then va_up A 0 (mHrs (A 0) a.toNat) else A) ∧ e_fr m (m + 9) M M') := by
  have fr0 : e_fr m (m + 9) M M := e_fr_refl
  refine g_start ok_X8_waits rfl rfl ?_
  refine g_run 0 4 rfl ?_
  refine g_callS 4 rfl cs_RX8_51 (m_isIn a 1 60 ha (by omega) (by omega)) rfl rfl (by decide) (by omega) (by omega) (Nat.le_of_ble_eq_true rfl) (e_kr ?_) e_kx
  refine g_if_ne 5 15 rfl rfl b_r (fun c8 => ?_) (fun c8 => ?_)
  · replace c8 := b_1.mp c8
    rw [show tHours a = 0 from if_pos c8]
    refine g_run 8 2 rfl ?_
    refine g_callV 10 rfl cv_RX8_73 H.2.1 (m_isThrown H _ 1 (by first | exact Or.inl rfl | exact Or.inr rfl | exact b_01)) rfl rfl (by decide) (by omega) (by omega) (Nat.le_of_ble_eq_true rfl) (e_kw fun M17 hq17 => ?_) e_kwx
    have fr17 := e_fr_tr fr0 (e_fr_w hq17.2 (by omega))
    refine g_if_eq 11 25 rfl rfl (by decide) (fun _ => ?_) (fun c20 => absurd c20 (by decide))
    refine g_run 14 1 rfl ?_
    refine g_get 15 rfl fl_RX8_9 hq17.1.2.1 rfl ?_
    refine g_run 16 1 rfl ?_
    refine g_iald 17 5 rfl rfl hq17.1.2.2.1 (by first | rfl | omega) (by omega) (by decide) ?_
    refine g_run 18 3 rfl ?_
    refine e_down (P := fun k => ∀ M', MM M' m (va_up q 6 0) (va_up A 0 (mHrs (A 0) k)) → e_fr m (m + 9) M M' → G (e_L r0) Γ mX8_waits 5 0 0 _ 34 [some (vR m), some (vI a), some (vI (A 0 5)), some (vI (k : Int))] [] M' n 0 0) a.toNat ?_ 0 (by omega) M17 (by rw [show mHrs (A 0) 0 = A 0 from rfl, up_id]; exact hq17.1) fr17
    intro k hk ih M2 H2 fr2
    refine g_run 21 2 rfl ?_
    refine g_icmp_ge 23 49 rfl rfl (by omega) (by omega) (fun c36 => ?_) (fun c36 => ?_)
    · obtain rfl : k = a.toNat := by omega
      refine g_run 28 1 rfl ?_
      refine g_get 29 rfl fl_RX8_9 H2.2.1 rfl ?_
      refine g_run 30 1 rfl ?_
      refine g_iald 31 5 rfl rfl H2.2.2.1 (by first | rfl | omega) (by omega) (by decide) ?_
      rw [va_up_self]
      refine g_run 32 2 rfl ?_
      exact g_iret 34 rfl rfl (by first | exact trivial | exact Or.inl rfl | exact Or.inr rfl | (show _ ∨ _; omega)) ⟨rfl, rfl, H2, fr2⟩
    · refine g_run 24 1 rfl ?_
      refine g_callV 25 rfl cv_RX8_153 H2.2.1 (m_hour (B := B + 3 * k) H2 (by rw [va_up_self]; exact Vh_hrs hV k (by omega)) (by omega)) rfl rfl (by decide) (by omega) (by omega) (Nat.le_of_ble_eq_true rfl) (e_kw fun M40 hq40 => ?_) e_kwx
      have fr40 := e_fr_tr fr2 (e_fr_w hq40.2 (by omega))
      refine g_run 26 2 rfl ?_
      have H9 := hq40.1
      rw [up_up, va_up_self] at H9
      exact ih (by omega) M40 H9 fr40
  · replace c8 := b_0.mp c8
    rw [show tHours a = 1 from if_neg c8]
    refine g_run 6 2 rfl ?_
    refine g_run 9 1 rfl ?_
    refine g_callV 10 rfl cv_RX8_73 H.2.1 (m_isThrown H _ 1 (by first | exact Or.inl rfl | exact Or.inr rfl | exact b_01)) rfl rfl (by decide) (by omega) (by omega) (Nat.le_of_ble_eq_true rfl) (e_kw fun M17 hq17 => ?_) e_kwx
    have fr17 := e_fr_tr fr0 (e_fr_w hq17.2 (by omega))
    refine g_if_eq 11 25 rfl rfl (by decide) (fun c20 => absurd c20 (by decide)) (fun _ => ?_)
    refine g_run 12 1 rfl ?_
    have H9 := hq17.1
    exact g_iret 13 rfl rfl (by first | exact trivial | exact Or.inl rfl | exact Or.inr rfl | (show _ ∨ _; omega)) ⟨rfl, rfl, H9, fr17⟩
end MC
