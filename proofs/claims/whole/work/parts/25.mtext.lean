/-! the reference's text and script (wip/whole/gen/c_mtext.py prints this part) -/
section MT
variable {r0 : Option Nat} {Γ : Cx} {M : Mem} {n m : Nat} {q : Nat → Int} {A : Nat → Nat → Int} {B : Int}
theorem m_puts (H : MM M m q A) (c : Int) (l : Nat) (hl : q 12 = l) (h30 : l < 30) : Ct (e_L r0) Γ mX8_puts 0 0 0 [vR m, vI c] M n (e_wr none n fun M' => MM M' m (va_up q 12 ((l : Int) + 1)) (va_up A 5 (va_up (A 5) l c)) ∧ e_fr m (m + 9) M M') := by
  have fr0 : e_fr m (m + 9) M M := e_fr_refl
  refine g_start ok_X8_puts rfl rfl ?_
  refine g_run 0 1 rfl ?_
  refine g_get 1 rfl fl_RX8_32 H.2.1 rfl ?_
  refine g_run 2 1 rfl ?_
  refine g_get 3 rfl fl_RX8_175 H.2.1 rfl ?_
  refine g_run 4 1 rfl ?_
  refine g_iast 5 l rfl rfl (by decide) H.2.2.2.2.2.2.2.1 (by first | rfl | omega) (by omega) (by decide) (fun M9 hM9 => ?_)
  have H9 := MM_A5 H hM9
  have fr9 := e_fr_tr fr0 (e_fr_up hM9 (by omega))
  refine g_run 6 2 rfl ?_
  refine g_get 8 rfl fl_RX8_175 H9.2.1 rfl ?_
  rw [hl]
  refine g_run 9 2 rfl ?_
  refine g_put 11 rfl fp_RX8_175 H9.2.1 rfl trivial (fun M17 hM17 => ?_)
  have H17 := MM_q12 H9 hM17
  have fr17 := e_fr_tr fr9 (e_fr_up hM17 (by omega))
  exact g_vret 12 rfl rfl ⟨rfl, rfl, H17, fr17⟩
def tType (q : Nat → Int) (c : Int) : Int := if 32 ≤ c ∧ c ≤ 126 then (if q 15 = 60 then 2 else 0) else 1
theorem m_type (H : MM M m q A) (c : Int) (hc : i32 c) (l : Nat) (hl : q 15 = l) (h60 : l ≤ 60) : Ct (e_L r0) Γ mX8_type 1 0 0 [vR m, vI c] M n (e_wr (some (vI (if tType q c = 0 then (l : Int) + 1 else 0))) n fun M' => MM M' m (if tType q c = 0 then va_up (va_up q 6 0) 15 ((l : Int) + 1) else va_up q 6 (tType q c)) (if tType q c = 0 then va_up A 6 (va_up (A 6) l c) else A) ∧ e_fr m (m + 9) M M') := by
  have fr0 : e_fr m (m + 9) M M := e_fr_refl
  refine g_start ok_X8_type rfl rfl ?_
  refine g_run 0 4 rfl ?_
  refine g_callS 4 rfl cs_RX8_51 (m_isIn c 32 126 hc (by omega) (by omega)) rfl rfl (by decide) (by omega) (by omega) (Nat.le_of_ble_eq_true rfl) (e_kr ?_) e_kx
  refine g_if_ne 5 16 rfl rfl b_r (fun c9 => ?_) (fun c9 => ?_)
  · replace c9 := b_1.mp c9
    refine g_run 8 2 rfl ?_
    refine g_callV 10 rfl cv_RX8_73 H.2.1 (m_isThrown H _ 1 (by first | exact Or.inl rfl | exact Or.inr rfl | exact b_01)) rfl rfl (by decide) (by omega) (by omega) (Nat.le_of_ble_eq_true rfl) (e_kw fun M18 hq18 => ?_) e_kwx
    have fr18 := e_fr_tr fr0 (e_fr_w hq18.2 (by omega))
    refine g_if_ne 11 46 rfl rfl (by decide) (fun c21 => absurd c21 (by decide)) (fun _ => ?_)
    refine g_run 12 2 rfl ?_
    refine g_get 14 rfl fl_RX8_184 hq18.1.2.1 rfl ?_
    rw [show va_up q 6 (if (0 : Int) = 0 then 0 else 1) 15 = q 15 from rfl]
    refine g_run 15 1 rfl ?_
    refine g_icmp_ne 16 38 rfl rfl (by omega) (by omega) (fun c31 => ?_) (fun c31 => ?_)
    · rw [show tType q c = 0 from (if_pos c9).trans (if_neg c31)]
      refine g_run 19 2 rfl ?_
      refine g_callV 21 rfl cv_RX8_73 hq18.1.2.1 (m_isThrown hq18.1 _ 2 (by first | exact Or.inl rfl | exact Or.inr rfl | exact b_01)) rfl rfl (by decide) (by omega) (by omega) (Nat.le_of_ble_eq_true rfl) (e_kw fun M40 hq40 => ?_) e_kwx
      have fr40 := e_fr_tr fr18 (e_fr_w hq40.2 (by omega))
      refine g_if_eq 22 48 rfl rfl (by decide) (fun _ => ?_) (fun c43 => absurd c43 (by decide))
      have H48 := hq40.1
      rw [up_up] at H48
      refine g_run 25 1 rfl ?_
      refine g_get 26 rfl fl_RX8_35 H48.2.1 rfl ?_
      refine g_run 27 1 rfl ?_
      refine g_get 28 rfl fl_RX8_184 H48.2.1 rfl ?_
      rw [show va_up q 6 (if (0 : Int) = 0 then 0 else 2) 15 = (l : Int) from hl]
      refine g_run 29 1 rfl ?_
      refine g_iast 30 l rfl rfl (by decide) H48.2.2.2.2.2.2.2.2.1 (by first | rfl | omega) (by omega) (by decide) (fun M57 hM57 => ?_)
      have H57 := MM_A6 H48 hM57
      have fr57 := e_fr_tr fr40 (e_fr_up hM57 (by omega))
      refine g_run 31 2 rfl ?_
      refine g_get 33 rfl fl_RX8_184 H57.2.1 rfl ?_
      rw [show va_up q 6 (if (0 : Int) = 0 then 0 else 2) 15 = (l : Int) from hl]
      refine g_run 34 2 rfl ?_
      refine g_put 36 rfl fp_RX8_184 H57.2.1 rfl trivial (fun M65 hM65 => ?_)
      have H65 := MM_q15 H57 hM65
      have fr65 := e_fr_tr fr57 (e_fr_up hM65 (by omega))
      refine g_run 37 1 rfl ?_
      refine g_get 38 rfl fl_RX8_184 H65.2.1 rfl ?_
      rw [va_up_self]
      exact g_iret 39 rfl rfl (by first | exact trivial | exact Or.inl rfl | exact Or.inr rfl | (show _ ∨ _; omega)) ⟨rfl, rfl, H65, fr65⟩
    · rw [show tType q c = 2 from (if_pos c9).trans (if_pos c31)]
      refine g_run 17 2 rfl ?_
      refine g_run 20 1 rfl ?_
      refine g_callV 21 rfl cv_RX8_73 hq18.1.2.1 (m_isThrown hq18.1 _ 2 (by first | exact Or.inl rfl | exact Or.inr rfl | exact b_01)) rfl rfl (by decide) (by omega) (by omega) (Nat.le_of_ble_eq_true rfl) (e_kw fun M40 hq40 => ?_) e_kwx
      have fr40 := e_fr_tr fr18 (e_fr_w hq40.2 (by omega))
      refine g_if_eq 22 48 rfl rfl (by decide) (fun c43 => absurd c43 (by decide)) (fun _ => ?_)
      refine g_run 23 1 rfl ?_
      have H9 := hq40.1
      try rw [up_up] at H9
      exact g_iret 24 rfl rfl (by first | exact trivial | exact Or.inl rfl | exact Or.inr rfl | (show _ ∨ _; omega)) ⟨rfl, rfl, H9, fr40⟩
  · replace c9 := b_0.mp c9
    rw [show tType q c = 1 from if_neg c9]
    refine g_run 6 2 rfl ?_
    refine g_run 9 1 rfl ?_
    refine g_callV 10 rfl cv_RX8_73 H.2.1 (m_isThrown H _ 1 (by first | exact Or.inl rfl | exact Or.inr rfl | exact b_01)) rfl rfl (by decide) (by omega) (by omega) (Nat.le_of_ble_eq_true rfl) (e_kw fun M18 hq18 => ?_) e_kwx
    have fr18 := e_fr_tr fr0 (e_fr_w hq18.2 (by omega))
    refine g_if_ne 11 46 rfl rfl (by decide) (fun _ => ?_) (fun c21 => absurd c21 (by decide))
    refine g_run 23 1 rfl ?_
    have H9 := hq18.1
    try rw [up_up] at H9
    exact g_iret 24 rfl rfl (by first | exact trivial | exact Or.inl rfl | exact Or.inr rfl | (show _ ∨ _; omega)) ⟨rfl, rfl, H9, fr18⟩
/-- the character at the reading place, or -1 -/
def mNow (A : Nat → Nat → Int) (i l : Nat) : Int := if i < l then A 6 i else -1
theorem m_now (H : MM M m q A) (i l : Nat) (hi : q 16 = i) (hl : q 15 = l) (h60 : l ≤ 60) (hi2 : i ≤ 60) : Ct (e_L r0) Γ mX8_now 0 0 0 [vR m] M n (e_rt (.inl (some (vI (mNow A i l)))) M n) := by
  refine g_start ok_X8_now rfl rfl ?_
  refine g_run 0 1 rfl ?_
  refine g_get 1 rfl fl_RX8_187 H.2.1 rfl ?_
  refine g_run 2 1 rfl ?_
  refine g_get 3 rfl fl_RX8_184 H.2.1 rfl ?_
  refine g_icmp_ge 4 23 rfl rfl (by omega) (by omega) (fun c8 => ?_) (fun c8 => ?_)
  · rw [show mNow A i l = -1 from if_neg (by omega)]
    refine g_run 11 1 rfl ?_
    exact g_iret 12 rfl rfl (by first | exact trivial | exact Or.inl rfl | exact Or.inr rfl | (show _ ∨ _; omega)) ⟨rfl, rfl, rfl⟩
  · rw [show mNow A i l = A 6 i from if_pos (by omega)]
    refine g_run 5 1 rfl ?_
    refine g_get 6 rfl fl_RX8_35 H.2.1 rfl ?_
    refine g_run 7 1 rfl ?_
    refine g_get 8 rfl fl_RX8_187 H.2.1 rfl ?_
    refine g_iald 9 i rfl rfl H.2.2.2.2.2.2.2.2.1 hi (by omega) (by decide) ?_
    refine g_run 10 1 rfl ?_
    exact g_iret 12 rfl rfl (by first | exact trivial | exact Or.inl rfl | exact Or.inr rfl | (show _ ∨ _; omega)) ⟨rfl, rfl, rfl⟩
theorem m_isSign (H : MM M m q A) (c : Int) (hc : i32 c) (i l : Nat) (hi : q 16 = i) (hl : q 15 = l) (h60 : l ≤ 60) (hi2 : i ≤ l) (hA : i32 (mNow A i l)) : Ct (e_L r0) Γ mX8_isSign 1 0 0 [vR m, vI c] M n (e_wr (some (vI (if mNow A i l = c then 1 else 0))) n fun M' => MM M' m (va_up q 16 (if mNow A i l = c then (i : Int) + 1 else i)) A ∧ e_fr m (m + 9) M M') := by
  have fr0 : e_fr m (m + 9) M M := e_fr_refl
  refine g_start ok_X8_isSign rfl rfl ?_
  refine g_run 0 1 rfl ?_
  refine g_callV 1 rfl cv_RX8_190 H.2.1 (m_now H i l hi hl h60 (by omega)) rfl rfl (by decide) (by omega) (by omega) (Nat.le_of_ble_eq_true rfl) (e_kr ?_) e_kx
  refine g_run 2 1 rfl ?_
  refine g_icmp_ne 3 12 rfl rfl (by omega) (by omega) (fun c5 => ?_) (fun c5 => ?_)
  · rw [if_neg c5, if_neg c5]
    refine g_run 6 4 rfl ?_
    refine g_get 10 rfl fl_RX8_187 H.2.1 rfl ?_
    rw [hi]
    refine g_run 11 1 rfl ?_
    refine g_if_eq 12 27 rfl rfl (by decide) (fun _ => ?_) (fun c20 => absurd c20 (by decide))
    refine g_run 15 2 rfl ?_
    refine g_put 17 rfl fp_RX8_187 H.2.1 rfl trivial (fun M29 hM29 => ?_)
    have H29 := MM_q16 H hM29
    have fr29 := e_fr_tr fr0 (e_fr_up hM29 (by omega))
    have H9 := H29
    try rw [show (i : Int) + 0 = i from Int.add_zero _] at H9
    refine g_run 18 1 rfl ?_
    exact g_iret 19 rfl rfl (by first | exact trivial | exact Or.inl rfl | exact Or.inr rfl | (show _ ∨ _; omega)) ⟨rfl, rfl, H9, fr29⟩
  · rw [if_pos c5, if_pos c5]
    refine g_run 4 2 rfl ?_
    refine g_run 7 3 rfl ?_
    refine g_get 10 rfl fl_RX8_187 H.2.1 rfl ?_
    rw [hi]
    refine g_run 11 1 rfl ?_
    refine g_if_eq 12 27 rfl rfl (by decide) (fun c20 => absurd c20 (by decide)) (fun _ => ?_)
    refine g_run 13 2 rfl ?_
    refine g_run 16 1 rfl ?_
    refine g_put 17 rfl fp_RX8_187 H.2.1 rfl trivial (fun M29 hM29 => ?_)
    have H29 := MM_q16 H hM29
    have fr29 := e_fr_tr fr0 (e_fr_up hM29 (by omega))
    have H9 := H29
    try rw [show (i : Int) + 0 = i from Int.add_zero _] at H9
    refine g_run 18 1 rfl ?_
    exact g_iret 19 rfl rfl (by first | exact trivial | exact Or.inl rfl | exact Or.inr rfl | (show _ ∨ _; omega)) ⟨rfl, rfl, H9, fr29⟩
theorem m_number1 (H : MM M m q A) (v : Int) (hv : 0 ≤ v ∧ v ≤ 9) (l : Nat) (hl : q 12 = l) (h30 : l < 30) : Ct (e_L r0) Γ mX8_number 1 0 0 [vR m, vI v] M n (e_wr none n fun M' => MM M' m (va_up q 12 ((l : Int) + 1)) (va_up A 5 (va_up (A 5) l (48 + v))) ∧ e_fr m (m + 9) M M') := by
  have fr0 : e_fr m (m + 9) M M := e_fr_refl
  refine g_start ok_X8_number rfl rfl ?_
  refine g_run 0 2 rfl ?_
  refine g_icmp_lt 2 14 rfl rfl (by omega) (by omega) (fun c3 => ?_) (fun c3 => ?_)
  · refine g_run 8 4 rfl ?_
    refine g_irem 12 rfl (by omega) (by omega) ?_
    rw [show v % 10 = v from by omega]
    refine g_run 13 1 rfl ?_
    refine g_callV 14 rfl cv_RX8_181 H.2.1 (m_puts H (48 + v) l hl h30) rfl rfl (by decide) (by omega) (by omega) (Nat.le_of_ble_eq_true rfl) (e_kw fun M22 hq22 => ?_) e_kwx
    have fr22 := e_fr_tr fr0 (e_fr_w hq22.2 (by omega))
    exact g_vret 15 rfl rfl ⟨rfl, rfl, hq22.1, fr22⟩
  · exact absurd c3 (by omega)
theorem m_number2 (H : MM M m q A) (v : Int) (hv : 10 ≤ v ∧ v ≤ 99) (l : Nat) (hl : q 12 = l) (h30 : l + 1 < 30) : Ct (e_L r0) Γ mX8_number 2 0 0 [vR m, vI v] M n (e_wr none n fun M' => MM M' m (va_up q 12 ((l : Int) + 1 + 1)) (va_up A 5 (va_up (va_up (A 5) l (48 + v / 10)) (l + 1) (48 + v % 10))) ∧ e_fr m (m + 9) M M') := by
  have fr0 : e_fr m (m + 9) M M := e_fr_refl
  refine g_start ok_X8_number rfl rfl ?_
  refine g_run 0 2 rfl ?_
  refine g_icmp_lt 2 14 rfl rfl (by omega) (by omega) (fun c3 => ?_) (fun c3 => ?_)
  · exact absurd c3 (by omega)
  · refine g_run 3 3 rfl ?_
    refine g_idiv 6 rfl (by omega) (by omega) ?_
    refine g_callV 7 rfl cv_RX8_178 H.2.1 (m_number1 H (v / 10) (by omega) l hl (by omega)) rfl rfl (by decide) (by omega) (by omega) (Nat.le_of_ble_eq_true rfl) (e_kw fun M11 hq11 => ?_) e_kwx
    have fr11 := e_fr_tr fr0 (e_fr_w hq11.2 (by omega))
    refine g_run 8 4 rfl ?_
    refine g_irem 12 rfl (by omega) (by omega) ?_
    refine g_run 13 1 rfl ?_
    refine g_callV 14 rfl cv_RX8_181 hq11.1.2.1 (m_puts hq11.1 (48 + v % 10) (l + 1) (by rw [va_up_self]; omega) (by omega)) rfl rfl (by decide) (by omega) (by omega) (Nat.le_of_ble_eq_true rfl) (e_kw fun M22 hq22 => ?_) e_kwx
    have fr22 := e_fr_tr fr11 (e_fr_w hq22.2 (by omega))
    have H9 := hq22.1
    rw [up_up, up_up, va_up_self] at H9
    exact g_vret 15 rfl rfl ⟨rfl, rfl, H9, fr22⟩
/-- a text: its length and its characters -/
abbrev TS : Type := Nat × (Nat → Int)
def pP (s : TS) (c : Int) : TS := (s.1 + 1, va_up s.2 s.1 c)
def pN (s : TS) (v : Int) : TS := if v < 10 then pP s (48 + v) else pP (pP s (48 + v / 10)) (48 + v % 10)
theorem pN_len (s : TS) (v : Int) : s.1 < (pN s v).1 ∧ (pN s v).1 ≤ s.1 + 2 := by
  unfold pN
  split
  · show s.1 < s.1 + 1 ∧ s.1 + 1 ≤ s.1 + 2; omega
  · show s.1 < s.1 + 1 + 1 ∧ s.1 + 1 + 1 ≤ s.1 + 2; omega
def MX (M : Mem) (m : Nat) (q : Nat → Int) (A : Nat → Nat → Int) (s : TS) : Prop := MM M m (va_up q 12 (s.1 : Int)) (va_up A 5 s.2)
def pRow (s : TS) (v : Nat → Int) (d off : Nat) : Nat → TS
  | 0 => s
  | k + 1 => pN (pRow s v d off k) (v (7 + 9 * d + (off + k)))
theorem pRow_len (s : TS) (v : Nat → Int) (d off : Nat) : ∀ k : Nat, s.1 ≤ (pRow s v d off k).1 ∧ (pRow s v d off k).1 ≤ s.1 + 2 * k
  | 0 => ⟨Nat.le_refl _, Nat.le_refl _⟩
  | k + 1 => by
    have h1 := pRow_len s v d off k
    have h2 := pN_len (pRow s v d off k) (v (7 + 9 * d + (off + k)))
    show s.1 ≤ (pN (pRow s v d off k) _).1 ∧ (pN (pRow s v d off k) _).1 ≤ s.1 + 2 * (k + 1)
    omega
section MX9
variable {s : TS}
theorem m_putsT (H0 : MX M m q A s) (c : Int) (h30 : s.1 < 30) : Ct (e_L r0) Γ mX8_puts 0 0 0 [vR m, vI c] M n (e_wr none n fun M' => MX M' m q A (pP s c) ∧ e_fr m (m + 9) M M') := by
  have fr0 : e_fr m (m + 9) M M := e_fr_refl
  have H : MM M m (va_up q 12 (s.1 : Int)) (va_up A 5 s.2) := H0
  refine g_start ok_X8_puts rfl rfl ?_
  refine g_run 0 1 rfl ?_
  refine g_get 1 rfl fl_RX8_32 H.2.1 rfl ?_
  refine g_run 2 1 rfl ?_
  refine g_get 3 rfl fl_RX8_175 H.2.1 rfl ?_
  rw [va_up_self]
  refine g_run 4 1 rfl ?_
  refine g_iast 5 s.1 rfl rfl (by decide) H.2.2.2.2.2.2.2.1 (by first | rfl | omega) (by omega) (by decide) (fun M9 hM9 => ?_)
  have H9 := MM_A5 H hM9
  have fr9 := e_fr_tr fr0 (e_fr_up hM9 (by omega))
  rw [va_up_self] at H9
  refine g_run 6 2 rfl ?_
  refine g_get 8 rfl fl_RX8_175 H9.2.1 rfl ?_
  rw [va_up_self]
  refine g_run 9 2 rfl ?_
  refine g_put 11 rfl fp_RX8_175 H9.2.1 rfl trivial (fun M17 hM17 => ?_)
  have H17 := MM_q12 H9 hM17
  have fr17 := e_fr_tr fr9 (e_fr_up hM17 (by omega))
  have H21 := H17
  rw [up_up, up_up] at H21
  exact g_vret 12 rfl rfl ⟨rfl, rfl, H21, fr17⟩
theorem m_number1T (H0 : MX M m q A s) (v : Int) (hv : 0 ≤ v ∧ v ≤ 9) (h30 : s.1 < 30) : Ct (e_L r0) Γ mX8_number 1 0 0 [vR m, vI v] M n (e_wr none n fun M' => MX M' m q A (pP s (48 + v)) ∧ e_fr m (m + 9) M M') := by
  have H : MM M m (va_up q 12 (s.1 : Int)) (va_up A 5 s.2) := H0
  refine g_start ok_X8_number rfl rfl ?_
  refine g_run 0 2 rfl ?_
  refine g_icmp_lt 2 14 rfl rfl (by omega) (by omega) (fun c3 => ?_) (fun c3 => ?_)
  · refine g_run 8 4 rfl ?_
    refine g_irem 12 rfl (by omega) (by omega) ?_
    rw [show v % 10 = v from by omega]
    refine g_run 13 1 rfl ?_
    refine g_callV 14 rfl cv_RX8_181 H.2.1 (m_putsT H0 (48 + v) h30) rfl rfl (by decide) (by omega) (by omega) (Nat.le_of_ble_eq_true rfl) (e_kw fun M22 hq22 => ?_) e_kwx
    exact g_vret 15 rfl rfl ⟨rfl, rfl, hq22.1, hq22.2⟩
  · exact absurd c3 (by omega)
theorem m_numberT (H0 : MX M m q A s) (v : Int) (hv : 0 ≤ v ∧ v ≤ 99) (h30 : s.1 + 1 < 30) : Ct (e_L r0) Γ mX8_number 2 0 0 [vR m, vI v] M n (e_wr none n fun M' => MX M' m q A (pN s v) ∧ e_fr m (m + 9) M M') := by
  have H : MM M m (va_up q 12 (s.1 : Int)) (va_up A 5 s.2) := H0
  refine g_start ok_X8_number rfl rfl ?_
  refine g_run 0 2 rfl ?_
  refine g_icmp_lt 2 14 rfl rfl (by omega) (by omega) (fun c3 => ?_) (fun c3 => ?_)
  · rw [show pN s v = pP s (48 + v) from if_pos c3]
    refine g_run 8 4 rfl ?_
    refine g_irem 12 rfl (by omega) (by omega) ?_
    rw [show v % 10 = v from by omega]
    refine g_run 13 1 rfl ?_
    refine g_callV 14 rfl cv_RX8_181 H.2.1 (m_putsT H0 (48 + v) (by omega)) rfl rfl (by decide) (by omega) (by omega) (Nat.le_of_ble_eq_true rfl) (e_kw fun M22 hq22 => ?_) e_kwx
    exact g_vret 15 rfl rfl ⟨rfl, rfl, hq22.1, hq22.2⟩
  · rw [show pN s v = pP (pP s (48 + v / 10)) (48 + v % 10) from if_neg (by omega)]
    refine g_run 3 3 rfl ?_
    refine g_idiv 6 rfl (by omega) (by omega) ?_
    refine g_callV 7 rfl cv_RX8_178 H.2.1 (m_number1T H0 (v / 10) (by omega) (by omega)) rfl rfl (by decide) (by omega) (by omega) (Nat.le_of_ble_eq_true rfl) (e_kw fun M11 hq11 => ?_) e_kwx
    refine g_run 8 4 rfl ?_
    refine g_irem 12 rfl (by omega) (by omega) ?_
    refine g_run 13 1 rfl ?_
    refine g_callV 14 rfl cv_RX8_181 hq11.1.2.1 (m_putsT hq11.1 (48 + v % 10) (by show s.1 + 1 < 30; omega)) rfl rfl (by decide) (by omega) (by omega) (Nat.le_of_ble_eq_true rfl) (e_kw fun M22 hq22 => ?_) e_kwx
    exact g_vret 15 rfl rfl ⟨rfl, rfl, hq22.1, e_fr_tr hq11.2 hq22.2⟩
end MX9
def rLock (v : Nat → Int) (d : Nat) (f : Nat → Int) : TS := pP (pN (pP (pRow (pP (pRow (0, f) v d 0 3) 47) v d 3 3) 99) (v (7 + 9 * d + 7))) (if vBake v d then 98 else if vOpen v d then 111 else 115)
theorem MX_get {M : Mem} {s : TS} (H : MX M m q A s) : MM M m (va_up q 12 (s.1 : Int)) (va_up A 5 s.2) := H
theorem MX_A {j : Nat} {f : Nat → Int} (hj : j ≠ 5) : va_up A 5 f j = A j := va_up_ne _ _ hj
/-- a loop of digits: the two loops of renderLock -/
abbrev tL (v : Nat → Int) (z : Int) : Int := if vDoor v z then 0 else 1
end MT
