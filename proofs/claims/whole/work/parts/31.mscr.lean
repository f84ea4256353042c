/-! the reference's descriptions (wip/whole/gen/c_mscr.py prints this part) -/
theorem rl1 (f v : Nat → Int) (d : Nat) (k : Nat) : (pRow (0, f) v d 0 k).1 ≤ 2 * k := by have := (pRow_len (0, f) v d 0 k).2; dsimp only at this; omega
theorem rl2 (f v : Nat → Int) (d : Nat) (k : Nat) : (pRow (pP (pRow (0, f) v d 0 3) 47) v d 3 k).1 ≤ 7 + 2 * k := by
  have h1 := (pRow_len (pP (pRow (0, f) v d 0 3) 47) v d 3 k).2
  have h2 := rl1 f v d 3
  have h3 : (pP (pRow (0, f) v d 0 3) 47).1 = (pRow (0, f) v d 0 3).1 + 1 := rfl
  omega
def pOv1 (s : TS) (o : Nat) : TS := pP (pN (if 0 < o then pP s 32 else s) (o : Int)) 58
def pOven (s : TS) (v : Nat → Int) (o : Nat) : TS := if v (61 + 2 * o + 0) = 0 then pP (pOv1 s o) 45 else pN (pP (pN (pOv1 s o) (v (61 + 2 * o + 0) - 1)) 120) (v (61 + 2 * o + 1))
def pOv (v f : Nat → Int) : Nat → TS
  | 0 => (0, f)
  | k + 1 => pOven (pOv v f k) v k
theorem pP_len (s : TS) (c : Int) : (pP s c).1 = s.1 + 1 := rfl
theorem pOv1_len (s : TS) (o : Nat) : (pOv1 s o).1 ≤ s.1 + 4 := by
  unfold pOv1
  rw [pP_len]
  have h := (pN_len (if 0 < o then pP s 32 else s) (o : Int)).2
  have h2 : (if 0 < o then pP s 32 else s).1 ≤ s.1 + 1 := by split <;> (try rw [pP_len]) <;> omega
  omega
theorem pOv_len (v f : Nat → Int) : ∀ k : Nat, (pOv v f k).1 ≤ 9 * k
  | 0 => Nat.le_refl _
  | k + 1 => by
    have h1 := pOv_len v f k
    have h2 := pOv1_len (pOv v f k) k
    show (pOven (pOv v f k) v k).1 ≤ _
    unfold pOven
    split
    · rw [pP_len]; omega
    · have h3 := (pN_len (pOv1 (pOv v f k) k) (v (61 + 2 * k + 0) - 1)).2
      have h4 := (pN_len (pP (pN (pOv1 (pOv v f k) k) (v (61 + 2 * k + 0) - 1)) 120) (v (61 + 2 * k + 1))).2
      rw [pP_len] at h4
      omega
def tOut (l : Nat) (z : Int) : Int := if 0 ≤ z ∧ z ≤ (l : Int) - 1 then 0 else 1
section MS
variable {r0 : Option Nat} {Γ : Cx} {M : Mem} {n m : Nat} {q : Nat → Int} {A : Nat → Nat → Int} {B : Int}
theorem m_renderLock (H : MM M m q A) (hv : Vok B (A 0)) (z : Int) (hz : i32 z) : Ct (e_L r0) Γ mX8_renderLock 4 0 0 [vR m, vI z] M n (e_wr (some (vI (if tD (A 0) z = 0 then ((rLock (A 0) z.toNat (A 5)).1 : Int) else 0))) n fun M' => MM M' m (if tD (A 0) z = 0 then va_up (va_up q 6 0) 12 ((rLock (A 0) z.toNat (A 5)).1 : Int) else va_up q 6 1) (if tD (A 0) z = 0 then va_up A 5 (rLock (A 0) z.toNat (A 5)).2 else A) ∧ e_fr m (m + 9) M M') := by
  have fr0 : e_fr m (m + 9) M M := e_fr_refl
  refine g_start ok_X8_renderLock rfl rfl ?_
  refine g_run 0 3 rfl ?_
  refine g_callV 3 rfl cv_RX8_92 H.2.1 (m_isDoor H hv z hz) rfl rfl (by decide) (by omega) (by omega) (Nat.le_of_ble_eq_true rfl) (e_kr ?_) e_kx
  refine g_if_ne 4 13 rfl rfl b_r (fun c6 => ?_) (fun c6 => ?_)
  · replace c6 := b_1.mp c6
    have q2 := hv.2.2.1
    rw [show tD (A 0) z = 0 from if_pos c6]
    refine g_run 7 2 rfl ?_
    refine g_callV 9 rfl cv_RX8_73 H.2.1 (m_isThrown H _ 1 (by first | exact Or.inl rfl | exact Or.inr rfl | exact b_01)) rfl rfl (by decide) (by omega) (by omega) (Nat.le_of_ble_eq_true rfl) (e_kw fun M15 hq15 => ?_) e_kwx
    have fr15 := e_fr_tr fr0 (e_fr_w hq15.2 (by omega))
    refine g_if_eq 10 23 rfl rfl (by decide) (fun _ => ?_) (fun c18 => absurd c18 (by decide))
    refine g_run 13 2 rfl ?_
    refine g_put 15 rfl fp_RX8_175 hq15.1.2.1 rfl trivial (fun M25 hM25 => ?_)
    have H25 := MM_q12 hq15.1 hM25
    have fr25 := e_fr_tr fr15 (e_fr_up hM25 (by omega))
    refine g_run 16 2 rfl ?_
    refine e_down (P := fun k => ∀ M', MX M' m (va_up q 6 0) A (pRow (0, A 5) (A 0) z.toNat 0 k) → e_fr m (m + 9) M M' → G (e_L r0) Γ mX8_renderLock 4 0 0 _ 30 [some (vR m), some (vI z), some (vI (k : Int))] [] M' n 0 0) 3 ?_ 0 (by omega) M25 (by show MM M25 m (va_up (va_up q 6 0) 12 ((0 : Nat) : Int)) (va_up A 5 (A 5)); rw [up_id]; exact H25) fr25
    intro k hk ih M2 H2 fr2
    have L1 := rl1 (A 5) (A 0) z.toNat k
    refine g_run 18 2 rfl ?_
    refine g_icmp_ge 20 53 rfl rfl (by omega) (by omega) (fun c32 => ?_) (fun c32 => ?_)
    · obtain rfl : k = 3 := by omega
      refine g_run 31 2 rfl ?_
      refine g_callV 33 rfl cv_RX8_181 H2.2.1 (m_putsT (s := (pRow (0, A 5) (A 0) z.toNat 0 3)) H2 47 (by omega)) rfl rfl (by decide) (by omega) (by omega) (Nat.le_of_ble_eq_true rfl) (e_kw fun M56 hq56 => ?_) e_kwx
      have fr56 := e_fr_tr fr2 (e_fr_w hq56.2 (by omega))
      refine g_run 34 2 rfl ?_
      clear ih
      refine e_down (P := fun k => ∀ M', MX M' m (va_up q 6 0) A (pRow (pP (pRow (0, A 5) (A 0) z.toNat 0 3) 47) (A 0) z.toNat 3 k) → e_fr m (m + 9) M M' → G (e_L r0) Γ mX8_renderLock 4 0 0 _ 61 [some (vR m), some (vI z), some (vI (k : Int))] [] M' n 0 0) 3 ?_ 0 (by omega) M56 hq56.1 fr56
      intro k hk ih M2 H2 fr2
      have L2 := rl2 (A 5) (A 0) z.toNat k
      refine g_run 36 2 rfl ?_
      refine g_icmp_ge 38 84 rfl rfl (by omega) (by omega) (fun c63 => ?_) (fun c63 => ?_)
      · obtain rfl : k = 3 := by omega
        have L3 : (pP (pRow (pP (pRow (0, A 5) (A 0) z.toNat 0 3) 47) (A 0) z.toNat 3 3) 99).1 ≤ 14 := by rw [pP_len]; omega
        refine g_run 49 2 rfl ?_
        refine g_callV 51 rfl cv_RX8_181 H2.2.1 (m_putsT (s := (pRow (pP (pRow (0, A 5) (A 0) z.toNat 0 3) 47) (A 0) z.toNat 3 3)) H2 99 (by omega)) rfl rfl (by decide) (by omega) (by omega) (Nat.le_of_ble_eq_true rfl) (e_kw fun M87 hq87 => ?_) e_kwx
        have fr87 := e_fr_tr fr2 (e_fr_w hq87.2 (by omega))
        refine g_run 52 4 rfl ?_
        refine g_callV 56 rfl cv_RX8_55 hq87.1.2.1 (m_of hq87.1 z 7 z.toNat 7 (by omega) rfl (by omega)) rfl rfl (by decide) (by omega) (by omega) (Nat.le_of_ble_eq_true rfl) (e_kr ?_) e_kx
        have q7 := hv.2.2.2.2.2.2.1 z.toNat (by omega)
        have L4 := pN_len (pP (pRow (pP (pRow (0, A 5) (A 0) z.toNat 0 3) 47) (A 0) z.toNat 3 3) 99) (A 0 (7 + 9 * z.toNat + 7))
        refine g_callV 57 rfl cv_RX8_178 hq87.1.2.1 (m_numberT (s := (pP (pRow (pP (pRow (0, A 5) (A 0) z.toNat 0 3) 47) (A 0) z.toNat 3 3) 99)) hq87.1 (A 0 (7 + 9 * z.toNat + 7)) (by omega) (by omega)) rfl rfl (by decide) (by omega) (by omega) (Nat.le_of_ble_eq_true rfl) (e_kw fun M98 hq98 => ?_) e_kwx
        have fr98 := e_fr_tr fr87 (e_fr_w hq98.2 (by omega))
        refine g_run 58 3 rfl ?_
        refine g_callV 61 rfl cv_RX8_59 hq98.1.2.1 (m_bakes hq98.1 (show Vok B (A 0) from hv) z z.toNat (by omega) (by omega)) rfl rfl (by decide) (by omega) (by omega) (Nat.le_of_ble_eq_true rfl) (e_kr ?_) e_kx
        refine g_if_eq 62 115 rfl rfl b_r (fun c107 => ?_) (fun c107 => ?_)
        · replace c107 := b_0.mp c107
          have e9 : (rLock (A 0) z.toNat (A 5)) = pP (pN (pP (pRow (pP (pRow (0, A 5) (A 0) z.toNat 0 3) 47) (A 0) z.toNat 3 3) 99) (A 0 (7 + 9 * z.toNat + 7))) (if vOpen (A 0) z.toNat then 111 else 115) := congrArg (pP _) (if_neg (c := vBake (A 0) z.toNat) c107)
          refine g_run 65 2 rfl ?_
          refine g_callV 67 rfl cv_RX8_101 hq98.1.2.1 (m_open hq98.1 (show Vok B (A 0) from hv) z z.toNat (by omega) (by omega)) rfl rfl (by decide) (by omega) (by omega) (Nat.le_of_ble_eq_true rfl) (e_kr ?_) e_kx
          refine g_if_eq 68 128 rfl rfl b_r (fun c120 => ?_) (fun c120 => ?_)
          · replace c120 := b_0.mp c120
            have e8 : (rLock (A 0) z.toNat (A 5)) = pP (pN (pP (pRow (pP (pRow (0, A 5) (A 0) z.toNat 0 3) 47) (A 0) z.toNat 3 3) 99) (A 0 (7 + 9 * z.toNat + 7))) 115 := by rw [e9, if_neg (c := vOpen (A 0) z.toNat) c120]
            refine g_run 71 1 rfl ?_
            refine g_callV 72 rfl cv_RX8_181 hq98.1.2.1 (m_putsT (s := (pN (pP (pRow (pP (pRow (0, A 5) (A 0) z.toNat 0 3) 47) (A 0) z.toNat 3 3) 99) (A 0 (7 + 9 * z.toNat + 7)))) hq98.1 _ (by omega)) rfl rfl (by decide) (by omega) (by omega) (Nat.le_of_ble_eq_true rfl) (e_kw fun M130 hq130 => ?_) e_kwx
            have fr130 := e_fr_tr fr98 (e_fr_w hq130.2 (by omega))
            refine g_run 73 1 rfl ?_
            refine g_get 74 rfl fl_RX8_175 hq130.1.2.1 rfl ?_
            rw [va_up_self, e8]
            exact g_iret 75 rfl rfl (by first | exact trivial | exact Or.inl rfl | exact Or.inr rfl | (show _ ∨ _; omega)) ⟨rfl, rfl, hq130.1, fr130⟩
          · replace c120 := b_1.mp c120
            have e8 : (rLock (A 0) z.toNat (A 5)) = pP (pN (pP (pRow (pP (pRow (0, A 5) (A 0) z.toNat 0 3) 47) (A 0) z.toNat 3 3) 99) (A 0 (7 + 9 * z.toNat + 7))) 111 := by rw [e9, if_pos (c := vOpen (A 0) z.toNat) c120]
            refine g_run 69 2 rfl ?_
            refine g_callV 72 rfl cv_RX8_181 hq98.1.2.1 (m_putsT (s := (pN (pP (pRow (pP (pRow (0, A 5) (A 0) z.toNat 0 3) 47) (A 0) z.toNat 3 3) 99) (A 0 (7 + 9 * z.toNat + 7)))) hq98.1 _ (by omega)) rfl rfl (by decide) (by omega) (by omega) (Nat.le_of_ble_eq_true rfl) (e_kw fun M130 hq130 => ?_) e_kwx
            have fr130 := e_fr_tr fr98 (e_fr_w hq130.2 (by omega))
            refine g_run 73 1 rfl ?_
            refine g_get 74 rfl fl_RX8_175 hq130.1.2.1 rfl ?_
            rw [va_up_self, e8]
            exact g_iret 75 rfl rfl (by first | exact trivial | exact Or.inl rfl | exact Or.inr rfl | (show _ ∨ _; omega)) ⟨rfl, rfl, hq130.1, fr130⟩
        · replace c107 := b_1.mp c107
          have e8 : (rLock (A 0) z.toNat (A 5)) = pP (pN (pP (pRow (pP (pRow (0, A 5) (A 0) z.toNat 0 3) 47) (A 0) z.toNat 3 3) 99) (A 0 (7 + 9 * z.toNat + 7))) 98 := congrArg (pP _) (if_pos (c := vBake (A 0) z.toNat) c107)
          refine g_run 63 2 rfl ?_
          refine g_callV 72 rfl cv_RX8_181 hq98.1.2.1 (m_putsT (s := (pN (pP (pRow (pP (pRow (0, A 5) (A 0) z.toNat 0 3) 47) (A 0) z.toNat 3 3) 99) (A 0 (7 + 9 * z.toNat + 7)))) hq98.1 _ (by omega)) rfl rfl (by decide) (by omega) (by omega) (Nat.le_of_ble_eq_true rfl) (e_kw fun M130 hq130 => ?_) e_kwx
          have fr130 := e_fr_tr fr98 (e_fr_w hq130.2 (by omega))
          refine g_run 73 1 rfl ?_
          refine g_get 74 rfl fl_RX8_175 hq130.1.2.1 rfl ?_
          rw [va_up_self, e8]
          exact g_iret 75 rfl rfl (by first | exact trivial | exact Or.inl rfl | exact Or.inr rfl | (show _ ∨ _; omega)) ⟨rfl, rfl, hq130.1, fr130⟩
      · refine g_run 39 6 rfl ?_
        refine g_callV 45 rfl cv_RX8_55 H2.2.1 (m_of H2 z (3 + (k : Int)) z.toNat (3 + k) (by omega) (by omega) (by omega)) rfl rfl (by decide) (by omega) (by omega) (Nat.le_of_ble_eq_true rfl) (e_kr ?_) e_kx
        have q1 := hv.2.2.2.2.1 z.toNat (3 + k) (by omega) (by omega)
        refine g_callV 46 rfl cv_RX8_178 H2.2.1 (m_numberT (s := (pRow (pP (pRow (0, A 5) (A 0) z.toNat 0 3) 47) (A 0) z.toNat 3 k)) H2 (A 0 (7 + 9 * z.toNat + (3 + k))) (by omega) (by omega)) rfl rfl (by decide) (by omega) (by omega) (Nat.le_of_ble_eq_true rfl) (e_kw fun M75 hq75 => ?_) e_kwx
        have fr75 := e_fr_tr fr2 (e_fr_w hq75.2 (by omega))
        refine g_run 47 2 rfl ?_
        exact ih (by omega) M75 hq75.1 fr75
    · refine g_run 21 6 rfl ?_
      refine g_callV 27 rfl cv_RX8_55 H2.2.1 (m_of H2 z (0 + (k : Int)) z.toNat (0 + k) (by omega) (by omega) (by omega)) rfl rfl (by decide) (by omega) (by omega) (Nat.le_of_ble_eq_true rfl) (e_kr ?_) e_kx
      have q1 := hv.2.2.2.2.1 z.toNat (0 + k) (by omega) (by omega)
      refine g_callV 28 rfl cv_RX8_178 H2.2.1 (m_numberT (s := (pRow (0, A 5) (A 0) z.toNat 0 k)) H2 (A 0 (7 + 9 * z.toNat + (0 + k))) (by omega) (by omega)) rfl rfl (by decide) (by omega) (by omega) (Nat.le_of_ble_eq_true rfl) (e_kw fun M44 hq44 => ?_) e_kwx
      have fr44 := e_fr_tr fr2 (e_fr_w hq44.2 (by omega))
      refine g_run 29 2 rfl ?_
      exact ih (by omega) M44 hq44.1 fr44
  · replace c6 := b_0.mp c6
    rw [show tD (A 0) z = 1 from if_neg c6]
    refine g_run 5 2 rfl ?_
    refine g_run 8 1 rfl ?_
    refine g_callV 9 rfl cv_RX8_73 H.2.1 (m_isThrown H _ 1 (by first | exact Or.inl rfl | exact Or.inr rfl | exact b_01)) rfl rfl (by decide) (by omega) (by omega) (Nat.le_of_ble_eq_true rfl) (e_kw fun M15 hq15 => ?_) e_kwx
    have fr15 := e_fr_tr fr0 (e_fr_w hq15.2 (by omega))
    refine g_if_eq 10 23 rfl rfl (by decide) (fun c18 => absurd c18 (by decide)) (fun _ => ?_)
    refine g_run 11 1 rfl ?_
    exact g_iret 12 rfl rfl (by first | exact trivial | exact Or.inl rfl | exact Or.inr rfl | (show _ ∨ _; omega)) ⟨rfl, rfl, hq15.1, fr15⟩
theorem m_renderOvens (H : MM M m q A) (hv : Vok B (A 0)) : Ct (e_L r0) Γ mX8_renderOvens 4 0 0 [vR m] M n (e_wr (some (vI ((pOv (A 0) (A 5) 2).1 : Int))) n fun M' => MM M' m (va_up (va_up q 6 0) 12 ((pOv (A 0) (A 5) 2).1 : Int)) (va_up A 5 (pOv (A 0) (A 5) 2).2) ∧ e_fr m (m + 9) M M') := by
  have fr0 : e_fr m (m + 9) M M := e_fr_refl
  refine g_start ok_X8_renderOvens rfl rfl ?_
  refine g_run 0 2 rfl ?_
  refine g_put 2 rfl fp_RX8_41 H.2.1 rfl trivial (fun M2 hM2 => ?_)
  have H2 := MM_q6 H hM2
  have fr2 := e_fr_tr fr0 (e_fr_up hM2 (by omega))
  refine g_run 3 2 rfl ?_
  refine g_put 5 rfl fp_RX8_175 H2.2.1 rfl trivial (fun M7 hM7 => ?_)
  have H7 := MM_q12 H2 hM7
  have fr7 := e_fr_tr fr2 (e_fr_up hM7 (by omega))
  refine g_run 6 2 rfl ?_
  refine e_down (P := fun k => ∀ M', MX M' m (va_up q 6 0) A (pOv (A 0) (A 5) k) → e_fr m (m + 9) M M' → G (e_L r0) Γ mX8_renderOvens 4 0 0 _ 12 [some (vR m), some (vI (k : Int))] [] M' n 0 0) 2 ?_ 0 (by omega) M7 (by show MM M7 m (va_up (va_up q 6 0) 12 ((0 : Nat) : Int)) (va_up A 5 (A 5)); rw [up_id]; exact H7) fr7
  intro k hk ih M2 H2 fr2
  have L1 := pOv_len (A 0) (A 5) k
  have L2 := pOv1_len (pOv (A 0) (A 5) k) k
  refine g_run 8 2 rfl ?_
  refine g_icmp_ge 10 90 rfl rfl (by omega) (by omega) (fun c14 => ?_) (fun c14 => ?_)
  · obtain rfl : k = 2 := by omega
    refine g_run 50 1 rfl ?_
    refine g_get 51 rfl fl_RX8_175 H2.2.1 rfl ?_
    rw [va_up_self]
    exact g_iret 52 rfl rfl (by first | exact trivial | exact Or.inl rfl | exact Or.inr rfl | (show _ ∨ _; omega)) ⟨rfl, rfl, H2, fr2⟩
  · refine g_run 11 1 rfl ?_
    refine g_if_le 12 27 rfl rfl (by omega) (fun c18 => ?_) (fun c18 => ?_)
    · have e1 : pOv1 (pOv (A 0) (A 5) k) k = pP (pN (pOv (A 0) (A 5) k) (k : Int)) 58 := by unfold pOv1; rw [if_neg (by omega)]
      rw [e1, pP_len] at L2
      refine g_run 16 2 rfl ?_
      refine g_callV 18 rfl cv_RX8_178 H2.2.1 (m_numberT H2 (k : Int) (by omega) (by omega)) rfl rfl (by decide) (by omega) (by omega) (Nat.le_of_ble_eq_true rfl) (e_kw fun M29 hq29 => ?_) e_kwx
      have fr29 := e_fr_tr fr2 (e_fr_w hq29.2 (by omega))
      refine g_run 19 2 rfl ?_
      refine g_callV 21 rfl cv_RX8_181 hq29.1.2.1 (m_putsT hq29.1 58 (by omega)) rfl rfl (by decide) (by omega) (by omega) (Nat.le_of_ble_eq_true rfl) (e_kw fun M35 hq35 => ?_) e_kwx
      have fr35 := e_fr_tr fr29 (e_fr_w hq35.2 (by omega))
      refine g_run 22 3 rfl ?_
      refine g_callV 25 rfl cv_RX8_137 hq35.1.2.1 (m_ofOven hq35.1 (k : Int) 0 k 0 rfl rfl (by omega)) rfl rfl (by decide) (by omega) (by omega) (Nat.le_of_ble_eq_true rfl) (e_kr ?_) e_kx
      rw [va_up_ne A _ (show (0 : Nat) ≠ 5 by decide)]
      have q9 : 0 ≤ A 0 (61 + 2 * k + 0) ∧ A 0 (61 + 2 * k + 0) ≤ 6 ∧ 0 ≤ A 0 (61 + 2 * k + 1) ∧ A 0 (61 + 2 * k + 1) ≤ 6 := hv.2.2.2.2.2.2.2.2.1 k (by omega)
      refine g_if_ne 26 56 rfl rfl (by omega) (fun c44 => ?_) (fun c44 => ?_)
      · refine g_run 31 4 rfl ?_
        refine g_callV 35 rfl cv_RX8_137 hq35.1.2.1 (m_ofOven hq35.1 (k : Int) 0 k 0 rfl rfl (by omega)) rfl rfl (by decide) (by omega) (by omega) (Nat.le_of_ble_eq_true rfl) (e_kr ?_) e_kx
        rw [va_up_ne A _ (show (0 : Nat) ≠ 5 by decide)]
        have L5 := pN_len (pOv1 (pOv (A 0) (A 5) k) k) (A 0 (61 + 2 * k + 0) - 1)
        rw [e1] at L5
        have L6 := pP_len
        refine g_run 36 2 rfl ?_
        refine g_callV 38 rfl cv_RX8_178 hq35.1.2.1 (m_numberT hq35.1 (A 0 (61 + 2 * k + 0) - 1) (by omega) (by rw [pP_len]; omega)) rfl rfl (by decide) (by omega) (by omega) (Nat.le_of_ble_eq_true rfl) (e_kw fun M65 hq65 => ?_) e_kwx
        have fr65 := e_fr_tr fr35 (e_fr_w hq65.2 (by omega))
        refine g_run 39 2 rfl ?_
        refine g_callV 41 rfl cv_RX8_181 hq65.1.2.1 (m_putsT hq65.1 120 (by rw [L6] at L5; omega)) rfl rfl (by decide) (by omega) (by omega) (Nat.le_of_ble_eq_true rfl) (e_kw fun M71 hq71 => ?_) e_kwx
        have fr71 := e_fr_tr fr65 (e_fr_w hq71.2 (by omega))
        refine g_run 42 4 rfl ?_
        refine g_callV 46 rfl cv_RX8_137 hq71.1.2.1 (m_ofOven hq71.1 (k : Int) 1 k 1 rfl rfl (by omega)) rfl rfl (by decide) (by omega) (by omega) (Nat.le_of_ble_eq_true rfl) (e_kr ?_) e_kx
        rw [va_up_ne A _ (show (0 : Nat) ≠ 5 by decide)]
        refine g_callV 47 rfl cv_RX8_178 hq71.1.2.1 (m_numberT hq71.1 (A 0 (61 + 2 * k + 1)) (by omega) (by rw [L6]; rw [L6] at L5; omega)) rfl rfl (by decide) (by omega) (by omega) (Nat.le_of_ble_eq_true rfl) (e_kw fun M81 hq81 => ?_) e_kwx
        have fr81 := e_fr_tr fr71 (e_fr_w hq81.2 (by omega))
        refine g_run 48 2 rfl ?_
        have e5 : pOv (A 0) (A 5) (k + 1) = pOven (pOv (A 0) (A 5) k) (A 0) k := rfl
        first
          | exact ih (by omega) _ (by rw [e5, pOven, if_pos c44, e1]; exact hq81.1) fr81
          | exact ih (by omega) _ (by rw [e5, pOven, if_neg c44, e1]; exact hq81.1) fr81
      · refine g_run 27 2 rfl ?_
        refine g_callV 29 rfl cv_RX8_181 hq35.1.2.1 (m_putsT hq35.1 45 (by rw [pP_len]; omega)) rfl rfl (by decide) (by omega) (by omega) (Nat.le_of_ble_eq_true rfl) (e_kw fun M50 hq50 => ?_) e_kwx
        have fr50 := e_fr_tr fr35 (e_fr_w hq50.2 (by omega))
        refine g_run 30 1 rfl ?_
        refine g_run 48 2 rfl ?_
        have e5 : pOv (A 0) (A 5) (k + 1) = pOven (pOv (A 0) (A 5) k) (A 0) k := rfl
        first
          | exact ih (by omega) _ (by rw [e5, pOven, if_pos c44, e1]; exact hq50.1) fr50
          | exact ih (by omega) _ (by rw [e5, pOven, if_neg c44, e1]; exact hq50.1) fr50
    · have e1 : pOv1 (pOv (A 0) (A 5) k) k = pP (pN (pP (pOv (A 0) (A 5) k) 32) (k : Int)) 58 := by unfold pOv1; rw [if_pos (by omega)]
      have L3 := pP_len (pOv (A 0) (A 5) k) 32
      rw [e1, pP_len] at L2
      refine g_run 13 2 rfl ?_
      refine g_callV 15 rfl cv_RX8_181 H2.2.1 (m_putsT (s := (pOv (A 0) (A 5) k)) H2 32 (by omega)) rfl rfl (by decide) (by omega) (by omega) (Nat.le_of_ble_eq_true rfl) (e_kw fun M24 hq24 => ?_) e_kwx
      have fr24 := e_fr_tr fr2 (e_fr_w hq24.2 (by omega))
      refine g_run 16 2 rfl ?_
      refine g_callV 18 rfl cv_RX8_178 hq24.1.2.1 (m_numberT hq24.1 (k : Int) (by omega) (by omega)) rfl rfl (by decide) (by omega) (by omega) (Nat.le_of_ble_eq_true rfl) (e_kw fun M29 hq29 => ?_) e_kwx
      have fr29 := e_fr_tr fr24 (e_fr_w hq29.2 (by omega))
      refine g_run 19 2 rfl ?_
      refine g_callV 21 rfl cv_RX8_181 hq29.1.2.1 (m_putsT hq29.1 58 (by omega)) rfl rfl (by decide) (by omega) (by omega) (Nat.le_of_ble_eq_true rfl) (e_kw fun M35 hq35 => ?_) e_kwx
      have fr35 := e_fr_tr fr29 (e_fr_w hq35.2 (by omega))
      refine g_run 22 3 rfl ?_
      refine g_callV 25 rfl cv_RX8_137 hq35.1.2.1 (m_ofOven hq35.1 (k : Int) 0 k 0 rfl rfl (by omega)) rfl rfl (by decide) (by omega) (by omega) (Nat.le_of_ble_eq_true rfl) (e_kr ?_) e_kx
      rw [va_up_ne A _ (show (0 : Nat) ≠ 5 by decide)]
      have q9 : 0 ≤ A 0 (61 + 2 * k + 0) ∧ A 0 (61 + 2 * k + 0) ≤ 6 ∧ 0 ≤ A 0 (61 + 2 * k + 1) ∧ A 0 (61 + 2 * k + 1) ≤ 6 := hv.2.2.2.2.2.2.2.2.1 k (by omega)
      refine g_if_ne 26 56 rfl rfl (by omega) (fun c44 => ?_) (fun c44 => ?_)
      · refine g_run 31 4 rfl ?_
        refine g_callV 35 rfl cv_RX8_137 hq35.1.2.1 (m_ofOven hq35.1 (k : Int) 0 k 0 rfl rfl (by omega)) rfl rfl (by decide) (by omega) (by omega) (Nat.le_of_ble_eq_true rfl) (e_kr ?_) e_kx
        rw [va_up_ne A _ (show (0 : Nat) ≠ 5 by decide)]
        have L5 := pN_len (pOv1 (pOv (A 0) (A 5) k) k) (A 0 (61 + 2 * k + 0) - 1)
        rw [e1] at L5
        have L6 := pP_len
        refine g_run 36 2 rfl ?_
        refine g_callV 38 rfl cv_RX8_178 hq35.1.2.1 (m_numberT hq35.1 (A 0 (61 + 2 * k + 0) - 1) (by omega) (by rw [pP_len]; omega)) rfl rfl (by decide) (by omega) (by omega) (Nat.le_of_ble_eq_true rfl) (e_kw fun M65 hq65 => ?_) e_kwx
        have fr65 := e_fr_tr fr35 (e_fr_w hq65.2 (by omega))
        refine g_run 39 2 rfl ?_
        refine g_callV 41 rfl cv_RX8_181 hq65.1.2.1 (m_putsT hq65.1 120 (by rw [L6] at L5; omega)) rfl rfl (by decide) (by omega) (by omega) (Nat.le_of_ble_eq_true rfl) (e_kw fun M71 hq71 => ?_) e_kwx
        have fr71 := e_fr_tr fr65 (e_fr_w hq71.2 (by omega))
        refine g_run 42 4 rfl ?_
        refine g_callV 46 rfl cv_RX8_137 hq71.1.2.1 (m_ofOven hq71.1 (k : Int) 1 k 1 rfl rfl (by omega)) rfl rfl (by decide) (by omega) (by omega) (Nat.le_of_ble_eq_true rfl) (e_kr ?_) e_kx
        rw [va_up_ne A _ (show (0 : Nat) ≠ 5 by decide)]
        refine g_callV 47 rfl cv_RX8_178 hq71.1.2.1 (m_numberT hq71.1 (A 0 (61 + 2 * k + 1)) (by omega) (by rw [L6]; rw [L6] at L5; omega)) rfl rfl (by decide) (by omega) (by omega) (Nat.le_of_ble_eq_true rfl) (e_kw fun M81 hq81 => ?_) e_kwx
        have fr81 := e_fr_tr fr71 (e_fr_w hq81.2 (by omega))
        refine g_run 48 2 rfl ?_
        have e5 : pOv (A 0) (A 5) (k + 1) = pOven (pOv (A 0) (A 5) k) (A 0) k := rfl
        first
          | exact ih (by omega) _ (by rw [e5, pOven, if_pos c44, e1]; exact hq81.1) fr81
          | exact ih (by omega) _ (by rw [e5, pOven, if_neg c44, e1]; exact hq81.1) fr81
      · refine g_run 27 2 rfl ?_
        refine g_callV 29 rfl cv_RX8_181 hq35.1.2.1 (m_putsT hq35.1 45 (by rw [pP_len]; omega)) rfl rfl (by decide) (by omega) (by omega) (Nat.le_of_ble_eq_true rfl) (e_kw fun M50 hq50 => ?_) e_kwx
        have fr50 := e_fr_tr fr35 (e_fr_w hq50.2 (by omega))
        refine g_run 30 1 rfl ?_
        refine g_run 48 2 rfl ?_
        have e5 : pOv (A 0) (A 5) (k + 1) = pOven (pOv (A 0) (A 5) k) (A 0) k := rfl
        first
          | exact ih (by omega) _ (by rw [e5, pOven, if_pos c44, e1]; exact hq50.1) fr50
          | exact ih (by omega) _ (by rw [e5, pOven, if_neg c44, e1]; exact hq50.1) fr50
theorem m_outputAt (H : MM M m q A) (l : Nat) (hl : q 12 = l) (h30 : l ≤ 30) (hA : ∀ j, j < l → 0 ≤ A 5 j ∧ A 5 j ≤ 127) (z : Int) (hz : i32 z) : Ct (e_L r0) Γ mX8_outputAt 1 0 0 [vR m, vI z] M n (e_wr (some (vI (if tOut l z = 0 then A 5 z.toNat else 0))) n fun M' => MM M' m (va_up q 6 (tOut l z)) A ∧ e_fr m (m + 9) M M') := by
  have fr0 : e_fr m (m + 9) M M := e_fr_refl
  refine g_start ok_X8_outputAt rfl rfl ?_
  refine g_run 0 4 rfl ?_
  refine g_get 4 rfl fl_RX8_175 H.2.1 rfl ?_
  rw [hl]
  refine g_run 5 2 rfl ?_
  refine g_callS 7 rfl cs_RX8_51 (m_isIn z 0 ((l : Int) - 1) hz (by omega) (by omega)) rfl rfl (by decide) (by omega) (by omega) (Nat.le_of_ble_eq_true rfl) (e_kr ?_) e_kx
  refine g_if_ne 8 19 rfl rfl b_r (fun c12 => ?_) (fun c12 => ?_)
  · replace c12 := b_1.mp c12
    have q1 := hA z.toNat (by omega)
    rw [show tOut l z = 0 from if_pos c12]
    refine g_run 11 2 rfl ?_
    refine g_callV 13 rfl cv_RX8_73 H.2.1 (m_isThrown H _ 1 (by first | exact Or.inl rfl | exact Or.inr rfl | exact b_01)) rfl rfl (by decide) (by omega) (by omega) (Nat.le_of_ble_eq_true rfl) (e_kw fun M21 hq21 => ?_) e_kwx
    have fr21 := e_fr_tr fr0 (e_fr_w hq21.2 (by omega))
    refine g_if_eq 14 31 rfl rfl (by decide) (fun _ => ?_) (fun c24 => absurd c24 (by decide))
    refine g_run 17 1 rfl ?_
    refine g_get 18 rfl fl_RX8_32 hq21.1.2.1 rfl ?_
    refine g_run 19 1 rfl ?_
    refine g_iald 20 z.toNat rfl rfl hq21.1.2.2.2.2.2.2.2.1 (by first | rfl | omega) (by omega) (by decide) ?_
    refine g_i2c 21 rfl (sx_i2c (by omega)) ?_
    exact g_cret 22 rfl rfl (by omega) ⟨rfl, rfl, hq21.1, fr21⟩
  · replace c12 := b_0.mp c12
    rw [show tOut l z = 1 from if_neg c12]
    refine g_run 9 2 rfl ?_
    refine g_run 12 1 rfl ?_
    refine g_callV 13 rfl cv_RX8_73 H.2.1 (m_isThrown H _ 1 (by first | exact Or.inl rfl | exact Or.inr rfl | exact b_01)) rfl rfl (by decide) (by omega) (by omega) (Nat.le_of_ble_eq_true rfl) (e_kw fun M21 hq21 => ?_) e_kwx
    have fr21 := e_fr_tr fr0 (e_fr_w hq21.2 (by omega))
    refine g_if_eq 14 31 rfl rfl (by decide) (fun c24 => absurd c24 (by decide)) (fun _ => ?_)
    refine g_run 15 2 rfl ?_
    exact g_cret 22 rfl rfl (by omega) ⟨rfl, rfl, hq21.1, fr21⟩
end MS
