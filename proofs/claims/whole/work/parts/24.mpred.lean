/-! the reference's predictions and rankings (wip/whole/gen/c_mpred.py prints this part) -/
def tDA (v : Nat → Int) (z d x : Int) : Int := if vDoor v z ∧ 0 ≤ d ∧ d ≤ 2 then (if 0 ≤ x ∧ x ≤ 60 then 0 else 2) else 1
theorem up_2 {A : Nat → Nat → Int} : va_up (va_up A 2 (A 0)) 0 (A 0) = va_up A 2 (A 0) := up_id (f := va_up A 2 (A 0)) (k := 0)
section MP
variable {r0 : Option Nat} {Γ : Cx} {M : Mem} {n m : Nat} {q : Nat → Int} {A : Nat → Nat → Int} {B : Int}
theorem m_dialAfter (H : MM M m q A) (hv : Vok B (A 0)) (hV : Vh B (A 0)) (hB : B ≤ 900000000) (z d x : Int) (hz : i32 z) (hd : i32 d) (hx : i32 x) : Ct (e_L r0) Γ mX8_dialAfter 5 0 0 [vR m, vI z, vI d, vI x] M n (e_wr (some (vI (if tDA (A 0) z d x = 0 then mHrs (A 0) x.toNat (7 + 9 * z.toNat + (0 + d.toNat)) else 0))) n fun M' => MM M' m (va_up q 6 (tDA (A 0) z d x)) (if tDA (A 0) z d x = 0 then va_up A 2 (A 0) else A) ∧ e_fr m (m + 9) M M') := by
  have fr0 : e_fr m (m + 9) M M := e_fr_refl
  refine g_start ok_X8_dialAfter rfl rfl ?_
  refine g_run 0 3 rfl ?_
  refine g_callV 3 rfl cv_RX8_92 H.2.1 (m_isDoor H hv z hz) rfl rfl (by decide) (by omega) (by omega) (Nat.le_of_ble_eq_true rfl) (e_kr ?_) e_kx
  refine g_if_eq 4 16 rfl rfl b_r (fun c6 => ?_) (fun c6 => ?_)
  · replace c6 := b_0.mp c6
    rw [show tDA (A 0) z d x = 1 from if_neg (fun e => c6 e.1)]
    refine g_run 8 2 rfl ?_
    refine g_run 11 1 rfl ?_
    refine g_callV 12 rfl cv_RX8_73 H.2.1 (m_isThrown H _ 1 (by first | exact Or.inl rfl | exact Or.inr rfl | exact b_01)) rfl rfl (by decide) (by omega) (by omega) (Nat.le_of_ble_eq_true rfl) (e_kw fun M22 hq22 => ?_) e_kwx
    have fr22 := e_fr_tr fr0 (e_fr_w hq22.2 (by omega))
    refine g_if_ne 13 51 rfl rfl (by decide) (fun _ => ?_) (fun c25 => absurd c25 (by decide))
    refine g_run 26 1 rfl ?_
    have H9 := hq22.1
    try rw [up_up] at H9
    exact g_iret 27 rfl rfl (by first | exact trivial | exact Or.inl rfl | exact Or.inr rfl | (show _ ∨ _; omega)) ⟨rfl, rfl, H9, fr22⟩
  · replace c6 := b_1.mp c6
    refine g_run 5 1 rfl ?_
    refine g_callS 6 rfl cs_RX8_95 (m_isDial d hd) rfl rfl (by decide) (by omega) (by omega) (Nat.le_of_ble_eq_true rfl) (e_kr ?_) e_kx
    refine g_if_ne 7 20 rfl rfl b_r (fun c13 => ?_) (fun c13 => ?_)
    · replace c13 := b_1.mp c13
      have q2 := hv.2.2.1
      refine g_run 10 2 rfl ?_
      refine g_callV 12 rfl cv_RX8_73 H.2.1 (m_isThrown H _ 1 (by first | exact Or.inl rfl | exact Or.inr rfl | exact b_01)) rfl rfl (by decide) (by omega) (by omega) (Nat.le_of_ble_eq_true rfl) (e_kw fun M22 hq22 => ?_) e_kwx
      have fr22 := e_fr_tr fr0 (e_fr_w hq22.2 (by omega))
      refine g_if_ne 13 51 rfl rfl (by decide) (fun c25 => absurd c25 (by decide)) (fun _ => ?_)
      refine g_run 14 4 rfl ?_
      refine g_callS 18 rfl cs_RX8_51 (m_isIn x 0 60 hx (by omega) (by omega)) rfl rfl (by decide) (by omega) (by omega) (Nat.le_of_ble_eq_true rfl) (e_kr ?_) e_kx
      refine g_if_ne 19 43 rfl rfl b_r (fun c36 => ?_) (fun c36 => ?_)
      · replace c36 := b_1.mp c36
        rw [show tDA (A 0) z d x = 0 from (if_pos ⟨c6, c13⟩).trans (if_pos c36)]
        refine g_run 22 2 rfl ?_
        refine g_callV 24 rfl cv_RX8_73 hq22.1.2.1 (m_isThrown hq22.1 _ 2 (by first | exact Or.inl rfl | exact Or.inr rfl | exact b_01)) rfl rfl (by decide) (by omega) (by omega) (Nat.le_of_ble_eq_true rfl) (e_kw fun M45 hq45 => ?_) e_kwx
        have fr45 := e_fr_tr fr22 (e_fr_w hq45.2 (by omega))
        refine g_if_eq 25 53 rfl rfl (by decide) (fun _ => ?_) (fun c48 => absurd c48 (by decide))
        refine g_run 28 1 rfl ?_
        refine g_get 29 rfl fl_RX8_9 hq45.1.2.1 rfl ?_
        refine g_run 30 2 rfl ?_
        refine g_get 32 rfl fl_RX8_16 hq45.1.2.1 rfl ?_
        refine g_run 33 1 rfl ?_
        refine g_callS 34 rfl cs_RX8_44 (m_copies hq45.1.2.2.1 hq45.1.2.2.2.2.1 (by omega) 0 0 0 0 rfl rfl (by omega) (by omega) (by omega) (by omega)) rfl rfl (by decide) (by omega) (by omega) (Nat.le_of_ble_eq_true rfl) (e_kw fun M63 hM63 => ?_) e_kwx
        have H63 := MM_A2 hq45.1 hM63
        have fr63 := e_fr_tr fr45 (e_fr_up hM63 (by omega))
        refine g_nI (A 0) (by have := H.1; omega) H63.2.2.2.2.1 (fun _ => e_cpy0) (fun M64 hM64 => ?_)
        have H64 := MM_A2 H63 hM64
        have fr64 := e_fr_tr fr63 (e_fr_up hM64 (by omega))
        rw [up_up] at H64
        refine g_run 35 2 rfl ?_
        refine e_down (P := fun k => ∀ M', MM M' m (va_up q 6 0) (va_up (va_up A 2 (A 0)) 0 (mHrs (A 0) k)) → e_fr m (m + 9) M M' → G (e_L r0) Γ mX8_dialAfter 5 0 0 _ 69 [some (vR m), some (vI z), some (vI d), some (vI x), some (vI (k : Int))] [] M' n 0 0) x.toNat ?_ 0 (by omega) M64 (by have H9 := H64; rw [up_up] at H9; rw [show mHrs (A 0) 0 = A 0 from rfl, up_2]; exact H9) fr64
        intro k hk ih M2 H2 fr2
        refine g_run 37 2 rfl ?_
        refine g_icmp_ge 39 85 rfl rfl (by omega) (by omega) (fun c72 => ?_) (fun c72 => ?_)
        · obtain rfl : k = x.toNat := by omega
          refine g_run 44 5 rfl ?_
          refine g_callV 49 rfl cv_RX8_55 H2.2.1 (m_of H2 z (0 + d) z.toNat (0 + d.toNat) (by omega) (by omega) (by omega)) rfl rfl (by decide) (by omega) (by omega) (Nat.le_of_ble_eq_true rfl) (e_kr ?_) e_kx
          rw [va_up_self]
          refine g_run 50 2 rfl ?_
          refine g_get 52 rfl fl_RX8_16 H2.2.1 rfl ?_
          refine g_run 53 2 rfl ?_
          refine g_get 55 rfl fl_RX8_9 H2.2.1 rfl ?_
          refine g_run 56 1 rfl ?_
          refine g_callS 57 rfl cs_RX8_44 (m_copies H2.2.2.2.2.1 H2.2.2.1 (by omega) 0 0 0 0 rfl rfl (by omega) (by omega) (by omega) (by omega)) rfl rfl (by decide) (by omega) (by omega) (Nat.le_of_ble_eq_true rfl) (e_kw fun M105 hM105 => ?_) e_kwx
          have H105 := MM_A0 H2 hM105
          have fr105 := e_fr_tr fr2 (e_fr_up hM105 (by omega))
          refine g_nI (A 0) (by have := H.1; omega) H105.2.2.1 (fun _ => e_cpy0) (fun M106 hM106 => ?_)
          have H106 := MM_A0 H105 hM106
          have fr106 := e_fr_tr fr105 (e_fr_up hM106 (by omega))
          rw [up_up, up_up, up_2] at H106
          refine g_run 58 1 rfl ?_
          exact g_iret 59 rfl rfl (by first | exact trivial | exact Or.inl rfl | exact Or.inr rfl | (show _ ∨ _; omega)) ⟨rfl, rfl, H106, fr106⟩
        · refine g_run 40 1 rfl ?_
          refine g_callV 41 rfl cv_RX8_153 H2.2.1 (m_hour (B := B + 3 * k) H2 (by rw [va_up_self]; exact Vh_hrs hV k (by omega)) (by omega)) rfl rfl (by decide) (by omega) (by omega) (Nat.le_of_ble_eq_true rfl) (e_kw fun M76 hq76 => ?_) e_kwx
          have fr76 := e_fr_tr fr2 (e_fr_w hq76.2 (by omega))
          refine g_run 42 2 rfl ?_
          have H9 := hq76.1
          rw [up_up, va_up_self] at H9
          exact ih (by omega) M76 H9 fr76
      · replace c36 := b_0.mp c36
        rw [show tDA (A 0) z d x = 2 from (if_pos ⟨c6, c13⟩).trans (if_neg c36)]
        refine g_run 20 2 rfl ?_
        refine g_run 23 1 rfl ?_
        refine g_callV 24 rfl cv_RX8_73 hq22.1.2.1 (m_isThrown hq22.1 _ 2 (by first | exact Or.inl rfl | exact Or.inr rfl | exact b_01)) rfl rfl (by decide) (by omega) (by omega) (Nat.le_of_ble_eq_true rfl) (e_kw fun M45 hq45 => ?_) e_kwx
        have fr45 := e_fr_tr fr22 (e_fr_w hq45.2 (by omega))
        refine g_if_eq 25 53 rfl rfl (by decide) (fun c48 => absurd c48 (by decide)) (fun _ => ?_)
        refine g_run 26 1 rfl ?_
        have H9 := hq45.1
        try rw [up_up] at H9
        exact g_iret 27 rfl rfl (by first | exact trivial | exact Or.inl rfl | exact Or.inr rfl | (show _ ∨ _; omega)) ⟨rfl, rfl, H9, fr45⟩
    · replace c13 := b_0.mp c13
      rw [show tDA (A 0) z d x = 1 from if_neg (fun e => c13 e.2)]
      refine g_run 8 2 rfl ?_
      refine g_run 11 1 rfl ?_
      refine g_callV 12 rfl cv_RX8_73 H.2.1 (m_isThrown H _ 1 (by first | exact Or.inl rfl | exact Or.inr rfl | exact b_01)) rfl rfl (by decide) (by omega) (by omega) (Nat.le_of_ble_eq_true rfl) (e_kw fun M22 hq22 => ?_) e_kwx
      have fr22 := e_fr_tr fr0 (e_fr_w hq22.2 (by omega))
      refine g_if_ne 13 51 rfl rfl (by decide) (fun _ => ?_) (fun c25 => absurd c25 (by decide))
      refine g_run 26 1 rfl ?_
      have H9 := hq22.1
      try rw [up_up] at H9
      exact g_iret 27 rfl rfl (by first | exact trivial | exact Or.inl rfl | exact Or.inr rfl | (show _ ∨ _; omega)) ⟨rfl, rfl, H9, fr22⟩
def vRank (v : Nat → Int) (d : Nat) : Nat → Int
  | 0 => 0
  | k + 1 => vRank v d k + (if k ≠ d ∧ vAhead v k d then 1 else 0)
theorem vRank_rng (v : Nat → Int) (d : Nat) : ∀ k : Nat, 0 ≤ vRank v d k ∧ vRank v d k ≤ k
  | 0 => by simp [vRank]
  | k + 1 => by
    have := vRank_rng v d k
    unfold vRank
    split <;> omega
theorem m_doorByCrumbs (H : MM M m q A) (hv : Vok B (A 0)) (rk : Int) (hk : i32 rk) : Ct (e_L r0) Γ mX8_doorByCrumbs 4 0 0 [vR m, vI rk] M n (fun r' M' n' => n' = n ∧ e_fr m (m + 9) M M' ∧ ((∃ d : Nat, (d : Int) < A 0 2 ∧ vRank (A 0) d (A 0 2).toNat = rk ∧ (∀ e : Nat, e < d → vRank (A 0) e (A 0 2).toNat ≠ rk) ∧ r' = .inl (some (vI (d : Int))) ∧ MM M' m (va_up q 6 0) A) ∨ ((∀ e : Nat, (e : Int) < A 0 2 → vRank (A 0) e (A 0 2).toNat ≠ rk) ∧ r' = .inl (some (vI 0)) ∧ MM M' m (va_up q 6 1) A))) := by
  have fr0 : e_fr m (m + 9) M M := e_fr_refl
  refine g_start ok_X8_doorByCrumbs rfl rfl ?_
  refine g_run 0 2 rfl ?_
  refine e_down (P := fun d => (∀ e : Nat, e < d → vRank (A 0) e (A 0 2).toNat ≠ rk) → ∀ x y : Option aV, G (e_L r0) Γ mX8_doorByCrumbs 4 0 0 (fun r' M' n' => n' = n ∧ e_fr m (m + 9) M M' ∧ ((∃ d : Nat, (d : Int) < A 0 2 ∧ vRank (A 0) d (A 0 2).toNat = rk ∧ (∀ e : Nat, e < d → vRank (A 0) e (A 0 2).toNat ≠ rk) ∧ r' = .inl (some (vI (d : Int))) ∧ MM M' m (va_up q 6 0) A) ∨ ((∀ e : Nat, (e : Int) < A 0 2 → vRank (A 0) e (A 0 2).toNat ≠ rk) ∧ r' = .inl (some (vI 0)) ∧ MM M' m (va_up q 6 1) A))) 2 [some (vR m), some (vI rk), some (vI (d : Int)), x, y] [] M n 0 0) (A 0 2).toNat ?_ 0 (by omega) (fun e h => by omega) _ _
  have q2 := hv.2.2.1
  intro d hd ih hno x y
  refine g_run 2 2 rfl ?_
  refine g_get 4 rfl fl_RX8_9 H.2.1 rfl ?_
  refine g_run 5 1 rfl ?_
  refine g_iald 6 2 rfl rfl H.2.2.1 (by first | rfl | omega) (by omega) (by decide) ?_
  refine g_icmp_ge 7 76 rfl rfl (by omega) (by omega) (fun c9 => ?_) (fun c9 => ?_)
  · have ed : d = (A 0 2).toNat := by omega
    refine g_run 44 2 rfl ?_
    refine g_put 46 rfl fp_RX8_41 H.2.1 rfl trivial (fun M78 hM78 => ?_)
    have H78 := MM_q6 H hM78
    have fr78 := e_fr_tr fr0 (e_fr_up hM78 (by omega))
    refine g_run 47 1 rfl ?_
    exact g_iret 48 rfl rfl (by first | exact trivial | exact Or.inl rfl | exact Or.inr rfl | (show _ ∨ _; omega)) ⟨rfl, fr78, Or.inr ⟨fun e he => hno e (by omega), rfl, H78⟩⟩
  · refine g_run 8 4 rfl ?_
    refine e_down (P := fun k => G (e_L r0) Γ mX8_doorByCrumbs 4 0 0 _ 17 [some (vR m), some (vI rk), some (vI (d : Int)), some (vI (vRank (A 0) d k)), some (vI (k : Int))] [] M n 0 0) (A 0 2).toNat ?_ 0 (by omega)
    intro k hk2 ih2
    have qr := vRank_rng (A 0) d k
    refine g_run 12 2 rfl ?_
    refine g_get 14 rfl fl_RX8_9 H.2.1 rfl ?_
    refine g_run 15 1 rfl ?_
    refine g_iald 16 2 rfl rfl H.2.2.1 (by first | rfl | omega) (by omega) (by decide) ?_
    refine g_icmp_ge 17 58 rfl rfl (by omega) (by omega) (fun c25 => ?_) (fun c25 => ?_)
    · have ek : k = (A 0 2).toNat := by omega
      subst ek
      refine g_run 34 2 rfl ?_
      refine g_icmp_ne 36 70 rfl rfl (by omega) (by omega) (fun c60 => ?_) (fun c60 => ?_)
      · refine g_run 42 2 rfl ?_
        exact ih (by omega) (fun e he => by by_cases e9 : e = d; exact e9 ▸ c60; exact hno e (by omega)) _ _
      · refine g_run 37 2 rfl ?_
        refine g_put 39 rfl fp_RX8_41 H.2.1 rfl trivial (fun M65 hM65 => ?_)
        have H65 := MM_q6 H hM65
        have fr65 := e_fr_tr fr0 (e_fr_up hM65 (by omega))
        refine g_run 40 1 rfl ?_
        exact g_iret 41 rfl rfl (by first | exact trivial | exact Or.inl rfl | exact Or.inr rfl | (show _ ∨ _; omega)) ⟨rfl, fr65, Or.inl ⟨d, by omega, c60, hno, rfl, H65⟩⟩
    · refine g_run 18 3 rfl ?_
      refine g_icmp_eq 21 49 rfl rfl (by omega) (by omega) (fun c32 => ?_) (fun c32 => ?_)
      · have ih9 := ih2 (by omega)
        rw [show vRank (A 0) d (k + 1) = vRank (A 0) d k + 0 from by rw [vRank, if_neg (fun e => e.1 (by omega))]] at ih9
        refine g_run 29 5 rfl ?_
        exact ih9
      · refine g_run 22 3 rfl ?_
        refine g_callV 25 rfl cv_RX8_165 H.2.1 (m_isAhead H hv k d (by omega) (by omega)) rfl rfl (by decide) (by omega) (by omega) (Nat.le_of_ble_eq_true rfl) (e_kr ?_) e_kx
        refine g_if_eq 26 49 rfl rfl b_r (fun c42 => ?_) (fun c42 => ?_)
        · replace c42 := b_0.mp c42
          have ih9 := ih2 (by omega)
          rw [show vRank (A 0) d (k + 1) = vRank (A 0) d k + 0 from by rw [vRank, if_neg (fun e => c42 e.2)]] at ih9
          refine g_run 29 5 rfl ?_
          exact ih9
        · replace c42 := b_1.mp c42
          have ih9 := ih2 (by omega)
          rw [show vRank (A 0) d (k + 1) = vRank (A 0) d k + 1 from by rw [vRank, if_pos ⟨by omega, c42⟩]] at ih9
          refine g_run 27 2 rfl ?_
          refine g_run 30 4 rfl ?_
          exact ih9
def vTub (v : Nat → Int) (d : Nat) : Nat → Int → Int
  | 0, _ => 0
  | k + 1, c => if 20 ≤ c then 0 else if vMis v d (c / 5) 3 = 0 then -100 else 1 + vTub v d k (if c + vMis v d (c / 5) 3 ≤ 20 then c + vMis v d (c / 5) 3 else 20)
theorem vTub_rng (v : Nat → Int) (d : Nat) : ∀ (k : Nat) (c : Int), -100 ≤ vTub v d k c ∧ vTub v d k c ≤ k
  | 0, c => by simp [vTub]
  | k + 1, c => by
    have := vTub_rng v d k (if c + vMis v d (c / 5) 3 ≤ 20 then c + vMis v d (c / 5) 3 else 20)
    unfold vTub
    generalize vTub v d k (if c + vMis v d (c / 5) 3 ≤ 20 then c + vMis v d (c / 5) 3 else 20) = w at this ⊢
    (repeat' split) <;> omega
theorem vTub_neg (v : Nat → Int) (d : Nat) : ∀ (k : Nat) (c : Int), k ≤ 40 → vTub v d k c < 0 → vTub v d k c ≤ -100 + k
  | 0, c, _, h => by simp [vTub] at h
  | k + 1, c, hk, h => by
    have h9 := vTub_neg v d k (if c + vMis v d (c / 5) 3 ≤ 20 then c + vMis v d (c / 5) 3 else 20) (by omega)
    unfold vTub at h ⊢
    generalize vTub v d k (if c + vMis v d (c / 5) 3 ≤ 20 then c + vMis v d (c / 5) 3 else 20) = w at h h9 ⊢
    by_cases e1 : 20 ≤ c
    · rw [if_pos e1] at h; omega
    · rw [if_neg e1] at h ⊢
      by_cases e2 : vMis v d (c / 5) 3 = 0
      · rw [if_pos e2]; omega
      · rw [if_neg e2] at h ⊢
        have := h9 (by omega)
        omega
theorem m_tub9 {Q : Rv → Mem → Nat → Prop} (hv : Vok B (A 0)) (z : Int) (d : Nat) (hz : z = d) (hd : d < 6) : ∀ (k : Nat) (M : Mem) (c t : Int) (x : Option aV), 0 ≤ c ∧ c ≤ 20 → 20 - c < k ∧ k ≤ 40 → 0 ≤ t ∧ t ≤ 1000 - k → MM M m (va_up q 6 0) A →
    (∀ M', MM M' m (va_up q 6 (if vTub (A 0) d k c < 0 then 2 else 0)) A → e_fr m (m + 9) M M' → Q (.inl (some (vI (if vTub (A 0) d k c < 0 then 0 else t + vTub (A 0) d k c)))) M' n) →
    G (e_L r0) Γ mX8_triesUntilBroken 4 0 0 Q 33 [some (vR m), some (vI z), some (vI c), some (vI t), x] [] M n 0 0 := by
  intro k
  induction k with
  | zero => intro M c t x hc hk; omega
  | succ k ih =>
    intro M c t x hc hk ht H hQ
    have fr0 : e_fr m (m + 9) M M := e_fr_refl
    refine g_run 20 2 rfl ?_
    refine g_icmp_ge 22 82 rfl rfl (by omega) (by omega) (fun c36 => ?_) (fun c36 => ?_)
    · have hQ := hQ M
      rw [show vTub (A 0) d (k + 1) c = 0 from by rw [vTub, if_pos (by omega)]] at hQ
      rw [if_neg (by decide), if_neg (by decide), Int.add_zero] at hQ
      refine g_run 47 1 rfl ?_
      exact g_iret 48 rfl rfl (by first | exact trivial | exact Or.inl rfl | exact Or.inr rfl | (show _ ∨ _; omega)) (hQ H fr0)
    · refine g_run 23 4 rfl ?_
      refine g_idiv 27 rfl (by omega) (by omega) ?_
      refine g_callV 28 rfl cv_RX8_107 H.2.1 (m_misfits H hv z d hz hd (c / 5) (by omega)) rfl rfl (by decide) (by omega) (by omega) (Nat.le_of_ble_eq_true rfl) (e_kr ?_) e_kx
      have qm := vMis_rng (A 0) d (c / 5) 3
      refine g_run 29 3 rfl ?_
      refine g_if_ne 32 59 rfl rfl (by omega) (fun c52 => ?_) (fun c52 => ?_)
      · refine g_run 35 2 rfl ?_
        refine g_callV 37 rfl cv_RX8_73 H.2.1 (m_isThrown H _ 2 (by first | exact Or.inl rfl | exact Or.inr rfl | exact b_01)) rfl rfl (by decide) (by omega) (by omega) (Nat.le_of_ble_eq_true rfl) (e_kw fun M61 hq61 => ?_) e_kwx
        have fr61 := e_fr_tr fr0 (e_fr_w hq61.2 (by omega))
        refine g_if_eq 38 69 rfl rfl (by decide) (fun _ => ?_) (fun c64 => absurd c64 (by decide))
        refine g_run 41 2 rfl ?_
        refine g_callS 43 rfl cs_RX8_110 (m_crumbled c _ hc qm) rfl rfl (by decide) (by omega) (by omega) (Nat.le_of_ble_eq_true rfl) (e_kr ?_) e_kx
        refine g_run 44 3 rfl ?_
        have H9 := hq61.1
        rw [up_up] at H9
        have c9 : 0 ≤ (if c + vMis (A 0) d (c / 5) 3 ≤ 20 then c + vMis (A 0) d (c / 5) 3 else 20) ∧ (if c + vMis (A 0) d (c / 5) 3 ≤ 20 then c + vMis (A 0) d (c / 5) 3 else 20) ≤ 20 ∧ c + 1 ≤ (if c + vMis (A 0) d (c / 5) 3 ≤ 20 then c + vMis (A 0) d (c / 5) 3 else 20) := by split <;> omega
        have r9 := vTub_rng (A 0) d k (if c + vMis (A 0) d (c / 5) 3 ≤ 20 then c + vMis (A 0) d (c / 5) 3 else 20)
        refine ih M61 _ (t + 1) _ ⟨c9.1, c9.2.1⟩ (by omega) (by omega) H9 (fun M' h1 h2 => ?_)
        have hQ9 := hQ M'
        rw [show vTub (A 0) d (k + 1) c = 1 + vTub (A 0) d k (if c + vMis (A 0) d (c / 5) 3 ≤ 20 then c + vMis (A 0) d (c / 5) 3 else 20) from by rw [vTub, if_neg (by omega), if_neg c52]] at hQ9
        by_cases e9 : vTub (A 0) d k (if c + vMis (A 0) d (c / 5) 3 ≤ 20 then c + vMis (A 0) d (c / 5) 3 else 20) < 0
        · by_cases e8 : 1 + vTub (A 0) d k (if c + vMis (A 0) d (c / 5) 3 ≤ 20 then c + vMis (A 0) d (c / 5) 3 else 20) < 0
          · rw [if_pos e8, if_pos e8] at hQ9
            rw [if_pos e9] at h1 ⊢
            exact hQ9 h1 (e_fr_tr fr61 h2)
          · have n9 := vTub_neg (A 0) d k _ (by omega) e9
            omega
        · rw [if_neg (by omega), if_neg (by omega)] at hQ9
          rw [if_neg e9] at h1 ⊢
          rw [show t + 1 + vTub (A 0) d k (if c + vMis (A 0) d (c / 5) 3 ≤ 20 then c + vMis (A 0) d (c / 5) 3 else 20) = t + (1 + vTub (A 0) d k (if c + vMis (A 0) d (c / 5) 3 ≤ 20 then c + vMis (A 0) d (c / 5) 3 else 20)) from by omega]
          exact hQ9 h1 (e_fr_tr fr61 h2)
      · refine g_run 33 2 rfl ?_
        refine g_run 36 1 rfl ?_
        refine g_callV 37 rfl cv_RX8_73 H.2.1 (m_isThrown H _ 2 (by first | exact Or.inl rfl | exact Or.inr rfl | exact b_01)) rfl rfl (by decide) (by omega) (by omega) (Nat.le_of_ble_eq_true rfl) (e_kw fun M61 hq61 => ?_) e_kwx
        have fr61 := e_fr_tr fr0 (e_fr_w hq61.2 (by omega))
        refine g_if_eq 38 69 rfl rfl (by decide) (fun c64 => absurd c64 (by decide)) (fun _ => ?_)
        refine g_run 39 1 rfl ?_
        have H9 := hq61.1
        rw [up_up] at H9
        have hQ := hQ M61
        rw [show vTub (A 0) d (k + 1) c = -100 from by rw [vTub, if_neg (by omega), if_pos c52]] at hQ
        rw [if_pos (by decide), if_pos (by decide)] at hQ
        exact g_iret 40 rfl rfl (by first | exact trivial | exact Or.inl rfl | exact Or.inr rfl | (show _ ∨ _; omega)) (hQ H9 fr61)
abbrev tTub (v : Nat → Int) (z : Int) : Int := if vDoor v z then (if vTub v z.toNat 21 (v (7 + 9 * z.toNat + 7)) < 0 then 2 else 0) else 1
theorem m_triesUntilBroken (H : MM M m q A) (hv : Vok B (A 0)) (z : Int) (hz : i32 z) : Ct (e_L r0) Γ mX8_triesUntilBroken 4 0 0 [vR m, vI z] M n (e_wr (some (vI (if tTub (A 0) z = 0 then vTub (A 0) z.toNat 21 (A 0 (7 + 9 * z.toNat + 7)) else 0))) n fun M' => MM M' m (va_up q 6 (tTub (A 0) z)) A ∧ e_fr m (m + 9) M M') := by
  have fr0 : e_fr m (m + 9) M M := e_fr_refl
  refine g_start ok_X8_triesUntilBroken rfl rfl ?_
  refine g_run 0 3 rfl ?_
  refine g_callV 3 rfl cv_RX8_92 H.2.1 (m_isDoor H hv z hz) rfl rfl (by decide) (by omega) (by omega) (Nat.le_of_ble_eq_true rfl) (e_kr ?_) e_kx
  refine g_if_ne 4 13 rfl rfl b_r (fun c6 => ?_) (fun c6 => ?_)
  · replace c6 := b_1.mp c6
    have q2 := hv.2.2.1
    have q7 := hv.2.2.2.2.2.2.1 z.toNat (by omega)
    rw [show tTub (A 0) z = (if vTub (A 0) z.toNat 21 (A 0 (7 + 9 * z.toNat + 7)) < 0 then 2 else 0) from if_pos c6]
    refine g_run 7 2 rfl ?_
    refine g_callV 9 rfl cv_RX8_73 H.2.1 (m_isThrown H _ 1 (by first | exact Or.inl rfl | exact Or.inr rfl | exact b_01)) rfl rfl (by decide) (by omega) (by omega) (Nat.le_of_ble_eq_true rfl) (e_kw fun M15 hq15 => ?_) e_kwx
    have fr15 := e_fr_tr fr0 (e_fr_w hq15.2 (by omega))
    refine g_if_eq 10 23 rfl rfl (by decide) (fun _ => ?_) (fun c18 => absurd c18 (by decide))
    refine g_run 13 3 rfl ?_
    refine g_callV 16 rfl cv_RX8_55 hq15.1.2.1 (m_of hq15.1 z 7 z.toNat 7 (by omega) rfl (by omega)) rfl rfl (by decide) (by omega) (by omega) (Nat.le_of_ble_eq_true rfl) (e_kr ?_) e_kx
    refine g_run 17 3 rfl ?_
    refine m_tub9 hv z z.toNat (by omega) (by omega) 21 _ _ 0 _ q7 (by omega) (by omega) hq15.1 (fun M' h1 h2 => ⟨?_, rfl, h1, e_fr_tr fr15 h2⟩)
    refine congrArg (fun x : Int => (Sum.inl (some (vI x)) : Rv)) ?_
    by_cases e9 : vTub (A 0) z.toNat 21 (A 0 (7 + 9 * z.toNat + 7)) < 0
    · rw [if_pos e9, if_pos e9]; rfl
    · rw [if_neg e9, if_neg e9, Int.zero_add]; rfl
  · replace c6 := b_0.mp c6
    rw [show tTub (A 0) z = 1 from if_neg c6]
    refine g_run 5 2 rfl ?_
    refine g_run 8 1 rfl ?_
    refine g_callV 9 rfl cv_RX8_73 H.2.1 (m_isThrown H _ 1 (by first | exact Or.inl rfl | exact Or.inr rfl | exact b_01)) rfl rfl (by decide) (by omega) (by omega) (Nat.le_of_ble_eq_true rfl) (e_kw fun M15 hq15 => ?_) e_kwx
    have fr15 := e_fr_tr fr0 (e_fr_w hq15.2 (by omega))
    refine g_if_eq 10 23 rfl rfl (by decide) (fun c18 => absurd c18 (by decide)) (fun _ => ?_)
    refine g_run 11 1 rfl ?_
    have H9 := hq15.1
    try rw [up_up] at H9
    exact g_iret 12 rfl rfl (by first | exact trivial | exact Or.inl rfl | exact Or.inr rfl | (show _ ∨ _; omega)) ⟨rfl, rfl, H9, fr15⟩
theorem m_hoursUntilFitting (H : MM M m q A) (hv : Vok B (A 0)) (hV : Vh B (A 0)) (hB : B ≤ 900000000) (z : Int) (hz : i32 z) : Ct (e_L r0) Γ mX8_hoursUntilFitting 5 0 0 [vR m, vI z] M n (fun r' M' n' => n' = n ∧ e_fr m (m + 9) M M' ∧ ((¬ vDoor (A 0) z ∧ r' = .inl (some (vI 0)) ∧ MM M' m (va_up q 6 1) A) ∨ (vDoor (A 0) z ∧ ∃ k : Nat, (∀ j : Nat, j < k → vMany (mHrs (A 0) j) z.toNat ≠ 0) ∧ ((k ≤ 60 ∧ vMany (mHrs (A 0) k) z.toNat = 0 ∧ r' = .inl (some (vI (k : Int))) ∧ MM M' m (va_up q 6 0) (va_up A 2 (A 0))) ∨ (k = 61 ∧ r' = .inl (some (vI 0)) ∧ MM M' m (va_up q 6 2) (va_up A 2 (A 0))))))) := by
  have fr0 : e_fr m (m + 9) M M := e_fr_refl
  refine g_start ok_X8_hoursUntilFitting rfl rfl ?_
  refine g_run 0 3 rfl ?_
  refine g_callV 3 rfl cv_RX8_92 H.2.1 (m_isDoor H hv z hz) rfl rfl (by decide) (by omega) (by omega) (Nat.le_of_ble_eq_true rfl) (e_kr ?_) e_kx
  refine g_if_ne 4 13 rfl rfl b_r (fun c6 => ?_) (fun c6 => ?_)
  · replace c6 := b_1.mp c6
    have q2 := hv.2.2.1
    refine g_run 7 2 rfl ?_
    refine g_callV 9 rfl cv_RX8_73 H.2.1 (m_isThrown H _ 1 (by first | exact Or.inl rfl | exact Or.inr rfl | exact b_01)) rfl rfl (by decide) (by omega) (by omega) (Nat.le_of_ble_eq_true rfl) (e_kw fun M15 hq15 => ?_) e_kwx
    have fr15 := e_fr_tr fr0 (e_fr_w hq15.2 (by omega))
    refine g_if_eq 10 23 rfl rfl (by decide) (fun _ => ?_) (fun c18 => absurd c18 (by decide))
    refine g_run 13 1 rfl ?_
    refine g_get 14 rfl fl_RX8_9 hq15.1.2.1 rfl ?_
    refine g_run 15 2 rfl ?_
    refine g_get 17 rfl fl_RX8_16 hq15.1.2.1 rfl ?_
    refine g_run 18 1 rfl ?_
    refine g_callS 19 rfl cs_RX8_44 (m_copies hq15.1.2.2.1 hq15.1.2.2.2.2.1 (by omega) 0 0 0 0 rfl rfl (by omega) (by omega) (by omega) (by omega)) rfl rfl (by decide) (by omega) (by omega) (Nat.le_of_ble_eq_true rfl) (e_kw fun M33 hM33 => ?_) e_kwx
    have H33 := MM_A2 hq15.1 hM33
    have fr33 := e_fr_tr fr15 (e_fr_up hM33 (by omega))
    refine g_nI (A 0) (by have := H.1; omega) H33.2.2.2.2.1 (fun _ => e_cpy0) (fun M34 hM34 => ?_)
    have H34 := MM_A2 H33 hM34
    have fr34 := e_fr_tr fr33 (e_fr_up hM34 (by omega))
    rw [up_up] at H34
    refine g_run 20 2 rfl ?_
    refine e_down (P := fun k => ∀ M', MM M' m (va_up q 6 0) (va_up (va_up A 2 (A 0)) 0 (mHrs (A 0) k)) → e_fr m (m + 9) M M' → (∀ j : Nat, j < k → vMany (mHrs (A 0) j) z.toNat ≠ 0) → G (e_L r0) Γ mX8_hoursUntilFitting 5 0 0 (fun r' M' n' => n' = n ∧ e_fr m (m + 9) M M' ∧ ((¬ vDoor (A 0) z ∧ r' = .inl (some (vI 0)) ∧ MM M' m (va_up q 6 1) A) ∨ (vDoor (A 0) z ∧ ∃ k : Nat, (∀ j : Nat, j < k → vMany (mHrs (A 0) j) z.toNat ≠ 0) ∧ ((k ≤ 60 ∧ vMany (mHrs (A 0) k) z.toNat = 0 ∧ r' = .inl (some (vI (k : Int))) ∧ MM M' m (va_up q 6 0) (va_up A 2 (A 0))) ∨ (k = 61 ∧ r' = .inl (some (vI 0)) ∧ MM M' m (va_up q 6 2) (va_up A 2 (A 0))))))) 38 [some (vR m), some (vI z), some (vI (k : Int))] [] M' n 0 0) 61 ?_ 0 (by omega) M34 (by have H9 := H34; rw [show mHrs (A 0) 0 = A 0 from rfl, up_2]; exact H9) fr34 (fun j hj => by omega)
    intro k hk ih M2 H2 fr2 hno
    have hVk := Vh_hrs hV k (by omega)
    refine g_run 22 2 rfl ?_
    refine g_icmp_gt 24 67 rfl rfl (by omega) (by omega) (fun c41 => ?_) (fun c41 => ?_)
    · have ek : k = 61 := by omega
      clear ih
      refine g_run 36 1 rfl ?_
      refine g_get 37 rfl fl_RX8_16 H2.2.1 rfl ?_
      refine g_run 38 2 rfl ?_
      refine g_get 40 rfl fl_RX8_9 H2.2.1 rfl ?_
      refine g_run 41 1 rfl ?_
      refine g_callS 42 rfl cs_RX8_44 (m_copies H2.2.2.2.2.1 H2.2.2.1 (by omega) 0 0 0 0 rfl rfl (by omega) (by omega) (by omega) (by omega)) rfl rfl (by decide) (by omega) (by omega) (Nat.le_of_ble_eq_true rfl) (e_kw fun M77 hM77 => ?_) e_kwx
      have H77 := MM_A0 H2 hM77
      have fr77 := e_fr_tr fr2 (e_fr_up hM77 (by omega))
      refine g_nI (A 0) (by have := H.1; omega) H77.2.2.1 (fun _ => e_cpy0) (fun M78 hM78 => ?_)
      have H78 := MM_A0 H77 hM78
      have fr78 := e_fr_tr fr77 (e_fr_up hM78 (by omega))
      rw [up_up, up_up, up_2] at H78
      refine g_run 43 3 rfl ?_
      refine g_icmp_le 46 91 rfl rfl (by omega) (by omega) (fun c84 => ?_) (fun c84 => ?_)
      · have hx : k ≤ 60 ∧ vMany (mHrs (A 0) k) z.toNat = 0 := by first | omega | exact ⟨by omega, by omega⟩
        refine g_run 49 2 rfl ?_
        refine g_callV 51 rfl cv_RX8_73 H78.2.1 (m_isThrown H78 _ 2 (by first | exact Or.inl rfl | exact Or.inr rfl | exact b_01)) rfl rfl (by decide) (by omega) (by omega) (Nat.le_of_ble_eq_true rfl) (e_kw fun M93 hq93 => ?_) e_kwx
        have fr93 := e_fr_tr fr78 (e_fr_w hq93.2 (by omega))
        refine g_if_eq 52 103 rfl rfl (by decide) (fun _ => ?_) (fun c96 => absurd c96 (by decide))
        refine g_run 55 1 rfl ?_
        have H9 := hq93.1
        try rw [up_up] at H9
        exact g_iret 56 rfl rfl (by first | exact trivial | exact Or.inl rfl | exact Or.inr rfl | (show _ ∨ _; omega)) ⟨rfl, fr93, Or.inr ⟨c6, k, hno, by first | exact Or.inl ⟨hx.1, hx.2, rfl, H9⟩ | exact Or.inr ⟨hx, rfl, H9⟩⟩⟩
      · have hx : k = 61 := by omega
        refine g_run 47 2 rfl ?_
        refine g_run 50 1 rfl ?_
        refine g_callV 51 rfl cv_RX8_73 H78.2.1 (m_isThrown H78 _ 2 (by first | exact Or.inl rfl | exact Or.inr rfl | exact b_01)) rfl rfl (by decide) (by omega) (by omega) (Nat.le_of_ble_eq_true rfl) (e_kw fun M93 hq93 => ?_) e_kwx
        have fr93 := e_fr_tr fr78 (e_fr_w hq93.2 (by omega))
        refine g_if_eq 52 103 rfl rfl (by decide) (fun c96 => absurd c96 (by decide)) (fun _ => ?_)
        refine g_run 53 2 rfl ?_
        have H9 := hq93.1
        try rw [up_up] at H9
        exact g_iret 56 rfl rfl (by first | exact trivial | exact Or.inl rfl | exact Or.inr rfl | (show _ ∨ _; omega)) ⟨rfl, fr93, Or.inr ⟨c6, k, hno, by first | exact Or.inl ⟨hx.1, hx.2, rfl, H9⟩ | exact Or.inr ⟨hx, rfl, H9⟩⟩⟩
    · refine g_run 25 4 rfl ?_
      refine g_callV 29 rfl cv_RX8_104 H2.2.1 (m_playOf (B := B + 3 * k) H2 (by rw [va_up_self]; exact hVk.1) z z.toNat (by omega) (by omega)) rfl rfl (by decide) (by omega) (by omega) (Nat.le_of_ble_eq_true rfl) (e_kr ?_) e_kx
      have q7 := hVk.1.2.2.2.2.2.2.1 z.toNat (by omega)
      rw [va_up_self]
      refine g_callV 30 rfl cv_RX8_107 H2.2.1 (m_misfits (B := B + 3 * k) H2 (by rw [va_up_self]; exact hVk.1) z z.toNat (by omega) (by omega) _ (by omega)) rfl rfl (by decide) (by omega) (by omega) (Nat.le_of_ble_eq_true rfl) (e_kr ?_) e_kx
      rw [va_up_self, show vMis (mHrs (A 0) k) z.toNat (mHrs (A 0) k (7 + 9 * z.toNat + 7) / 5) 3 = vMany (mHrs (A 0) k) z.toNat from rfl]
      have qm : 0 ≤ vMany (mHrs (A 0) k) z.toNat ∧ vMany (mHrs (A 0) k) z.toNat ≤ 3 := vMis_rng _ _ _ 3
      refine g_if_le 31 67 rfl rfl (by omega) (fun c54 => ?_) (fun c54 => ?_)
      · refine g_run 36 1 rfl ?_
        refine g_get 37 rfl fl_RX8_16 H2.2.1 rfl ?_
        refine g_run 38 2 rfl ?_
        refine g_get 40 rfl fl_RX8_9 H2.2.1 rfl ?_
        refine g_run 41 1 rfl ?_
        refine g_callS 42 rfl cs_RX8_44 (m_copies H2.2.2.2.2.1 H2.2.2.1 (by omega) 0 0 0 0 rfl rfl (by omega) (by omega) (by omega) (by omega)) rfl rfl (by decide) (by omega) (by omega) (Nat.le_of_ble_eq_true rfl) (e_kw fun M77 hM77 => ?_) e_kwx
        have H77 := MM_A0 H2 hM77
        have fr77 := e_fr_tr fr2 (e_fr_up hM77 (by omega))
        refine g_nI (A 0) (by have := H.1; omega) H77.2.2.1 (fun _ => e_cpy0) (fun M78 hM78 => ?_)
        have H78 := MM_A0 H77 hM78
        have fr78 := e_fr_tr fr77 (e_fr_up hM78 (by omega))
        rw [up_up, up_up, up_2] at H78
        refine g_run 43 3 rfl ?_
        refine g_icmp_le 46 91 rfl rfl (by omega) (by omega) (fun c84 => ?_) (fun c84 => ?_)
        · have hx : k ≤ 60 ∧ vMany (mHrs (A 0) k) z.toNat = 0 := by first | omega | exact ⟨by omega, by omega⟩
          refine g_run 49 2 rfl ?_
          refine g_callV 51 rfl cv_RX8_73 H78.2.1 (m_isThrown H78 _ 2 (by first | exact Or.inl rfl | exact Or.inr rfl | exact b_01)) rfl rfl (by decide) (by omega) (by omega) (Nat.le_of_ble_eq_true rfl) (e_kw fun M93 hq93 => ?_) e_kwx
          have fr93 := e_fr_tr fr78 (e_fr_w hq93.2 (by omega))
          refine g_if_eq 52 103 rfl rfl (by decide) (fun _ => ?_) (fun c96 => absurd c96 (by decide))
          refine g_run 55 1 rfl ?_
          have H9 := hq93.1
          try rw [up_up] at H9
          exact g_iret 56 rfl rfl (by first | exact trivial | exact Or.inl rfl | exact Or.inr rfl | (show _ ∨ _; omega)) ⟨rfl, fr93, Or.inr ⟨c6, k, hno, by first | exact Or.inl ⟨hx.1, hx.2, rfl, H9⟩ | exact Or.inr ⟨hx, rfl, H9⟩⟩⟩
        · have hx : k = 61 := by omega
          refine g_run 47 2 rfl ?_
          refine g_run 50 1 rfl ?_
          refine g_callV 51 rfl cv_RX8_73 H78.2.1 (m_isThrown H78 _ 2 (by first | exact Or.inl rfl | exact Or.inr rfl | exact b_01)) rfl rfl (by decide) (by omega) (by omega) (Nat.le_of_ble_eq_true rfl) (e_kw fun M93 hq93 => ?_) e_kwx
          have fr93 := e_fr_tr fr78 (e_fr_w hq93.2 (by omega))
          refine g_if_eq 52 103 rfl rfl (by decide) (fun c96 => absurd c96 (by decide)) (fun _ => ?_)
          refine g_run 53 2 rfl ?_
          have H9 := hq93.1
          try rw [up_up] at H9
          exact g_iret 56 rfl rfl (by first | exact trivial | exact Or.inl rfl | exact Or.inr rfl | (show _ ∨ _; omega)) ⟨rfl, fr93, Or.inr ⟨c6, k, hno, by first | exact Or.inl ⟨hx.1, hx.2, rfl, H9⟩ | exact Or.inr ⟨hx, rfl, H9⟩⟩⟩
      · refine g_run 32 1 rfl ?_
        refine g_callV 33 rfl cv_RX8_153 H2.2.1 (m_hour (B := B + 3 * k) H2 (by rw [va_up_self]; exact hVk) (by omega)) rfl rfl (by decide) (by omega) (by omega) (Nat.le_of_ble_eq_true rfl) (e_kw fun M58 hq58 => ?_) e_kwx
        have fr58 := e_fr_tr fr2 (e_fr_w hq58.2 (by omega))
        refine g_run 34 2 rfl ?_
        have H9 := hq58.1
        rw [up_up, va_up_self] at H9
        exact ih (by omega) M58 H9 fr58 (fun j hj => by by_cases e : j = k; exact e ▸ (fun e9 => absurd e9 (by omega)); exact hno j (by omega))
  · replace c6 := b_0.mp c6
    refine g_run 5 2 rfl ?_
    refine g_run 8 1 rfl ?_
    refine g_callV 9 rfl cv_RX8_73 H.2.1 (m_isThrown H _ 1 (by first | exact Or.inl rfl | exact Or.inr rfl | exact b_01)) rfl rfl (by decide) (by omega) (by omega) (Nat.le_of_ble_eq_true rfl) (e_kw fun M15 hq15 => ?_) e_kwx
    have fr15 := e_fr_tr fr0 (e_fr_w hq15.2 (by omega))
    refine g_if_eq 10 23 rfl rfl (by decide) (fun c18 => absurd c18 (by decide)) (fun _ => ?_)
    refine g_run 11 1 rfl ?_
    exact g_iret 12 rfl rfl (by first | exact trivial | exact Or.inl rfl | exact Or.inr rfl | (show _ ∨ _; omega)) ⟨rfl, fr15, Or.inl ⟨c6, rfl, hq15.1⟩⟩
def vCons (v : Nat → Int) : Nat → Int
  | 0 => 1
  | k + 1 => if v (7 + 9 * k + 7) < 20 ∨ vOpen v k then vCons v k else 0
theorem vCons_01 (v : Nat → Int) : ∀ k : Nat, vCons v k = 0 ∨ vCons v k = 1
  | 0 => Or.inr rfl
  | k + 1 => by
    unfold vCons
    split
    · exact vCons_01 v k
    · exact Or.inl rfl
theorem and_1 {x : Int} (h : x = 0 ∨ x = 1) : iI x &&& iI 1 = iI x := by
  rcases h with rfl | rfl
  · decide
  · decide
theorem and_0 {x : Int} (h : x = 0 ∨ x = 1) : iI x &&& iI 0 = iI 0 := by
  rcases h with rfl | rfl
  · decide
  · decide
theorem m_isConsistent (H : MM M m q A) (hv : Vok B (A 0)) : Ct (e_L r0) Γ mX8_isConsistent 4 0 0 [vR m] M n (e_wr (some (vI (vCons (A 0) (A 0 2).toNat))) n fun M' => MM M' m (va_up q 6 0) A ∧ e_fr m (m + 9) M M') := by
  have fr0 : e_fr m (m + 9) M M := e_fr_refl
  refine g_start ok_X8_isConsistent rfl rfl ?_
  refine g_run 0 2 rfl ?_
  refine g_put 2 rfl fp_RX8_41 H.2.1 rfl trivial (fun M2 hM2 => ?_)
  have H2 := MM_q6 H hM2
  have fr2 := e_fr_tr fr0 (e_fr_up hM2 (by omega))
  refine g_run 3 4 rfl ?_
  refine e_down (P := fun k => G (e_L r0) Γ mX8_isConsistent 4 0 0 _ 9 [some (vR m), some (vI (vCons (A 0) k)), some (vI (k : Int))] [] M2 n 0 0) (A 0 2).toNat ?_ 0 (by omega)
  have q2 := hv.2.2.1
  clear H fr0
  have H := H2
  have fr0 := fr2
  intro k hk ih
  have q01 := vCons_01 (A 0) k
  refine g_run 7 2 rfl ?_
  refine g_get 9 rfl fl_RX8_9 H.2.1 rfl ?_
  refine g_run 10 1 rfl ?_
  refine g_iald 11 2 rfl rfl H.2.2.1 (by first | rfl | omega) (by omega) (by decide) ?_
  refine g_icmp_ge 12 53 rfl rfl (by omega) (by omega) (fun c16 => ?_) (fun c16 => ?_)
  · have ek : k = (A 0 2).toNat := by omega
    subst ek
    refine g_run 31 1 rfl ?_
    exact g_iret 32 rfl rfl q01 ⟨rfl, rfl, H, fr0⟩
  · refine g_run 13 4 rfl ?_
    refine g_callV 17 rfl cv_RX8_55 H.2.1 (m_of H k 7 k 7 rfl rfl (by omega)) rfl rfl (by decide) (by omega) (by omega) (Nat.le_of_ble_eq_true rfl) (e_kr ?_) e_kx
    have q7 := hv.2.2.2.2.2.2.1 k (by omega)
    refine g_run 18 1 rfl ?_
    refine g_icmp_lt 19 40 rfl rfl (by omega) (by omega) (fun c29 => ?_) (fun c29 => ?_)
    · have ih9 := ih (by omega)
      rw [show vCons (A 0) (k + 1) = vCons (A 0) k from by rw [vCons, if_pos (Or.inl c29)]] at ih9
      have ha := and_1 q01
      refine g_run 24 2 rfl ?_
      refine g_iand 27 rfl ha ?_
      refine g_run 28 3 rfl ?_
      exact ih9
    · refine g_run 20 2 rfl ?_
      refine g_callV 22 rfl cv_RX8_101 H.2.1 (m_open H hv k k rfl (by omega)) rfl rfl (by decide) (by omega) (by omega) (Nat.le_of_ble_eq_true rfl) (e_kr ?_) e_kx
      refine g_if_eq 23 44 rfl rfl b_r (fun c37 => ?_) (fun c37 => ?_)
      · replace c37 := b_0.mp c37
        have ih9 := ih (by omega)
        rw [show vCons (A 0) (k + 1) = 0 from by rw [vCons, if_neg (by omega)]] at ih9
        have ha := and_0 q01
        refine g_run 26 1 rfl ?_
        refine g_iand 27 rfl ha ?_
        refine g_run 28 3 rfl ?_
        exact ih9
      · replace c37 := b_1.mp c37
        have ih9 := ih (by omega)
        rw [show vCons (A 0) (k + 1) = vCons (A 0) k from by rw [vCons, if_pos (Or.inr c37)]] at ih9
        have ha := and_1 q01
        refine g_run 24 2 rfl ?_
        refine g_iand 27 rfl ha ?_
        refine g_run 28 3 rfl ?_
        exact ih9
end MP
