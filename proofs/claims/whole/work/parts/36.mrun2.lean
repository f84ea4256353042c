/-! the reference runs its script (wip/whole/gen/c_mrun2.py prints this part) -/
theorem rA_rng {t : Nat → Int} {l i : Nat} (h : rOK t l i) (hi : i ≤ l) (ht : ∀ j, j < l → 32 ≤ t j ∧ t j ≤ 126) (p : Nat) (hp : p < rAr (rJ t l i)) : -200 ≤ rA t i (rJ t l i) p ∧ rA t i (rJ t l i) p ≤ 2000 := by
  have hl := rN_l (t := t) hi
  have h1 := h.1
  rw [h.2] at hl
  generalize rJ t l i = j at hl h1 hp ⊢
  match j, h1 with
  | 0, _ =>
    replace hl : i + 8 ≤ l := hl
    replace hp : p < 3 := hp
    have := ht (i + 5 + p) (by omega)
    show -200 ≤ t (i + 5 + p) - 48 ∧ t (i + 5 + p) - 48 ≤ 2000
    omega
  | 1, _ =>
    replace hl : i + 9 ≤ l := hl
    replace hp : p < 3 := hp
    have := ht (i + 5 + p) (by omega)
    have := ht (i + 8) (by omega)
    show -200 ≤ (if p = 2 then (if t (i + 7) = 45 then -(t (i + 8) - 48) else t (i + 8) - 48) else t (i + 5 + p) - 48) ∧ (if p = 2 then (if t (i + 7) = 45 then -(t (i + 8) - 48) else t (i + 8) - 48) else t (i + 5 + p) - 48) ≤ 2000
    (repeat' split) <;> omega
  | 2, _ =>
    replace hl : i + 5 ≤ l := hl
    have := ht (i + 4) (by omega)
    show -200 ≤ t (i + 4) - 48 ∧ t (i + 4) - 48 ≤ 2000
    omega
  | 3, _ =>
    replace hl : i + 6 ≤ l := hl
    have := ht (i + 5) (by omega)
    show -200 ≤ t (i + 5) - 48 ∧ t (i + 5) - 48 ≤ 2000
    omega
  | 4, _ =>
    replace hl : i + 6 ≤ l := hl
    have := ht (i + 5) (by omega)
    show -200 ≤ t (i + 5) - 48 ∧ t (i + 5) - 48 ≤ 2000
    omega
  | 5, _ =>
    replace hl : i + 8 ≤ l := hl
    replace hp : p < 2 := hp
    have := ht (i + 5 + 2 * p) (by omega)
    show -200 ≤ t (i + 5 + 2 * p) - 48 ∧ t (i + 5 + 2 * p) - 48 ≤ 2000
    omega
  | 6, _ =>
    show -200 ≤ (1 : Int) ∧ (1 : Int) ≤ 2000
    omega
  | 7, _ =>
    replace hl : i + 6 ≤ l := hl
    have := ht (i + 5) (by omega)
    show -200 ≤ t (i + 5) - 48 ∧ t (i + 5) - 48 ≤ 2000
    omega
  | 8, _ =>
    replace hl : i + 7 ≤ l := hl
    have := ht (i + 5) (by omega)
    have := ht (i + 6) (by omega)
    show -200 ≤ 10 * (t (i + 5) - 48) + (t (i + 6) - 48) ∧ 10 * (t (i + 5) - 48) + (t (i + 6) - 48) ≤ 2000
    omega
  | 9, _ =>
    replace hl : i + 9 ≤ l := hl
    replace hp : p < 4 := hp
    have := ht (i + 4) (by omega)
    have := ht (i + 5 + p) (by omega)
    show -200 ≤ (if p = 0 then t (i + 4) - 48 else t (i + 5 + p) - 48) ∧ (if p = 0 then t (i + 4) - 48 else t (i + 5 + p) - 48) ≤ 2000
    split <;> omega
section MU
variable {r0 : Option Nat} {Γ : Cx} {M : Mem} {n m : Nat} {q : Nat → Int} {A : Nat → Nat → Int} {l : Nat} {B : Int}
/-- how a script of the reference ends: k the last command that is read -/
def RS (q : Nat → Int) (A : Nat → Nat → Int) (l c5 : Nat) (r' : Rv) (q' : Nat → Int) (A' : Nat → Nat → Int) (k : Nat) : Prop :=
  (¬ (rOK (A 6) l (sT (A 6) l k) ∧ sE (A 6) l k = l) ∧ r' = .inl (some (vI 0)) ∧ q' 6 = 1 ∧ q' 7 = (sE (A 6) l k : Nat) ∧ q' 8 = q 8 ∧ q' 5 = q 5 ∧ A' 0 = A 0 ∧ A' 4 = A 4) ∨
  ((rOK (A 6) l (sT (A 6) l k) ∧ sE (A 6) l k = l) ∧ (∀ j, j < k + 1 → tS (A 6) l (A 0) j = 0) ∧ r' = .inl (some (vI ((k : Int) + 1))) ∧ q' 6 = 0 ∧ q' 7 = q 7 ∧ q' 8 = q 8 ∧ q' 5 = (yC9 c5 : Nat) ∧ A' 0 = vS (A 6) l (A 0) (k + 1) ∧ A' 4 = ePast (A 4) (A 0) c5) ∨
  ((rOK (A 6) l (sT (A 6) l k) ∧ sE (A 6) l k = l) ∧ ∃ c : Nat, c ≤ k ∧ (∀ j, j < c → tS (A 6) l (A 0) j = 0) ∧ tS (A 6) l (A 0) c ≠ 0 ∧ r' = .inl (some (vI 0)) ∧ q' 6 = 2 ∧ q' 7 = q 7 ∧ q' 8 = (c : Int) ∧ q' 5 = q 5 ∧ A' 0 = A 0 ∧ A' 4 = A 4)
theorem m_runScript (hK : KM Γ) (hR : RH q A l) (H : MM M m q A) (c5 : Nat) (hc5 : q 5 = c5) (hc8 : c5 ≤ 8) (hB : B ≤ 900000000) (hV : ∀ c, c ≤ 13 → (∀ j, j < c → rOK (A 6) l (sT (A 6) l j) ∧ tS (A 6) l (A 0) j = 0) → Vh B (vS (A 6) l (A 0) c)) : Ct (e_L r0) Γ mX8_runScript 9 0 0 [vR m] M n (fun r' M' n' => n' = n ∧ e_fr m (m + 9) M M' ∧ ∃ (q' : Nat → Int) (A' : Nat → Nat → Int), MM M' m q' A' ∧ q' 15 = 0 ∧ q' 10 = q 10 ∧ q' 12 = q 12 ∧ A' 3 = A 3 ∧ A' 5 = A 5 ∧ ∃ k : Nat, (∀ j, j < k → sGo (A 6) l j) ∧ ¬ sGo (A 6) l k ∧ RS q A l c5 r' q' A' k) := by
  have fr0 : e_fr m (m + 9) M M := e_fr_refl
  refine g_start ok_X8_runScript rfl rfl ?_
  refine g_run 0 1 rfl ?_
  refine g_callV 1 rfl cv_RX8_259 H.2.1 (r_isScript hK hR H) rfl rfl (by decide) (by omega) (by omega) (Nat.le_of_ble_eq_true rfl) (fun v9 M1 n9 h9 _ => ?_) (fun E M9 n9 h9 _ => by obtain ⟨-, -, k9, K9, q9, -, -, -, h3, -⟩ := h9; cases h3)
  obtain ⟨hn9, fq1, k, K, qk, hgo, ng, Rz, h3, hCM⟩ := h9
  subst n9
  cases h3
  have fr1 := e_fr_tr fr0 fq1
  have sr := sT_rng k hgo
  have hle : sE (A 6) l k ≤ l := rN_l (t := A 6) (l := l) sr.2
  have l60 := hR.2.1
  refine g_run 2 3 rfl ?_
  refine g_put 5 rfl fp_RX8_184 Rz.2.1 rfl trivial (fun M7 hM7 => ?_)
  have H7 := MM_q15 Rz hM7
  have fr7 := e_fr_tr fr1 (e_fr_up hM7 (by omega))
  refine g_run 6 2 rfl ?_
  refine g_if_ne 8 19 rfl rfl b_r (fun c12 => ?_) (fun c12 => ?_)
  · replace c12 := b_1.mp c12
    refine g_run 11 2 rfl ?_
    refine g_callV 13 rfl cv_RX8_73 H7.2.1 (m_isThrown H7 _ 1 (by first | exact Or.inl rfl | exact Or.inr rfl | exact b_01)) rfl rfl (by decide) (by omega) (by omega) (Nat.le_of_ble_eq_true rfl) (e_kw fun M21 hq21 => ?_) e_kwx
    have fr21 := e_fr_tr fr7 (e_fr_w hq21.2 (by omega))
    refine g_if_eq 14 37 rfl rfl (by decide) (fun _ => ?_) (fun c24 => absurd c24 (by decide))
    refine g_run 21 1 rfl ?_
    refine g_callV 22 rfl cv_RX8_81 hq21.1.2.1 (m_keeps hq21.1) rfl rfl (by decide) (by omega) (by omega) (Nat.le_of_ble_eq_true rfl) (e_kw fun M38 hq38 => ?_) e_kwx
    have fr38 := e_fr_tr fr21 (e_fr_w hq38.2 (by omega))
    refine g_run 23 2 rfl ?_
    refine e_down (P := fun c => ∀ (M' : Mem) (q' : Nat → Int), MM M' m q' (va_up (va_up (va_up A 7 K) 1 (A 0)) 0 (vS (A 6) l (A 0) c)) → (q' 5 = q 5 ∧ q' 6 = 0 ∧ q' 7 = q 7 ∧ q' 8 = q 8 ∧ q' 10 = q 10 ∧ q' 12 = q 12 ∧ q' 15 = 0 ∧ q' 17 = (k : Int) + 1) → e_fr m (m + 9) M M' → (∀ j, j < c → tS (A 6) l (A 0) j = 0) → G (e_L r0) Γ mX8_runScript 9 0 0 (fun r' M' n' => n' = n ∧ e_fr m (m + 9) M M' ∧ ∃ (q' : Nat → Int) (A' : Nat → Nat → Int), MM M' m q' A' ∧ q' 15 = 0 ∧ q' 10 = q 10 ∧ q' 12 = q 12 ∧ A' 3 = A 3 ∧ A' 5 = A 5 ∧ ∃ k : Nat, (∀ j, j < k → sGo (A 6) l j) ∧ ¬ sGo (A 6) l k ∧ RS q A l c5 r' q' A' k) 43 [some (vR m), some (vI (if rOK (A 6) l (sT (A 6) l k) ∧ sE (A 6) l k = l then 1 else 0)), some (vI (c : Int))] [] M' n 0 0) (k + 1) ?_ 0 (by omega) M38 (va_up (va_up (va_up (va_up (va_up q 17 qk) 16 ((sE (A 6) l k : Nat) : Int)) 15 0) 6 (if (0 : Int) = 0 then 0 else 1)) 6 0) (by have H9 := hq38.1; rw [show va_up (va_up A 7 K) 1 ((va_up A 7 K) 0) = va_up (va_up (va_up A 7 K) 1 (A 0)) 0 (vS (A 6) l (A 0) 0) from (up_id (f := va_up (va_up A 7 K) 1 (A 0)) (k := 0)).symm] at H9; exact H9) ⟨rfl, rfl, rfl, rfl, rfl, rfl, rfl, (hCM c12.1).1⟩ fr38 (fun j hj => absurd hj (by omega))
    intro c hc ih M2 q2 H2 hq fr2 ht
    refine g_run 25 2 rfl ?_
    refine g_get 27 rfl fl_RX8_246 H2.2.1 rfl ?_
    rw [hq.2.2.2.2.2.2.2]
    refine g_icmp_ge 28 105 rfl rfl (by omega) (by omega) (fun c48 => ?_) (fun c48 => ?_)
    · have e9 : c = k + 1 := by omega
      subst e9
      clear ih
      refine g_run 59 2 rfl ?_
      refine g_get 61 rfl fl_RX8_246 H2.2.1 rfl ?_
      rw [hq.2.2.2.2.2.2.2]
      refine g_callV 62 rfl cv_RX8_88 H2.2.1 (m_ends H2 hq.2.1 c5 (hq.1.trans hc5) hc8 ((k : Int) + 1)) rfl rfl (by decide) (by omega) (by omega) (Nat.le_of_ble_eq_true rfl) (e_kw fun M110 hq110 => ?_) e_kwx
      have fr110 := e_fr_tr fr2 (e_fr_w hq110.2 (by omega))
      exact g_iret 63 rfl rfl (by first | exact trivial | exact Or.inl rfl | exact Or.inr rfl | (show _ ∨ _; omega)) ⟨rfl, fr110, _, _, hq110.1, hq.2.2.2.2.2.2.1, hq.2.2.2.2.1, hq.2.2.2.2.2.1, rfl, rfl, k, hgo, ng, Or.inr (Or.inl ⟨c12, ht, rfl, hq.2.1, hq.2.2.1, hq.2.2.2.1, rfl, rfl, rfl⟩)⟩
    · refine g_run 29 2 rfl ?_
      refine g_put 31 rfl fp_RX8_41 H2.2.1 rfl trivial (fun M53 hM53 => ?_)
      have H53 := MM_q6 H2 hM53
      have fr53 := e_fr_tr fr2 (e_fr_up hM53 (by omega))
      refine g_run 32 5 rfl ?_
      have rk : rOK (A 6) l (sT (A 6) l c) := by
        by_cases e9 : c = k
        · exact e9 ▸ c12.1
        · exact (hgo c (by omega)).1
      have sc := sT_rng (t := A 6) (l := l) c (fun j hj => hgo j (by omega))
      have hVc : Vh B (vS (A 6) l (A 0) c) := hV c (by omega) (fun j hj => ⟨(hgo j (by omega)).1, ht j hj⟩)
      have cm9 := (hCM c12.1).2 c (by omega)
      refine g_callV 37 rfl cv_RX8_262 H53.2.1 (m_does (cJ (A 6) l c) rk.1 H53 (show Vh B (va_up (va_up (va_up A 7 K) 1 (A 0)) 0 (vS (A 6) l (A 0) c) 0) from hVc) hB (5 * (c : Int)) c rfl (by omega) (cA (A 6) l c) cm9.1 (fun p hp => ⟨cm9.2 p hp, by have := rA_rng rk sc.2 hR.2.2 p hp; show -2147483648 ≤ rA (A 6) (sT (A 6) l c) (rJ (A 6) l (sT (A 6) l c)) p ∧ rA (A 6) (sT (A 6) l c) (rJ (A 6) l (sT (A 6) l c)) p ≤ 2147483647; omega⟩)) rfl rfl (by decide) (by omega) (by omega) (Nat.le_of_ble_eq_true rfl) (fun v9 M61 n9 h9 _ => ?_) (fun E M9 n9 h9 _ => by obtain ⟨-, -, y9, h3, -⟩ := h9; cases h3)
      obtain ⟨hn9, fq61, y, h3, H61⟩ := h9
      subst n9
      cases h3
      have fr61 := e_fr_tr fr53 fq61
      replace H61 : MM M61 m (va_up (va_up q2 6 0) 6 (tC (vS (A 6) l (A 0) c) (cJ (A 6) l c) (cA (A 6) l c 0) (cA (A 6) l c 1) (cA (A 6) l c 2) (cA (A 6) l c 3))) (if tC (vS (A 6) l (A 0) c) (cJ (A 6) l c) (cA (A 6) l c 0) (cA (A 6) l c 1) (cA (A 6) l c 2) (cA (A 6) l c 3) = 0 then va_up (va_up (va_up (va_up A 7 K) 1 (A 0)) 0 (vS (A 6) l (A 0) c)) 0 (vS (A 6) l (A 0) (c + 1)) else (va_up (va_up (va_up A 7 K) 1 (A 0)) 0 (vS (A 6) l (A 0) c))) := H61
      have tr9 := tC_rng (vS (A 6) l (A 0) c) (cJ (A 6) l c) (cA (A 6) l c 0) (cA (A 6) l c 1) (cA (A 6) l c 2) (cA (A 6) l c 3)
      refine g_put 38 rfl fp_RX8_265 H61.2.1 rfl trivial (fun M64 hM64 => ?_)
      have H64 := MM_q9 H61 hM64
      have fr64 := e_fr_tr fr61 (e_fr_up hM64 (by omega))
      refine g_run 39 1 rfl ?_
      refine g_get 40 rfl fl_RX8_41 H64.2.1 rfl ?_
      rw [show va_up (va_up (va_up q2 6 0) 6 (tC (vS (A 6) l (A 0) c) (cJ (A 6) l c) (cA (A 6) l c 0) (cA (A 6) l c 1) (cA (A 6) l c 2) (cA (A 6) l c 3))) 9 y 6 = tC (vS (A 6) l (A 0) c) (cJ (A 6) l c) (cA (A 6) l c 0) (cA (A 6) l c 1) (cA (A 6) l c 2) (cA (A 6) l c 3) from rfl]
      refine g_if_eq 41 99 rfl rfl (by omega) (fun c71 => ?_) (fun c71 => ?_)
      · have c71a : tC (vS (A 6) l (A 0) c) (cJ (A 6) l c) (cA (A 6) l c 0) (cA (A 6) l c 1) (cA (A 6) l c 2) (cA (A 6) l c 3) = 0 := c71
        refine g_run 57 2 rfl ?_
        refine ih (by omega) M64 (va_up (va_up q2 6 (tC (vS (A 6) l (A 0) c) (cJ (A 6) l c) (cA (A 6) l c 0) (cA (A 6) l c 1) (cA (A 6) l c 2) (cA (A 6) l c 3))) 9 y) (by have H9 := H64; rw [if_pos c71a, up_up, up_up] at H9; exact H9) ⟨hq.1, c71a, hq.2.2.1, hq.2.2.2.1, hq.2.2.2.2.1, hq.2.2.2.2.2.1, hq.2.2.2.2.2.2.1, hq.2.2.2.2.2.2.2⟩ fr64 (fun j hj => ?_)
        by_cases e9 : j = c
        · exact e9 ▸ c71a
        · exact ht j (by omega)
      · have c71a : ¬ tC (vS (A 6) l (A 0) c) (cJ (A 6) l c) (cA (A 6) l c 0) (cA (A 6) l c 1) (cA (A 6) l c 2) (cA (A 6) l c 3) = 0 := c71
        have H71 := H64
        rw [if_neg c71a] at H71
        refine g_run 42 1 rfl ?_
        refine g_get 43 rfl fl_RX8_13 H71.2.1 rfl ?_
        refine g_run 44 2 rfl ?_
        refine g_get 46 rfl fl_RX8_9 H71.2.1 rfl ?_
        refine g_run 47 1 rfl ?_
        refine g_callS 48 rfl cs_RX8_44 (m_copies H71.2.2.2.1 H71.2.2.1 (by omega) 0 0 0 0 rfl rfl (by omega) (by omega) (by omega) (by omega)) rfl rfl (by decide) (by omega) (by omega) (Nat.le_of_ble_eq_true rfl) (e_kw fun M84 hM84 => ?_) e_kwx
        have H84 := MM_A0 H71 hM84
        have fr84 := e_fr_tr fr64 (e_fr_up hM84 (by omega))
        refine g_nI (A 0) (by have := H.1; omega) H84.2.2.1 (fun _ => e_cpy0) (fun M85 hM85 => ?_)
        have H85 := MM_A0 H84 hM85
        have fr85 := e_fr_tr fr84 (e_fr_up hM85 (by omega))
        refine g_run 49 2 rfl ?_
        refine g_put 51 rfl fp_RX8_29 H85.2.1 rfl trivial (fun M89 hM89 => ?_)
        have H89 := MM_q8 H85 hM89
        have fr89 := e_fr_tr fr85 (e_fr_up hM89 (by omega))
        refine g_run 52 2 rfl ?_
        refine g_put 54 rfl fp_RX8_41 H89.2.1 rfl trivial (fun M94 hM94 => ?_)
        have H94 := MM_q6 H89 hM94
        have fr94 := e_fr_tr fr89 (e_fr_up hM94 (by omega))
        refine g_run 55 1 rfl ?_
        exact g_iret 56 rfl rfl (by first | exact trivial | exact Or.inl rfl | exact Or.inr rfl | (show _ ∨ _; omega)) ⟨rfl, fr94, _, _, H94, hq.2.2.2.2.2.2.1, hq.2.2.2.2.1, hq.2.2.2.2.2.1, rfl, rfl, k, hgo, ng, Or.inr (Or.inr ⟨c12, c, by omega, ht, c71a, rfl, rfl, hq.2.2.1, rfl, hq.1, rfl, rfl⟩)⟩
  · replace c12 := b_0.mp c12
    refine g_run 9 2 rfl ?_
    refine g_run 12 1 rfl ?_
    refine g_callV 13 rfl cv_RX8_73 H7.2.1 (m_isThrown H7 _ 1 (by first | exact Or.inl rfl | exact Or.inr rfl | exact b_01)) rfl rfl (by decide) (by omega) (by omega) (Nat.le_of_ble_eq_true rfl) (e_kw fun M21 hq21 => ?_) e_kwx
    have fr21 := e_fr_tr fr7 (e_fr_w hq21.2 (by omega))
    refine g_if_eq 14 37 rfl rfl (by decide) (fun c24 => absurd c24 (by decide)) (fun _ => ?_)
    refine g_run 15 2 rfl ?_
    refine g_get 17 rfl fl_RX8_187 hq21.1.2.1 rfl ?_
    rw [show va_up (va_up (va_up (va_up q 17 qk) 16 ((sE (A 6) l k : Nat) : Int)) 15 0) 6 (if (1 : Int) = 0 then 0 else 1) 16 = ((sE (A 6) l k : Nat) : Int) from rfl]
    refine g_put 18 rfl fp_RX8_25 hq21.1.2.1 rfl trivial (fun M32 hM32 => ?_)
    have H32 := MM_q7 hq21.1 hM32
    have fr32 := e_fr_tr fr21 (e_fr_up hM32 (by omega))
    refine g_run 19 1 rfl ?_
    exact g_iret 20 rfl rfl (by first | exact trivial | exact Or.inl rfl | exact Or.inr rfl | (show _ ∨ _; omega)) ⟨rfl, fr32, _, _, H32, rfl, rfl, rfl, rfl, rfl, k, hgo, ng, Or.inl ⟨c12, rfl, rfl, rfl, rfl, rfl, rfl, rfl⟩⟩
end MU
