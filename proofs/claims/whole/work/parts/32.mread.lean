/-! the reference reads a script (wip/whole/gen/c_mread.py prints this part) -/
/-- the reading: here at i, the commands K -/
def RM (M : Mem) (m : Nat) (q : Nat → Int) (A : Nat → Nat → Int) (i : Nat) (K : Nat → Int) : Prop := MM M m (va_up q 16 (i : Int)) (va_up A 7 K)
def RH (q : Nat → Int) (A : Nat → Nat → Int) (l : Nat) : Prop := q 15 = l ∧ l ≤ 60 ∧ ∀ j, j < l → 32 ≤ A 6 j ∧ A 6 j ≤ 126
abbrev okc (c : Int) : Prop := 0 ≤ c ∧ c ≤ 127 ∧ c ≠ 35 ∧ c ≠ 38 ∧ c ≠ 126
theorem mNow_rng {q : Nat → Int} {A : Nat → Nat → Int} {l : Nat} (hR : RH q A l) (i : Nat) : -1 ≤ mNow A i l ∧ mNow A i l ≤ 126 := by
  unfold mNow
  split
  · next h => have := hR.2.2 i h; omega
  · omega
theorem mNow_c {A : Nat → Nat → Int} {l i : Nat} {c : Int} (hc : 0 ≤ c) : mNow A i l = c ↔ atC (A 6) l i c := by
  unfold mNow
  split
  · next h => exact ⟨fun e => ⟨h, e⟩, fun e => e.2⟩
  · next h => exact ⟨fun e => by omega, fun e => absurd e.1 h⟩
theorem mNow_d {A : Nat → Nat → Int} {l i : Nat} : (48 ≤ mNow A i l ∧ mNow A i l ≤ 57) ↔ (i < l ∧ dg (A 6 i)) := by
  unfold mNow
  split
  · next h => exact ⟨fun e => ⟨h, e⟩, fun e => e.2⟩
  · next h => exact ⟨fun e => by omega, fun e => absurd e.1 h⟩
theorem ws_drop {ws : List Int} {k : Nat} (h : k < ws.length) : ws.drop k = ws.getD k 0 :: ws.drop (k + 1) := by
  rw [List.drop_eq_getElem_cons h]
  simp [List.getD_eq_getElem?_getD, h]
theorem k_word {Γ : Cx} {M : Mem} (hK : KM Γ) (hl : ∀ k, k < 100 → M k = Γ.cM k) : ∀ j, j < 8 → M (40 + j) = cO 22 [vR (40 + j + 10), vI 0] ∧ M (40 + j + 10) = cI 11 (e_words.getD j []).length (fun x => (e_words.getD j []).getD x 0) := by
  obtain ⟨L, xs, e⟩ := hK
  intro j hj
  rw [hl (40 + j) (by omega), hl (40 + j + 10) (by omega), e]
  match j, hj with
  | 0, _ => exact ⟨rfl, rfl⟩
  | 1, _ => exact ⟨rfl, rfl⟩
  | 2, _ => exact ⟨rfl, rfl⟩
  | 3, _ => exact ⟨rfl, rfl⟩
  | 4, _ => exact ⟨rfl, rfl⟩
  | 5, _ => exact ⟨rfl, rfl⟩
  | 6, _ => exact ⟨rfl, rfl⟩
  | 7, _ => exact ⟨rfl, rfl⟩
theorem e_words_ok : ∀ j, j < 8 → ∀ x, x < (e_words.getD j []).length → okc ((e_words.getD j []).getD x 0) := by decide
section MR
variable {r0 : Option Nat} {Γ : Cx} {M : Mem} {n m : Nat} {q : Nat → Int} {A : Nat → Nat → Int} {i l : Nat} {K : Nat → Int}
theorem r_now (hR : RH q A l) (H0 : RM M m q A i K) (hi : i ≤ l) : Ct (e_L r0) Γ mX8_now 0 0 0 [vR m] M n (e_rt (.inl (some (vI (mNow A i l)))) M n) := m_now H0 i l (va_up_self _ _ _) hR.1 hR.2.1 (by have := hR.2.1; omega)
theorem r_sign (hR : RH q A l) (H0 : RM M m q A i K) (hi : i ≤ l) (c : Int) (hc : okc c) : Ct (e_L r0) Γ mX8_isSign 1 0 0 [vR m, vI c] M n (e_wr (some (vI (if pm [c] (A 6) l i = 1 then 1 else 0))) n fun M' => RM M' m q A (i + pm [c] (A 6) l i) K ∧ e_fr m (m + 9) M M') := by
  have fr0 : e_fr m (m + 9) M M := e_fr_refl
  have H : MM M m (va_up q 16 (i : Int)) (va_up A 7 K) := H0
  have qn := mNow_rng hR i
  refine g_start ok_X8_isSign rfl rfl ?_
  refine g_run 0 1 rfl ?_
  refine g_callV 1 rfl cv_RX8_190 H.2.1 (r_now hR H0 hi) rfl rfl (by decide) (by omega) (by omega) (Nat.le_of_ble_eq_true rfl) (e_kr ?_) e_kx
  refine g_run 2 1 rfl ?_
  refine g_icmp_ne 3 12 rfl rfl (by omega) (by omega) (fun c5 => ?_) (fun c5 => ?_)
  · rw [show pm [c] (A 6) l i = 0 from pm_0 hc.2.2 (fun e => c5 ((mNow_c hc.1).mpr e)), if_neg (by decide)]
    refine g_run 6 4 rfl ?_
    refine g_get 10 rfl fl_RX8_187 H.2.1 rfl ?_
    rw [va_up_self]
    refine g_run 11 1 rfl ?_
    refine g_if_eq 12 27 rfl rfl (by decide) (fun _ => ?_) (fun c20 => absurd c20 (by decide))
    refine g_run 15 2 rfl ?_
    refine g_put 17 rfl fp_RX8_187 H.2.1 rfl trivial (fun M29 hM29 => ?_)
    have H29 := MM_q16 H hM29
    have fr29 := e_fr_tr fr0 (e_fr_up hM29 (by omega))
    have H9 := H29
    rw [up_up] at H9
    try rw [show (i : Int) + 0 = i from Int.add_zero _] at H9
    refine g_run 18 1 rfl ?_
    exact g_iret 19 rfl rfl (by first | exact trivial | exact Or.inl rfl | exact Or.inr rfl | (show _ ∨ _; omega)) ⟨rfl, rfl, H9, fr29⟩
  · rw [show pm [c] (A 6) l i = 1 from pm_1 hc.2.2 ((mNow_c hc.1).mp c5), if_pos rfl]
    refine g_run 4 2 rfl ?_
    refine g_run 7 3 rfl ?_
    refine g_get 10 rfl fl_RX8_187 H.2.1 rfl ?_
    rw [va_up_self]
    refine g_run 11 1 rfl ?_
    refine g_if_eq 12 27 rfl rfl (by decide) (fun c20 => absurd c20 (by decide)) (fun _ => ?_)
    refine g_run 13 2 rfl ?_
    refine g_run 16 1 rfl ?_
    refine g_put 17 rfl fp_RX8_187 H.2.1 rfl trivial (fun M29 hM29 => ?_)
    have H29 := MM_q16 H hM29
    have fr29 := e_fr_tr fr0 (e_fr_up hM29 (by omega))
    have H9 := H29
    rw [up_up] at H9
    try rw [show (i : Int) + 0 = i from Int.add_zero _] at H9
    refine g_run 18 1 rfl ?_
    exact g_iret 19 rfl rfl (by first | exact trivial | exact Or.inl rfl | exact Or.inr rfl | (show _ ∨ _; omega)) ⟨rfl, rfl, H9, fr29⟩
theorem r_word (hK : KM Γ) (hR : RH q A l) (H0 : RM M m q A i K) (hi : i ≤ l) (j : Nat) (hj : j < 8) : Ct (e_L r0) Γ mX8_isWord 4 0 0 [vR m, vR (40 + j)] M n (e_wr (some (vI (if pm (e_words.getD j []) (A 6) l i = (e_words.getD j []).length then 1 else 0))) n fun M' => RM M' m q A (i + pm (e_words.getD j []) (A 6) l i) K ∧ e_fr m (m + 9) M M') := by
  have fr0 : e_fr m (m + 9) M M := e_fr_refl
  have H := H0
  refine g_start ok_X8_isWord rfl rfl ?_
  refine g_run 0 2 rfl ?_
  have q8 : ∀ j, j < 8 → (e_words.getD j []).length ≤ 10 := by decide
  have q9 := q8 j hj
  have qw := e_words_ok j hj
  generalize hws : e_words.getD j [] = ws at q9 qw ⊢
  refine e_down (P := fun k => ∀ M', RM M' m q A (i + k) K → e_fr m (m + 9) M M' → i + k ≤ l → pm ws (A 6) l i = k + pm (ws.drop k) (A 6) l (i + k) → G (e_L r0) Γ mX8_isWord 4 0 0 _ 2 [some (vR m), some (vR (40 + j)), some (vI (k : Int))] [] M' n 0 0) ws.length ?_ 0 (by omega) M H0 fr0 hi (by simp)
  intro k hk ih M2 H2 fr2 hik e
  have m100 := H2.1
  refine g_low (fun hl => ?_)
  have kw := k_word hK hl j hj
  rw [hws] at kw
  refine g_run 2 2 rfl ?_
  refine g_callV 4 rfl cv_RX8_193 kw.1 (j_slen (by omega) kw.1 kw.2 (by omega)) rfl rfl (by decide) (by omega) (by omega) (Nat.le_of_ble_eq_true rfl) (e_kr ?_) e_kx
  refine g_icmp_ge 5 30 rfl rfl (by omega) (by omega) (fun c7 => ?_) (fun c7 => ?_)
  · obtain rfl : k = ws.length := by omega
    rw [List.drop_length] at e
    have e7 : pm ws (A 6) l i = ws.length := e
    rw [e7, if_pos rfl]
    refine g_run 16 1 rfl ?_
    exact g_iret 17 rfl rfl (by first | exact trivial | exact Or.inl rfl | exact Or.inr rfl | (show _ ∨ _; omega)) ⟨rfl, rfl, H2, fr2⟩
  · refine g_run 6 3 rfl ?_
    refine g_callV 9 rfl cv_RX8_198 kw.1 (j_schr (by omega) kw.1 kw.2 (by omega) k (by omega) ⟨(qw k (by omega)).1, (qw k (by omega)).2.1⟩) rfl rfl (by decide) (by omega) (by omega) (Nat.le_of_ble_eq_true rfl) (e_kr ?_) e_kx
    refine g_callV 10 rfl cv_RX8_202 H2.2.1 (r_sign hR H2 hik (ws.getD k 0) (qw k (by omega))) rfl rfl (by decide) (by omega) (by omega) (Nat.le_of_ble_eq_true rfl) (e_kw fun M16 hq16 => ?_) e_kwx
    have fr16 := e_fr_tr fr2 (e_fr_w hq16.2 (by omega))
    have k16_word := (hq16.2 (40 + j) (by omega)).trans kw.1
    refine g_if_ne 11 24 rfl rfl b_r (fun c19 => ?_) (fun c19 => ?_)
    · replace c19 := b_1.mp c19
      refine g_run 14 2 rfl ?_
      refine ih (by omega) M16 (by rw [c19] at hq16; exact hq16.1) fr16 (by have := pm_l (A 6) l [ws.getD k 0] (i + k) hik; omega) ?_
      rw [e, ws_drop (by omega), pm_c (qw k (by omega)).2.2]
      have c9 := c19
      rw [pm_c (qw k (by omega)).2.2] at c9
      by_cases e9 : atC (A 6) l (i + k) (ws.getD k 0)
      · rw [if_pos e9, show i + k + 1 = i + (k + 1) from by omega]; omega
      · rw [if_neg e9] at c9; omega
    · replace c19 := b_0.mp c19
      have c8 : pm (ws.drop k) (A 6) l (i + k) = 0 := by
        rw [ws_drop (by omega), pm_c (qw k (by omega)).2.2]
        rw [pm_c (qw k (by omega)).2.2] at c19
        by_cases e9 : atC (A 6) l (i + k) (ws.getD k 0)
        · rw [if_pos e9] at c19; exact absurd rfl c19
        · rw [if_neg e9]
      have c7 : pm [ws.getD k 0] (A 6) l (i + k) = 0 := by have := pm_le (A 6) l [ws.getD k 0] (i + k); simp only [List.length_cons, List.length_nil] at this; omega
      rw [c7] at hq16
      rw [c8] at e
      rw [e, if_neg (by omega)]
      refine g_run 12 1 rfl ?_
      exact g_iret 13 rfl rfl (by first | exact trivial | exact Or.inl rfl | exact Or.inr rfl | (show _ ∨ _; omega)) ⟨rfl, rfl, hq16.1, fr16⟩
/-- a part of a form is read: f from i on, the numbers from a on -/
def RP (M : Mem) (n m : Nat) (q : Nat → Int) (A : Nat → Nat → Int) (l i : Nat) (f : List Int) (a : Nat) (K : Nat → Int) (V : (Nat → Int) → Prop) : Rv → Mem → Nat → Prop := fun r' M' n' => n' = n ∧ e_fr m (m + 9) M M' ∧ ∃ K', RM M' m q A (i + pm f (A 6) l i) K' ∧ r' = .inl (some (vI (if pm f (A 6) l i = f.length then 1 else 0))) ∧ (∀ x, x < a → K' x = K x) ∧ (pm f (A 6) l i = f.length → V K')
theorem r_num1 (hR : RH q A l) (H0 : RM M m q A i K) (hi : i ≤ l) (z : Int) (a : Nat) (hz : z = a) (ha : a < 155) : Ct (e_L r0) Γ mX8_isNumber 2 0 0 [vR m, vI 1, vI z] M n (RP M n m q A l i [35] a K (fun K' => K' a = A 6 i - 48)) := by
  have fr0 : e_fr m (m + 9) M M := e_fr_refl
  have H : MM M m (va_up q 16 (i : Int)) (va_up A 7 K) := H0
  have qn := mNow_rng hR i
  refine g_start ok_X8_isNumber rfl rfl ?_
  refine g_run 0 4 rfl ?_
  refine g_run 4 2 rfl ?_
  refine g_icmp_ge 6 54 rfl rfl (by omega) (by omega) (fun c8 => ?_) (fun c8 => ?_)
  · exact absurd c8 (by decide)
  · refine g_run 7 1 rfl ?_
    refine g_callV 8 rfl cv_RX8_190 H.2.1 (r_now hR H hi) rfl rfl (by decide) (by omega) (by omega) (Nat.le_of_ble_eq_true rfl) (e_kr ?_) e_kx
    refine g_run 9 2 rfl ?_
    refine g_callS 11 rfl cs_RX8_51 (m_isIn (mNow A i l) 48 57 (by omega) (by omega) (by omega)) rfl rfl (by decide) (by omega) (by omega) (Nat.le_of_ble_eq_true rfl) (e_kr ?_) e_kx
    refine g_if_eq 12 54 rfl rfl b_r (fun c22 => ?_) (fun c22 => ?_)
    · replace c22 := b_0.mp c22
      have e9 : pm [35] (A 6) l i = 0 := by rw [pm_d (Or.inl rfl), if_neg (fun e => c22 (mNow_d.mpr e))]
      refine g_run 30 1 rfl ?_
      refine g_get 31 rfl fl_RX8_38 H.2.1 rfl ?_
      refine g_run 32 2 rfl ?_
      refine g_iast 34 a rfl rfl (by decide) H.2.2.2.2.2.2.2.2.2 (by first | rfl | omega) (by omega) (by decide) (fun M60 hM60 => ?_)
      have H60 := MM_A7 H hM60
      have fr60 := e_fr_tr fr0 (e_fr_up hM60 (by omega))
      refine g_run 35 1 rfl ?_
      refine g_if_le 36 70 rfl rfl (by decide) (fun _ => ?_) (fun c63 => absurd c63 (by decide))
      refine g_run 39 1 rfl ?_
      have H9 := H60
      rw [up_up, va_up_self] at H9
      exact g_iret 40 rfl rfl (by first | exact trivial | exact Or.inl rfl | exact Or.inr rfl | (show _ ∨ _; omega)) ⟨rfl, fr60, va_up K a 0, (by rw [e9]; exact H9), (by rw [e9]; rfl), fun x hx => va_up_ne _ _ (by omega), fun h => by rw [e9] at h; exact absurd h (by decide)⟩
    · replace c22 := b_1.mp c22
      have p9 := mNow_d.mp c22
      have e9 : pm [35] (A 6) l i = 1 := by rw [pm_d (Or.inl rfl), if_pos p9]; rfl
      have em : mNow A i l = A 6 i := if_pos p9.1
      have qt := hR.2.2 i p9.1
      refine g_run 13 4 rfl ?_
      refine g_callV 17 rfl cv_RX8_190 H.2.1 (r_now hR H hi) rfl rfl (by decide) (by omega) (by omega) (Nat.le_of_ble_eq_true rfl) (e_kr ?_) e_kx
      rw [em]
      refine g_run 18 6 rfl ?_
      refine g_get 24 rfl fl_RX8_187 H.2.1 rfl ?_
      rw [va_up_self]
      refine g_run 25 2 rfl ?_
      refine g_put 27 rfl fp_RX8_187 H.2.1 rfl trivial (fun M45 hM45 => ?_)
      have H45 := MM_q16 H hM45
      have fr45 := e_fr_tr fr0 (e_fr_up hM45 (by omega))
      refine g_run 28 2 rfl ?_
      refine g_run 4 2 rfl ?_
      refine g_icmp_ge 6 54 rfl rfl (by omega) (by omega) (fun c8 => ?_) (fun c8 => ?_)
      · refine g_run 30 1 rfl ?_
        refine g_get 31 rfl fl_RX8_38 H45.2.1 rfl ?_
        refine g_run 32 2 rfl ?_
        refine g_iast 34 a rfl rfl (by decide) H45.2.2.2.2.2.2.2.2.2 (by first | rfl | omega) (by omega) (by decide) (fun M60 hM60 => ?_)
        have H60 := MM_A7 H45 hM60
        have fr60 := e_fr_tr fr45 (e_fr_up hM60 (by omega))
        refine g_run 35 1 rfl ?_
        refine g_if_le 36 70 rfl rfl (by omega) (fun c63 => ?_) (fun c63 => ?_)
        · exact absurd c63 (by omega)
        · refine g_run 37 2 rfl ?_
          have H9 := H60
          rw [up_up, up_up, va_up_self, show 10 * 0 + A 6 i - 48 = A 6 i - 48 from by omega] at H9
          exact g_iret 40 rfl rfl (by first | exact trivial | exact Or.inl rfl | exact Or.inr rfl | (show _ ∨ _; omega)) ⟨rfl, fr60, va_up K a (A 6 i - 48), (by rw [e9]; exact H9), (by rw [e9]; rfl), fun x hx => va_up_ne _ _ (by omega), fun _ => va_up_self _ _ _⟩
      · exact absurd c8 (by omega)
theorem r_num2 (hR : RH q A l) (H0 : RM M m q A i K) (hi : i ≤ l) (z : Int) (a : Nat) (hz : z = a) (ha : a < 155) : Ct (e_L r0) Γ mX8_isNumber 2 0 0 [vR m, vI 2, vI z] M n (fun r' M' n' => n' = n ∧ e_fr m (m + 9) M M' ∧ ∃ K', RM M' m q A (i + (if i < l ∧ dg (A 6 i) then (if i + 1 < l ∧ dg (A 6 (i + 1)) then 2 else 1) else 0)) K' ∧ r' = .inl (some (vI (if i < l ∧ dg (A 6 i) then 1 else 0))) ∧ (∀ x, x < a → K' x = K x) ∧ (i < l ∧ dg (A 6 i) → K' a = if i + 1 < l ∧ dg (A 6 (i + 1)) then 10 * (A 6 i - 48) + (A 6 (i + 1) - 48) else A 6 i - 48)) := by
  have fr0 : e_fr m (m + 9) M M := e_fr_refl
  have H : MM M m (va_up q 16 (i : Int)) (va_up A 7 K) := H0
  have qn := mNow_rng hR i
  refine g_start ok_X8_isNumber rfl rfl ?_
  refine g_run 0 4 rfl ?_
  refine g_run 4 2 rfl ?_
  refine g_icmp_ge 6 54 rfl rfl (by omega) (by omega) (fun c8 => ?_) (fun c8 => ?_)
  · exact absurd c8 (by decide)
  · refine g_run 7 1 rfl ?_
    refine g_callV 8 rfl cv_RX8_190 H.2.1 (r_now hR H hi) rfl rfl (by decide) (by omega) (by omega) (Nat.le_of_ble_eq_true rfl) (e_kr ?_) e_kx
    refine g_run 9 2 rfl ?_
    refine g_callS 11 rfl cs_RX8_51 (m_isIn (mNow A i l) 48 57 (by omega) (by omega) (by omega)) rfl rfl (by decide) (by omega) (by omega) (Nat.le_of_ble_eq_true rfl) (e_kr ?_) e_kx
    refine g_if_eq 12 54 rfl rfl b_r (fun c22 => ?_) (fun c22 => ?_)
    · replace c22 := b_0.mp c22
      have n9 : ¬ (i < l ∧ dg (A 6 i)) := fun e => c22 (mNow_d.mpr e)
      refine g_run 30 1 rfl ?_
      refine g_get 31 rfl fl_RX8_38 H.2.1 rfl ?_
      refine g_run 32 2 rfl ?_
      refine g_iast 34 a rfl rfl (by decide) H.2.2.2.2.2.2.2.2.2 (by first | rfl | omega) (by omega) (by decide) (fun M60 hM60 => ?_)
      have H60 := MM_A7 H hM60
      have fr60 := e_fr_tr fr0 (e_fr_up hM60 (by omega))
      refine g_run 35 1 rfl ?_
      refine g_if_le 36 70 rfl rfl (by decide) (fun _ => ?_) (fun c63 => absurd c63 (by decide))
      refine g_run 39 1 rfl ?_
      have H9 := H60
      rw [up_up, va_up_self] at H9
      exact g_iret 40 rfl rfl (by first | exact trivial | exact Or.inl rfl | exact Or.inr rfl | (show _ ∨ _; omega)) ⟨rfl, fr60, va_up K a 0, (by rw [if_neg n9]; exact H9), (by rw [if_neg n9]), fun x hx => va_up_ne _ _ (by omega), fun h => absurd h n9⟩
    · replace c22 := b_1.mp c22
      have p9 := mNow_d.mp c22
      have em : mNow A i l = A 6 i := if_pos p9.1
      have qt := hR.2.2 i p9.1
      have qn2 := mNow_rng hR (i + 1)
      refine g_run 13 4 rfl ?_
      refine g_callV 17 rfl cv_RX8_190 H.2.1 (r_now hR H hi) rfl rfl (by decide) (by omega) (by omega) (Nat.le_of_ble_eq_true rfl) (e_kr ?_) e_kx
      rw [em]
      refine g_run 18 6 rfl ?_
      refine g_get 24 rfl fl_RX8_187 H.2.1 rfl ?_
      rw [va_up_self]
      refine g_run 25 2 rfl ?_
      refine g_put 27 rfl fp_RX8_187 H.2.1 rfl trivial (fun M45 hM45 => ?_)
      have H45 := MM_q16 H hM45
      have fr45 := e_fr_tr fr0 (e_fr_up hM45 (by omega))
      refine g_run 28 2 rfl ?_
      refine g_run 4 2 rfl ?_
      refine g_icmp_ge 6 54 rfl rfl (by omega) (by omega) (fun c8 => ?_) (fun c8 => ?_)
      · exact absurd c8 (by decide)
      · refine g_run 7 1 rfl ?_
        refine g_callV 8 rfl cv_RX8_190 H45.2.1 (r_now hR (show RM M45 m q A (i + 1) K from by have H9 := H45; rw [up_up] at H9; exact H9) (by omega)) rfl rfl (by decide) (by omega) (by omega) (Nat.le_of_ble_eq_true rfl) (e_kr ?_) e_kx
        refine g_run 9 2 rfl ?_
        refine g_callS 11 rfl cs_RX8_51 (m_isIn (mNow A (i + 1) l) 48 57 (by omega) (by omega) (by omega)) rfl rfl (by decide) (by omega) (by omega) (Nat.le_of_ble_eq_true rfl) (e_kr ?_) e_kx
        refine g_if_eq 12 54 rfl rfl b_r (fun c22 => ?_) (fun c22 => ?_)
        · replace c22 := b_0.mp c22
          have n9 : ¬ (i + 1 < l ∧ dg (A 6 (i + 1))) := fun e => c22 (mNow_d.mpr e)
          refine g_run 30 1 rfl ?_
          refine g_get 31 rfl fl_RX8_38 H45.2.1 rfl ?_
          refine g_run 32 2 rfl ?_
          refine g_iast 34 a rfl rfl (by decide) H45.2.2.2.2.2.2.2.2.2 (by first | rfl | omega) (by omega) (by decide) (fun M60 hM60 => ?_)
          have H60 := MM_A7 H45 hM60
          have fr60 := e_fr_tr fr45 (e_fr_up hM60 (by omega))
          refine g_run 35 1 rfl ?_
          refine g_if_le 36 70 rfl rfl (by omega) (fun c63 => ?_) (fun c63 => ?_)
          · exact absurd c63 (by omega)
          · refine g_run 37 2 rfl ?_
            have H9 := H60
            rw [up_up, up_up, va_up_self, show 10 * 0 + A 6 i - 48 = A 6 i - 48 from by omega] at H9
            exact g_iret 40 rfl rfl (by first | exact trivial | exact Or.inl rfl | exact Or.inr rfl | (show _ ∨ _; omega)) ⟨rfl, fr60, va_up K a (A 6 i - 48), (by rw [if_pos p9, if_neg n9]; exact H9), (by rw [if_pos p9]), fun x hx => va_up_ne _ _ (by omega), fun _ => by rw [if_neg n9]; exact va_up_self _ _ _⟩
        · replace c22 := b_1.mp c22
          have p8 := mNow_d.mp c22
          have em2 : mNow A (i + 1) l = A 6 (i + 1) := if_pos p8.1
          have qt2 := hR.2.2 (i + 1) p8.1
          refine g_run 13 4 rfl ?_
          refine g_callV 17 rfl cv_RX8_190 H45.2.1 (r_now hR (show RM M45 m q A (i + 1) K from by have H9 := H45; rw [up_up] at H9; exact H9) (by omega)) rfl rfl (by decide) (by omega) (by omega) (Nat.le_of_ble_eq_true rfl) (e_kr ?_) e_kx
          rw [em2]
          refine g_run 18 6 rfl ?_
          refine g_get 24 rfl fl_RX8_187 H45.2.1 rfl ?_
          rw [va_up_self]
          refine g_run 25 2 rfl ?_
          refine g_put 27 rfl fp_RX8_187 H45.2.1 rfl trivial (fun M45 hM45 => ?_)
          have H45 := MM_q16 H45 hM45
          have fr45 := e_fr_tr fr45 (e_fr_up hM45 (by omega))
          refine g_run 28 2 rfl ?_
          refine g_run 4 2 rfl ?_
          refine g_icmp_ge 6 54 rfl rfl (by omega) (by omega) (fun c8 => ?_) (fun c8 => ?_)
          · refine g_run 30 1 rfl ?_
            refine g_get 31 rfl fl_RX8_38 H45.2.1 rfl ?_
            refine g_run 32 2 rfl ?_
            refine g_iast 34 a rfl rfl (by decide) H45.2.2.2.2.2.2.2.2.2 (by first | rfl | omega) (by omega) (by decide) (fun M60 hM60 => ?_)
            have H60 := MM_A7 H45 hM60
            have fr60 := e_fr_tr fr45 (e_fr_up hM60 (by omega))
            refine g_run 35 1 rfl ?_
            refine g_if_le 36 70 rfl rfl (by omega) (fun c63 => ?_) (fun c63 => ?_)
            · exact absurd c63 (by omega)
            · refine g_run 37 2 rfl ?_
              have H9 := H60
              rw [up_up, up_up, up_up, va_up_self, show 10 * (10 * 0 + A 6 i - 48) + A 6 (i + 1) - 48 = 10 * (A 6 i - 48) + (A 6 (i + 1) - 48) from by omega] at H9
              exact g_iret 40 rfl rfl (by first | exact trivial | exact Or.inl rfl | exact Or.inr rfl | (show _ ∨ _; omega)) ⟨rfl, fr60, va_up K a (10 * (A 6 i - 48) + (A 6 (i + 1) - 48)), (by rw [if_pos p9, if_pos p8]; exact H9), (by rw [if_pos p9]), fun x hx => va_up_ne _ _ (by omega), fun _ => by rw [if_pos p8]; exact va_up_self _ _ _⟩
          · exact absurd c8 (by omega)
end MR
