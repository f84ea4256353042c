/-! the reference reads a whole script (wip/whole/gen/c_mread3.py prints this part) -/
theorem up_cm {α : Type} {f : Nat → α} {j k : Nat} {x y : α} (h : j ≠ k) : va_up (va_up f j x) k y = va_up (va_up f k y) j x := by
  funext z
  by_cases e1 : z = k
  · subst e1; rw [va_up_self, va_up_ne _ _ (fun e => h e.symm), va_up_self]
  · by_cases e2 : z = j
    · subst e2; rw [va_up_ne _ _ e1, va_up_self, va_up_self]
    · rw [va_up_ne _ _ e1, va_up_ne _ _ e2, va_up_ne _ _ e2, va_up_ne _ _ e1]
abbrev isFst (c : Int) : Prop := c = 116 ∨ c = 100 ∨ c = 115 ∨ c = 98 ∨ c = 104
/-- the command j of the script is written at its place -/
def CM (t : Nat → Int) (l : Nat) (K : Nat → Int) (j : Nat) : Prop := K (5 * j) = rKd (rJ t l (sT t l j)) ∧ ∀ p, p < rAr (rJ t l (sT t l j)) → K (5 * j + 1 + p) = rA t (sT t l j) (rJ t l (sT t l j)) p
theorem rAr_4 : ∀ j, rAr j ≤ 4 := fun j => by
  by_cases h : j < 10
  · exact (show ∀ j, j < 10 → rAr j ≤ 4 by decide) j h
  · have : rAr j = 0 := by unfold rAr; rw [List.getD_eq_getElem?_getD, List.getElem?_eq_none (by simp; omega)]; rfl
    omega
theorem CM_lo {t : Nat → Int} {l : Nat} {K K' : Nat → Int} {j k : Nat} (h : CM t l K j) (hj : j < k) (lo : ∀ x, x < 5 * k → K' x = K x) : CM t l K' j :=
  ⟨(lo _ (by omega)).trans h.1, fun p hp => (lo _ (by have := rAr_4 (rJ t l (sT t l j)); omega)).trans (h.2 p hp)⟩
section MR3
variable {r0 : Option Nat} {Γ : Cx} {M : Mem} {n m : Nat} {q : Nat → Int} {A : Nat → Nat → Int} {i l : Nat} {K : Nat → Int}
theorem r_readsHour (hK : KM Γ) (hR : RH q A l) (H0 : RM M m q A (i + 1) K) (z : Int) (a : Nat) (hz : z = a) (ha : a + 4 < 155) (h0 : atC (A 6) l i 104) (hKa : K a = 104) : Ct (e_L r0) Γ mX8_readsHour 5 0 0 [vR m, vI z] M n (RQ M n m q A l i a K) := by
  have fr0 : e_fr m (m + 9) M M := e_fr_refl
  have H : MM M m (va_up q 16 ((i + 1 : Nat) : Int)) (va_up A 7 K) := H0
  have le0 := h0.1
  have e6 : pm (FM 6) (A 6) l i = 1 + pm [111, 117, 114] (A 6) l (i + 1) := by rw [FM_6, pm_1 (by decide) h0]; exact Nat.add_comm _ 1
  refine g_start ok_X8_readsHour rfl rfl ?_
  refine g_run 0 1 rfl ?_
  refine g_get 1 rfl fl_RX8_38 H.2.1 rfl ?_
  refine g_run 2 4 rfl ?_
  refine g_iast 6 (a + 1) rfl rfl (by decide) H.2.2.2.2.2.2.2.2.2 (by first | rfl | omega) (by omega) (by decide) (fun M8 hM8 => ?_)
  have H8 := MM_A7 H hM8
  have fr8 := e_fr_tr fr0 (e_fr_up hM8 (by omega))
  have R8 := H8
  rw [up_up, va_up_self] at R8
  have lk : ∀ x, x < a + 1 → va_up K (a + 1) 1 x = K x := fun x h9 => va_up_ne _ _ (by omega)
  refine g_run 7 1 rfl ?_
  refine g_ldcS 8 rfl (e_mem 31 rfl) ?_
  refine g_callV 9 rfl cv_RX8_210 R8.2.1 (r_word hK hR (show RM _ m q A (i + 1) (va_up K (a + 1) 1) from R8) (by omega) 7 (by decide)) rfl rfl (by decide) (by omega) (by omega) (Nat.le_of_ble_eq_true rfl) (e_kw fun M12 hq12 => ?_) e_kwx
  have fr12 := e_fr_tr fr8 (e_fr_w hq12.2 (by omega))
  refine g_if_eq 10 42 rfl rfl b_r (fun c15 => ?_) (fun c15 => ?_)
  · replace c15 := b_0.mp c15
    have c15a : ¬ pm [111, 117, 114] (A 6) l (i + 1) = 3 := c15
    have l15 : pm [111, 117, 114] (A 6) l (i + 1) ≤ 3 := pm_le (A 6) l [111, 117, 114] (i + 1)
    have b7 := pm_67 (A 6) l i
    rw [if_neg (by omega)] at b7
    have eJ : rJ (A 6) l i = 6 := by rw [rJ_h h0, if_neg (by omega)]
    have x9 : rN (A 6) l i = 1 + pm [111, 117, 114] (A 6) l (i + 1) := by rw [rN, eJ]; exact e6
    have n9 : ¬ rOK (A 6) l i := fun h => by have h2 := h.2; rw [eJ, x9] at h2; have h3 : (FM 6).length = 4 := rfl; omega
    have fin9 : RM M12 m q A (i + (1 + pm [111, 117, 114] (A 6) l (i + 1))) (va_up K (a + 1) 1) := by rw [← Nat.add_assoc]; exact hq12.1
    rw [← x9] at fin9
    have lo9 : ∀ x, x < a → (va_up K (a + 1) 1) x = K x := fun x h9 => lk x (by omega)
    refine g_run 24 1 rfl ?_
    exact g_iret 25 rfl rfl (by first | exact trivial | exact Or.inl rfl | exact Or.inr rfl | (show _ ∨ _; omega)) (by first | exact ⟨rfl, fr12, _, fin9, (by rw [if_neg n9]), lo9, fun h => absurd h n9⟩ | exact ⟨rfl, fr12, _, fin9, (by rw [if_pos o9]), lo9, fun _ => ⟨(by rw [eJ]; exact (lk a (by omega)).trans hKa), (by rw [eJ]; intro p hp; have hp3 : p < 1 := hp; match p, hp3 with | 0, _ => exact va_up_self _ _ _)⟩⟩ | exact ⟨rfl, fr12, K32, all9.2.1, (by rw [if_pos all9.1]), lo9, fun _ => ⟨all9.2.2.1, by rw [all9.2.2.2.1]; intro p hp; have hp0 : p = 0 := (by omega); subst hp0; exact all9.2.2.2.2⟩⟩)
  · replace c15 := b_1.mp c15
    have c15a : pm [111, 117, 114] (A 6) l (i + 1) = 3 := c15
    have e4 : pm (FM 6) (A 6) l i = 4 := by rw [e6, c15a]
    have b7 := pm_67 (A 6) l i
    rw [if_pos e4] at b7
    have le15 := pm_l (A 6) l [111, 117, 114] (i + 1) (by omega)
    have R15 : RM M12 m q A (i + 1 + pm [111, 117, 114] (A 6) l (i + 1)) (va_up K (a + 1) 1) := hq12.1
    rw [c15a] at R15 le15
    refine g_run 11 2 rfl ?_
    refine g_callV 13 rfl cv_RX8_202 R15.2.1 (r_sign hR (show RM _ m q A (i + 4) (va_up K (a + 1) 1) from R15) (by omega) 32 (by decide)) rfl rfl (by decide) (by omega) (by omega) (Nat.le_of_ble_eq_true rfl) (e_kw fun M21 hq21 => ?_) e_kwx
    have fr21 := e_fr_tr fr12 (e_fr_w hq21.2 (by omega))
    refine g_if_eq 14 38 rfl rfl b_r (fun c24 => ?_) (fun c24 => ?_)
    · replace c24 := b_0.mp c24
      have b8 : pm [32, 35] (A 6) l (i + 4) = 0 := by rw [pm_c (by decide), if_neg (fun e => c24 ((pm_one (by decide)).mpr e))]
      have eJ : rJ (A 6) l i = 6 := by rw [rJ_h h0, if_neg (by omega)]
      have x9 : rN (A 6) l i = 4 := by rw [rN, eJ]; exact e4
      have o9 : rOK (A 6) l i := ⟨by rw [eJ]; decide, by rw [eJ, x9]; rfl⟩
      have fin9 := hq21.1
      rw [pm_n1 c24] at fin9
      replace fin9 : RM M21 m q A (i + 4) (va_up K (a + 1) 1) := fin9
      rw [← x9] at fin9
      have lo9 : ∀ x, x < a → (va_up K (a + 1) 1) x = K x := fun x h9 => lk x (by omega)
      refine g_run 22 2 rfl ?_
      exact g_iret 25 rfl rfl (by first | exact trivial | exact Or.inl rfl | exact Or.inr rfl | (show _ ∨ _; omega)) (by first | exact ⟨rfl, fr21, _, fin9, (by rw [if_neg n9]), lo9, fun h => absurd h n9⟩ | exact ⟨rfl, fr21, _, fin9, (by rw [if_pos o9]), lo9, fun _ => ⟨(by rw [eJ]; exact (lk a (by omega)).trans hKa), (by rw [eJ]; intro p hp; have hp3 : p < 1 := hp; match p, hp3 with | 0, _ => exact va_up_self _ _ _)⟩⟩ | exact ⟨rfl, fr21, K32, all9.2.1, (by rw [if_pos all9.1]), lo9, fun _ => ⟨all9.2.2.1, by rw [all9.2.2.2.1]; intro p hp; have hp0 : p = 0 := (by omega); subst hp0; exact all9.2.2.2.2⟩⟩)
    · replace c24 := b_1.mp c24
      have u24 : atC (A 6) l (i + 4) 32 := (pm_one (by decide)).mp c24
      have b8 : pm [32, 35] (A 6) l (i + 4) = pm [35] (A 6) l (i + 5) + 1 := by rw [pm_1 (by decide) u24]
      have R24 := hq21.1
      rw [show pm [32] (A 6) l (i + 4) = 1 from c24] at R24
      have le24 := u24.1
      refine g_run 15 5 rfl ?_
      refine g_callV 20 rfl cv_RX8_205 R24.2.1 (r_num2 hR (show RM _ m q A (i + 5) (va_up K (a + 1) 1) from R24) (by omega) _ (a + 1) (by omega) (by omega)) rfl rfl (by decide) (by omega) (by omega) (Nat.le_of_ble_eq_true rfl) (fun v9 M32 n9 h9 _ => ?_) (fun E M9 n9 h9 _ => by obtain ⟨-, -, K9, -, h3, -⟩ := h9; cases h3)
      obtain ⟨hn9, fq32, K32, H32, h3, lo32, hv32⟩ := h9
      subst n9
      cases h3
      have fr32 := e_fr_tr fr21 fq32
      refine g_if_eq 21 42 rfl rfl b_r (fun c35 => ?_) (fun c35 => ?_)
      · replace c35 := b_0.mp c35
        have b6 : pm [35] (A 6) l (i + 5) = 0 := by rw [pm_d (Or.inl rfl), if_neg c35]
        have b5 : pm (FM 7) (A 6) l i = 5 := by omega
        have b9 := pm_78 (A 6) l i
        rw [if_neg (by omega)] at b9
        have eJ : rJ (A 6) l i = 7 := by rw [rJ_h h0, if_pos (by omega), if_neg (by omega)]
        have x9 : rN (A 6) l i = 5 := by rw [rN, eJ]; exact b5
        have n9 : ¬ rOK (A 6) l i := fun h => by have h2 := h.2; rw [eJ, x9] at h2; have h3 : (FM 7).length = 6 := rfl; omega
        have fin9 := H32
        rw [if_neg c35] at fin9
        replace fin9 : RM M32 m q A (i + 5) K32 := fin9
        rw [← x9] at fin9
        have lo9 : ∀ x, x < a → K32 x = K x := fun x h9 => (lo32 x (by omega)).trans (lk x (by omega))
        refine g_run 24 1 rfl ?_
        exact g_iret 25 rfl rfl (by first | exact trivial | exact Or.inl rfl | exact Or.inr rfl | (show _ ∨ _; omega)) (by first | exact ⟨rfl, fr32, _, fin9, (by rw [if_neg n9]), lo9, fun h => absurd h n9⟩ | exact ⟨rfl, fr32, _, fin9, (by rw [if_pos o9]), lo9, fun _ => ⟨(by rw [eJ]; exact (lk a (by omega)).trans hKa), (by rw [eJ]; intro p hp; have hp3 : p < 1 := hp; match p, hp3 with | 0, _ => exact va_up_self _ _ _)⟩⟩ | exact ⟨rfl, fr32, K32, all9.2.1, (by rw [if_pos all9.1]), lo9, fun _ => ⟨all9.2.2.1, by rw [all9.2.2.2.1]; intro p hp; have hp0 : p = 0 := (by omega); subst hp0; exact all9.2.2.2.2⟩⟩)
      · replace c35 := b_1.mp c35
        have b6 : pm [35] (A 6) l (i + 5) = 1 := by rw [pm_d (Or.inl rfl), if_pos c35]; rfl
        have b5 : pm (FM 7) (A 6) l i = 6 := by omega
        have b9 := pm_78 (A 6) l i
        rw [if_pos b5] at b9
        have v9 := hv32 c35
        have fin9 := H32
        rw [if_pos c35] at fin9
        have lo9 : ∀ x, x < a → K32 x = K x := fun x h9 => (lo32 x (by omega)).trans (lk x (by omega))
        have ka9 : K32 a = 104 := (lo32 a (by omega)).trans ((lk a (by omega)).trans hKa)
        have all9 : rOK (A 6) l i ∧ RM M32 m q A (i + rN (A 6) l i) K32 ∧ K32 a = rKd (rJ (A 6) l i) ∧ rAr (rJ (A 6) l i) = 1 ∧ K32 (a + 1) = rA (A 6) i (rJ (A 6) l i) 0 := by
          by_cases p2 : i + 5 + 1 < l ∧ dg (A 6 (i + 5 + 1))
          · have b4 : pm [38] (A 6) l (i + 6) = 1 := by rw [pm_d (Or.inr rfl), if_pos p2]; rfl
            have eJ : rJ (A 6) l i = 8 := by rw [rJ_h h0, if_pos (by omega), if_pos (by omega)]
            have x9 : rN (A 6) l i = 7 := by rw [rN, eJ]; omega
            rw [if_pos p2] at fin9 v9
            exact ⟨⟨by rw [eJ]; decide, by rw [eJ, x9]; rfl⟩, by rw [x9]; exact fin9, by rw [eJ]; exact ka9, by rw [eJ]; rfl, by rw [eJ]; exact v9⟩
          · have b4 : pm [38] (A 6) l (i + 6) = 0 := by rw [pm_d (Or.inr rfl), if_neg p2]
            have eJ : rJ (A 6) l i = 7 := by rw [rJ_h h0, if_pos (by omega), if_neg (by omega)]
            have x9 : rN (A 6) l i = 6 := by rw [rN, eJ]; exact b5
            rw [if_neg p2] at fin9 v9
            exact ⟨⟨by rw [eJ]; decide, by rw [eJ, x9]; rfl⟩, by rw [x9]; exact fin9, by rw [eJ]; exact ka9, by rw [eJ]; rfl, by rw [eJ]; exact v9⟩
        refine g_run 22 2 rfl ?_
        exact g_iret 25 rfl rfl (by first | exact trivial | exact Or.inl rfl | exact Or.inr rfl | (show _ ∨ _; omega)) (by first | exact ⟨rfl, fr32, _, fin9, (by rw [if_neg n9]), lo9, fun h => absurd h n9⟩ | exact ⟨rfl, fr32, _, fin9, (by rw [if_pos o9]), lo9, fun _ => ⟨(by rw [eJ]; exact (lk a (by omega)).trans hKa), (by rw [eJ]; intro p hp; have hp3 : p < 1 := hp; match p, hp3 with | 0, _ => exact va_up_self _ _ _)⟩⟩ | exact ⟨rfl, fr32, K32, all9.2.1, (by rw [if_pos all9.1]), lo9, fun _ => ⟨all9.2.2.1, by rw [all9.2.2.2.1]; intro p hp; have hp0 : p = 0 := (by omega); subst hp0; exact all9.2.2.2.2⟩⟩)
theorem r_restT (hK : KM Γ) (hR : RH q A l) (H0 : RM M m q A (i + 1) K) (z : Int) (a : Nat) (hz : z = a) (ha : a + 4 < 155) (h0 : atC (A 6) l i 116) (hKa : K a = 116) : Ct (e_L r0) Γ mX8_readsRest 6 0 0 [vR m, vI 116, vI z] M n (RQ M n m q A l i a K) := by
  have fr0 : e_fr m (m + 9) M M := e_fr_refl
  have H : MM M m (va_up q 16 ((i + 1 : Nat) : Int)) (va_up A 7 K) := H0
  have le0 := h0.1
  refine g_start ok_X8_readsRest rfl rfl ?_
  refine g_run 0 1 rfl ?_
  refine g_lsw 44 dw_X8_readsRest_1 (by decide +kernel) (by decide) rfl rfl ?_
  refine g_run 1 2 rfl ?_
  refine g_callV 3 rfl cv_RX8_232 H.2.1 (r_readsT hK hR H z a hz ha h0 hKa) rfl rfl (by decide) (by omega) (by omega) (Nat.le_of_ble_eq_true rfl) (fun v9 M46 n9 h9 _ => ?_) (fun E M9 n9 h9 _ => by obtain ⟨-, -, K9, -, h3, -⟩ := h9; cases h3)
  obtain ⟨hn9, fq46, K46, H46, h3, lo46, hv46⟩ := h9
  subst n9
  cases h3
  have fr46 := e_fr_tr fr0 fq46
  exact g_iret 4 rfl rfl b_01 ⟨rfl, fr46, K46, H46, rfl, lo46, hv46⟩
theorem r_restD (hK : KM Γ) (hR : RH q A l) (H0 : RM M m q A (i + 1) K) (z : Int) (a : Nat) (hz : z = a) (ha : a + 4 < 155) (h0 : atC (A 6) l i 100) (hKa : K a = 100) : Ct (e_L r0) Γ mX8_readsRest 6 0 0 [vR m, vI 100, vI z] M n (RQ M n m q A l i a K) := by
  have fr0 : e_fr m (m + 9) M M := e_fr_refl
  have H : MM M m (va_up q 16 ((i + 1 : Nat) : Int)) (va_up A 7 K) := H0
  have le0 := h0.1
  refine g_start ok_X8_readsRest rfl rfl ?_
  refine g_run 0 1 rfl ?_
  refine g_lsw 50 dw_X8_readsRest_1 (by decide +kernel) (by decide) rfl rfl ?_
  refine g_run 5 2 rfl ?_
  refine g_callV 7 rfl cv_RX8_235 H.2.1 (r_readsD hK hR H z a hz ha h0 hKa) rfl rfl (by decide) (by omega) (by omega) (Nat.le_of_ble_eq_true rfl) (fun v9 M52 n9 h9 _ => ?_) (fun E M9 n9 h9 _ => by obtain ⟨-, -, K9, -, h3, -⟩ := h9; cases h3)
  obtain ⟨hn9, fq52, K52, H52, h3, lo52, hv52⟩ := h9
  subst n9
  cases h3
  have fr52 := e_fr_tr fr0 fq52
  exact g_iret 8 rfl rfl b_01 ⟨rfl, fr52, K52, H52, rfl, lo52, hv52⟩
theorem r_restS (hK : KM Γ) (hR : RH q A l) (H0 : RM M m q A (i + 1) K) (z : Int) (a : Nat) (hz : z = a) (ha : a + 4 < 155) (h0 : atC (A 6) l i 115) (hKa : K a = 115) : Ct (e_L r0) Γ mX8_readsRest 6 0 0 [vR m, vI 115, vI z] M n (RQ M n m q A l i a K) := by
  have fr0 : e_fr m (m + 9) M M := e_fr_refl
  have H : MM M m (va_up q 16 ((i + 1 : Nat) : Int)) (va_up A 7 K) := H0
  have le0 := h0.1
  refine g_start ok_X8_readsRest rfl rfl ?_
  refine g_run 0 1 rfl ?_
  refine g_lsw 56 dw_X8_readsRest_1 (by decide +kernel) (by decide) rfl rfl ?_
  refine g_run 9 2 rfl ?_
  refine g_callV 11 rfl cv_RX8_238 H.2.1 (r_readsS hK hR H z a hz ha h0 hKa) rfl rfl (by decide) (by omega) (by omega) (Nat.le_of_ble_eq_true rfl) (fun v9 M58 n9 h9 _ => ?_) (fun E M9 n9 h9 _ => by obtain ⟨-, -, K9, -, h3, -⟩ := h9; cases h3)
  obtain ⟨hn9, fq58, K58, H58, h3, lo58, hv58⟩ := h9
  subst n9
  cases h3
  have fr58 := e_fr_tr fr0 fq58
  exact g_iret 12 rfl rfl b_01 ⟨rfl, fr58, K58, H58, rfl, lo58, hv58⟩
theorem r_restHour (hK : KM Γ) (hR : RH q A l) (H0 : RM M m q A (i + 1) K) (z : Int) (a : Nat) (hz : z = a) (ha : a + 4 < 155) (h0 : atC (A 6) l i 104) (hKa : K a = 104) : Ct (e_L r0) Γ mX8_readsRest 6 0 0 [vR m, vI 104, vI z] M n (RQ M n m q A l i a K) := by
  have fr0 : e_fr m (m + 9) M M := e_fr_refl
  have H : MM M m (va_up q 16 ((i + 1 : Nat) : Int)) (va_up A 7 K) := H0
  have le0 := h0.1
  refine g_start ok_X8_readsRest rfl rfl ?_
  refine g_run 0 1 rfl ?_
  refine g_lsw 108 dw_X8_readsRest_1 (by decide +kernel) (by decide) rfl rfl ?_
  refine g_run 39 2 rfl ?_
  refine g_callV 41 rfl cv_RX8_243 H.2.1 (r_readsHour hK hR H z a hz ha h0 hKa) rfl rfl (by decide) (by omega) (by omega) (Nat.le_of_ble_eq_true rfl) (fun v9 M110 n9 h9 _ => ?_) (fun E M9 n9 h9 _ => by obtain ⟨-, -, K9, -, h3, -⟩ := h9; cases h3)
  obtain ⟨hn9, fq110, K110, H110, h3, lo110, hv110⟩ := h9
  subst n9
  cases h3
  have fr110 := e_fr_tr fr0 fq110
  exact g_iret 42 rfl rfl b_01 ⟨rfl, fr110, K110, H110, rfl, lo110, hv110⟩
theorem r_restBake (hK : KM Γ) (hR : RH q A l) (H0 : RM M m q A (i + 1) K) (z : Int) (a : Nat) (hz : z = a) (ha : a + 4 < 155) (h0 : atC (A 6) l i 98) (hKa : K a = 98) : Ct (e_L r0) Γ mX8_readsRest 6 0 0 [vR m, vI 98, vI z] M n (RQ M n m q A l i a K) := by
  have fr0 : e_fr m (m + 9) M M := e_fr_refl
  have H : MM M m (va_up q 16 ((i + 1 : Nat) : Int)) (va_up A 7 K) := H0
  have le0 := h0.1
  have eJ : rJ (A 6) l i = 5 := rJ_5 h0
  have e6 : pm (FM 5) (A 6) l i = 1 + pm [97, 107, 101, 32, 35, 32, 35] (A 6) l (i + 1) := by rw [FM_5, pm_1 (by decide) h0]; exact Nat.add_comm _ 1
  refine g_start ok_X8_readsRest rfl rfl ?_
  refine g_run 0 1 rfl ?_
  refine g_lsw 62 dw_X8_readsRest_1 (by decide +kernel) (by decide) rfl rfl ?_
  refine g_run 13 1 rfl ?_
  refine g_ldcS 14 rfl (e_mem 30 rfl) ?_
  refine g_callV 15 rfl cv_RX8_210 H.2.1 (r_word hK hR (show RM _ m q A (i + 1) K from H) (by omega) 6 (by decide)) rfl rfl (by decide) (by omega) (by omega) (Nat.le_of_ble_eq_true rfl) (e_kw fun M65 hq65 => ?_) e_kwx
  have fr65 := e_fr_tr fr0 (e_fr_w hq65.2 (by omega))
  refine g_if_eq 16 106 rfl rfl b_r (fun c68 => ?_) (fun c68 => ?_)
  · replace c68 := b_0.mp c68
    have c68a : ¬ pm [97, 107, 101, 32] (A 6) l (i + 1) = 4 := c68
    have x68 := pm_no (nf := 4) (F := (FM 5)) (f := [97, 107, 101, 32]) (R := [35, 32, 35]) (p := 1) e6 rfl c68a
    have x9 : rN (A 6) l i = 1 + pm [97, 107, 101, 32] (A 6) l (i + 1) := by rw [rN, eJ]; exact x68.1
    have n9 : ¬ rOK (A 6) l i := fun h => by have h2 := h.2; rw [eJ, x9] at h2; have h3 : (FM 5).length = 8 := rfl; have h4 := x68.2; omega
    have fin9 : RM M65 m q A (i + (1 + pm [97, 107, 101, 32] (A 6) l (i + 1))) K := by rw [← Nat.add_assoc]; exact hq65.1
    rw [← x9] at fin9
    have lo9 : ∀ x, x < a → K x = K x := fun x _ => rfl
    have fin8 : ∀ V : Prop, rOK (A 6) l i → V := fun V h => absurd h n9
    
    refine g_run 37 1 rfl ?_
    exact g_iret 38 rfl rfl (by first | exact trivial | exact Or.inl rfl | exact Or.inr rfl | (show _ ∨ _; omega)) (by first | exact ⟨rfl, fr65, _, fin9, (by rw [if_neg n9]), lo9, fun h => absurd h n9⟩ | exact ⟨rfl, fr65, _, fin9, (by rw [if_pos o9]), lo9, fun _ => ⟨(by rw [eJ]; exact ((lo96 _ (by omega)).trans ((lo76 _ (by omega)).trans hKa))), (by rw [eJ]; intro p hp; have hp3 : p < 2 := hp; match p, hp3 with | 0, _ => exact ((lo96 _ (by omega)).trans v79) | 1, _ => exact v99)⟩⟩)
  · replace c68 := b_1.mp c68
    have c68a : pm [97, 107, 101, 32] (A 6) l (i + 1) = 4 := c68
    have e68 := pm_ok (nf := 4) (F := (FM 5)) (f := [97, 107, 101, 32]) (R := [35, 32, 35]) (p := 1) e6 rfl c68a
    have le68 := pm_l (A 6) l [97, 107, 101, 32] (i + 1) (by omega)
    have R68 : RM M65 m q A (i + 1 + pm [97, 107, 101, 32] (A 6) l (i + 1)) K := hq65.1
    rw [show pm _ (A 6) l _ = 4 from c68a] at R68 le68
    refine g_run 17 5 rfl ?_
    refine g_callV 22 rfl cv_RX8_205 R68.2.1 (r_num1 hR (show RM _ m q A (i + 5) K from R68) (by omega) _ (a + 1) (by omega) (by omega)) rfl rfl (by decide) (by omega) (by omega) (Nat.le_of_ble_eq_true rfl) (fun v9 M76 n9 h9 _ => ?_) (fun E M9 n9 h9 _ => by obtain ⟨-, -, K9, -, h3, -⟩ := h9; cases h3)
    obtain ⟨hn9, fq76, K76, H76, h3, lo76, hv76⟩ := h9
    subst n9
    cases h3
    have fr76 := e_fr_tr fr65 fq76
    refine g_if_eq 23 106 rfl rfl b_r (fun c79 => ?_) (fun c79 => ?_)
    · replace c79 := b_0.mp c79
      have c79a : ¬ pm [35] (A 6) l (i + 5) = 1 := c79
      have x79 := pm_no (nf := 1) (F := (FM 5)) (f := [35]) (R := [32, 35]) (p := 5) e68 rfl c79a
      have x9 : rN (A 6) l i = 5 + pm [35] (A 6) l (i + 5) := by rw [rN, eJ]; exact x79.1
      have n9 : ¬ rOK (A 6) l i := fun h => by have h2 := h.2; rw [eJ, x9] at h2; have h3 : (FM 5).length = 8 := rfl; have h4 := x79.2; omega
      have fin9 : RM M76 m q A (i + (5 + pm [35] (A 6) l (i + 5))) K76 := by rw [← Nat.add_assoc]; exact H76
      rw [← x9] at fin9
      have lo9 : ∀ x, x < a → K76 x = K x := fun x h9 => (lo76 x (by omega))
      have fin8 : ∀ V : Prop, rOK (A 6) l i → V := fun V h => absurd h n9
      
      refine g_run 37 1 rfl ?_
      exact g_iret 38 rfl rfl (by first | exact trivial | exact Or.inl rfl | exact Or.inr rfl | (show _ ∨ _; omega)) (by first | exact ⟨rfl, fr76, _, fin9, (by rw [if_neg n9]), lo9, fun h => absurd h n9⟩ | exact ⟨rfl, fr76, _, fin9, (by rw [if_pos o9]), lo9, fun _ => ⟨(by rw [eJ]; exact ((lo96 _ (by omega)).trans ((lo76 _ (by omega)).trans hKa))), (by rw [eJ]; intro p hp; have hp3 : p < 2 := hp; match p, hp3 with | 0, _ => exact ((lo96 _ (by omega)).trans v79) | 1, _ => exact v99)⟩⟩)
    · replace c79 := b_1.mp c79
      have c79a : pm [35] (A 6) l (i + 5) = 1 := c79
      have e79 := pm_ok (nf := 1) (F := (FM 5)) (f := [35]) (R := [32, 35]) (p := 5) e68 rfl c79a
      have le79 := pm_l (A 6) l [35] (i + 5) (by omega)
      have R79 := H76
      have v79 := hv76 c79a
      rw [show pm _ (A 6) l _ = 1 from c79a] at R79 le79
      refine g_run 24 2 rfl ?_
      refine g_callV 26 rfl cv_RX8_202 R79.2.1 (r_sign hR (show RM _ m q A (i + 6) K76 from R79) (by omega) 32 (by decide)) rfl rfl (by decide) (by omega) (by omega) (Nat.le_of_ble_eq_true rfl) (e_kw fun M85 hq85 => ?_) e_kwx
      have fr85 := e_fr_tr fr76 (e_fr_w hq85.2 (by omega))
      refine g_if_eq 27 106 rfl rfl b_r (fun c88 => ?_) (fun c88 => ?_)
      · replace c88 := b_0.mp c88
        have c88a : ¬ pm [32] (A 6) l (i + 6) = 1 := c88
        have x88 := pm_no (nf := 1) (F := (FM 5)) (f := [32]) (R := [35]) (p := 6) e79 rfl c88a
        have x9 : rN (A 6) l i = 6 + pm [32] (A 6) l (i + 6) := by rw [rN, eJ]; exact x88.1
        have n9 : ¬ rOK (A 6) l i := fun h => by have h2 := h.2; rw [eJ, x9] at h2; have h3 : (FM 5).length = 8 := rfl; have h4 := x88.2; omega
        have fin9 : RM M85 m q A (i + (6 + pm [32] (A 6) l (i + 6))) K76 := by rw [← Nat.add_assoc]; exact hq85.1
        rw [← x9] at fin9
        have lo9 : ∀ x, x < a → K76 x = K x := fun x h9 => (lo76 x (by omega))
        have fin8 : ∀ V : Prop, rOK (A 6) l i → V := fun V h => absurd h n9
        
        refine g_run 37 1 rfl ?_
        exact g_iret 38 rfl rfl (by first | exact trivial | exact Or.inl rfl | exact Or.inr rfl | (show _ ∨ _; omega)) (by first | exact ⟨rfl, fr85, _, fin9, (by rw [if_neg n9]), lo9, fun h => absurd h n9⟩ | exact ⟨rfl, fr85, _, fin9, (by rw [if_pos o9]), lo9, fun _ => ⟨(by rw [eJ]; exact ((lo96 _ (by omega)).trans ((lo76 _ (by omega)).trans hKa))), (by rw [eJ]; intro p hp; have hp3 : p < 2 := hp; match p, hp3 with | 0, _ => exact ((lo96 _ (by omega)).trans v79) | 1, _ => exact v99)⟩⟩)
      · replace c88 := b_1.mp c88
        have c88a : pm [32] (A 6) l (i + 6) = 1 := c88
        have e88 := pm_ok (nf := 1) (F := (FM 5)) (f := [32]) (R := [35]) (p := 6) e79 rfl c88a
        have le88 := pm_l (A 6) l [32] (i + 6) (by omega)
        have R88 : RM M85 m q A (i + 6 + pm [32] (A 6) l (i + 6)) K76 := hq85.1
        rw [show pm _ (A 6) l _ = 1 from c88a] at R88 le88
        refine g_run 28 5 rfl ?_
        refine g_callV 33 rfl cv_RX8_205 R88.2.1 (r_num1 hR (show RM _ m q A (i + 7) K76 from R88) (by omega) _ (a + 2) (by omega) (by omega)) rfl rfl (by decide) (by omega) (by omega) (Nat.le_of_ble_eq_true rfl) (fun v9 M96 n9 h9 _ => ?_) (fun E M9 n9 h9 _ => by obtain ⟨-, -, K9, -, h3, -⟩ := h9; cases h3)
        obtain ⟨hn9, fq96, K96, H96, h3, lo96, hv96⟩ := h9
        subst n9
        cases h3
        have fr96 := e_fr_tr fr85 fq96
        refine g_if_eq 34 106 rfl rfl b_r (fun c99 => ?_) (fun c99 => ?_)
        · replace c99 := b_0.mp c99
          have c99a : ¬ pm [35] (A 6) l (i + 7) = 1 := c99
          have x99 := pm_no (nf := 1) (F := (FM 5)) (f := [35]) (R := []) (p := 7) e88 rfl c99a
          have x9 : rN (A 6) l i = 7 + pm [35] (A 6) l (i + 7) := by rw [rN, eJ]; exact x99.1
          have n9 : ¬ rOK (A 6) l i := fun h => by have h2 := h.2; rw [eJ, x9] at h2; have h3 : (FM 5).length = 8 := rfl; have h4 := x99.2; omega
          have fin9 : RM M96 m q A (i + (7 + pm [35] (A 6) l (i + 7))) K96 := by rw [← Nat.add_assoc]; exact H96
          rw [← x9] at fin9
          have lo9 : ∀ x, x < a → K96 x = K x := fun x h9 => ((lo96 x (by omega)).trans (lo76 x (by omega)))
          have fin8 : ∀ V : Prop, rOK (A 6) l i → V := fun V h => absurd h n9
          
          refine g_run 37 1 rfl ?_
          exact g_iret 38 rfl rfl (by first | exact trivial | exact Or.inl rfl | exact Or.inr rfl | (show _ ∨ _; omega)) (by first | exact ⟨rfl, fr96, _, fin9, (by rw [if_neg n9]), lo9, fun h => absurd h n9⟩ | exact ⟨rfl, fr96, _, fin9, (by rw [if_pos o9]), lo9, fun _ => ⟨(by rw [eJ]; exact ((lo96 _ (by omega)).trans ((lo76 _ (by omega)).trans hKa))), (by rw [eJ]; intro p hp; have hp3 : p < 2 := hp; match p, hp3 with | 0, _ => exact ((lo96 _ (by omega)).trans v79) | 1, _ => exact v99)⟩⟩)
        · replace c99 := b_1.mp c99
          have c99a : pm [35] (A 6) l (i + 7) = 1 := c99
          have e99 := pm_ok (nf := 1) (F := (FM 5)) (f := [35]) (R := []) (p := 7) e88 rfl c99a
          have le99 := pm_l (A 6) l [35] (i + 7) (by omega)
          have R99 := H96
          have v99 := hv96 c99a
          rw [show pm _ (A 6) l _ = 1 from c99a] at R99 le99
          have x9 : rN (A 6) l i = 8 := by rw [rN, eJ]; exact e99
          have o9 : rOK (A 6) l i := ⟨by rw [eJ]; decide, by rw [eJ, x9]; rfl⟩
          have fin9 : RM M96 m q A (i + 8) K96 := R99
          rw [← x9] at fin9
          have lo9 : ∀ x, x < a → K96 x = K x := fun x h9 => ((lo96 x (by omega)).trans (lo76 x (by omega)))
          refine g_run 35 2 rfl ?_
          exact g_iret 38 rfl rfl (by first | exact trivial | exact Or.inl rfl | exact Or.inr rfl | (show _ ∨ _; omega)) (by first | exact ⟨rfl, fr96, _, fin9, (by rw [if_neg n9]), lo9, fun h => absurd h n9⟩ | exact ⟨rfl, fr96, _, fin9, (by rw [if_pos o9]), lo9, fun _ => ⟨(by rw [eJ]; exact ((lo96 _ (by omega)).trans ((lo76 _ (by omega)).trans hKa))), (by rw [eJ]; intro p hp; have hp3 : p < 2 := hp; match p, hp3 with | 0, _ => exact ((lo96 _ (by omega)).trans v79) | 1, _ => exact v99)⟩⟩)
theorem r_readsRest (hK : KM Γ) (hR : RH q A l) (H0 : RM M m q A (i + 1) K) (z : Int) (a : Nat) (hz : z = a) (ha : a + 4 < 155) (c : Int) (hc : isFst c) (h0 : atC (A 6) l i c) (hKa : K a = c) : Ct (e_L r0) Γ mX8_readsRest 6 0 0 [vR m, vI c, vI z] M n (RQ M n m q A l i a K) := by
  rcases hc with rfl | rfl | rfl | rfl | rfl
  · exact r_restT hK hR H0 z a hz ha h0 hKa
  · exact r_restD hK hR H0 z a hz ha h0 hKa
  · exact r_restS hK hR H0 z a hz ha h0 hKa
  · exact r_restBake hK hR H0 z a hz ha h0 hKa
  · exact r_restHour hK hR H0 z a hz ha h0 hKa
theorem r_isFirst (c : Int) (hc : i32 c) : Ct (e_L r0) Γ mX8_isFirst 0 0 0 [vI c] M n (e_rt (.inl (some (vI (if isFst c then 1 else 0)))) M n) := by
  refine g_start ok_X8_isFirst rfl rfl ?_
  refine g_run 0 2 rfl ?_
  refine g_icmp_eq 2 30 rfl rfl (by omega) (by omega) (fun c3 => ?_) (fun c3 => ?_)
  · rw [if_pos (by omega)]
    refine g_run 15 2 rfl ?_
    exact g_iret 18 rfl rfl (by first | exact trivial | exact Or.inl rfl | exact Or.inr rfl | (show _ ∨ _; omega)) ⟨rfl, rfl, rfl⟩
  · refine g_run 3 2 rfl ?_
    refine g_icmp_eq 5 30 rfl rfl (by omega) (by omega) (fun c9 => ?_) (fun c9 => ?_)
    · rw [if_pos (by omega)]
      refine g_run 15 2 rfl ?_
      exact g_iret 18 rfl rfl (by first | exact trivial | exact Or.inl rfl | exact Or.inr rfl | (show _ ∨ _; omega)) ⟨rfl, rfl, rfl⟩
    · refine g_run 6 2 rfl ?_
      refine g_icmp_eq 8 30 rfl rfl (by omega) (by omega) (fun c15 => ?_) (fun c15 => ?_)
      · rw [if_pos (by omega)]
        refine g_run 15 2 rfl ?_
        exact g_iret 18 rfl rfl (by first | exact trivial | exact Or.inl rfl | exact Or.inr rfl | (show _ ∨ _; omega)) ⟨rfl, rfl, rfl⟩
      · refine g_run 9 2 rfl ?_
        refine g_icmp_eq 11 30 rfl rfl (by omega) (by omega) (fun c21 => ?_) (fun c21 => ?_)
        · rw [if_pos (by omega)]
          refine g_run 15 2 rfl ?_
          exact g_iret 18 rfl rfl (by first | exact trivial | exact Or.inl rfl | exact Or.inr rfl | (show _ ∨ _; omega)) ⟨rfl, rfl, rfl⟩
        · refine g_run 12 2 rfl ?_
          refine g_icmp_ne 14 34 rfl rfl (by omega) (by omega) (fun c27 => ?_) (fun c27 => ?_)
          · rw [if_neg (by omega)]
            refine g_run 17 1 rfl ?_
            exact g_iret 18 rfl rfl (by first | exact trivial | exact Or.inl rfl | exact Or.inr rfl | (show _ ∨ _; omega)) ⟨rfl, rfl, rfl⟩
          · rw [if_pos (by omega)]
            refine g_run 15 2 rfl ?_
            exact g_iret 18 rfl rfl (by first | exact trivial | exact Or.inl rfl | exact Or.inr rfl | (show _ ∨ _; omega)) ⟨rfl, rfl, rfl⟩
theorem RM_cm {M : Mem} {m : Nat} {q : Nat → Int} {A : Nat → Nat → Int} {i : Nat} {K : Nat → Int} {x : Int} (h : MM M m (va_up (va_up q 16 (i : Int)) 17 x) (va_up A 7 K)) : RM M m (va_up q 17 x) A i K := by
  rw [up_cm (by decide)] at h; exact h
theorem r_readsCommand (hK : KM Γ) (hR : RH q A l) (H0 : RM M m q A i K) (hi : i ≤ l) (k : Nat) (hk : q 17 = k) (hk9 : 5 * k + 4 < 155) : Ct (e_L r0) Γ mX8_readsCommand 7 0 0 [vR m] M n (fun r' M' n' => n' = n ∧ e_fr m (m + 9) M M' ∧ ∃ (K' : Nat → Int) (qk : Int), RM M' m (va_up q 17 qk) A (i + rN (A 6) l i) K' ∧ r' = .inl (some (vI (if rOK (A 6) l i then 1 else 0))) ∧ (∀ x, x < 5 * k → K' x = K x) ∧ (rOK (A 6) l i → qk = (k : Int) + 1 ∧ K' (5 * k) = rKd (rJ (A 6) l i) ∧ ∀ p, p < rAr (rJ (A 6) l i) → K' (5 * k + 1 + p) = rA (A 6) i (rJ (A 6) l i) p)) := by
  have fr0 : e_fr m (m + 9) M M := e_fr_refl
  have H : MM M m (va_up q 16 (i : Int)) (va_up A 7 K) := H0
  have qn := mNow_rng hR i
  have hk9 : va_up q 16 (i : Int) 17 = (k : Int) := hk
  refine g_start ok_X8_readsCommand rfl rfl ?_
  refine g_run 0 2 rfl ?_
  refine g_get 2 rfl fl_RX8_246 H.2.1 rfl ?_
  rw [show va_up q 16 (i : Int) 17 = (k : Int) from hk]
  refine g_run 3 3 rfl ?_
  refine g_callV 6 rfl cv_RX8_190 H.2.1 (r_now hR H0 hi) rfl rfl (by decide) (by omega) (by omega) (Nat.le_of_ble_eq_true rfl) (e_kr ?_) e_kx
  refine g_run 7 2 rfl ?_
  refine g_callS 9 rfl cs_RX8_249 (r_isFirst _ (by omega)) rfl rfl (by decide) (by omega) (by omega) (Nat.le_of_ble_eq_true rfl) (e_kr ?_) e_kx
  refine g_if_ne 10 21 rfl rfl b_r (fun c16 => ?_) (fun c16 => ?_)
  · replace c16 := b_1.mp c16
    have i9 : i < l := by by_cases e : i < l; exact e; exact absurd c16 (by rw [show mNow A i l = -1 from if_neg e]; decide)
    rw [show mNow A i l = A 6 i from if_pos i9] at c16
    have qi := hR.2.2 i i9
    rw [show mNow A i l = A 6 i from if_pos i9]
    refine g_run 13 1 rfl ?_
    refine g_get 14 rfl fl_RX8_38 H.2.1 rfl ?_
    refine g_run 15 2 rfl ?_
    refine g_iast 17 (5 * k) rfl rfl (by decide) H.2.2.2.2.2.2.2.2.2 (by first | rfl | omega) (by omega) (by decide) (fun M27 hM27 => ?_)
    have H27 := MM_A7 H hM27
    have fr27 := e_fr_tr fr0 (e_fr_up hM27 (by omega))
    refine g_run 18 2 rfl ?_
    refine g_get 20 rfl fl_RX8_187 H27.2.1 rfl ?_
    refine g_run 21 2 rfl ?_
    rw [va_up_self]
    refine g_put 23 rfl fp_RX8_187 H27.2.1 rfl trivial (fun M35 hM35 => ?_)
    have H35 := MM_q16 H27 hM35
    have fr35 := e_fr_tr fr27 (e_fr_up hM35 (by omega))
    refine g_run 24 2 rfl ?_
    refine g_get 26 rfl fl_RX8_246 H35.2.1 rfl ?_
    rw [show va_up (va_up q 16 (i : Int)) 16 ((i : Int) + 1) 17 = (k : Int) from hk]
    refine g_run 27 2 rfl ?_
    refine g_put 29 rfl fp_RX8_246 H35.2.1 rfl trivial (fun M45 hM45 => ?_)
    have H45 := MM_q17 H35 hM45
    have fr45 := e_fr_tr fr35 (e_fr_up hM45 (by omega))
    have R45 := H45
    rw [up_up, up_up, va_up_self] at R45
    have R9 : RM M45 m (va_up q 17 ((k : Int) + 1)) A (i + 1) (va_up K (5 * k) (A 6 i)) := RM_cm R45
    refine g_run 30 3 rfl ?_
    refine g_callV 33 rfl cv_RX8_252 R9.2.1 (r_readsRest hK (show RH (va_up q 17 ((k : Int) + 1)) A l from hR) R9 (5 * (k : Int)) (5 * k) (by omega) (by omega) (A 6 i) c16 ⟨i9, rfl⟩ (va_up_self _ _ _)) rfl rfl (by decide) (by omega) (by omega) (Nat.le_of_ble_eq_true rfl) (fun v9 M51 n9 h9 _ => ?_) (fun E M9 n9 h9 _ => by obtain ⟨-, -, K9, -, h3, -⟩ := h9; cases h3)
    obtain ⟨hn9, fq51, K51, H51, h3, lo51, hv51⟩ := h9
    subst n9
    cases h3
    have fr51 := e_fr_tr fr45 fq51
    exact g_iret 34 rfl rfl b_01 ⟨rfl, fr51, K51, (k : Int) + 1, H51, rfl, fun x hx => (lo51 x hx).trans (va_up_ne _ _ (by omega)), fun h => ⟨rfl, hv51 h⟩⟩
  · replace c16 := b_0.mp c16
    have eJ : rJ (A 6) l i = 10 := by
      refine rJ_no ?_
      by_cases e : i < l
      · refine Or.inl (fun h9 => c16 ?_)
        rw [show mNow A i l = A 6 i from if_pos e]
        exact h9
      · exact Or.inr (by omega)
    have x9 : rN (A 6) l i = 0 := by rw [rN, eJ]; rfl
    have n9 : ¬ rOK (A 6) l i := fun h => by have h1 := h.1; rw [eJ] at h1; exact absurd h1 (by decide)
    refine g_run 11 1 rfl ?_
    exact g_iret 12 rfl rfl (by first | exact trivial | exact Or.inl rfl | exact Or.inr rfl | (show _ ∨ _; omega)) ⟨rfl, fr0, K, (k : Int), (by rw [x9]; show MM M m _ _; rw [show ((i + 0 : Nat) : Int) = (i : Int) from rfl]; rw [up_cm (by decide), show va_up (va_up q 16 (i : Int)) 17 (k : Int) = va_up q 16 (i : Int) from by rw [← hk9, up_id]]; exact H0), (by rw [if_neg n9]), fun _ _ => rfl, fun h => absurd h n9⟩
theorem r_isScript (hK : KM Γ) (hR : RH q A l) (H : MM M m q A) : Ct (e_L r0) Γ mX8_isScript 8 0 0 [vR m] M n (fun r' M' n' => n' = n ∧ e_fr m (m + 9) M M' ∧ ∃ (k : Nat) (K' : Nat → Int) (qk : Int), (∀ j, j < k → sGo (A 6) l j) ∧ ¬ sGo (A 6) l k ∧ RM M' m (va_up q 17 qk) A (sE (A 6) l k) K' ∧ r' = .inl (some (vI (if rOK (A 6) l (sT (A 6) l k) ∧ sE (A 6) l k = l then 1 else 0))) ∧ (rOK (A 6) l (sT (A 6) l k) → qk = (k : Int) + 1 ∧ ∀ j, j ≤ k → CM (A 6) l K' j)) := by
  have fr0 : e_fr m (m + 9) M M := e_fr_refl
  refine g_start ok_X8_isScript rfl rfl ?_
  refine g_run 0 2 rfl ?_
  refine g_put 2 rfl fp_RX8_187 H.2.1 rfl trivial (fun M2 hM2 => ?_)
  have H2 := MM_q16 H hM2
  have fr2 := e_fr_tr fr0 (e_fr_up hM2 (by omega))
  refine g_run 3 2 rfl ?_
  refine g_put 5 rfl fp_RX8_246 H2.2.1 rfl trivial (fun M7 hM7 => ?_)
  have H7 := MM_q17 H2 hM7
  have fr7 := e_fr_tr fr2 (e_fr_up hM7 (by omega))
  refine g_run 6 1 rfl ?_
  refine g_callV 7 rfl cv_RX8_255 H7.2.1 (r_readsCommand hK (show RH (va_up q 17 0) A l from hR) (show RM M7 m (va_up q 17 0) A 0 (A 7) from RM_cm (by rw [up_id]; exact H7)) (Nat.zero_le _) 0 (va_up_self _ _ _) (by omega)) rfl rfl (by decide) (by omega) (by omega) (Nat.le_of_ble_eq_true rfl) (fun v9 M11 n9 h9 _ => ?_) (fun E M9 n9 h9 _ => by obtain ⟨-, -, K9, q9, -, h3, -⟩ := h9; cases h3)
  obtain ⟨hn9, fq11, K11, qk11, H11, h3, lo11, hv11⟩ := h9
  subst n9
  cases h3
  have fr11 := e_fr_tr fr7 fq11
  rw [up_up] at H11
  refine g_run 8 1 rfl ?_
  refine e_down (P := fun k => ∀ (M' : Mem) (K' : Nat → Int) (qk : Int), (∀ j, j < k → sGo (A 6) l j) → RM M' m (va_up q 17 qk) A (sE (A 6) l k) K' → e_fr m (m + 9) M M' → (∀ j, j < k → CM (A 6) l K' j) → (rOK (A 6) l (sT (A 6) l k) → qk = (k : Int) + 1 ∧ CM (A 6) l K' k) → G (e_L r0) Γ mX8_isScript 8 0 0 _ 15 [some (vR m), some (vI (if rOK (A 6) l (sT (A 6) l k) then 1 else 0))] [] M' n 0 0) 13 ?_ 0 (by omega) M11 K11 qk11 (fun j hj => absurd hj (by omega)) (by rw [Nat.zero_add] at H11; exact (show RM M11 m (va_up q 17 qk11) A (0 + rN (A 6) l 0) K11 from by rw [Nat.zero_add]; exact H11)) fr11 (fun j hj => absurd hj (by omega)) hv11
  intro k hk ih M2 K2 qk hgo H2 fr2 hcm hok
  have sr := sT_rng k hgo
  have hle : sE (A 6) l k ≤ l := rN_l (t := A 6) (l := l) sr.2
  have hk12 : k ≤ 12 := by have := hR.2.1; omega
  refine g_run 9 1 rfl ?_
  refine g_if_eq 10 36 rfl rfl b_r (fun c16 => ?_) (fun c16 => ?_)
  · replace c16 := b_0.mp c16
    have ng : ¬ sGo (A 6) l k := fun h => c16 h.1
    have Rz := H2
    refine g_run 19 1 rfl ?_
    refine g_if_eq 20 55 rfl rfl b_r (fun c37 => ?_) (fun c37 => ?_)
    · replace c37 := b_0.mp c37
      have r9 : (if rOK (A 6) l (sT (A 6) l k) ∧ sE (A 6) l k = l then (1 : Int) else 0) = 0 := if_neg (fun e => c37 e.1)
      refine g_run 28 1 rfl ?_
      exact g_iret 29 rfl rfl (by first | exact trivial | exact Or.inl rfl | exact Or.inr rfl | (show _ ∨ _; omega)) ⟨rfl, fr2, k, K2, qk, hgo, ng, Rz, (by rw [r9]), fun h => ⟨(hok h).1, fun j hj => by by_cases e9 : j = k; exact e9 ▸ (hok h).2; exact hcm j (by omega)⟩⟩
    · replace c37 := b_1.mp c37
      refine g_run 21 1 rfl ?_
      refine g_get 22 rfl fl_RX8_187 H2.2.1 rfl ?_
      rw [va_up_self]
      refine g_run 23 1 rfl ?_
      refine g_get 24 rfl fl_RX8_184 H2.2.1 rfl ?_
      rw [show va_up (va_up q 17 qk) 16 ((sE (A 6) l k : Nat) : Int) 15 = (l : Int) from hR.1]
      refine g_icmp_ne 25 55 rfl rfl (by have := hR.2.1; omega) (by have := hR.2.1; omega) (fun c48 => ?_) (fun c48 => ?_)
      · have r9 : (if rOK (A 6) l (sT (A 6) l k) ∧ sE (A 6) l k = l then (1 : Int) else 0) = 0 := if_neg (fun e => c48 (by rw [e.2]))
        refine g_run 28 1 rfl ?_
        exact g_iret 29 rfl rfl (by first | exact trivial | exact Or.inl rfl | exact Or.inr rfl | (show _ ∨ _; omega)) ⟨rfl, fr2, k, K2, qk, hgo, ng, Rz, (by rw [r9]), fun h => ⟨(hok h).1, fun j hj => by by_cases e9 : j = k; exact e9 ▸ (hok h).2; exact hcm j (by omega)⟩⟩
      · have r9 : (if rOK (A 6) l (sT (A 6) l k) ∧ sE (A 6) l k = l then (1 : Int) else 0) = 1 := if_pos ⟨c37, by omega⟩
        refine g_run 26 2 rfl ?_
        exact g_iret 29 rfl rfl (by first | exact trivial | exact Or.inl rfl | exact Or.inr rfl | (show _ ∨ _; omega)) ⟨rfl, fr2, k, K2, qk, hgo, ng, Rz, (by rw [r9]), fun h => ⟨(hok h).1, fun j hj => by by_cases e9 : j = k; exact e9 ▸ (hok h).2; exact hcm j (by omega)⟩⟩
  · replace c16 := b_1.mp c16
    have q9 := (hok c16).1
    refine g_run 11 2 rfl ?_
    refine g_callV 13 rfl cv_RX8_202 H2.2.1 (r_sign (show RH (va_up q 17 qk) A l from hR) H2 hle 59 (by decide)) rfl rfl (by decide) (by omega) (by omega) (Nat.le_of_ble_eq_true rfl) (e_kw fun M22 hq22 => ?_) e_kwx
    have fr22 := e_fr_tr fr2 (e_fr_w hq22.2 (by omega))
    refine g_if_eq 14 36 rfl rfl b_r (fun c25 => ?_) (fun c25 => ?_)
    · replace c25 := b_0.mp c25
      have ng : ¬ sGo (A 6) l k := fun h => c25 ((pm_one (by decide)).mpr h.2)
      have Rz := hq22.1
      rw [pm_n1 c25] at Rz
      replace Rz : RM M22 m (va_up q 17 qk) A (sE (A 6) l k) K2 := Rz
      refine g_run 19 1 rfl ?_
      refine g_if_eq 20 55 rfl rfl b_r (fun c37 => ?_) (fun c37 => ?_)
      · replace c37 := b_0.mp c37
        have r9 : (if rOK (A 6) l (sT (A 6) l k) ∧ sE (A 6) l k = l then (1 : Int) else 0) = 0 := if_neg (fun e => c37 e.1)
        refine g_run 28 1 rfl ?_
        exact g_iret 29 rfl rfl (by first | exact trivial | exact Or.inl rfl | exact Or.inr rfl | (show _ ∨ _; omega)) ⟨rfl, fr22, k, K2, qk, hgo, ng, Rz, (by rw [r9]), fun h => ⟨(hok h).1, fun j hj => by by_cases e9 : j = k; exact e9 ▸ (hok h).2; exact hcm j (by omega)⟩⟩
      · replace c37 := b_1.mp c37
        refine g_run 21 1 rfl ?_
        refine g_get 22 rfl fl_RX8_187 Rz.2.1 rfl ?_
        rw [va_up_self]
        refine g_run 23 1 rfl ?_
        refine g_get 24 rfl fl_RX8_184 Rz.2.1 rfl ?_
        rw [show va_up (va_up q 17 qk) 16 ((sE (A 6) l k : Nat) : Int) 15 = (l : Int) from hR.1]
        refine g_icmp_ne 25 55 rfl rfl (by have := hR.2.1; omega) (by have := hR.2.1; omega) (fun c48 => ?_) (fun c48 => ?_)
        · have r9 : (if rOK (A 6) l (sT (A 6) l k) ∧ sE (A 6) l k = l then (1 : Int) else 0) = 0 := if_neg (fun e => c48 (by rw [e.2]))
          refine g_run 28 1 rfl ?_
          exact g_iret 29 rfl rfl (by first | exact trivial | exact Or.inl rfl | exact Or.inr rfl | (show _ ∨ _; omega)) ⟨rfl, fr22, k, K2, qk, hgo, ng, Rz, (by rw [r9]), fun h => ⟨(hok h).1, fun j hj => by by_cases e9 : j = k; exact e9 ▸ (hok h).2; exact hcm j (by omega)⟩⟩
        · have r9 : (if rOK (A 6) l (sT (A 6) l k) ∧ sE (A 6) l k = l then (1 : Int) else 0) = 1 := if_pos ⟨c37, by omega⟩
          refine g_run 26 2 rfl ?_
          exact g_iret 29 rfl rfl (by first | exact trivial | exact Or.inl rfl | exact Or.inr rfl | (show _ ∨ _; omega)) ⟨rfl, fr22, k, K2, qk, hgo, ng, Rz, (by rw [r9]), fun h => ⟨(hok h).1, fun j hj => by by_cases e9 : j = k; exact e9 ▸ (hok h).2; exact hcm j (by omega)⟩⟩
    · replace c25 := b_1.mp c25
      have gk : sGo (A 6) l k := ⟨c16, (pm_one (by decide)).mp c25⟩
      have hgo2 : ∀ j, j < k + 1 → sGo (A 6) l j := fun j hj => by
        by_cases e9 : j = k
        · exact e9 ▸ gk
        · exact hgo j (by omega)
      have sr2 := sT_rng (k + 1) hgo2
      have R22 := hq22.1
      rw [show pm [59] (A 6) l (sE (A 6) l k) = 1 from c25] at R22
      replace R22 : RM M22 m (va_up q 17 qk) A (sT (A 6) l (k + 1)) K2 := R22
      refine g_run 15 1 rfl ?_
      refine g_callV 16 rfl cv_RX8_255 R22.2.1 (r_readsCommand hK (show RH (va_up q 17 qk) A l from hR) R22 sr2.2 (k + 1) (by rw [va_up_self, q9]; omega) (by omega)) rfl rfl (by decide) (by omega) (by omega) (Nat.le_of_ble_eq_true rfl) (fun v9 M29 n9 h9 _ => ?_) (fun E M9 n9 h9 _ => by obtain ⟨-, -, K9, q9, -, h3, -⟩ := h9; cases h3)
      obtain ⟨hn9, fq29, K29, qk29, H29, h3, lo29, hv29⟩ := h9
      subst n9
      cases h3
      have fr29 := e_fr_tr fr22 fq29
      rw [up_up] at H29
      replace H29 : RM M29 m (va_up q 17 qk29) A (sE (A 6) l (k + 1)) K29 := H29
      refine g_run 17 2 rfl ?_
      refine ih (by omega) M29 K29 qk29 hgo2 H29 fr29 (fun j hj => ?_) (fun h => ⟨(hv29 h).1, (hv29 h).2⟩)
      have hj2 : CM (A 6) l K2 j := by
        by_cases e9 : j = k
        · exact e9 ▸ (hok c16).2
        · exact hcm j (by omega)
      exact CM_lo hj2 hj lo29
end MR3
