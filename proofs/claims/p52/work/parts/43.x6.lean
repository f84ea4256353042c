/-! the class reads its script (wip/whole/gen/c_x6.py prints this part) -/
/-- the script at s: its text at s+1 with bytes at v, its numbers at s+3 -/
def SM (M : Mem) (s v cap l : Nat) (t nm : Nat → Int) (pl : Int) : Prop := 100 ≤ s ∧ M s = cO 7 [vR (s + 1), vR (s + 3), vI pl] ∧ BM M (s + 1) v cap l t ∧ M (s + 3) = cI 0 4 nm ∧ v ≠ s ∧ v ≠ s + 3
/-- only the script's object and its numbers have changed -/
def e_fs (s : Nat) (M M' : Mem) : Prop := ∀ k, k ≠ s → k ≠ s + 3 → M' k = M k
theorem e_fs_refl {s : Nat} {M : Mem} : e_fs s M M := fun _ _ _ => rfl
theorem e_fs_tr {s : Nat} {M M1 M2 : Mem} (h1 : e_fs s M M1) (h2 : e_fs s M1 M2) : e_fs s M M2 := fun k a b => (h2 k a b).trans (h1 k a b)
theorem SM_pl {M M' : Mem} {s v cap l : Nat} {t nm : Nat → Int} {pl pl' : Int} (H : SM M s v cap l t nm pl) (h : M' = va_up M s (cO 7 [vR (s + 1), vR (s + 3), vI pl'])) : SM M' s v cap l t nm pl' ∧ e_fs s M M' := by
  obtain ⟨a1, a2, a3, a4, a5, a6⟩ := H
  refine ⟨⟨a1, by rw [h, va_up_self], BM_fr a3 ?_ ?_, ?_, a5, a6⟩, fun k h1 _ => by rw [h, va_up_ne _ _ h1]⟩
  · rw [h, va_up_ne _ _ (by omega)]
  · rw [h, va_up_ne _ _ (by omega)]
  · rw [h, va_up_ne _ _ (by omega)]; exact a4
theorem SM_nm {M M' : Mem} {s v cap l : Nat} {t nm nm' : Nat → Int} {pl : Int} (H : SM M s v cap l t nm pl) (h : M' = va_up M (s + 3) (cI 0 4 nm')) : SM M' s v cap l t nm' pl ∧ e_fs s M M' := by
  obtain ⟨a1, a2, a3, a4, a5, a6⟩ := H
  refine ⟨⟨a1, ?_, BM_fr a3 ?_ ?_, by rw [h, va_up_self], a5, a6⟩, fun k _ h1 => by rw [h, va_up_ne _ _ h1]⟩
  · rw [h, va_up_ne _ _ (by omega)]; exact a2
  · rw [h, va_up_ne _ _ (by omega)]
  · rw [h, va_up_ne _ _ (by omega)]
theorem k_form {Γ : Cx} {M : Mem} (hK : KM Γ) (hl : ∀ k, k < 100 → M k = Γ.cM k) : ∀ j, j < 10 → M (20 + j) = cO 22 [vR (20 + j + 10), vI 0] ∧ M (20 + j + 10) = cI 11 (FM j).length (fun x => (FM j).getD x 0) := by
  obtain ⟨L, xs, e⟩ := hK
  intro j hj
  rw [hl (20 + j) (by omega), hl (20 + j + 10) (by omega), e]
  match j, hj with
  | 0, _ => exact ⟨rfl, rfl⟩
  | 1, _ => exact ⟨rfl, rfl⟩
  | 2, _ => exact ⟨rfl, rfl⟩
  | 3, _ => exact ⟨rfl, rfl⟩
  | 4, _ => exact ⟨rfl, rfl⟩
  | 5, _ => exact ⟨rfl, rfl⟩
  | 6, _ => exact ⟨rfl, rfl⟩
  | 7, _ => exact ⟨rfl, rfl⟩
  | 8, _ => exact ⟨rfl, rfl⟩
  | 9, _ => exact ⟨rfl, rfl⟩
theorem FM_ok : ∀ j, j < 10 → (FM j).length ≤ 9 ∧ 4 ≤ (FM j).length ∧ ∀ x, x < (FM j).length → 0 ≤ (FM j).getD x 0 ∧ (FM j).getD x 0 ≤ 127 := by decide
/-- the numbers out of a form: how many, the sign, the row -/
abbrev NS : Type := Nat × Int × (Nat → Int)
def nStep (c ch : Int) (S : NS) : NS :=
  if c = 126 then (S.1, if ch = 45 then -1 else 1, S.2.2)
  else if c = 35 then (if S.1 < 4 then (S.1 + 1, S.2.1, va_up S.2.2 S.1 (S.2.1 * (ch - 48))) else S)
  else if c = 38 then (if 0 < S.1 then (S.1, S.2.1, va_up S.2.2 (S.1 - 1) (S.2.2 (S.1 - 1) * 10 + ch - 48)) else S)
  else S
def nRun : List Int → (Nat → Int) → Nat → NS → NS
  | [], _, _, S => S
  | c :: r, t, i, S => nRun r t (i + 1) (nStep c (t i) S)
def nFin (j : Nat) (t nm : Nat → Int) (i : Nat) : Nat → Int := (nRun (FM j) t i (0, 1, va_up nm 0 1)).2.2
theorem nFin_val (t nm : Nat → Int) (i : Nat) : ∀ j, j < 10 → ∀ p, p < 4 → nFin j t nm i p = if p < rAr j then rA t i j p else nm p := by
  intro j hj p hp
  match j, hj, p, hp with
  | 0, _, 0, _ => exact Int.one_mul _
  | 0, _, 1, _ => exact Int.one_mul _
  | 0, _, 2, _ => exact Int.one_mul _
  | 0, _, 3, _ => rfl
  | 1, _, 0, _ => exact Int.one_mul _
  | 1, _, 1, _ => exact Int.one_mul _
  | 1, _, 2, _ =>
    show (if t (i + 7) = 45 then (-1 : Int) else 1) * (t (i + 8) - 48) = if t (i + 7) = 45 then -(t (i + 8) - 48) else t (i + 8) - 48
    split <;> omega
  | 1, _, 3, _ => rfl
  | 2, _, 0, _ => exact Int.one_mul _
  | 2, _, 1, _ => rfl
  | 2, _, 2, _ => rfl
  | 2, _, 3, _ => rfl
  | 3, _, 0, _ => exact Int.one_mul _
  | 3, _, 1, _ => rfl
  | 3, _, 2, _ => rfl
  | 3, _, 3, _ => rfl
  | 4, _, 0, _ => exact Int.one_mul _
  | 4, _, 1, _ => rfl
  | 4, _, 2, _ => rfl
  | 4, _, 3, _ => rfl
  | 5, _, 0, _ => exact Int.one_mul _
  | 5, _, 1, _ => exact Int.one_mul _
  | 5, _, 2, _ => rfl
  | 5, _, 3, _ => rfl
  | 6, _, 0, _ => rfl
  | 6, _, 1, _ => rfl
  | 6, _, 2, _ => rfl
  | 6, _, 3, _ => rfl
  | 7, _, 0, _ => exact Int.one_mul _
  | 7, _, 1, _ => rfl
  | 7, _, 2, _ => rfl
  | 7, _, 3, _ => rfl
  | 8, _, 0, _ =>
    show 1 * (t (i + 5) - 48) * 10 + t (i + 6) - 48 = 10 * (t (i + 5) - 48) + (t (i + 6) - 48)
    omega
  | 8, _, 1, _ => rfl
  | 8, _, 2, _ => rfl
  | 8, _, 3, _ => rfl
  | 9, _, 0, _ => exact Int.one_mul _
  | 9, _, 1, _ => exact Int.one_mul _
  | 9, _, 2, _ => exact Int.one_mul _
  | 9, _, 3, _ => exact Int.one_mul _
section X6
variable {r0 : Option Nat} {Γ : Cx} {M : Mem} {n s v cap l : Nat} {t nm : Nat → Int} {pl : Int}
theorem isF_iff (c z : Int) : isF c z = true ↔ ((c = 35 ∨ c = 38) ∧ 48 ≤ z ∧ z ≤ 57) ∨ (c = 126 ∧ (z = 43 ∨ z = 45)) ∨ (c ≠ 35 ∧ c ≠ 38 ∧ c ≠ 126 ∧ z = c) := by
  unfold isF
  split
  · rw [decide_eq_true_iff]; omega
  · split
    · rw [decide_eq_true_iff]; omega
    · rw [decide_eq_true_iff]; omega
theorem y_isOf (c z : Int) (hc : 0 ≤ c ∧ c ≤ 127) (hz : 0 ≤ z ∧ z ≤ 127) : Ct (e_L r0) Γ mX6_isOf 0 0 0 [vI c, vI z] M n (e_rt (.inl (some (vI (if isF c z = true then 1 else 0)))) M n) := by
  have e0 := isF_iff c z
  refine g_start ok_X6_isOf rfl rfl ?_
  refine g_run 0 2 rfl ?_
  refine g_icmp_eq 2 12 rfl rfl (by omega) (by omega) (fun c3 => ?_) (fun c3 => ?_)
  · refine g_run 6 2 rfl ?_
    refine g_icmp_lt 8 28 rfl rfl (by omega) (by omega) (fun c15 => ?_) (fun c15 => ?_)
    · rw [if_neg (fun e => by have := e0.mp e; omega)]
      refine g_run 14 1 rfl ?_
      exact g_iret 15 rfl rfl (by first | exact trivial | exact Or.inl rfl | exact Or.inr rfl | (show _ ∨ _; omega)) ⟨rfl, rfl, rfl⟩
    · refine g_run 9 2 rfl ?_
      refine g_icmp_gt 11 28 rfl rfl (by omega) (by omega) (fun c21 => ?_) (fun c21 => ?_)
      · rw [if_neg (fun e => by have := e0.mp e; omega)]
        refine g_run 14 1 rfl ?_
        exact g_iret 15 rfl rfl (by first | exact trivial | exact Or.inl rfl | exact Or.inr rfl | (show _ ∨ _; omega)) ⟨rfl, rfl, rfl⟩
      · rw [if_pos (e0.mpr (by omega))]
        refine g_run 12 2 rfl ?_
        exact g_iret 15 rfl rfl (by first | exact trivial | exact Or.inl rfl | exact Or.inr rfl | (show _ ∨ _; omega)) ⟨rfl, rfl, rfl⟩
  · refine g_run 3 2 rfl ?_
    refine g_icmp_ne 5 30 rfl rfl (by omega) (by omega) (fun c9 => ?_) (fun c9 => ?_)
    · refine g_run 16 2 rfl ?_
      refine g_icmp_ne 18 54 rfl rfl (by omega) (by omega) (fun c33 => ?_) (fun c33 => ?_)
      · refine g_run 29 2 rfl ?_
        refine g_icmp_ne 31 63 rfl rfl (by omega) (by omega) (fun c56 => ?_) (fun c56 => ?_)
        · rw [if_neg (fun e => by have := e0.mp e; omega)]
          refine g_run 34 1 rfl ?_
          exact g_iret 35 rfl rfl (by first | exact trivial | exact Or.inl rfl | exact Or.inr rfl | (show _ ∨ _; omega)) ⟨rfl, rfl, rfl⟩
        · rw [if_pos (e0.mpr (by omega))]
          refine g_run 32 2 rfl ?_
          exact g_iret 35 rfl rfl (by first | exact trivial | exact Or.inl rfl | exact Or.inr rfl | (show _ ∨ _; omega)) ⟨rfl, rfl, rfl⟩
      · refine g_run 19 2 rfl ?_
        refine g_icmp_eq 21 48 rfl rfl (by omega) (by omega) (fun c39 => ?_) (fun c39 => ?_)
        · rw [if_pos (e0.mpr (by omega))]
          refine g_run 25 2 rfl ?_
          exact g_iret 28 rfl rfl (by first | exact trivial | exact Or.inl rfl | exact Or.inr rfl | (show _ ∨ _; omega)) ⟨rfl, rfl, rfl⟩
        · refine g_run 22 2 rfl ?_
          refine g_icmp_ne 24 52 rfl rfl (by omega) (by omega) (fun c45 => ?_) (fun c45 => ?_)
          · rw [if_neg (fun e => by have := e0.mp e; omega)]
            refine g_run 27 1 rfl ?_
            exact g_iret 28 rfl rfl (by first | exact trivial | exact Or.inl rfl | exact Or.inr rfl | (show _ ∨ _; omega)) ⟨rfl, rfl, rfl⟩
          · rw [if_pos (e0.mpr (by omega))]
            refine g_run 25 2 rfl ?_
            exact g_iret 28 rfl rfl (by first | exact trivial | exact Or.inl rfl | exact Or.inr rfl | (show _ ∨ _; omega)) ⟨rfl, rfl, rfl⟩
    · refine g_run 6 2 rfl ?_
      refine g_icmp_lt 8 28 rfl rfl (by omega) (by omega) (fun c15 => ?_) (fun c15 => ?_)
      · rw [if_neg (fun e => by have := e0.mp e; omega)]
        refine g_run 14 1 rfl ?_
        exact g_iret 15 rfl rfl (by first | exact trivial | exact Or.inl rfl | exact Or.inr rfl | (show _ ∨ _; omega)) ⟨rfl, rfl, rfl⟩
      · refine g_run 9 2 rfl ?_
        refine g_icmp_gt 11 28 rfl rfl (by omega) (by omega) (fun c21 => ?_) (fun c21 => ?_)
        · rw [if_neg (fun e => by have := e0.mp e; omega)]
          refine g_run 14 1 rfl ?_
          exact g_iret 15 rfl rfl (by first | exact trivial | exact Or.inl rfl | exact Or.inr rfl | (show _ ∨ _; omega)) ⟨rfl, rfl, rfl⟩
        · rw [if_pos (e0.mpr (by omega))]
          refine g_run 12 2 rfl ?_
          exact g_iret 15 rfl rfl (by first | exact trivial | exact Or.inl rfl | exact Or.inr rfl | (show _ ∨ _; omega)) ⟨rfl, rfl, rfl⟩
theorem y_canEnd (hS : SM M s v cap l t nm pl) (h60 : l ≤ 60) (i : Nat) (hi : i ≤ 1000) : Ct (e_L r0) Γ mX6_canEndAt 4 0 0 [vR s, vI (i : Int)] M n (e_rt (.inl (some (vI (if canEnd t l i then 1 else 0)))) M n) := by
  have qs := hS.1
  have qc := hS.2.2.1.2.2.2.2.1
  have qk := hS.2.2.1.2.2.2.1
  have qf := hS.2.2.1.2.2.2.2.2.2.2
  refine g_start ok_X6_canEndAt rfl rfl ?_
  refine g_run 0 2 rfl ?_
  refine g_get 2 rfl fl_RX6_12 hS.2.1 rfl ?_
  refine g_callV 3 rfl cv_RX6_30 hS.2.2.1.2.2.2.2.2.1.choose_spec.2 (j_length hS.2.2.1) rfl rfl (by decide) (by omega) (by omega) (Nat.le_of_ble_eq_true rfl) (e_kr ?_) e_kx
  refine g_icmp_ge 4 24 rfl rfl (by omega) (by omega) (fun c8 => ?_) (fun c8 => ?_)
  · rw [if_pos (Or.inl (by omega))]
    refine g_run 11 2 rfl ?_
    exact g_iret 14 rfl rfl (by first | exact trivial | exact Or.inl rfl | exact Or.inr rfl | (show _ ∨ _; omega)) ⟨rfl, rfl, rfl⟩
  · refine g_run 5 1 rfl ?_
    refine g_get 6 rfl fl_RX6_12 hS.2.1 rfl ?_
    refine g_run 7 1 rfl ?_
    refine g_callV 8 rfl cv_RX6_65 hS.2.2.1.2.2.2.2.2.1.choose_spec.2 (j_charAt hS.2.2.1 i (by omega)) rfl rfl (by decide) (by omega) (by omega) (Nat.le_of_ble_eq_true rfl) (e_kr ?_) e_kx
    have qi := qf i
    refine g_run 9 1 rfl ?_
    refine g_icmp_ne 10 28 rfl rfl (by omega) (by omega) (fun c21 => ?_) (fun c21 => ?_)
    · rw [if_neg (by omega)]
      refine g_run 13 1 rfl ?_
      exact g_iret 14 rfl rfl (by first | exact trivial | exact Or.inl rfl | exact Or.inr rfl | (show _ ∨ _; omega)) ⟨rfl, rfl, rfl⟩
    · rw [if_pos (Or.inr c21)]
      refine g_run 11 2 rfl ?_
      exact g_iret 14 rfl rfl (by first | exact trivial | exact Or.inl rfl | exact Or.inr rfl | (show _ ∨ _; omega)) ⟨rfl, rfl, rfl⟩
theorem y_count (hK : KM Γ) (hS : SM M s v cap l t nm pl) (h60 : l ≤ 60) (j : Nat) (hj : j < 10) (i : Nat) (hi : i ≤ l) : Ct (e_L r0) Γ mX6_countMatching 4 0 0 [vR s, vR (20 + j), vI (i : Int)] M n (e_rt (.inl (some (vI (pm (FM j) t l i : Int)))) M n) := by
  have qs := hS.1
  have qc := hS.2.2.1.2.2.2.2.1
  have qk := hS.2.2.1.2.2.2.1
  have qf := hS.2.2.1.2.2.2.2.2.2.2
  refine g_start ok_X6_countMatching rfl rfl ?_
  refine g_run 0 1 rfl ?_
  refine g_low (fun hl => ?_)
  have kw := k_form hK hl j hj
  have qw := FM_ok j hj
  have pj := pm_le t l (FM j) i
  have pl9 := pm_l t l (FM j) i hi
  generalize hF : FM j = fs at kw qw pj pl9 ⊢
  refine g_callV 1 rfl cv_RX6_48 kw.1 (j_slen (by omega) kw.1 kw.2 (by omega)) rfl rfl (by decide) (by omega) (by omega) (Nat.le_of_ble_eq_true rfl) (e_kr ?_) e_kx
  refine g_run 2 1 rfl ?_
  refine g_get 3 rfl fl_RX6_12 hS.2.1 rfl ?_
  refine g_callV 4 rfl cv_RX6_30 hS.2.2.1.2.2.2.2.2.1.choose_spec.2 (j_length hS.2.2.1) rfl rfl (by decide) (by omega) (by omega) (Nat.le_of_ble_eq_true rfl) (e_kr ?_) e_kx
  refine g_run 5 2 rfl ?_
  refine g_min 7 rfl cm_RX6_69 (by omega) (by omega) (Nat.le_of_ble_eq_true rfl) ?_
  refine g_run 8 3 rfl ?_
  have m9 : ∃ y : Nat, (if (l : Int) - (i : Int) < (fs.length : Int) then (l : Int) - (i : Int) else (fs.length : Int)) = (y : Int) ∧ y ≤ fs.length ∧ i + y ≤ l ∧ (y = fs.length ∨ i + y = l) := by
    by_cases e : (l : Int) - (i : Int) < (fs.length : Int)
    · exact ⟨l - i, by rw [if_pos e]; omega, by omega, by omega, Or.inr (by omega)⟩
    · exact ⟨fs.length, by rw [if_neg e], by omega, by omega, Or.inl rfl⟩
  obtain ⟨y, ey, y1, y2, y3⟩ := m9
  rw [ey]
  refine e_down (P := fun k => pm fs t l i = k + pm (fs.drop k) t l (i + k) → G (e_L r0) Γ mX6_countMatching 4 0 0 _ 20 [some (vR s), some (vR (20 + j)), some (vI (i : Int)), some (vI (y : Int)), some (vI (k : Int))] [] M n 0 0) y ?_ 0 (by omega) (by simp)
  intro k hk ih e
  refine g_run 11 2 rfl ?_
  refine g_icmp_ge 13 55 rfl rfl (by omega) (by omega) (fun c23 => ?_) (fun c23 => ?_)
  · have e9 : k = y := by omega
    have e8 : pm (fs.drop k) t l (i + k) = 0 := by
      rcases y3 with h | h
      · rw [e9, h, List.drop_length]; rfl
      · by_cases h9 : k < fs.length
        · rw [ws_drop h9, pm_cons, if_neg (fun h8 => by omega)]
        · rw [List.drop_eq_nil_of_le (by omega)]; rfl
    rw [e8] at e
    rw [e]
    refine g_run 27 1 rfl ?_
    exact g_iret 28 rfl rfl (by first | exact trivial | exact Or.inl rfl | exact Or.inr rfl | (show _ ∨ _; omega)) ⟨rfl, rfl, rfl⟩
  · refine g_run 14 2 rfl ?_
    refine g_callV 16 rfl cv_RX6_72 kw.1 (j_schr (by omega) kw.1 kw.2 (by omega) k (by omega) (qw.2.2 k (by omega))) rfl rfl (by decide) (by omega) (by omega) (Nat.le_of_ble_eq_true rfl) (e_kr ?_) e_kx
    have qg := qw.2.2 k (by omega)
    refine g_run 17 1 rfl ?_
    refine g_get 18 rfl fl_RX6_12 hS.2.1 rfl ?_
    refine g_run 19 3 rfl ?_
    rw [show (i : Int) + (k : Int) = ((i + k : Nat) : Int) from rfl]
    refine g_callV 22 rfl cv_RX6_65 hS.2.2.1.2.2.2.2.2.1.choose_spec.2 (j_charAt hS.2.2.1 (i + k) (by omega)) rfl rfl (by decide) (by omega) (by omega) (Nat.le_of_ble_eq_true rfl) (e_kr ?_) e_kx
    have qi := qf (i + k)
    refine g_callS 23 rfl cs_RX6_73 (y_isOf _ _ qg qi) rfl rfl (by decide) (by omega) (by omega) (Nat.le_of_ble_eq_true rfl) (e_kr ?_) e_kx
    refine g_if_eq 24 55 rfl rfl b_r (fun c46 => ?_) (fun c46 => ?_)
    · replace c46 := b_0.mp c46
      have e8 : pm (fs.drop k) t l (i + k) = 0 := by rw [ws_drop (by omega), pm_cons, if_neg (fun h8 => c46 h8.2)]
      rw [e8] at e
      rw [e]
      refine g_run 27 1 rfl ?_
      exact g_iret 28 rfl rfl (by first | exact trivial | exact Or.inl rfl | exact Or.inr rfl | (show _ ∨ _; omega)) ⟨rfl, rfl, rfl⟩
    · replace c46 := b_1.mp c46
      refine g_run 25 2 rfl ?_
      refine ih (by omega) ?_
      rw [e, ws_drop (by omega), pm_cons, if_pos ⟨by omega, c46⟩, show i + k + 1 = i + (k + 1) from by omega]; omega
theorem nRun_step {fs : List Int} {k : Nat} (h : k < fs.length) (t : Nat → Int) (i : Nat) (S : NS) : nRun (fs.drop k) t (i + k) S = nRun (fs.drop (k + 1)) t (i + (k + 1)) (nStep (fs.getD k 0) (t (i + k)) S) := by
  rw [ws_drop h]; rfl
theorem y_readNumbers (hK : KM Γ) (hS : SM M s v cap l t nm pl) (h60 : l ≤ 60) (j : Nat) (hj : j < 10) (i : Nat) (hi : i + (FM j).length ≤ l) : Ct (e_L r0) Γ mX6_readNumbers 4 0 0 [vR s, vR (20 + j), vI (i : Int)] M n (e_wr none n fun M' => SM M' s v cap l t (nFin j t nm i) pl ∧ e_fs s M M') := by
  have qs := hS.1
  have qc := hS.2.2.1.2.2.2.2.1
  have qk := hS.2.2.1.2.2.2.1
  have qf := hS.2.2.1.2.2.2.2.2.2.2
  refine g_start ok_X6_readNumbers rfl rfl ?_
  refine g_run 0 1 rfl ?_
  refine g_get 1 rfl fl_RX6_18 hS.2.1 rfl ?_
  refine g_run 2 2 rfl ?_
  refine g_iast 4 0 rfl rfl (by decide) hS.2.2.2.1 rfl (by decide) (by decide) (fun M6 hM6 => ?_)
  have k6_this := (congrFun hM6 s).trans ((va_up_ne _ _ (by omega)).trans hS.2.1)
  have k6_this_text := (congrFun hM6 (s + 1)).trans ((va_up_ne _ _ (by omega)).trans hS.2.2.1.2.2.2.2.2.1.choose_spec.2)
  have k6_this_numbers := (congrFun hM6 (s + 3)).trans (va_up_self _ _ _)
  refine g_run 5 6 rfl ?_
  have hS6 := SM_nm hS hM6
  have qw := FM_ok j hj
  have hfin : nFin j t nm i = (nRun (FM j) t i (0, 1, va_up nm 0 1)).2.2 := rfl
  rw [hfin]
  generalize hF : FM j = fs at hi qw ⊢
  refine e_down (P := fun k => ∀ (M' : Mem) (S : NS) (y6 y7 : Option aV), SM M' s v cap l t S.2.2 pl → e_fs s M M' → S.1 ≤ 4 → nRun (fs.drop k) t (i + k) S = nRun fs t i (0, 1, va_up nm 0 1) → G (e_L r0) Γ mX6_readNumbers 4 0 0 _ 15 [some (vR s), some (vR (20 + j)), some (vI (i : Int)), some (vI (S.1 : Int)), some (vI S.2.1), some (vI (k : Int)), y6, y7] [] M' n 0 0) fs.length ?_ 0 (by omega) M6 (0, 1, va_up nm 0 1) _ _ hS6.1 hS6.2 (Nat.zero_le _) (by simp)
  intro k hk ih M2 S y6 y7 hS2 fr2 hc4 e
  refine g_low (fun hl => ?_)
  have kw := k_form hK hl j hj
  rw [hF] at kw
  refine g_run 11 2 rfl ?_
  refine g_callV 13 rfl cv_RX6_48 kw.1 (j_slen (by omega) kw.1 kw.2 (by omega)) rfl rfl (by decide) (by omega) (by omega) (Nat.le_of_ble_eq_true rfl) (e_kr ?_) e_kx
  refine g_icmp_ge 14 143 rfl rfl (by omega) (by omega) (fun c21 => ?_) (fun c21 => ?_)
  · have ek : k = fs.length := by omega
    rw [ek, List.drop_length] at e
    have e7 : S = nRun fs t i (0, 1, va_up nm 0 1) := e
    rw [← e7]
    exact g_vret 79 rfl rfl ⟨rfl, rfl, hS2, fr2⟩
  · have hkl : k < fs.length := by omega
    have eu := (nRun_step hkl t i S).symm.trans e
    refine g_run 15 2 rfl ?_
    refine g_callV 17 rfl cv_RX6_72 kw.1 (j_schr (by omega) kw.1 kw.2 (by omega) k (by omega) (qw.2.2 k (by omega))) rfl rfl (by decide) (by omega) (by omega) (Nat.le_of_ble_eq_true rfl) (e_kr ?_) e_kx
    have qg := qw.2.2 k (by omega)
    refine g_run 18 2 rfl ?_
    refine g_get 20 rfl fl_RX6_12 hS2.2.1 rfl ?_
    refine g_run 21 3 rfl ?_
    rw [show (i : Int) + (k : Int) = ((i + k : Nat) : Int) from rfl]
    refine g_callV 24 rfl cv_RX6_65 hS2.2.2.1.2.2.2.2.2.1.choose_spec.2 (j_charAt hS2.2.2.1 (i + k) (by omega)) rfl rfl (by decide) (by omega) (by omega) (Nat.le_of_ble_eq_true rfl) (e_kr ?_) e_kx
    have qi := qf (i + k)
    refine g_run 25 3 rfl ?_
    refine g_icmp_ne 28 69 rfl rfl (by omega) (by omega) (fun c49 => ?_) (fun c49 => ?_)
    · refine g_run 37 2 rfl ?_
      refine g_icmp_ne 39 101 rfl rfl (by omega) (by omega) (fun c73 => ?_) (fun c73 => ?_)
      · refine g_run 54 2 rfl ?_
        refine g_icmp_ne 56 137 rfl rfl (by omega) (by omega) (fun c105 => ?_) (fun c105 => ?_)
        · have e9 : nStep (fs.getD k 0) (t (i + k)) S = S := by first | exact e9 | rw [nStep, if_neg c49, if_neg c73, if_neg c105]
          refine g_run 77 2 rfl ?_
          exact ih (by omega) M2 S _ _ hS2 fr2 hc4 (by rw [← e9]; exact eu)
        · have c73n : ¬ fs.getD k 0 = 35 := by omega
          refine g_run 57 1 rfl ?_
          refine g_if_le 58 137 rfl rfl (by omega) (fun c109 => ?_) (fun c109 => ?_)
          · have e9 : nStep (fs.getD k 0) (t (i + k)) S = S := by rw [nStep, if_neg c49, if_neg c73n, if_pos c105, if_neg (by omega)]
            refine g_run 77 2 rfl ?_
            exact ih (by omega) M2 S _ _ hS2 fr2 hc4 (by rw [← e9]; exact eu)
          · have e9 : nStep (fs.getD k 0) (t (i + k)) S = (S.1, S.2.1, va_up S.2.2 (S.1 - 1) (S.2.2 (S.1 - 1) * 10 + t (i + k) - 48)) := by rw [nStep, if_neg c49, if_neg c73n, if_pos c105, if_pos (by omega)]
            refine g_run 59 1 rfl ?_
            refine g_get 60 rfl fl_RX6_18 hS2.2.1 rfl ?_
            refine g_run 61 4 rfl ?_
            refine g_get 65 rfl fl_RX6_18 hS2.2.1 rfl ?_
            refine g_run 66 3 rfl ?_
            refine g_iald 69 (S.1 - 1) rfl rfl hS2.2.2.2.1 (by omega) (by omega) (by decide) ?_
            refine g_run 70 6 rfl ?_
            refine g_iast 76 (S.1 - 1) rfl rfl (by decide) hS2.2.2.2.1 (by omega) (by omega) (by decide) (fun M136 hM136 => ?_)
            have k136_this := (congrFun hM136 s).trans ((va_up_ne _ _ (by omega)).trans hS2.2.1)
            have k136_this_text := (congrFun hM136 (s + 1)).trans ((va_up_ne _ _ (by omega)).trans hS2.2.2.1.2.2.2.2.2.1.choose_spec.2)
            have k136_this_numbers := (congrFun hM136 (s + 3)).trans (va_up_self _ _ _)
            have k136_form := (congrFun hM136 (20 + j)).trans ((va_up_ne _ _ (by omega)).trans kw.1)
            refine g_run 77 2 rfl ?_
            exact ih (by omega) M136 (S.1, S.2.1, va_up S.2.2 (S.1 - 1) (S.2.2 (S.1 - 1) * 10 + t (i + k) - 48)) _ _ (SM_nm hS2 hM136).1 (e_fs_tr fr2 (SM_nm hS2 hM136).2) hc4 (by rw [← e9]; exact eu)
      · refine g_run 40 2 rfl ?_
        refine g_icmp_ge 42 101 rfl rfl (by omega) (by omega) (fun c78 => ?_) (fun c78 => ?_)
        · have e9 : nStep (fs.getD k 0) (t (i + k)) S = S := by rw [nStep, if_neg c49, if_pos c73, if_neg (by omega)]
          refine g_run 54 2 rfl ?_
          refine g_icmp_ne 56 137 rfl rfl (by omega) (by omega) (fun c105 => ?_) (fun c105 => ?_)
          · have e9 : nStep (fs.getD k 0) (t (i + k)) S = S := by first | exact e9 | rw [nStep, if_neg c49, if_neg c73, if_neg c105]
            refine g_run 77 2 rfl ?_
            exact ih (by omega) M2 S _ _ hS2 fr2 hc4 (by rw [← e9]; exact eu)
          · have c73n : ¬ fs.getD k 0 = 35 := by omega
            refine g_run 57 1 rfl ?_
            refine g_if_le 58 137 rfl rfl (by omega) (fun c109 => ?_) (fun c109 => ?_)
            · have e9 : nStep (fs.getD k 0) (t (i + k)) S = S := by rw [nStep, if_neg c49, if_neg c73n, if_pos c105, if_neg (by omega)]
              refine g_run 77 2 rfl ?_
              exact ih (by omega) M2 S _ _ hS2 fr2 hc4 (by rw [← e9]; exact eu)
            · have e9 : nStep (fs.getD k 0) (t (i + k)) S = (S.1, S.2.1, va_up S.2.2 (S.1 - 1) (S.2.2 (S.1 - 1) * 10 + t (i + k) - 48)) := by rw [nStep, if_neg c49, if_neg c73n, if_pos c105, if_pos (by omega)]
              refine g_run 59 1 rfl ?_
              refine g_get 60 rfl fl_RX6_18 hS2.2.1 rfl ?_
              refine g_run 61 4 rfl ?_
              refine g_get 65 rfl fl_RX6_18 hS2.2.1 rfl ?_
              refine g_run 66 3 rfl ?_
              refine g_iald 69 (S.1 - 1) rfl rfl hS2.2.2.2.1 (by omega) (by omega) (by decide) ?_
              refine g_run 70 6 rfl ?_
              refine g_iast 76 (S.1 - 1) rfl rfl (by decide) hS2.2.2.2.1 (by omega) (by omega) (by decide) (fun M136 hM136 => ?_)
              have k136_this := (congrFun hM136 s).trans ((va_up_ne _ _ (by omega)).trans hS2.2.1)
              have k136_this_text := (congrFun hM136 (s + 1)).trans ((va_up_ne _ _ (by omega)).trans hS2.2.2.1.2.2.2.2.2.1.choose_spec.2)
              have k136_this_numbers := (congrFun hM136 (s + 3)).trans (va_up_self _ _ _)
              have k136_form := (congrFun hM136 (20 + j)).trans ((va_up_ne _ _ (by omega)).trans kw.1)
              refine g_run 77 2 rfl ?_
              exact ih (by omega) M136 (S.1, S.2.1, va_up S.2.2 (S.1 - 1) (S.2.2 (S.1 - 1) * 10 + t (i + k) - 48)) _ _ (SM_nm hS2 hM136).1 (e_fs_tr fr2 (SM_nm hS2 hM136).2) hc4 (by rw [← e9]; exact eu)
        · have e9 : nStep (fs.getD k 0) (t (i + k)) S = (S.1 + 1, S.2.1, va_up S.2.2 S.1 (S.2.1 * (t (i + k) - 48))) := by rw [nStep, if_neg c49, if_pos c73, if_pos (by omega)]
          refine g_run 43 1 rfl ?_
          refine g_get 44 rfl fl_RX6_18 hS2.2.1 rfl ?_
          refine g_run 45 6 rfl ?_
          refine g_iast 51 S.1 rfl rfl (by decide) hS2.2.2.2.1 (by first | rfl | omega) (by omega) (by decide) (fun M94 hM94 => ?_)
          have k94_this := (congrFun hM94 s).trans ((va_up_ne _ _ (by omega)).trans hS2.2.1)
          have k94_this_text := (congrFun hM94 (s + 1)).trans ((va_up_ne _ _ (by omega)).trans hS2.2.2.1.2.2.2.2.2.1.choose_spec.2)
          have k94_this_numbers := (congrFun hM94 (s + 3)).trans (va_up_self _ _ _)
          have k94_form := (congrFun hM94 (20 + j)).trans ((va_up_ne _ _ (by omega)).trans kw.1)
          refine g_run 52 2 rfl ?_
          refine g_run 77 2 rfl ?_
          exact ih (by omega) M94 (S.1 + 1, S.2.1, va_up S.2.2 S.1 (S.2.1 * (t (i + k) - 48))) _ _ (SM_nm hS2 hM94).1 (e_fs_tr fr2 (SM_nm hS2 hM94).2) (show S.1 + 1 ≤ 4 by omega) (by rw [← e9]; exact eu)
    · refine g_run 29 2 rfl ?_
      refine g_icmp_ne 31 63 rfl rfl (by omega) (by omega) (fun c56 => ?_) (fun c56 => ?_)
      · have e9 : nStep (fs.getD k 0) (t (i + k)) S = (S.1, 1, S.2.2) := by rw [nStep, if_pos c49, if_neg c56]
        refine g_run 34 3 rfl ?_
        refine g_run 77 2 rfl ?_
        exact ih (by omega) M2 (S.1, 1, S.2.2) _ _ hS2 fr2 hc4 (by rw [← e9]; exact eu)
      · have e9 : nStep (fs.getD k 0) (t (i + k)) S = (S.1, -1, S.2.2) := by rw [nStep, if_pos c49, if_pos c56]
        refine g_run 32 2 rfl ?_
        refine g_run 35 2 rfl ?_
        refine g_run 77 2 rfl ?_
        exact ih (by omega) M2 (S.1, -1, S.2.2) _ _ hS2 fr2 hc4 (by rw [← e9]; exact eu)
def mxF (t : Nat → Int) (l i : Nat) : Nat → Nat
  | 0 => 0
  | k + 1 => if mxF t l i k < pm (FM k) t l i then pm (FM k) t l i else mxF t l i k
theorem mxS (t : Nat → Int) (l i k : Nat) : (if ((i + mxF t l i k : Nat) : Int) < ((i + pm (FM k) t l i : Nat) : Int) then ((i + pm (FM k) t l i : Nat) : Int) else ((i + mxF t l i k : Nat) : Int)) = ((i + mxF t l i (k + 1) : Nat) : Int) := by
  show _ = ((i + (if mxF t l i k < pm (FM k) t l i then pm (FM k) t l i else mxF t l i k) : Nat) : Int)
  split <;> split <;> omega
theorem mxF_le (t : Nat → Int) (l i : Nat) : ∀ k, k ≤ 10 → mxF t l i k ≤ rN t l i
  | 0, _ => Nat.zero_le _
  | k + 1, h => by
    have h1 := mxF_le t l i k (by omega)
    have h2 := rN_max (t := t) (l := l) (i := i) k (by omega)
    unfold mxF
    split <;> omega
theorem mxF_ge (t : Nat → Int) (l i : Nat) : ∀ k, ∀ j, j < k → pm (FM j) t l i ≤ mxF t l i k
  | 0, j, h => by omega
  | k + 1, j, h => by
    unfold mxF
    by_cases e : j = k
    · subst e; split <;> omega
    · have h1 := mxF_ge t l i k j (by omega)
      split <;> omega
theorem mxF_10 (t : Nat → Int) (l i : Nat) : mxF t l i 10 = rN t l i := by
  have h1 := mxF_le t l i 10 (by omega)
  by_cases e : rJ t l i < 10
  · have h2 : pm (FM (rJ t l i)) t l i ≤ _ := mxF_ge t l i 10 _ e
    have h3 : rN t l i = pm (FM (rJ t l i)) t l i := rfl
    omega
  · have h3 : rN t l i = 0 := by
      have : rJ t l i = 10 := by unfold rJ at e ⊢; (repeat' split at e) <;> (repeat' split) <;> omega
      rw [rN, this]; rfl
    omega
theorem k_cmds {Γ : Cx} {M : Mem} (hK : KM Γ) (hl : ∀ k, k < 100 → M k = Γ.cM k) : M 15 = cR 12 10 (fun j => if j < 10 then some j else none) := by
  obtain ⟨L, xs, e⟩ := hK
  rw [hl 15 (by decide), e]
  rfl
theorem y_read (hK : KM Γ) (hS : SM M s v cap l t nm pl) (h60 : l ≤ 60) (i : Nat) (hi : i ≤ l) : Ct (e_L r0) Γ mX6_read 5 0 0 [vR s, vI (i : Int)] M n (fun r' M' n' => n' = n ∧ e_fs s M M' ∧ (((rOK t l i ∧ canEnd t l (i + rN t l i)) ∧ r' = .inl (some (vR (rJ t l i))) ∧ SM M' s v cap l t (nFin (rJ t l i) t nm i) ((i + rN t l i : Nat) : Int)) ∨ (¬ (rOK t l i ∧ canEnd t l (i + rN t l i)) ∧ r' = .inl (some vN) ∧ SM M' s v cap l t nm ((i + rN t l i : Nat) : Int)))) := by
  have qs := hS.1
  have qc := hS.2.2.1.2.2.2.2.1
  have qk := hS.2.2.1.2.2.2.1
  have qf := hS.2.2.1.2.2.2.2.2.2.2
  refine g_start ok_X6_read rfl rfl ?_
  refine g_run 0 2 rfl ?_
  refine g_put 2 rfl fp_RX6_22 hS.2.1 rfl trivial (fun M2 hM2 => ?_)
  have k2_this := (congrFun hM2 s).trans (va_up_self _ _ _)
  have k2_this_text := (congrFun hM2 (s + 1)).trans ((va_up_ne _ _ (by omega)).trans hS.2.2.1.2.2.2.2.2.1.choose_spec.2)
  have k2_this_numbers := (congrFun hM2 (s + 3)).trans ((va_up_ne _ _ (by omega)).trans hS.2.2.2.1)
  have hS2 := SM_pl hS hM2
  refine g_low (fun hl => ?_)
  have kc9 := k_cmds hK hl
  refine g_getsN 3 rfl (e_mem 15 rfl) (show Cond.fieldLinkNest RX6 34 "BiscuitLocks" "COMMANDS" "[LBiscuitLocks$Command;" "BiscuitLocks" ∈ e_WN by decide +kernel) ?_
  refine g_run 4 2 rfl ?_
  refine g_alen 6 rfl kc9 ?_
  dsimp only
  refine g_run 7 3 rfl ?_
  refine e_down (P := fun k => ∀ (M' : Mem) (y5 y6 : Option aV), SM M' s v cap l t nm ((i + mxF t l i k : Nat) : Int) → e_fs s M M' → (∀ j, j < k → ¬ (pm (FM j) t l i = (FM j).length ∧ canEnd t l (i + (FM j).length))) → G (e_L r0) Γ mX6_read 5 0 0 (fun r' M' n' => n' = n ∧ e_fs s M M' ∧ (((rOK t l i ∧ canEnd t l (i + rN t l i)) ∧ r' = .inl (some (vR (rJ t l i))) ∧ SM M' s v cap l t (nFin (rJ t l i) t nm i) ((i + rN t l i : Nat) : Int)) ∨ (¬ (rOK t l i ∧ canEnd t l (i + rN t l i)) ∧ r' = .inl (some vN) ∧ SM M' s v cap l t nm ((i + rN t l i : Nat) : Int)))) 15 [some (vR s), some (vI (i : Int)), some (vR 15), some (vI ((10 : Nat) : Int)), some (vI (k : Int)), y5, y6] [] M' n 0 0) 10 ?_ 0 (by omega) M2 _ _ hS2.1 hS2.2 (fun j hj => absurd hj (by omega))
  intro k hk ih M2 y5 y6 hS2 fr2 hno
  refine g_low (fun hl => ?_)
  have kc9 := k_cmds hK hl
  refine g_run 10 2 rfl ?_
  refine g_icmp_ge 12 103 rfl rfl (by omega) (by omega) (fun c18 => ?_) (fun c18 => ?_)
  · have ek : k = 10 := by omega
    subst ek
    clear ih
    refine g_run 54 1 rfl ?_
    exact g_aret 55 rfl rfl (by first | exact Or.inl ⟨_, rfl⟩ | exact Or.inr ⟨_, rfl⟩) ⟨rfl, fr2, Or.inr ⟨fun h => hno (rJ t l i) h.1.1 ⟨h.1.2, by rw [← h.1.2]; exact h.2⟩, rfl, by rw [mxF_10] at hS2; exact hS2⟩⟩
  · have hk9 : k < 10 := by omega
    have kc := k_cmd hK hl k hk9
    have kw := k_form hK hl k hk9
    have qw := FM_ok k hk9
    have pj := pm_le t l (FM k) i
    have pl9 := pm_l t l (FM k) i hi
    have mle := mxF_le t l i k (by omega)
    have rl9 := rN_l (t := t) hi
    refine g_run 13 2 rfl ?_
    refine g_aald 15 k rfl rfl kc9 (by first | rfl | omega) (by omega) (by decide) ?_
    rw [show (if k < 10 then some k else none) = some k from if_pos hk9]
    refine g_run 16 4 rfl ?_
    refine g_getC 20 rfl fc20_RX6_38 (Nat.lt_of_lt_of_le hk9 (by decide)) kc rfl ?_
    rw [show k + 20 = 20 + k from Nat.add_comm k 20]
    refine g_run 21 1 rfl ?_
    refine g_callV 22 rfl cv_RX6_44 hS2.2.1 (y_count hK hS2 h60 k hk9 i hi) rfl rfl (by decide) (by omega) (by omega) (Nat.le_of_ble_eq_true rfl) (e_kr ?_) e_kx
    refine g_run 23 5 rfl ?_
    refine g_getC 28 rfl fc20_RX6_38 (Nat.lt_of_lt_of_le hk9 (by decide)) kc rfl ?_
    rw [show k + 20 = 20 + k from Nat.add_comm k 20]
    refine g_callV 29 rfl cv_RX6_48 kw.1 (j_slen (by omega) kw.1 kw.2 (by omega)) rfl rfl (by decide) (by omega) (by omega) (Nat.le_of_ble_eq_true rfl) (e_kr ?_) e_kx
    refine g_run 30 1 rfl ?_
    refine g_icmp_ne 31 84 rfl rfl (by omega) (by omega) (fun c53 => ?_) (fun c53 => ?_)
    · have nok : ¬ (pm (FM k) t l i = (FM k).length ∧ canEnd t l (i + (FM k).length)) := fun h => c53 (by rw [h.1])
      refine g_run 46 2 rfl ?_
      refine g_get 48 rfl fl_RX6_22 hS2.2.1 rfl ?_
      refine g_run 49 1 rfl ?_
      refine g_max 50 rfl cm_RX6_59 (by omega) (by omega) (Nat.le_of_ble_eq_true rfl) ?_
      try rw [show (i : Int) + (pm (FM k) t l i : Int) = ((i + pm (FM k) t l i : Nat) : Int) from rfl]
      rw [mxS]
      refine g_put 51 rfl fp_RX6_22 hS2.2.1 rfl trivial (fun M94 hM94 => ?_)
      have k94_this := (congrFun hM94 s).trans (va_up_self _ _ _)
      have k94_this_text := (congrFun hM94 (s + 1)).trans ((va_up_ne _ _ (by omega)).trans hS2.2.2.1.2.2.2.2.2.1.choose_spec.2)
      have k94_this_numbers := (congrFun hM94 (s + 3)).trans ((va_up_ne _ _ (by omega)).trans hS2.2.2.2.1)
      have k94_cmds := (congrFun hM94 15).trans ((va_up_ne _ _ (by omega)).trans kc9)
      have hS9 := SM_pl hS2 hM94
      have hno9 : ∀ j, j < k + 1 → ¬ (pm (FM j) t l i = (FM j).length ∧ canEnd t l (i + (FM j).length)) := fun j hj => by
        by_cases e9 : j = k
        · exact e9 ▸ nok
        · exact hno j (by omega)
      refine g_run 52 2 rfl ?_
      exact ih (by omega) M94 _ _ hS9.1 (e_fs_tr fr2 hS9.2) hno9
    · have c53a : pm (FM k) t l i = (FM k).length := by omega
      refine g_run 32 2 rfl ?_
      rw [show (i : Int) + (pm (FM k) t l i : Int) = ((i + pm (FM k) t l i : Nat) : Int) from rfl]
      refine g_callV 34 rfl cv_RX6_51 hS2.2.1 (y_canEnd hS2 h60 (i + pm (FM k) t l i) (by omega)) rfl rfl (by decide) (by omega) (by omega) (Nat.le_of_ble_eq_true rfl) (e_kr ?_) e_kx
      refine g_if_eq 35 84 rfl rfl b_r (fun c62 => ?_) (fun c62 => ?_)
      · replace c62 := b_0.mp c62
        have nok : ¬ (pm (FM k) t l i = (FM k).length ∧ canEnd t l (i + (FM k).length)) := fun h => c62 (by rw [h.1]; exact h.2)
        refine g_run 46 2 rfl ?_
        refine g_get 48 rfl fl_RX6_22 hS2.2.1 rfl ?_
        refine g_run 49 1 rfl ?_
        refine g_max 50 rfl cm_RX6_59 (by omega) (by omega) (Nat.le_of_ble_eq_true rfl) ?_
        try rw [show (i : Int) + (pm (FM k) t l i : Int) = ((i + pm (FM k) t l i : Nat) : Int) from rfl]
        rw [mxS]
        refine g_put 51 rfl fp_RX6_22 hS2.2.1 rfl trivial (fun M94 hM94 => ?_)
        have k94_this := (congrFun hM94 s).trans (va_up_self _ _ _)
        have k94_this_text := (congrFun hM94 (s + 1)).trans ((va_up_ne _ _ (by omega)).trans hS2.2.2.1.2.2.2.2.2.1.choose_spec.2)
        have k94_this_numbers := (congrFun hM94 (s + 3)).trans ((va_up_ne _ _ (by omega)).trans hS2.2.2.2.1)
        have k94_cmds := (congrFun hM94 15).trans ((va_up_ne _ _ (by omega)).trans kc9)
        have hS9 := SM_pl hS2 hM94
        have hno9 : ∀ j, j < k + 1 → ¬ (pm (FM j) t l i = (FM j).length ∧ canEnd t l (i + (FM j).length)) := fun j hj => by
          by_cases e9 : j = k
          · exact e9 ▸ nok
          · exact hno j (by omega)
        refine g_run 52 2 rfl ?_
        exact ih (by omega) M94 _ _ hS9.1 (e_fs_tr fr2 hS9.2) hno9
      · replace c62 := b_1.mp c62
        have ej := rJ_uniq (t := t) (l := l) (i := i) k hk9 c53a (by rw [← c53a]; exact c62)
        have er : rN t l i = pm (FM k) t l i := by rw [rN, ej]
        have ok9 : rOK t l i ∧ canEnd t l (i + rN t l i) := ⟨⟨by rw [ej]; exact hk9, by rw [er, ej]; exact c53a⟩, by rw [er]; exact c62⟩
        refine g_run 36 2 rfl ?_
        
        refine g_put 38 rfl fp_RX6_22 hS2.2.1 rfl trivial (fun M68 hM68 => ?_)
        have k68_this := (congrFun hM68 s).trans (va_up_self _ _ _)
        have k68_this_text := (congrFun hM68 (s + 1)).trans ((va_up_ne _ _ (by omega)).trans hS2.2.2.1.2.2.2.2.2.1.choose_spec.2)
        have k68_this_numbers := (congrFun hM68 (s + 3)).trans ((va_up_ne _ _ (by omega)).trans hS2.2.2.2.1)
        have k68_cmds := (congrFun hM68 15).trans ((va_up_ne _ _ (by omega)).trans kc9)
        have hS9 := SM_pl hS2 hM68
        have kc68 := (congrFun hM68 k).trans ((va_up_ne _ _ (by omega)).trans kc)
        refine g_run 39 2 rfl ?_
        refine g_getC 41 rfl fc20_RX6_38 (Nat.lt_of_lt_of_le hk9 (by decide)) kc68 rfl ?_
        rw [show k + 20 = 20 + k from Nat.add_comm k 20]
        refine g_run 42 1 rfl ?_
        refine g_callV 43 rfl cv_RX6_55 k68_this (y_readNumbers hK hS9.1 h60 k hk9 i (by omega)) rfl rfl (by decide) (by omega) (by omega) (Nat.le_of_ble_eq_true rfl) (e_kw fun M78 hq78 => ?_) e_kwx
        refine g_run 44 1 rfl ?_
        exact g_aret 45 rfl rfl (by first | exact Or.inl ⟨_, rfl⟩ | exact Or.inr ⟨_, rfl⟩) ⟨rfl, e_fs_tr fr2 (e_fs_tr hS9.2 hq78.2), Or.inl ⟨ok9, by rw [ej], by rw [er, ej]; exact hq78.1⟩⟩
end X6
