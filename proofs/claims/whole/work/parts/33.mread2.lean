/-! the reference reads its commands (wip/whole/gen/c_mread2.py prints this part) -/
section RJ9
variable {t : Nat → Int} {l i : Nat}
theorem rJ_0 (h : atC t l i 100) (h2 : atC t l (i + 1) 111) : rJ t l i = 0 := by rw [rJ, if_pos h, if_pos h2]
theorem rJ_4 (h : atC t l i 100) (h2 : ¬ atC t l (i + 1) 111) : rJ t l i = 4 := by rw [rJ, if_pos h, if_neg h2]
theorem rJ_1 (h : atC t l i 116) (h2 : atC t l (i + 1) 117) : rJ t l i = 1 := by rw [rJ, if_neg (by omega), if_pos h, if_pos h2]
theorem rJ_2 (h : atC t l i 116) (h2 : ¬ atC t l (i + 1) 117) : rJ t l i = 2 := by rw [rJ, if_neg (by omega), if_pos h, if_neg h2]
theorem rJ_3 (h : atC t l i 115) (h2 : atC t l (i + 1) 104) : rJ t l i = 3 := by rw [rJ, if_neg (by omega), if_neg (by omega), if_pos h, if_pos h2]
theorem rJ_9 (h : atC t l i 115) (h2 : ¬ atC t l (i + 1) 104) : rJ t l i = 9 := by rw [rJ, if_neg (by omega), if_neg (by omega), if_pos h, if_neg h2]
theorem rJ_5 (h : atC t l i 98) : rJ t l i = 5 := by rw [rJ, if_neg (by omega), if_neg (by omega), if_neg (by omega), if_pos h]
theorem rJ_h (h : atC t l i 104) : rJ t l i = if 5 ≤ pm (FM 7) t l i then (if pm (FM 8) t l i = 7 then 8 else 7) else 6 := by rw [rJ, if_neg (by omega), if_neg (by omega), if_neg (by omega), if_neg (by omega), if_pos h]
theorem rJ_no (h : ¬ (t i = 116 ∨ t i = 100 ∨ t i = 115 ∨ t i = 98 ∨ t i = 104) ∨ l ≤ i) : rJ t l i = 10 := by rw [rJ, if_neg (by omega), if_neg (by omega), if_neg (by omega), if_neg (by omega), if_neg (by omega)]
theorem pm_one {c : Int} (hc : okc c) : pm [c] t l i = 1 ↔ atC t l i c := by
  rw [pm_c hc.2.2]
  by_cases e : atC t l i c
  · rw [if_pos e]; exact ⟨fun _ => e, fun _ => rfl⟩
  · rw [if_neg e]; exact ⟨fun h => absurd h (by decide), fun h => absurd h e⟩
theorem pm_n1 {c : Int} (h : ¬ pm [c] t l i = 1) : pm [c] t l i = 0 := by
  have := pm_le t l [c] i
  simp only [List.length_cons, List.length_nil] at this
  omega
theorem pm_ok {F f R : List Int} {p nf : Nat} (e : pm F t l i = p + pm (f ++ R) t l (i + p)) (hn : f.length = nf) (c : pm f t l (i + p) = nf) : pm F t l i = p + nf + pm R t l (i + (p + nf)) := by
  subst hn
  rw [e, pm_app, if_pos c, show i + p + f.length = i + (p + f.length) by omega]; omega
theorem pm_no {F f R : List Int} {p nf : Nat} (e : pm F t l i = p + pm (f ++ R) t l (i + p)) (hn : f.length = nf) (c : ¬ pm f t l (i + p) = nf) : pm F t l i = p + pm f t l (i + p) ∧ pm f t l (i + p) < nf := by
  subst hn
  have := pm_le t l f (i + p)
  exact ⟨by rw [e, pm_app, if_neg c], by omega⟩
end RJ9
/-- a command is read, at the place a of the commands -/
def RQ (M : Mem) (n m : Nat) (q : Nat → Int) (A : Nat → Nat → Int) (l i a : Nat) (K : Nat → Int) : Rv → Mem → Nat → Prop := fun r' M' n' => n' = n ∧ e_fr m (m + 9) M M' ∧ ∃ K', RM M' m q A (i + rN (A 6) l i) K' ∧ r' = .inl (some (vI (if rOK (A 6) l i then 1 else 0))) ∧ (∀ x, x < a → K' x = K x) ∧ (rOK (A 6) l i → K' a = rKd (rJ (A 6) l i) ∧ ∀ p, p < rAr (rJ (A 6) l i) → K' (a + 1 + p) = rA (A 6) i (rJ (A 6) l i) p)
section MR2
variable {r0 : Option Nat} {Γ : Cx} {M : Mem} {n m : Nat} {q : Nat → Int} {A : Nat → Nat → Int} {i l : Nat} {K : Nat → Int}
theorem z3 {t : Nat → Int} {l i : Nat} {f : List Int} : pm f t l i = 0 + pm f t l (i + 0) := (Nat.zero_add _).symm
theorem r_three (hR : RH q A l) (H0 : RM M m q A i K) (hi : i ≤ l) (z : Int) (a : Nat) (hz : z = a) (ha : a + 2 < 155) : Ct (e_L r0) Γ mX8_isThree 3 0 0 [vR m, vI z] M n (RP M n m q A l i [35, 35, 35] a K (fun K' => K' a = A 6 i - 48 ∧ K' (a + 1) = A 6 (i + 1) - 48 ∧ K' (a + 2) = A 6 (i + 2) - 48)) := by
  have fr0 : e_fr m (m + 9) M M := e_fr_refl
  have H : MM M m (va_up q 16 (i : Int)) (va_up A 7 K) := H0
  refine g_start ok_X8_isThree rfl rfl ?_
  refine g_run 0 3 rfl ?_
  refine g_callV 3 rfl cv_RX8_205 H.2.1 (r_num1 hR H (by omega) _ (a + 0) (by omega) (by omega)) rfl rfl (by decide) (by omega) (by omega) (Nat.le_of_ble_eq_true rfl) (fun v9 M3 n9 h9 _ => ?_) (fun E M9 n9 h9 _ => by obtain ⟨-, -, K9, -, h3, -⟩ := h9; cases h3)
  obtain ⟨hn9, fq3, K3, H3, h3, lo3, hv3⟩ := h9
  subst n9
  cases h3
  have fr3 := e_fr_tr fr0 fq3
  refine g_if_eq 4 35 rfl rfl b_r (fun c6 => ?_) (fun c6 => ?_)
  · replace c6 := b_0.mp c6
    have c6a : ¬ pm [35] (A 6) l i = 1 := c6
    have x6 := pm_no (nf := 1) (F := [35, 35, 35]) (f := [35]) (R := [35, 35]) (p := 0) (Nat.zero_add _).symm rfl c6a
    have x9 : pm [35, 35, 35] (A 6) l i = 0 + pm [35] (A 6) l (i + 0) := x6.1
    have n9 : ¬ pm [35, 35, 35] (A 6) l i = ([35, 35, 35] : List Int).length := fun h => by have h3 : ([35, 35, 35] : List Int).length = 3 := rfl; have h4 := x6.2; omega
    have fin9 : RM M3 m q A (i + (0 + pm [35] (A 6) l (i + 0))) K3 := by rw [← Nat.add_assoc]; exact H3
    rw [← x9] at fin9
    have lo9 : ∀ x, x < a → K3 x = K x := fun x h9 => (lo3 x (by omega))
    have fin8 : ∀ V : Prop, pm [35, 35, 35] (A 6) l i = ([35, 35, 35] : List Int).length → V := fun V h => absurd h n9
    
    refine g_run 21 1 rfl ?_
    exact g_iret 22 rfl rfl (by first | exact trivial | exact Or.inl rfl | exact Or.inr rfl | (show _ ∨ _; omega)) (by first | exact ⟨rfl, fr3, _, fin9, (by rw [if_neg n9]), lo9, fun h => absurd h n9⟩ | exact ⟨rfl, fr3, _, fin9, (by rw [if_pos o9]), lo9, fun _ => ⟨((lo25 _ (by omega)).trans ((lo14 _ (by omega)).trans v6)), ((lo25 _ (by omega)).trans v17), v28⟩⟩)
  · replace c6 := b_1.mp c6
    have c6a : pm [35] (A 6) l i = 1 := c6
    have e6 := pm_ok (nf := 1) (F := [35, 35, 35]) (f := [35]) (R := [35, 35]) (p := 0) (Nat.zero_add _).symm rfl c6a
    have le6 := pm_l (A 6) l [35] i (by omega)
    have R6 := H3
    have v6 := hv3 c6a
    rw [show pm _ (A 6) l _ = 1 from c6a] at R6 le6
    refine g_run 5 5 rfl ?_
    refine g_callV 10 rfl cv_RX8_205 R6.2.1 (r_num1 hR (show RM _ m q A (i + 1) K3 from R6) (by omega) _ (a + 1) (by omega) (by omega)) rfl rfl (by decide) (by omega) (by omega) (Nat.le_of_ble_eq_true rfl) (fun v9 M14 n9 h9 _ => ?_) (fun E M9 n9 h9 _ => by obtain ⟨-, -, K9, -, h3, -⟩ := h9; cases h3)
    obtain ⟨hn9, fq14, K14, H14, h3, lo14, hv14⟩ := h9
    subst n9
    cases h3
    have fr14 := e_fr_tr fr3 fq14
    refine g_if_eq 11 35 rfl rfl b_r (fun c17 => ?_) (fun c17 => ?_)
    · replace c17 := b_0.mp c17
      have c17a : ¬ pm [35] (A 6) l (i + 1) = 1 := c17
      have x17 := pm_no (nf := 1) (F := [35, 35, 35]) (f := [35]) (R := [35]) (p := 1) e6 rfl c17a
      have x9 : pm [35, 35, 35] (A 6) l i = 1 + pm [35] (A 6) l (i + 1) := x17.1
      have n9 : ¬ pm [35, 35, 35] (A 6) l i = ([35, 35, 35] : List Int).length := fun h => by have h3 : ([35, 35, 35] : List Int).length = 3 := rfl; have h4 := x17.2; omega
      have fin9 : RM M14 m q A (i + (1 + pm [35] (A 6) l (i + 1))) K14 := by rw [← Nat.add_assoc]; exact H14
      rw [← x9] at fin9
      have lo9 : ∀ x, x < a → K14 x = K x := fun x h9 => ((lo14 x (by omega)).trans (lo3 x (by omega)))
      have fin8 : ∀ V : Prop, pm [35, 35, 35] (A 6) l i = ([35, 35, 35] : List Int).length → V := fun V h => absurd h n9
      
      refine g_run 21 1 rfl ?_
      exact g_iret 22 rfl rfl (by first | exact trivial | exact Or.inl rfl | exact Or.inr rfl | (show _ ∨ _; omega)) (by first | exact ⟨rfl, fr14, _, fin9, (by rw [if_neg n9]), lo9, fun h => absurd h n9⟩ | exact ⟨rfl, fr14, _, fin9, (by rw [if_pos o9]), lo9, fun _ => ⟨((lo25 _ (by omega)).trans ((lo14 _ (by omega)).trans v6)), ((lo25 _ (by omega)).trans v17), v28⟩⟩)
    · replace c17 := b_1.mp c17
      have c17a : pm [35] (A 6) l (i + 1) = 1 := c17
      have e17 := pm_ok (nf := 1) (F := [35, 35, 35]) (f := [35]) (R := [35]) (p := 1) e6 rfl c17a
      have le17 := pm_l (A 6) l [35] (i + 1) (by omega)
      have R17 := H14
      have v17 := hv14 c17a
      rw [show pm _ (A 6) l _ = 1 from c17a] at R17 le17
      refine g_run 12 5 rfl ?_
      refine g_callV 17 rfl cv_RX8_205 R17.2.1 (r_num1 hR (show RM _ m q A (i + 2) K14 from R17) (by omega) _ (a + 2) (by omega) (by omega)) rfl rfl (by decide) (by omega) (by omega) (Nat.le_of_ble_eq_true rfl) (fun v9 M25 n9 h9 _ => ?_) (fun E M9 n9 h9 _ => by obtain ⟨-, -, K9, -, h3, -⟩ := h9; cases h3)
      obtain ⟨hn9, fq25, K25, H25, h3, lo25, hv25⟩ := h9
      subst n9
      cases h3
      have fr25 := e_fr_tr fr14 fq25
      refine g_if_eq 18 35 rfl rfl b_r (fun c28 => ?_) (fun c28 => ?_)
      · replace c28 := b_0.mp c28
        have c28a : ¬ pm [35] (A 6) l (i + 2) = 1 := c28
        have x28 := pm_no (nf := 1) (F := [35, 35, 35]) (f := [35]) (R := []) (p := 2) e17 rfl c28a
        have x9 : pm [35, 35, 35] (A 6) l i = 2 + pm [35] (A 6) l (i + 2) := x28.1
        have n9 : ¬ pm [35, 35, 35] (A 6) l i = ([35, 35, 35] : List Int).length := fun h => by have h3 : ([35, 35, 35] : List Int).length = 3 := rfl; have h4 := x28.2; omega
        have fin9 : RM M25 m q A (i + (2 + pm [35] (A 6) l (i + 2))) K25 := by rw [← Nat.add_assoc]; exact H25
        rw [← x9] at fin9
        have lo9 : ∀ x, x < a → K25 x = K x := fun x h9 => ((lo25 x (by omega)).trans ((lo14 x (by omega)).trans (lo3 x (by omega))))
        have fin8 : ∀ V : Prop, pm [35, 35, 35] (A 6) l i = ([35, 35, 35] : List Int).length → V := fun V h => absurd h n9
        
        refine g_run 21 1 rfl ?_
        exact g_iret 22 rfl rfl (by first | exact trivial | exact Or.inl rfl | exact Or.inr rfl | (show _ ∨ _; omega)) (by first | exact ⟨rfl, fr25, _, fin9, (by rw [if_neg n9]), lo9, fun h => absurd h n9⟩ | exact ⟨rfl, fr25, _, fin9, (by rw [if_pos o9]), lo9, fun _ => ⟨((lo25 _ (by omega)).trans ((lo14 _ (by omega)).trans v6)), ((lo25 _ (by omega)).trans v17), v28⟩⟩)
      · replace c28 := b_1.mp c28
        have c28a : pm [35] (A 6) l (i + 2) = 1 := c28
        have e28 := pm_ok (nf := 1) (F := [35, 35, 35]) (f := [35]) (R := []) (p := 2) e17 rfl c28a
        have le28 := pm_l (A 6) l [35] (i + 2) (by omega)
        have R28 := H25
        have v28 := hv25 c28a
        rw [show pm _ (A 6) l _ = 1 from c28a] at R28 le28
        have x9 : pm [35, 35, 35] (A 6) l i = 3 := e28
        have o9 : pm [35, 35, 35] (A 6) l i = ([35, 35, 35] : List Int).length := x9
        have fin9 : RM M25 m q A (i + 3) K25 := R28
        rw [← x9] at fin9
        have lo9 : ∀ x, x < a → K25 x = K x := fun x h9 => ((lo25 x (by omega)).trans ((lo14 x (by omega)).trans (lo3 x (by omega))))
        refine g_run 19 2 rfl ?_
        exact g_iret 22 rfl rfl (by first | exact trivial | exact Or.inl rfl | exact Or.inr rfl | (show _ ∨ _; omega)) (by first | exact ⟨rfl, fr25, _, fin9, (by rw [if_neg n9]), lo9, fun h => absurd h n9⟩ | exact ⟨rfl, fr25, _, fin9, (by rw [if_pos o9]), lo9, fun _ => ⟨((lo25 _ (by omega)).trans ((lo14 _ (by omega)).trans v6)), ((lo25 _ (by omega)).trans v17), v28⟩⟩)
theorem r_steps (hR : RH q A l) (H0 : RM M m q A i K) (hi : i ≤ l) (z : Int) (a : Nat) (hz : z = a) (ha : a < 155) : Ct (e_L r0) Γ mX8_isSteps 3 0 0 [vR m, vI z] M n (RP M n m q A l i [126, 35] a K (fun K' => K' a = if A 6 i = 45 then -(A 6 (i + 1) - 48) else A 6 (i + 1) - 48)) := by
  have fr0 : e_fr m (m + 9) M M := e_fr_refl
  have H : MM M m (va_up q 16 (i : Int)) (va_up A 7 K) := H0
  have qn := mNow_rng hR i
  refine g_start ok_X8_isSteps rfl rfl ?_
  refine g_run 0 1 rfl ?_
  refine g_callV 1 rfl cv_RX8_190 H.2.1 (r_now hR H hi) rfl rfl (by decide) (by omega) (by omega) (Nat.le_of_ble_eq_true rfl) (e_kr ?_) e_kx
  refine g_run 2 1 rfl ?_
  refine g_icmp_ne 3 13 rfl rfl (by omega) (by omega) (fun c6 => ?_) (fun c6 => ?_)
  · have d9 : ¬ A 6 i = 45 ∨ l ≤ i := by by_cases e : l ≤ i; exact Or.inr e; exact Or.inl (fun e2 => c6 (by unfold mNow; rw [if_pos (by omega)]; exact e2))
    refine g_run 6 4 rfl ?_
    refine g_callV 10 rfl cv_RX8_202 H.2.1 (r_sign hR H hi 43 (by decide)) rfl rfl (by decide) (by omega) (by omega) (Nat.le_of_ble_eq_true rfl) (e_kw fun M18 hq18 => ?_) e_kwx
    have fr18 := e_fr_tr fr0 (e_fr_w hq18.2 (by omega))
    refine g_if_ne 11 33 rfl rfl b_r (fun c21 => ?_) (fun c21 => ?_)
    · replace c21 := b_1.mp c21
      have c21a : atC (A 6) l i 43 := (pm_one (by decide)).mp c21
      have e2 : pm [126, 35] (A 6) l i = pm [35] (A 6) l (i + 1) + 1 := by rw [pm_s, if_pos ⟨c21a.1, Or.inl c21a.2⟩]
      have R30 := hq18.1
      rw [show pm [43] (A 6) l i = 1 from c21] at R30
      have le30 := c21a.1
      refine g_run 16 3 rfl ?_
      refine g_callV 19 rfl cv_RX8_205 R30.2.1 (r_num1 hR (show RM _ m q A (i + 1) K from R30) (by omega) _ a (by omega) (by omega)) rfl rfl (by decide) (by omega) (by omega) (Nat.le_of_ble_eq_true rfl) (fun v9 M36 n9 h9 _ => ?_) (fun E M9 n9 h9 _ => by obtain ⟨-, -, K9, -, h3, -⟩ := h9; cases h3)
      obtain ⟨hn9, fq36, K36, H36, h3, lo36, hv36⟩ := h9
      subst n9
      cases h3
      have fr36 := e_fr_tr fr18 fq36
      refine g_if_ne 20 44 rfl rfl b_r (fun c39 => ?_) (fun c39 => ?_)
      · replace c39 := b_1.mp c39
        have R36 := H36
        have v36 := hv36 c39
        rw [show pm [35] (A 6) l (i + 1) = 1 from c39] at R36 e2
        have o9 : pm [126, 35] (A 6) l i = ([126, 35] : List Int).length := e2
        refine g_run 23 1 rfl ?_
        refine g_get 24 rfl fl_RX8_38 R36.2.1 rfl ?_
        refine g_run 25 2 rfl ?_
        refine g_if_eq 27 63 rfl rfl (by decide) (fun _ => ?_) (fun c50 => absurd c50 (by decide))
        refine g_run 34 1 rfl ?_
        refine g_get 35 rfl fl_RX8_38 R36.2.1 rfl ?_
        refine g_run 36 1 rfl ?_
        refine g_iald 37 a rfl rfl R36.2.2.2.2.2.2.2.2.2 (by first | rfl | omega) (by omega) (by decide) ?_
        rw [va_up_self]
        refine g_iast 38 a rfl rfl (by decide) R36.2.2.2.2.2.2.2.2.2 (by first | rfl | omega) (by omega) (by decide) (fun M69 hM69 => ?_)
        have H69 := MM_A7 R36 hM69
        have fr69 := e_fr_tr fr36 (e_fr_up hM69 (by omega))
        refine g_run 39 1 rfl ?_
        have fin9 := H69
        rw [up_up, va_up_self, v36] at fin9
        exact g_iret 40 rfl rfl (by first | exact trivial | exact Or.inl rfl | exact Or.inr rfl | (show _ ∨ _; omega)) (by first | exact ⟨rfl, fr69, va_up K36 a (-(A 6 (i + 1) - 48)), (by rw [e2]; exact fin9), (by rw [if_pos o9]), fun x hx => (va_up_ne _ _ (by omega)).trans (lo36 x hx), fun _ => (va_up_self _ _ _).trans (if_pos d9.2).symm⟩ | exact ⟨rfl, fr69, va_up K36 a (A 6 (i + 1) - 48), (by rw [e2]; exact fin9), (by rw [if_pos o9]), fun x hx => (va_up_ne _ _ (by omega)).trans (lo36 x hx), fun _ => (va_up_self _ _ _).trans (if_neg (fun e8 => by rcases d9 with d9 | d9; exact d9 e8; omega)).symm⟩)
      · replace c39 := b_0.mp c39
        have y9 : pm [35] (A 6) l (i + 1) = 0 := by have := pm_le (A 6) l [35] (i + 1); simp only [List.length_cons, List.length_nil] at this; have : ¬ pm [35] (A 6) l (i + 1) = 1 := c39; omega
        have x9 : pm [126, 35] (A 6) l i = 1 := by rw [e2, y9]
        have n9 : ¬ pm [126, 35] (A 6) l i = ([126, 35] : List Int).length := by rw [x9]; decide
        have fin9 : RM M36 m q A (i + 1) K36 := by rw [y9] at H36; exact H36
        rw [← x9] at fin9
        have lo9 : ∀ x, x < a → K36 x = K x := lo36
        refine g_run 21 1 rfl ?_
        exact g_iret 22 rfl rfl (by first | exact trivial | exact Or.inl rfl | exact Or.inr rfl | (show _ ∨ _; omega)) ⟨rfl, fr36, _, fin9, (by rw [if_neg n9]), lo9, fun h => absurd h n9⟩
    · replace c21 := b_0.mp c21
      have c21b : pm [43] (A 6) l i = 0 := pm_n1 c21
      have R18 := hq18.1
      rw [c21b] at R18
      refine g_run 12 2 rfl ?_
      refine g_callV 14 rfl cv_RX8_202 R18.2.1 (r_sign hR (show RM M18 m q A i K from R18) hi 45 (by decide)) rfl rfl (by decide) (by omega) (by omega) (Nat.le_of_ble_eq_true rfl) (e_kw fun M27 hq27 => ?_) e_kwx
      have fr27 := e_fr_tr fr18 (e_fr_w hq27.2 (by omega))
      refine g_if_eq 15 42 rfl rfl b_r (fun c30 => ?_) (fun c30 => ?_)
      · replace c30 := b_0.mp c30
        have x9 : pm [126, 35] (A 6) l i = 0 := by
          rw [pm_s, if_neg (fun e => ?_)]
          rcases e.2 with e2 | e2
          · exact c21 ((pm_one (by decide)).mpr ⟨e.1, e2⟩)
          · exact c30 ((pm_one (by decide)).mpr ⟨e.1, e2⟩)
        have n9 : ¬ pm [126, 35] (A 6) l i = ([126, 35] : List Int).length := by rw [x9]; decide
        have fin9 := hq27.1
        rw [show pm [45] (A 6) l i = 0 from pm_n1 c30] at fin9
        have lo9 : ∀ x, x < a → K x = K x := fun _ _ => rfl
        replace fin9 : RM M27 m q A (i + pm [126, 35] (A 6) l i) K := by rw [x9]; exact fin9
        refine g_run 21 1 rfl ?_
        exact g_iret 22 rfl rfl (by first | exact trivial | exact Or.inl rfl | exact Or.inr rfl | (show _ ∨ _; omega)) ⟨rfl, fr27, _, fin9, (by rw [if_neg n9]), lo9, fun h => absurd h n9⟩
      · replace c30 := b_1.mp c30
        have c30a : atC (A 6) l i 45 := (pm_one (by decide)).mp c30
        have e2 : pm [126, 35] (A 6) l i = pm [35] (A 6) l (i + 1) + 1 := by rw [pm_s, if_pos ⟨c30a.1, Or.inr c30a.2⟩]
        have R30 := hq27.1
        rw [show pm [45] (A 6) l i = 1 from c30] at R30
        have le30 := c30a.1
        refine g_run 16 3 rfl ?_
        refine g_callV 19 rfl cv_RX8_205 R30.2.1 (r_num1 hR (show RM _ m q A (i + 1) K from R30) (by omega) _ a (by omega) (by omega)) rfl rfl (by decide) (by omega) (by omega) (Nat.le_of_ble_eq_true rfl) (fun v9 M36 n9 h9 _ => ?_) (fun E M9 n9 h9 _ => by obtain ⟨-, -, K9, -, h3, -⟩ := h9; cases h3)
        obtain ⟨hn9, fq36, K36, H36, h3, lo36, hv36⟩ := h9
        subst n9
        cases h3
        have fr36 := e_fr_tr fr27 fq36
        refine g_if_ne 20 44 rfl rfl b_r (fun c39 => ?_) (fun c39 => ?_)
        · replace c39 := b_1.mp c39
          have R36 := H36
          have v36 := hv36 c39
          rw [show pm [35] (A 6) l (i + 1) = 1 from c39] at R36 e2
          have o9 : pm [126, 35] (A 6) l i = ([126, 35] : List Int).length := e2
          refine g_run 23 1 rfl ?_
          refine g_get 24 rfl fl_RX8_38 R36.2.1 rfl ?_
          refine g_run 25 2 rfl ?_
          refine g_if_eq 27 63 rfl rfl (by decide) (fun _ => ?_) (fun c50 => absurd c50 (by decide))
          refine g_run 34 1 rfl ?_
          refine g_get 35 rfl fl_RX8_38 R36.2.1 rfl ?_
          refine g_run 36 1 rfl ?_
          refine g_iald 37 a rfl rfl R36.2.2.2.2.2.2.2.2.2 (by first | rfl | omega) (by omega) (by decide) ?_
          rw [va_up_self]
          refine g_iast 38 a rfl rfl (by decide) R36.2.2.2.2.2.2.2.2.2 (by first | rfl | omega) (by omega) (by decide) (fun M69 hM69 => ?_)
          have H69 := MM_A7 R36 hM69
          have fr69 := e_fr_tr fr36 (e_fr_up hM69 (by omega))
          refine g_run 39 1 rfl ?_
          have fin9 := H69
          rw [up_up, va_up_self, v36] at fin9
          exact g_iret 40 rfl rfl (by first | exact trivial | exact Or.inl rfl | exact Or.inr rfl | (show _ ∨ _; omega)) (by first | exact ⟨rfl, fr69, va_up K36 a (-(A 6 (i + 1) - 48)), (by rw [e2]; exact fin9), (by rw [if_pos o9]), fun x hx => (va_up_ne _ _ (by omega)).trans (lo36 x hx), fun _ => (va_up_self _ _ _).trans (if_pos d9.2).symm⟩ | exact ⟨rfl, fr69, va_up K36 a (A 6 (i + 1) - 48), (by rw [e2]; exact fin9), (by rw [if_pos o9]), fun x hx => (va_up_ne _ _ (by omega)).trans (lo36 x hx), fun _ => (va_up_self _ _ _).trans (if_neg (fun e8 => by rcases d9 with d9 | d9; exact d9 e8; omega)).symm⟩)
        · replace c39 := b_0.mp c39
          have y9 : pm [35] (A 6) l (i + 1) = 0 := by have := pm_le (A 6) l [35] (i + 1); simp only [List.length_cons, List.length_nil] at this; have : ¬ pm [35] (A 6) l (i + 1) = 1 := c39; omega
          have x9 : pm [126, 35] (A 6) l i = 1 := by rw [e2, y9]
          have n9 : ¬ pm [126, 35] (A 6) l i = ([126, 35] : List Int).length := by rw [x9]; decide
          have fin9 : RM M36 m q A (i + 1) K36 := by rw [y9] at H36; exact H36
          rw [← x9] at fin9
          have lo9 : ∀ x, x < a → K36 x = K x := lo36
          refine g_run 21 1 rfl ?_
          exact g_iret 22 rfl rfl (by first | exact trivial | exact Or.inl rfl | exact Or.inr rfl | (show _ ∨ _; omega)) ⟨rfl, fr36, _, fin9, (by rw [if_neg n9]), lo9, fun h => absurd h n9⟩
  · have d9 : atC (A 6) l i 45 := (mNow_c (by decide)).mp c6
    refine g_run 4 2 rfl ?_
    refine g_run 7 3 rfl ?_
    refine g_callV 10 rfl cv_RX8_202 H.2.1 (r_sign hR H hi 43 (by decide)) rfl rfl (by decide) (by omega) (by omega) (Nat.le_of_ble_eq_true rfl) (e_kw fun M18 hq18 => ?_) e_kwx
    have fr18 := e_fr_tr fr0 (e_fr_w hq18.2 (by omega))
    refine g_if_ne 11 33 rfl rfl b_r (fun c21 => ?_) (fun c21 => ?_)
    · replace c21 := b_1.mp c21
      have c21a : atC (A 6) l i 43 := (pm_one (by decide)).mp c21
      have e2 : pm [126, 35] (A 6) l i = pm [35] (A 6) l (i + 1) + 1 := by rw [pm_s, if_pos ⟨c21a.1, Or.inl c21a.2⟩]
      have R30 := hq18.1
      rw [show pm [43] (A 6) l i = 1 from c21] at R30
      have le30 := c21a.1
      refine g_run 16 3 rfl ?_
      refine g_callV 19 rfl cv_RX8_205 R30.2.1 (r_num1 hR (show RM _ m q A (i + 1) K from R30) (by omega) _ a (by omega) (by omega)) rfl rfl (by decide) (by omega) (by omega) (Nat.le_of_ble_eq_true rfl) (fun v9 M36 n9 h9 _ => ?_) (fun E M9 n9 h9 _ => by obtain ⟨-, -, K9, -, h3, -⟩ := h9; cases h3)
      obtain ⟨hn9, fq36, K36, H36, h3, lo36, hv36⟩ := h9
      subst n9
      cases h3
      have fr36 := e_fr_tr fr18 fq36
      refine g_if_ne 20 44 rfl rfl b_r (fun c39 => ?_) (fun c39 => ?_)
      · replace c39 := b_1.mp c39
        have R36 := H36
        have v36 := hv36 c39
        rw [show pm [35] (A 6) l (i + 1) = 1 from c39] at R36 e2
        have o9 : pm [126, 35] (A 6) l i = ([126, 35] : List Int).length := e2
        refine g_run 23 1 rfl ?_
        refine g_get 24 rfl fl_RX8_38 R36.2.1 rfl ?_
        refine g_run 25 2 rfl ?_
        refine g_if_eq 27 63 rfl rfl (by decide) (fun c50 => absurd c50 (by decide)) (fun _ => ?_)
        refine g_run 28 1 rfl ?_
        refine g_get 29 rfl fl_RX8_38 R36.2.1 rfl ?_
        refine g_run 30 1 rfl ?_
        refine g_iald 31 a rfl rfl R36.2.2.2.2.2.2.2.2.2 (by first | rfl | omega) (by omega) (by decide) ?_
        rw [va_up_self]
        refine g_run 32 2 rfl ?_
        refine g_iast 38 a rfl rfl (by decide) R36.2.2.2.2.2.2.2.2.2 (by first | rfl | omega) (by omega) (by decide) (fun M69 hM69 => ?_)
        have H69 := MM_A7 R36 hM69
        have fr69 := e_fr_tr fr36 (e_fr_up hM69 (by omega))
        refine g_run 39 1 rfl ?_
        have fin9 := H69
        rw [up_up, va_up_self, v36] at fin9
        exact g_iret 40 rfl rfl (by first | exact trivial | exact Or.inl rfl | exact Or.inr rfl | (show _ ∨ _; omega)) (by first | exact ⟨rfl, fr69, va_up K36 a (-(A 6 (i + 1) - 48)), (by rw [e2]; exact fin9), (by rw [if_pos o9]), fun x hx => (va_up_ne _ _ (by omega)).trans (lo36 x hx), fun _ => (va_up_self _ _ _).trans (if_pos d9.2).symm⟩ | exact ⟨rfl, fr69, va_up K36 a (A 6 (i + 1) - 48), (by rw [e2]; exact fin9), (by rw [if_pos o9]), fun x hx => (va_up_ne _ _ (by omega)).trans (lo36 x hx), fun _ => (va_up_self _ _ _).trans (if_neg (fun e8 => by rcases d9 with d9 | d9; exact d9 e8; omega)).symm⟩)
      · replace c39 := b_0.mp c39
        have y9 : pm [35] (A 6) l (i + 1) = 0 := by have := pm_le (A 6) l [35] (i + 1); simp only [List.length_cons, List.length_nil] at this; have : ¬ pm [35] (A 6) l (i + 1) = 1 := c39; omega
        have x9 : pm [126, 35] (A 6) l i = 1 := by rw [e2, y9]
        have n9 : ¬ pm [126, 35] (A 6) l i = ([126, 35] : List Int).length := by rw [x9]; decide
        have fin9 : RM M36 m q A (i + 1) K36 := by rw [y9] at H36; exact H36
        rw [← x9] at fin9
        have lo9 : ∀ x, x < a → K36 x = K x := lo36
        refine g_run 21 1 rfl ?_
        exact g_iret 22 rfl rfl (by first | exact trivial | exact Or.inl rfl | exact Or.inr rfl | (show _ ∨ _; omega)) ⟨rfl, fr36, _, fin9, (by rw [if_neg n9]), lo9, fun h => absurd h n9⟩
    · replace c21 := b_0.mp c21
      have c21b : pm [43] (A 6) l i = 0 := pm_n1 c21
      have R18 := hq18.1
      rw [c21b] at R18
      refine g_run 12 2 rfl ?_
      refine g_callV 14 rfl cv_RX8_202 R18.2.1 (r_sign hR (show RM M18 m q A i K from R18) hi 45 (by decide)) rfl rfl (by decide) (by omega) (by omega) (Nat.le_of_ble_eq_true rfl) (e_kw fun M27 hq27 => ?_) e_kwx
      have fr27 := e_fr_tr fr18 (e_fr_w hq27.2 (by omega))
      refine g_if_eq 15 42 rfl rfl b_r (fun c30 => ?_) (fun c30 => ?_)
      · replace c30 := b_0.mp c30
        have x9 : pm [126, 35] (A 6) l i = 0 := by
          rw [pm_s, if_neg (fun e => ?_)]
          rcases e.2 with e2 | e2
          · exact c21 ((pm_one (by decide)).mpr ⟨e.1, e2⟩)
          · exact c30 ((pm_one (by decide)).mpr ⟨e.1, e2⟩)
        have n9 : ¬ pm [126, 35] (A 6) l i = ([126, 35] : List Int).length := by rw [x9]; decide
        have fin9 := hq27.1
        rw [show pm [45] (A 6) l i = 0 from pm_n1 c30] at fin9
        have lo9 : ∀ x, x < a → K x = K x := fun _ _ => rfl
        replace fin9 : RM M27 m q A (i + pm [126, 35] (A 6) l i) K := by rw [x9]; exact fin9
        refine g_run 21 1 rfl ?_
        exact g_iret 22 rfl rfl (by first | exact trivial | exact Or.inl rfl | exact Or.inr rfl | (show _ ∨ _; omega)) ⟨rfl, fr27, _, fin9, (by rw [if_neg n9]), lo9, fun h => absurd h n9⟩
      · replace c30 := b_1.mp c30
        have c30a : atC (A 6) l i 45 := (pm_one (by decide)).mp c30
        have e2 : pm [126, 35] (A 6) l i = pm [35] (A 6) l (i + 1) + 1 := by rw [pm_s, if_pos ⟨c30a.1, Or.inr c30a.2⟩]
        have R30 := hq27.1
        rw [show pm [45] (A 6) l i = 1 from c30] at R30
        have le30 := c30a.1
        refine g_run 16 3 rfl ?_
        refine g_callV 19 rfl cv_RX8_205 R30.2.1 (r_num1 hR (show RM _ m q A (i + 1) K from R30) (by omega) _ a (by omega) (by omega)) rfl rfl (by decide) (by omega) (by omega) (Nat.le_of_ble_eq_true rfl) (fun v9 M36 n9 h9 _ => ?_) (fun E M9 n9 h9 _ => by obtain ⟨-, -, K9, -, h3, -⟩ := h9; cases h3)
        obtain ⟨hn9, fq36, K36, H36, h3, lo36, hv36⟩ := h9
        subst n9
        cases h3
        have fr36 := e_fr_tr fr27 fq36
        refine g_if_ne 20 44 rfl rfl b_r (fun c39 => ?_) (fun c39 => ?_)
        · replace c39 := b_1.mp c39
          have R36 := H36
          have v36 := hv36 c39
          rw [show pm [35] (A 6) l (i + 1) = 1 from c39] at R36 e2
          have o9 : pm [126, 35] (A 6) l i = ([126, 35] : List Int).length := e2
          refine g_run 23 1 rfl ?_
          refine g_get 24 rfl fl_RX8_38 R36.2.1 rfl ?_
          refine g_run 25 2 rfl ?_
          refine g_if_eq 27 63 rfl rfl (by decide) (fun c50 => absurd c50 (by decide)) (fun _ => ?_)
          refine g_run 28 1 rfl ?_
          refine g_get 29 rfl fl_RX8_38 R36.2.1 rfl ?_
          refine g_run 30 1 rfl ?_
          refine g_iald 31 a rfl rfl R36.2.2.2.2.2.2.2.2.2 (by first | rfl | omega) (by omega) (by decide) ?_
          rw [va_up_self]
          refine g_run 32 2 rfl ?_
          refine g_iast 38 a rfl rfl (by decide) R36.2.2.2.2.2.2.2.2.2 (by first | rfl | omega) (by omega) (by decide) (fun M69 hM69 => ?_)
          have H69 := MM_A7 R36 hM69
          have fr69 := e_fr_tr fr36 (e_fr_up hM69 (by omega))
          refine g_run 39 1 rfl ?_
          have fin9 := H69
          rw [up_up, va_up_self, v36] at fin9
          exact g_iret 40 rfl rfl (by first | exact trivial | exact Or.inl rfl | exact Or.inr rfl | (show _ ∨ _; omega)) (by first | exact ⟨rfl, fr69, va_up K36 a (-(A 6 (i + 1) - 48)), (by rw [e2]; exact fin9), (by rw [if_pos o9]), fun x hx => (va_up_ne _ _ (by omega)).trans (lo36 x hx), fun _ => (va_up_self _ _ _).trans (if_pos d9.2).symm⟩ | exact ⟨rfl, fr69, va_up K36 a (A 6 (i + 1) - 48), (by rw [e2]; exact fin9), (by rw [if_pos o9]), fun x hx => (va_up_ne _ _ (by omega)).trans (lo36 x hx), fun _ => (va_up_self _ _ _).trans (if_neg (fun e8 => by rcases d9 with d9 | d9; exact d9 e8; omega)).symm⟩)
        · replace c39 := b_0.mp c39
          have y9 : pm [35] (A 6) l (i + 1) = 0 := by have := pm_le (A 6) l [35] (i + 1); simp only [List.length_cons, List.length_nil] at this; have : ¬ pm [35] (A 6) l (i + 1) = 1 := c39; omega
          have x9 : pm [126, 35] (A 6) l i = 1 := by rw [e2, y9]
          have n9 : ¬ pm [126, 35] (A 6) l i = ([126, 35] : List Int).length := by rw [x9]; decide
          have fin9 : RM M36 m q A (i + 1) K36 := by rw [y9] at H36; exact H36
          rw [← x9] at fin9
          have lo9 : ∀ x, x < a → K36 x = K x := lo36
          refine g_run 21 1 rfl ?_
          exact g_iret 22 rfl rfl (by first | exact trivial | exact Or.inl rfl | exact Or.inr rfl | (show _ ∨ _; omega)) ⟨rfl, fr36, _, fin9, (by rw [if_neg n9]), lo9, fun h => absurd h n9⟩
end MR2
