/-! the reference reads its commands (wip/whole/gen/c_mread2.py prints this part) -/
section RJ9
variable {t : Nat → Int} {l i : Nat}
theorem rJ_0 (h : atC t l i 100) (h2 : atC t l (i + 1) 111) : rJ t l i = 0 := by rw [rJ, if_pos h, if_pos h2]
theorem rJ_4 (h : atC t l i 100) (h2 : ¬ atC t l (i + 1) 111) : rJ t l i = 4 := by rw [rJ, if_pos h, if_neg h2]
theorem rJ_1 (h : atC t l i 116) (h2 : atC t l (i + 1) 117) : rJ t l i = 1 := by rw [rJ, if_neg (by omega), if_pos h, if_pos h2]
theorem rJ_2 (h : atC t l i 116) (h2 : ¬ atC t l (i + 1) 117) : rJ t l i = 2 := by rw [rJ, if_neg (by omega), if_pos h, if_neg h2]
theorem rJ_3 (h : atC t l i 115) (h2 : atC t l (i + 1) 104) : rJ t l i = 3 := by rw [rJ, if_neg (by omega), if_neg (by omega), if_pos h, if_pos h2]
theorem rJ_9 (h : atC t l i 115) (h2 : ¬ atC t l (i + 1) 104) : rJ t l i = 9 := by rw [rJ, if_neg (by omega), if_neg (by omega), if_pos h, if_neg h2]
theorem rJ_5 (h : atC t l i 98) : rJ t l i = 5 := by rw [rJ, if_neg (by omega), if_neg (by omega), if_neg (by omega), if_pos h]
theorem rJ_h (h : atC t l i 104) : rJ t l i = if 5 ≤ pm (FM 7) t l i then (if pm (FM 8) t l i = 7 then 8 else 7) else 6 := by rw [rJ, if_neg (by omega), if_neg (by omega), if_neg (by omega), if_neg (by omega), if_pos h]
theorem rJ_no (h : ¬ (t i = 116 ∨ t i = 100 ∨ t i = 115 ∨ t i = 98 ∨ t i = 104) ∨ l ≤ i) : rJ t l i = 10 := by rw [rJ, if_neg (by omega), if_neg (by omega), if_neg (by omega), if_neg (by omega), if_neg (by omega)]
theorem pm_one {c : Int} (hc : okc c) : pm [c] t l i = 1 ↔ atC t l i c := by
  rw [pm_c hc.2.2]
  by_cases e : atC t l i c
  · rw [if_pos e]; exact ⟨fun _ => e, fun _ => rfl⟩
  · rw [if_neg e]; exact ⟨fun h => absurd h (by decide), fun h => absurd h e⟩
theorem pm_n1 {c : Int} (h : ¬ pm [c] t l i = 1) : pm [c] t l i = 0 := by
  have := pm_le t l [c] i
  simp only [List.length_cons, List.length_nil] at this
  omega
theorem pm_ok {F f R : List Int} {p nf : Nat} (e : pm F t l i = p + pm (f ++ R) t l (i + p)) (hn : f.length = nf) (c : pm f t l (i + p) = nf) : pm F t l i = p + nf + pm R t l (i + (p + nf)) := by
  subst hn
  rw [e, pm_app, if_pos c, show i + p + f.length = i + (p + f.length) by omega]; omega
theorem pm_no {F f R : List Int} {p nf : Nat} (e : pm F t l i = p + pm (f ++ R) t l (i + p)) (hn : f.length = nf) (c : ¬ pm f t l (i + p) = nf) : pm F t l i = p + pm f t l (i + p) ∧ pm f t l (i + p) < nf := by
  subst hn
  have := pm_le t l f (i + p)
  exact ⟨by rw [e, pm_app, if_neg c], by omega⟩
end RJ9
/-- a command is read, at the place a of the commands -/
def RQ (M : Mem) (n m : Nat) (q : Nat → Int) (A : Nat → Nat → Int) (l i a : Nat) (K : Nat → Int) : Rv → Mem → Nat → Prop := fun r' M' n' => n' = n ∧ e_fr m (m + 9) M M' ∧ ∃ K', RM M' m q A (i + rN (A 6) l i) K' ∧ r' = .inl (some (vI (if rOK (A 6) l i then 1 else 0))) ∧ (∀ x, x < a → K' x = K x) ∧ (rOK (A 6) l i → K' a = rKd (rJ (A 6) l i) ∧ ∀ p, p < rAr (rJ (A 6) l i) → K' (a + 1 + p) = rA (A 6) i (rJ (A 6) l i) p)
section MR2
variable {r0 : Option Nat} {Γ : Cx} {M : Mem} {n m : Nat} {q : Nat → Int} {A : Nat → Nat → Int} {i l : Nat} {K : Nat → Int}
theorem z3 {t : Nat → Int} {l i : Nat} {f : List Int} : pm f t l i = 0 + pm f t l (i + 0) := (Nat.zero_add _).symm
theorem r_three (hR : RH q A l) (H0 : RM M m q A i K) (hi : i ≤ l) (z : Int) (a : Nat) (hz : z = a) (ha : a + 2 < 155) : Ct (e_L r0) Γ mX8_isThree 3 0 0 [vR m, vI z] M n (RP M n m q A l i [35, 35, 35] a K (fun K' => K' a = A 6 i - 48 ∧ K' (a + 1) = A 6 (i + 1) - 48 ∧ K' (a + 2) = A 6 (i + 2) - 48)) := by
  have fr0 : e_fr m (m + 9) M M := e_fr_refl
  have H : MM M m (va_up q 16 (i : Int)) (va_up A 7 K) := H0
  refine g_start ok_X8_isThree rfl rfl ?_
  refine g_run 0 3 rfl ?_
  refine g_callV 3 rfl cv_RX8_205 H.2.1 (r_num1 hR H (by omega) _ (a + 0) (by omega) (by omega)) rfl rfl (by decide) (by omega) (by omega) (Nat.le_of_ble_eq_true rfl) (fun v9 M3 n9 h9 _ => ?_) (fun E M9 n9 h9 _ => by obtain ⟨-, -, K9, -, h3, -⟩ := h9; cases h3)
  obtain ⟨hn9, fq3, K3, H3, h3, lo3, hv3⟩ := h9
  subst n9
  cases h3
  have fr3 := e_fr_tr fr0 fq3
  refine g_if_eq 4 35 rfl rfl b_r (fun c6 => ?_) (fun c6 => ?_)
  · replace c6 := b_0.mp c6
    have c6a : ¬ pm [35] (A 6) l i = 1 := c6
    have x6 := pm_no (nf := 1) (F := [35, 35, 35]) (f := [35]) (R := [35, 35]) (p := 0) (Nat.zero_add _).symm rfl c6a
    have x9 : pm [35, 35, 35] (A 6) l i = 0 + pm [35] (A 6) l (i + 0) := x6.1
    have n9 : ¬ pm [35, 35, 35] (A 6) l i = ([35, 35, 35] : List Int).length := fun h => by have h3 : ([35, 35, 35] : List Int).length = 3 := rfl; have h4 := x6.2; omega
    have fin9 : RM M3 m q A (i + (0 + pm [35] (A 6) l (i + 0))) K3 := by rw [← Nat.add_assoc]; exact H3
    rw [← x9] at fin9
    have lo9 : ∀ x, x < a → K3 x = K x := fun x h9 => (lo3 x (by omega))
    have fin8 : ∀ V : Prop, pm [35, 35, 35] (A 6) l i = ([35, 35, 35] : List Int).length → V := fun V h => absurd h n9
    
    refine g_run 21 1 rfl ?_
    exact g_iret 22 rfl rfl (by first | exact trivial | exact Or.inl rfl | exact Or.inr rfl | (show _ ∨ _; omega)) (by first | exact ⟨rfl, fr3, _, fin9, (by rw [if_neg n9]), lo9, fun h => absurd h n9⟩ | exact ⟨rfl, fr3, _, fin9, (by rw [if_pos o9]), lo9, fun _ => ⟨((lo25 _ (by omega)).trans ((lo14 _ (by omega)).trans v6)), ((lo25 _ (by omega)).trans v17), v28⟩⟩)
  · replace c6 := b_1.mp c6
    have c6a : pm [35] (A 6) l i = 1 := c6
    have e6 := pm_ok (nf := 1) (F := [35, 35, 35]) (f := [35]) (R := [35, 35]) (p := 0) (Nat.zero_add _).symm rfl c6a
    have le6 := pm_l (A 6) l [35] i (by omega)
    have R6 := H3
    have v6 := hv3 c6a
    rw [show pm _ (A 6) l _ = 1 from c6a] at R6 le6
    refine g_run 5 5 rfl ?_
    refine g_callV 10 rfl cv_RX8_205 R6.2.1 (r_num1 hR (show RM _ m q A (i + 1) K3 from R6) (by omega) _ (a + 1) (by omega) (by omega)) rfl rfl (by decide) (by omega) (by omega) (Nat.le_of_ble_eq_true rfl) (fun v9 M14 n9 h9 _ => ?_) (fun E M9 n9 h9 _ => by obtain ⟨-, -, K9, -, h3, -⟩ := h9; cases h3)
    obtain ⟨hn9, fq14, K14, H14, h3, lo14, hv14⟩ := h9
    subst n9
    cases h3
    have fr14 := e_fr_tr fr3 fq14
    refine g_if_eq 11 35 rfl rfl b_r (fun c17 => ?_) (fun c17 => ?_)
    · replace c17 := b_0.mp c17
      have c17a : ¬ pm [35] (A 6) l (i + 1) = 1 := c17
      have x17 := pm_no (nf := 1) (F := [35, 35, 35]) (f := [35]) (R := [35]) (p := 1) e6 rfl c17a
      have x9 : pm [35, 35, 35] (A 6) l i = 1 + pm [35] (A 6) l (i + 1) := x17.1
      have n9 : ¬ pm [35, 35, 35] (A 6) l i = ([35, 35, 35] : List Int).length := fun h => by have h3 : ([35, 35, 35] : List Int).length = 3 := rfl; have h4 := x17.2; omega
      have fin9 : RM M14 m q A (i + (1 + pm [35] (A 6) l (i + 1))) K14 := by rw [← Nat.add_assoc]; exact H14
      rw [← x9] at fin9
      have lo9 : ∀ x, x < a → K14 x = K x := fun x h9 => ((lo14 x (by omega)).trans (lo3 x (by omega)))
      have fin8 : ∀ V : Prop, pm [35, 35, 35] (A 6) l i = ([35, 35, 35] : List Int).length → V := fun V h => absurd h n9
      
      refine g_run 21 1 rfl ?_
      exact g_iret 22 rfl rfl (by first | exact trivial | exact Or.inl rfl | exact Or.inr rfl | (show _ ∨ _; omega)) (by first | exact ⟨rfl, fr14, _, fin9, (by rw [if_neg n9]), lo9, fun h => absurd h n9⟩ | exact ⟨rfl, fr14, _, fin9, (by rw [if_pos o9]), lo9, fun _ => ⟨((lo25 _ (by omega)).trans ((lo14 _ (by omega)).trans v6)), ((lo25 _ (by omega)).trans v17), v28⟩⟩)
    · replace c17 := b_1.mp c17
      have c17a : pm [35] (A 6) l (i + 1) = 1 := c17
      have e17 := pm_ok (nf := 1) (F := [35, 35, 35]) (f := [35]) (R := [35]) (p := 1) e6 rfl c17a
      have le17 := pm_l (A 6) l [35] (i + 1) (by omega)
      have R17 := H14
      have v17 := hv14 c17a
      rw [show pm _ (A 6) l _ = 1 from c17a] at R17 le17
      refine g_run 12 5 rfl ?_
      refine g_callV 17 rfl cv_RX8_205 R17.2.1 (r_num1 hR (show RM _ m q A (i + 2) K14 from R17) (by omega) _ (a + 2) (by omega) (by omega)) rfl rfl (by decide) (by omega) (by omega) (Nat.le_of_ble_eq_true rfl) (fun v9 M25 n9 h9 _ => ?_) (fun E M9 n9 h9 _ => by obtain ⟨-, -, K9, -, h3, -⟩ := h9; cases h3)
      obtain ⟨hn9, fq25, K25, H25, h3, lo25, hv25⟩ := h9
      subst n9
      cases h3
      have fr25 := e_fr_tr fr14 fq25
      refine g_if_eq 18 35 rfl rfl b_r (fun c28 => ?_) (fun c28 => ?_)
      · replace c28 := b_0.mp c28
        have c28a : ¬ pm [35] (A 6) l (i + 2) = 1 := c28
        have x28 := pm_no (nf := 1) (F := [35, 35, 35]) (f := [35]) (R := []) (p := 2) e17 rfl c28a
        have x9 : pm [35, 35, 35] (A 6) l i = 2 + pm [35] (A 6) l (i + 2) := x28.1
        have n9 : ¬ pm [35, 35, 35] (A 6) l i = ([35, 35, 35] : List Int).length := fun h => by have h3 : ([35, 35, 35] : List Int).length = 3 := rfl; have h4 := x28.2; omega
        have fin9 : RM M25 m q A (i + (2 + pm [35] (A 6) l (i + 2))) K25 := by rw [← Nat.add_assoc]; exact H25
        rw [← x9] at fin9
        have lo9 : ∀ x, x < a → K25 x = K x := fun x h9 => ((lo25 x (by omega)).trans ((lo14 x (by omega)).trans (lo3 x (by omega))))
        have fin8 : ∀ V : Prop, pm [35, 35, 35] (A 6) l i = ([35, 35, 35] : List Int).length → V := fun V h => absurd h n9
        
        refine g_run 21 1 rfl ?_
        exact g_iret 22 rfl rfl (by first | exact trivial | exact Or.inl rfl | exact Or.inr rfl | (show _ ∨ _; omega)) (by first | exact ⟨rfl, fr25, _, fin9, (by rw [if_neg n9]), lo9, fun h => absurd h n9⟩ | exact ⟨rfl, fr25, _, fin9, (by rw [if_pos o9]), lo9, fun _ => ⟨((lo25 _ (by omega)).trans ((lo14 _ (by omega)).trans v6)), ((lo25 _ (by omega)).trans v17), v28⟩⟩)
      · replace c28 := b_1.mp c28
        have c28a : pm [35] (A 6) l (i + 2) = 1 := c28
        have e28 := pm_ok (nf := 1) (F := [35, 35, 35]) (f := [35]) (R := []) (p := 2) e17 rfl c28a
        have le28 := pm_l (A 6) l [35] (i + 2) (by omega)
        have R28 := H25
        have v28 := hv25 c28a
        rw [show pm _ (A 6) l _ = 1 from c28a] at R28 le28
        have x9 : pm [35, 35, 35] (A 6) l i = 3 := e28
        have o9 : pm [35, 35, 35] (A 6) l i = ([35, 35, 35] : List Int).length := x9
        have fin9 : RM M25 m q A (i + 3) K25 := R28
        rw [← x9] at fin9
        have lo9 : ∀ x, x < a → K25 x = K x := fun x h9 => ((lo25 x (by omega)).trans ((lo14 x (by omega)).trans (lo3 x (by omega))))
        refine g_run 19 2 rfl ?_
        exact g_iret 22 rfl rfl (by first | exact trivial | exact Or.inl rfl | exact Or.inr rfl | (show _ ∨ _; omega)) (by first | exact ⟨rfl, fr25, _, fin9, (by rw [if_neg n9]), lo9, fun h => absurd h n9⟩ | exact ⟨rfl, fr25, _, fin9, (by rw [if_pos o9]), lo9, fun _ => ⟨((lo25 _ (by omega)).trans ((lo14 _ (by omega)).trans v6)), ((lo25 _ (by omega)).trans v17), v28⟩⟩)
theorem r_steps (hR : RH q A l) (H0 : RM M m q A i K) (hi : i ≤ l) (z : Int) (a : Nat) (hz : z = a) (ha : a < 155) : Ct (e_L r0) Γ mX8_isSteps 3 0 0 [vR m, vI z] M n (RP M n m q A l i [126, 35] a K (fun K' => K' a = if A 6 i = 45 then -(A 6 (i + 1) - 48) else A 6 (i + 1) - 48)) := by
  have fr0 : e_fr m (m + 9) M M := e_fr_refl
  have H : MM M m (va_up q 16 (i : Int)) (va_up A 7 K) := H0
  have qn := mNow_rng hR i
  refine g_start ok_X8_isSteps rfl rfl ?_
  refine g_run 0 1 rfl ?_
  refine g_callV 1 rfl cv_RX8_190 H.2.1 (r_now hR H hi) rfl rfl (by decide) (by omega) (by omega) (Nat.le_of_ble_eq_true rfl) (e_kr ?_) e_kx
  refine g_run 2 1 rfl ?_
  refine g_icmp_ne 3 13 rfl rfl (by omega) (by omega) (fun c6 => ?_) (fun c6 => ?_)
  · have d9 : ¬ A 6 i = 45 ∨ l ≤ i := by by_cases e : l ≤ i; exact Or.inr e; exact Or.inl (fun e2 => c6 (by unfold mNow; rw [if_pos (by omega)]; exact e2))
    refine g_run 6 4 rfl ?_
    refine g_callV 10 rfl cv_RX8_202 H.2.1 (r_sign hR H hi 43 (by decide)) rfl rfl (by decide) (by omega) (by omega) (Nat.le_of_ble_eq_true rfl) (e_kw fun M18 hq18 => ?_) e_kwx
    have fr18 := e_fr_tr fr0 (e_fr_w hq18.2 (by omega))
    refine g_if_ne 11 33 rfl rfl b_r (fun c21 => ?_) (fun c21 => ?_)
    · replace c21 := b_1.mp c21
      have c21a : atC (A 6) l i 43 := (pm_one (by decide)).mp c21
      have e2 : pm [126, 35] (A 6) l i = pm [35] (A 6) l (i + 1) + 1 := by rw [pm_s, if_pos ⟨c21a.1, Or.inl c21a.2⟩]
      have R30 := hq18.1
      rw [show pm [43] (A 6) l i = 1 from c21] at R30
      have le30 := c21a.1
      refine g_run 16 3 rfl ?_
      refine g_callV 19 rfl cv_RX8_205 R30.2.1 (r_num1 hR (show RM _ m q A (i + 1) K from R30) (by omega) _ a (by omega) (by omega)) rfl rfl (by decide) (by omega) (by omega) (Nat.le_of_ble_eq_true rfl) (fun v9 M36 n9 h9 _ => ?_) (fun E M9 n9 h9 _ => by obtain ⟨-, -, K9, -, h3, -⟩ := h9; cases h3)
      obtain ⟨hn9, fq36, K36, H36, h3, lo36, hv36⟩ := h9
      subst n9
      cases h3
      have fr36 := e_fr_tr fr18 fq36
      refine g_if_ne 20 44 rfl rfl b_r (fun c39 => ?_) (fun c39 => ?_)
      · replace c39 := b_1.mp c39
        have R36 := H36
        have v36 := hv36 c39
        rw [show pm [35] (A 6) l (i + 1) = 1 from c39] at R36 e2
        have o9 : pm [126, 35] (A 6) l i = ([126, 35] : List Int).length := e2
        refine g_run 23 1 rfl ?_
        refine g_get 24 rfl fl_RX8_38 R36.2.1 rfl ?_
        refine g_run 25 2 rfl ?_
        refine g_if_eq 27 63 rfl rfl (by decide) (fun _ => ?_) (fun c50 => absurd c50 (by decide))
        refine g_run 34 1 rfl ?_
        refine g_get 35 rfl fl_RX8_38 R36.2.1 rfl ?_
        refine g_run 36 1 rfl ?_
        refine g_iald 37 a rfl rfl R36.2.2.2.2.2.2.2.2.2 (by first | rfl | omega) (by omega) (by decide) ?_
        rw [va_up_self]
        refine g_iast 38 a rfl rfl (by decide) R36.2.2.2.2.2.2.2.2.2 (by first | rfl | omega) (by omega) (by decide) (fun M69 hM69 => ?_)
        have H69 := MM_A7 R36 hM69
        have fr69 := e_fr_tr fr36 (e_fr_up hM69 (by omega))
        refine g_run 39 1 rfl ?_
        have fin9 := H69
        rw [up_up, va_up_self, v36] at fin9
        exact g_iret 40 rfl rfl (by first | exact trivial | exact Or.inl rfl | exact Or.inr rfl | (show _ ∨ _; omega)) (by first | exact ⟨rfl, fr69, va_up K36 a (-(A 6 (i + 1) - 48)), (by rw [e2]; exact fin9), (by rw [if_pos o9]), fun x hx => (va_up_ne _ _ (by omega)).trans (lo36 x hx), fun _ => (va_up_self _ _ _).trans (if_pos d9.2).symm⟩ | exact ⟨rfl, fr69, va_up K36 a (A 6 (i + 1) - 48), (by rw [e2]; exact fin9), (by rw [if_pos o9]), fun x hx => (va_up_ne _ _ (by omega)).trans (lo36 x hx), fun _ => (va_up_self _ _ _).trans (if_neg (fun e8 => by rcases d9 with d9 | d9; exact d9 e8; omega)).symm⟩)
      · replace c39 := b_0.mp c39
        have y9 : pm [35] (A 6) l (i + 1) = 0 := by have := pm_le (A 6) l [35] (i + 1); simp only [List.length_cons, List.length_nil] at this; have : ¬ pm [35] (A 6) l (i + 1) = 1 := c39; omega
        have x9 : pm [126, 35] (A 6) l i = 1 := by rw [e2, y9]
        have n9 : ¬ pm [126, 35] (A 6) l i = ([126, 35] : List Int).length := by rw [x9]; decide
        have fin9 : RM M36 m q A (i + 1) K36 := by rw [y9] at H36; exact H36
        rw [← x9] at fin9
        have lo9 : ∀ x, x < a → K36 x = K x := lo36
        refine g_run 21 1 rfl ?_
        exact g_iret 22 rfl rfl (by first | exact trivial | exact Or.inl rfl | exact Or.inr rfl | (show _ ∨ _; omega)) ⟨rfl, fr36, _, fin9, (by rw [if_neg n9]), lo9, fun h => absurd h n9⟩
    · replace c21 := b_0.mp c21
      have c21b : pm [43] (A 6) l i = 0 := pm_n1 c21
      have R18 := hq18.1
      rw [c21b] at R18
      refine g_run 12 2 rfl ?_
      refine g_callV 14 rfl cv_RX8_202 R18.2.1 (r_sign hR (show RM M18 m q A i K from R18) hi 45 (by decide)) rfl rfl (by decide) (by omega) (by omega) (Nat.le_of_ble_eq_true rfl) (e_kw fun M27 hq27 => ?_) e_kwx
      have fr27 := e_fr_tr fr18 (e_fr_w hq27.2 (by omega))
      refine g_if_eq 15 42 rfl rfl b_r (fun c30 => ?_) (fun c30 => ?_)
      · replace c30 := b_0.mp c30
        have x9 : pm [126, 35] (A 6) l i = 0 := by
          rw [pm_s, if_neg (fun e => ?_)]
          rcases e.2 with e2 | e2
          · exact c21 ((pm_one (by decide)).mpr ⟨e.1, e2⟩)
          · exact c30 ((pm_one (by decide)).mpr ⟨e.1, e2⟩)
        have n9 : ¬ pm [126, 35] (A 6) l i = ([126, 35] : List Int).length := by rw [x9]; decide
        have fin9 := hq27.1
        rw [show pm [45] (A 6) l i = 0 from pm_n1 c30] at fin9
        have lo9 : ∀ x, x < a → K x = K x := fun _ _ => rfl
        replace fin9 : RM M27 m q A (i + pm [126, 35] (A 6) l i) K := by rw [x9]; exact fin9
        refine g_run 21 1 rfl ?_
        exact g_iret 22 rfl rfl (by first | exact trivial | exact Or.inl rfl | exact Or.inr rfl | (show _ ∨ _; omega)) ⟨rfl, fr27, _, fin9, (by rw [if_neg n9]), lo9, fun h => absurd h n9⟩
      · replace c30 := b_1.mp c30
        have c30a : atC (A 6) l i 45 := (pm_one (by decide)).mp c30
        have e2 : pm [126, 35] (A 6) l i = pm [35] (A 6) l (i + 1) + 1 := by rw [pm_s, if_pos ⟨c30a.1, Or.inr c30a.2⟩]
        have R30 := hq27.1
        rw [show pm [45] (A 6) l i = 1 from c30] at R30
        have le30 := c30a.1
        refine g_run 16 3 rfl ?_
        refine g_callV 19 rfl cv_RX8_205 R30.2.1 (r_num1 hR (show RM _ m q A (i + 1) K from R30) (by omega) _ a (by omega) (by omega)) rfl rfl (by decide) (by omega) (by omega) (Nat.le_of_ble_eq_true rfl) (fun v9 M36 n9 h9 _ => ?_) (fun E M9 n9 h9 _ => by obtain ⟨-, -, K9, -, h3, -⟩ := h9; cases h3)
        obtain ⟨hn9, fq36, K36, H36, h3, lo36, hv36⟩ := h9
        subst n9
        cases h3
        have fr36 := e_fr_tr fr27 fq36
        refine g_if_ne 20 44 rfl rfl b_r (fun c39 => ?_) (fun c39 => ?_)
        · replace c39 := b_1.mp c39
          have R36 := H36
          have v36 := hv36 c39
          rw [show pm [35] (A 6) l (i + 1) = 1 from c39] at R36 e2
          have o9 : pm [126, 35] (A 6) l i = ([126, 35] : List Int).length := e2
          refine g_run 23 1 rfl ?_
          refine g_get 24 rfl fl_RX8_38 R36.2.1 rfl ?_
          refine g_run 25 2 rfl ?_
          refine g_if_eq 27 63 rfl rfl (by decide) (fun _ => ?_) (fun c50 => absurd c50 (by decide))
          refine g_run 34 1 rfl ?_
          refine g_get 35 rfl fl_RX8_38 R36.2.1 rfl ?_
          refine g_run 36 1 rfl ?_
          refine g_iald 37 a rfl rfl R36.2.2.2.2.2.2.2.2.2 (by first | rfl | omega) (by omega) (by decide) ?_
          rw [va_up_self]
          refine g_iast 38 a rfl rfl (by decide) R36.2.2.2.2.2.2.2.2.2 (by first | rfl | omega) (by omega) (by decide) (fun M69 hM69 => ?_)
          have H69 := MM_A7 R36 hM69
          have fr69 := e_fr_tr fr36 (e_fr_up hM69 (by omega))
          refine g_run 39 1 rfl ?_
          have fin9 := H69
          rw [up_up, va_up_self, v36] at fin9
          exact g_iret 40 rfl rfl (by first | exact trivial | exact Or.inl rfl | exact Or.inr rfl | (show _ ∨ _; omega)) (by first | exact ⟨rfl, fr69, va_up K36 a (-(A 6 (i + 1) - 48)), (by rw [e2]; exact fin9), (by rw [if_pos o9]), fun x hx => (va_up_ne _ _ (by omega)).trans (lo36 x hx), fun _ => (va_up_self _ _ _).trans (if_pos d9.2).symm⟩ | exact ⟨rfl, fr69, va_up K36 a (A 6 (i + 1) - 48), (by rw [e2]; exact fin9), (by rw [if_pos o9]), fun x hx => (va_up_ne _ _ (by omega)).trans (lo36 x hx), fun _ => (va_up_self _ _ _).trans (if_neg (fun e8 => by rcases d9 with d9 | d9; exact d9 e8; omega)).symm⟩)
        · replace c39 := b_0.mp c39
          have y9 : pm [35] (A 6) l (i + 1) = 0 := by have := pm_le (A 6) l [35] (i + 1); simp only [List.length_cons, List.length_nil] at this; have : ¬ pm [35] (A 6) l (i + 1) = 1 := c39; omega
          have x9 : pm [126, 35] (A 6) l i = 1 := by rw [e2, y9]
          have n9 : ¬ pm [126, 35] (A 6) l i = ([126, 35] : List Int).length := by rw [x9]; decide
          have fin9 : RM M36 m q A (i + 1) K36 := by rw [y9] at H36; exact H36
          rw [← x9] at fin9
          have lo9 : ∀ x, x < a → K36 x = K x := lo36
          refine g_run 21 1 rfl ?_
          exact g_iret 22 rfl rfl (by first | exact trivial | exact Or.inl rfl | exact Or.inr rfl | (show _ ∨ _; omega)) ⟨rfl, fr36, _, fin9, (by rw [if_neg n9]), lo9, fun h => absurd h n9⟩
  · have d9 : atC (A 6) l i 45 := (mNow_c (by decide)).mp c6
    refine g_run 4 2 rfl ?_
    refine g_run 7 3 rfl ?_
    refine g_callV 10 rfl cv_RX8_202 H.2.1 (r_sign hR H hi 43 (by decide)) rfl rfl (by decide) (by omega) (by omega) (Nat.le_of_ble_eq_true rfl) (e_kw fun M18 hq18 => ?_) e_kwx
    have fr18 := e_fr_tr fr0 (e_fr_w hq18.2 (by omega))
    refine g_if_ne 11 33 rfl rfl b_r (fun c21 => ?_) (fun c21 => ?_)
    · replace c21 := b_1.mp c21
      have c21a : atC (A 6) l i 43 := (pm_one (by decide)).mp c21
      have e2 : pm [126, 35] (A 6) l i = pm [35] (A 6) l (i + 1) + 1 := by rw [pm_s, if_pos ⟨c21a.1, Or.inl c21a.2⟩]
      have R30 := hq18.1
      rw [show pm [43] (A 6) l i = 1 from c21] at R30
      have le30 := c21a.1
      refine g_run 16 3 rfl ?_
      refine g_callV 19 rfl cv_RX8_205 R30.2.1 (r_num1 hR (show RM _ m q A (i + 1) K from R30) (by omega) _ a (by omega) (by omega)) rfl rfl (by decide) (by omega) (by omega) (Nat.le_of_ble_eq_true rfl) (fun v9 M36 n9 h9 _ => ?_) (fun E M9 n9 h9 _ => by obtain ⟨-, -, K9, -, h3, -⟩ := h9; cases h3)
      obtain ⟨hn9, fq36, K36, H36, h3, lo36, hv36⟩ := h9
      subst n9
      cases h3
      have fr36 := e_fr_tr fr18 fq36
      refine g_if_ne 20 44 rfl rfl b_r (fun c39 => ?_) (fun c39 => ?_)
      · replace c39 := b_1.mp c39
        have R36 := H36
        have v36 := hv36 c39
        rw [show pm [35] (A 6) l (i + 1) = 1 from c39] at R36 e2
        have o9 : pm [126, 35] (A 6) l i = ([126, 35] : List Int).length := e2
        refine g_run 23 1 rfl ?_
        refine g_get 24 rfl fl_RX8_38 R36.2.1 rfl ?_
        refine g_run 25 2 rfl ?_
        refine g_if_eq 27 63 rfl rfl (by decide) (fun c50 => absurd c50 (by decide)) (fun _ => ?_)
        refine g_run 28 1 rfl ?_
        refine g_get 29 rfl fl_RX8_38 R36.2.1 rfl ?_
        refine g_run 30 1 rfl ?_
        refine g_iald 31 a rfl rfl R36.2.2.2.2.2.2.2.2.2 (by first | rfl | omega) (by omega) (by decide) ?_
        rw [va_up_self]
        refine g_run 32 2 rfl ?_
        refine g_iast 38 a rfl rfl (by decide) R36.2.2.2.2.2.2.2.2.2 (by first | rfl | omega) (by omega) (by decide) (fun M69 hM69 => ?_)
        have H69 := MM_A7 R36 hM69
        have fr69 := e_fr_tr fr36 (e_fr_up hM69 (by omega))
        refine g_run 39 1 rfl ?_
        have fin9 := H69
        rw [up_up, va_up_self, v36] at fin9
        exact g_iret 40 rfl rfl (by first | exact trivial | exact Or.inl rfl | exact Or.inr rfl | (show _ ∨ _; omega)) (by first | exact ⟨rfl, fr69, va_up K36 a (-(A 6 (i + 1) - 48)), (by rw [e2]; exact fin9), (by rw [if_pos o9]), fun x hx => (va_up_ne _ _ (by omega)).trans (lo36 x hx), fun _ => (va_up_self _ _ _).trans (if_pos d9.2).symm⟩ | exact ⟨rfl, fr69, va_up K36 a (A 6 (i + 1) - 48), (by rw [e2]; exact fin9), (by rw [if_pos o9]), fun x hx => (va_up_ne _ _ (by omega)).trans (lo36 x hx), fun _ => (va_up_self _ _ _).trans (if_neg (fun e8 => by rcases d9 with d9 | d9; exact d9 e8; omega)).symm⟩)
      · replace c39 := b_0.mp c39
        have y9 : pm [35] (A 6) l (i + 1) = 0 := by have := pm_le (A 6) l [35] (i + 1); simp only [List.length_cons, List.length_nil] at this; have : ¬ pm [35] (A 6) l (i + 1) = 1 := c39; omega
        have x9 : pm [126, 35] (A 6) l i = 1 := by rw [e2, y9]
        have n9 : ¬ pm [126, 35] (A 6) l i = ([126, 35] : List Int).length := by rw [x9]; decide
        have fin9 : RM M36 m q A (i + 1) K36 := by rw [y9] at H36; exact H36
        rw [← x9] at fin9
        have lo9 : ∀ x, x < a → K36 x = K x := lo36
        refine g_run 21 1 rfl ?_
        exact g_iret 22 rfl rfl (by first | exact trivial | exact Or.inl rfl | exact Or.inr rfl | (show _ ∨ _; omega)) ⟨rfl, fr36, _, fin9, (by rw [if_neg n9]), lo9, fun h => absurd h n9⟩
    · replace c21 := b_0.mp c21
      have c21b : pm [43] (A 6) l i = 0 := pm_n1 c21
      have R18 := hq18.1
      rw [c21b] at R18
      refine g_run 12 2 rfl ?_
      refine g_callV 14 rfl cv_RX8_202 R18.2.1 (r_sign hR (show RM M18 m q A i K from R18) hi 45 (by decide)) rfl rfl (by decide) (by omega) (by omega) (Nat.le_of_ble_eq_true rfl) (e_kw fun M27 hq27 => ?_) e_kwx
      have fr27 := e_fr_tr fr18 (e_fr_w hq27.2 (by omega))
      refine g_if_eq 15 42 rfl rfl b_r (fun c30 => ?_) (fun c30 => ?_)
      · replace c30 := b_0.mp c30
        have x9 : pm [126, 35] (A 6) l i = 0 := by
          rw [pm_s, if_neg (fun e => ?_)]
          rcases e.2 with e2 | e2
          · exact c21 ((pm_one (by decide)).mpr ⟨e.1, e2⟩)
          · exact c30 ((pm_one (by decide)).mpr ⟨e.1, e2⟩)
        have n9 : ¬ pm [126, 35] (A 6) l i = ([126, 35] : List Int).length := by rw [x9]; decide
        have fin9 := hq27.1
        rw [show pm [45] (A 6) l i = 0 from pm_n1 c30] at fin9
        have lo9 : ∀ x, x < a → K x = K x := fun _ _ => rfl
        replace fin9 : RM M27 m q A (i + pm [126, 35] (A 6) l i) K := by rw [x9]; exact fin9
        refine g_run 21 1 rfl ?_
        exact g_iret 22 rfl rfl (by first | exact trivial | exact Or.inl rfl | exact Or.inr rfl | (show _ ∨ _; omega)) ⟨rfl, fr27, _, fin9, (by rw [if_neg n9]), lo9, fun h => absurd h n9⟩
      · replace c30 := b_1.mp c30
        have c30a : atC (A 6) l i 45 := (pm_one (by decide)).mp c30
        have e2 : pm [126, 35] (A 6) l i = pm [35] (A 6) l (i + 1) + 1 := by rw [pm_s, if_pos ⟨c30a.1, Or.inr c30a.2⟩]
        have R30 := hq27.1
        rw [show pm [45] (A 6) l i = 1 from c30] at R30
        have le30 := c30a.1
        refine g_run 16 3 rfl ?_
        refine g_callV 19 rfl cv_RX8_205 R30.2.1 (r_num1 hR (show RM _ m q A (i + 1) K from R30) (by omega) _ a (by omega) (by omega)) rfl rfl (by decide) (by omega) (by omega) (Nat.le_of_ble_eq_true rfl) (fun v9 M36 n9 h9 _ => ?_) (fun E M9 n9 h9 _ => by obtain ⟨-, -, K9, -, h3, -⟩ := h9; cases h3)
        obtain ⟨hn9, fq36, K36, H36, h3, lo36, hv36⟩ := h9
        subst n9
        cases h3
        have fr36 := e_fr_tr fr27 fq36
        refine g_if_ne 20 44 rfl rfl b_r (fun c39 => ?_) (fun c39 => ?_)
        · replace c39 := b_1.mp c39
          have R36 := H36
          have v36 := hv36 c39
          rw [show pm [35] (A 6) l (i + 1) = 1 from c39] at R36 e2
          have o9 : pm [126, 35] (A 6) l i = ([126, 35] : List Int).length := e2
          refine g_run 23 1 rfl ?_
          refine g_get 24 rfl fl_RX8_38 R36.2.1 rfl ?_
          refine g_run 25 2 rfl ?_
          refine g_if_eq 27 63 rfl rfl (by decide) (fun c50 => absurd c50 (by decide)) (fun _ => ?_)
          refine g_run 28 1 rfl ?_
          refine g_get 29 rfl fl_RX8_38 R36.2.1 rfl ?_
          refine g_run 30 1 rfl ?_
          refine g_iald 31 a rfl rfl R36.2.2.2.2.2.2.2.2.2 (by first | rfl | omega) (by omega) (by decide) ?_
          rw [va_up_self]
          refine g_run 32 2 rfl ?_
          refine g_iast 38 a rfl rfl (by decide) R36.2.2.2.2.2.2.2.2.2 (by first | rfl | omega) (by omega) (by decide) (fun M69 hM69 => ?_)
          have H69 := MM_A7 R36 hM69
          have fr69 := e_fr_tr fr36 (e_fr_up hM69 (by omega))
          refine g_run 39 1 rfl ?_
          have fin9 := H69
          rw [up_up, va_up_self, v36] at fin9
          exact g_iret 40 rfl rfl (by first | exact trivial | exact Or.inl rfl | exact Or.inr rfl | (show _ ∨ _; omega)) (by first | exact ⟨rfl, fr69, va_up K36 a (-(A 6 (i + 1) - 48)), (by rw [e2]; exact fin9), (by rw [if_pos o9]), fun x hx => (va_up_ne _ _ (by omega)).trans (lo36 x hx), fun _ => (va_up_self _ _ _).trans (if_pos d9.2).symm⟩ | exact ⟨rfl, fr69, va_up K36 a (A 6 (i + 1) - 48), (by rw [e2]; exact fin9), (by rw [if_pos o9]), fun x hx => (va_up_ne _ _ (by omega)).trans (lo36 x hx), fun _ => (va_up_self _ _ _).trans (if_neg (fun e8 => by rcases d9 with d9 | d9; exact d9 e8; omega)).symm⟩)
        · replace c39 := b_0.mp c39
          have y9 : pm [35] (A 6) l (i + 1) = 0 := by have := pm_le (A 6) l [35] (i + 1); simp only [List.length_cons, List.length_nil] at this; have : ¬ pm [35] (A 6) l (i + 1) = 1 := c39; omega
          have x9 : pm [126, 35] (A 6) l i = 1 := by rw [e2, y9]
          have n9 : ¬ pm [126, 35] (A 6) l i = ([126, 35] : List Int).length := by rw [x9]; decide
          have fin9 : RM M36 m q A (i + 1) K36 := by rw [y9] at H36; exact H36
          rw [← x9] at fin9
          have lo9 : ∀ x, x < a → K36 x = K x := lo36
          refine g_run 21 1 rfl ?_
          exact g_iret 22 rfl rfl (by first | exact trivial | exact Or.inl rfl | exact Or.inr rfl | (show _ ∨ _; omega)) ⟨rfl, fr36, _, fin9, (by rw [if_neg n9]), lo9, fun h => absurd h n9⟩
theorem r_readsT (hK : KM Γ) (hR : RH q A l) (H0 : RM M m q A (i + 1) K) (z : Int) (a : Nat) (hz : z = a) (ha : a + 4 < 155) (h0 : atC (A 6) l i 116) (hKa : K a = 116) : Ct (e_L r0) Γ mX8_readsT 5 0 0 [vR m, vI z] M n (RQ M n m q A l i a K) := by
  have fr0 : e_fr m (m + 9) M M := e_fr_refl
  have H : MM M m (va_up q 16 ((i + 1 : Nat) : Int)) (va_up A 7 K) := H0
  have le0 := h0.1
  refine g_start ok_X8_readsT rfl rfl ?_
  refine g_run 0 2 rfl ?_
  refine g_callV 2 rfl cv_RX8_202 H.2.1 (r_sign hR H (by omega) 117 (by decide)) rfl rfl (by decide) (by omega) (by omega) (Nat.le_of_ble_eq_true rfl) (e_kw fun M3 hq3 => ?_) e_kwx
  have fr3 := e_fr_tr fr0 (e_fr_w hq3.2 (by omega))
  refine g_if_eq 3 56 rfl rfl b_r (fun c6 => ?_) (fun c6 => ?_)
  · replace c6 := b_0.mp c6
    have eJ : rJ (A 6) l i = 2 := rJ_2 h0 (fun e => c6 ((pm_one (by decide)).mpr e))
    have e6 : pm (FM 2) (A 6) l i = 1 + pm [114, 121, 32, 35] (A 6) l (i + 1) := by rw [FM_2, pm_1 (by decide) h0]; exact Nat.add_comm _ 1
    have R6 := hq3.1
    rw [pm_n1 c6] at R6
    refine g_run 32 1 rfl ?_
    refine g_get 33 rfl fl_RX8_38 R6.2.1 rfl ?_
    refine g_run 34 2 rfl ?_
    refine g_iast 36 a rfl rfl (by decide) R6.2.2.2.2.2.2.2.2.2 (by first | rfl | omega) (by omega) (by decide) (fun M63 hM63 => ?_)
    have H63 := MM_A7 R6 hM63
    have fr63 := e_fr_tr fr3 (e_fr_up hM63 (by omega))
    have R63 := H63
    rw [up_up, va_up_self] at R63
    have lk : ∀ x, x < a → va_up K a 114 x = K x := fun x h9 => va_up_ne _ _ (by omega)
    refine g_run 37 1 rfl ?_
    refine g_ldcS 38 rfl (e_mem 25 rfl) ?_
    refine g_callV 39 rfl cv_RX8_210 R63.2.1 (r_word hK hR (show RM _ m q A (i + 1) (va_up K a 114) from R63) (by omega) 1 (by decide)) rfl rfl (by decide) (by omega) (by omega) (Nat.le_of_ble_eq_true rfl) (e_kw fun M67 hq67 => ?_) e_kwx
    have fr67 := e_fr_tr fr63 (e_fr_w hq67.2 (by omega))
    refine g_if_eq 40 88 rfl rfl b_r (fun c70 => ?_) (fun c70 => ?_)
    · replace c70 := b_0.mp c70
      have c70a : ¬ pm [114, 121, 32] (A 6) l (i + 1) = 3 := c70
      have x70 := pm_no (nf := 3) (F := (FM 2)) (f := [114, 121, 32]) (R := [35]) (p := 1) e6 rfl c70a
      have x9 : rN (A 6) l i = 1 + pm [114, 121, 32] (A 6) l (i + 1) := by rw [rN, eJ]; exact x70.1
      have n9 : ¬ rOK (A 6) l i := fun h => by have h2 := h.2; rw [eJ, x9] at h2; have h3 : (FM 2).length = 5 := rfl; have h4 := x70.2; omega
      have fin9 : RM M67 m q A (i + (1 + pm [114, 121, 32] (A 6) l (i + 1))) (va_up K a 114) := by rw [← Nat.add_assoc]; exact hq67.1
      rw [← x9] at fin9
      have lo9 : ∀ x, x < a → (va_up K a 114) x = K x := lk
      have fin8 : ∀ V : Prop, rOK (A 6) l i → V := fun V h => absurd h n9
      
      refine g_run 50 1 rfl ?_
      exact g_iret 51 rfl rfl (by first | exact trivial | exact Or.inl rfl | exact Or.inr rfl | (show _ ∨ _; omega)) (by first | exact ⟨rfl, fr67, _, fin9, (by rw [if_neg n9]), lo9, fun h => absurd h n9⟩ | exact ⟨rfl, fr67, _, fin9, (by rw [if_pos o9]), lo9, fun _ => ⟨(by rw [eJ]; exact ((lo78 _ (by omega)).trans (va_up_self _ _ _))), (by rw [eJ]; intro p hp; have hp3 : p < 1 := hp; match p, hp3 with | 0, _ => exact v81)⟩⟩)
    · replace c70 := b_1.mp c70
      have c70a : pm [114, 121, 32] (A 6) l (i + 1) = 3 := c70
      have e70 := pm_ok (nf := 3) (F := (FM 2)) (f := [114, 121, 32]) (R := [35]) (p := 1) e6 rfl c70a
      have le70 := pm_l (A 6) l [114, 121, 32] (i + 1) (by omega)
      have R70 : RM M67 m q A (i + 1 + pm [114, 121, 32] (A 6) l (i + 1)) (va_up K a 114) := hq67.1
      rw [show pm _ (A 6) l _ = 3 from c70a] at R70 le70
      refine g_run 41 5 rfl ?_
      refine g_callV 46 rfl cv_RX8_205 R70.2.1 (r_num1 hR (show RM _ m q A (i + 4) (va_up K a 114) from R70) (by omega) _ (a + 1) (by omega) (by omega)) rfl rfl (by decide) (by omega) (by omega) (Nat.le_of_ble_eq_true rfl) (fun v9 M78 n9 h9 _ => ?_) (fun E M9 n9 h9 _ => by obtain ⟨-, -, K9, -, h3, -⟩ := h9; cases h3)
      obtain ⟨hn9, fq78, K78, H78, h3, lo78, hv78⟩ := h9
      subst n9
      cases h3
      have fr78 := e_fr_tr fr67 fq78
      refine g_if_eq 47 88 rfl rfl b_r (fun c81 => ?_) (fun c81 => ?_)
      · replace c81 := b_0.mp c81
        have c81a : ¬ pm [35] (A 6) l (i + 4) = 1 := c81
        have x81 := pm_no (nf := 1) (F := (FM 2)) (f := [35]) (R := []) (p := 4) e70 rfl c81a
        have x9 : rN (A 6) l i = 4 + pm [35] (A 6) l (i + 4) := by rw [rN, eJ]; exact x81.1
        have n9 : ¬ rOK (A 6) l i := fun h => by have h2 := h.2; rw [eJ, x9] at h2; have h3 : (FM 2).length = 5 := rfl; have h4 := x81.2; omega
        have fin9 : RM M78 m q A (i + (4 + pm [35] (A 6) l (i + 4))) K78 := by rw [← Nat.add_assoc]; exact H78
        rw [← x9] at fin9
        have lo9 : ∀ x, x < a → K78 x = K x := fun x h9 => ((lo78 x (by omega)).trans ((lk) x (by omega)))
        have fin8 : ∀ V : Prop, rOK (A 6) l i → V := fun V h => absurd h n9
        
        refine g_run 50 1 rfl ?_
        exact g_iret 51 rfl rfl (by first | exact trivial | exact Or.inl rfl | exact Or.inr rfl | (show _ ∨ _; omega)) (by first | exact ⟨rfl, fr78, _, fin9, (by rw [if_neg n9]), lo9, fun h => absurd h n9⟩ | exact ⟨rfl, fr78, _, fin9, (by rw [if_pos o9]), lo9, fun _ => ⟨(by rw [eJ]; exact ((lo78 _ (by omega)).trans (va_up_self _ _ _))), (by rw [eJ]; intro p hp; have hp3 : p < 1 := hp; match p, hp3 with | 0, _ => exact v81)⟩⟩)
      · replace c81 := b_1.mp c81
        have c81a : pm [35] (A 6) l (i + 4) = 1 := c81
        have e81 := pm_ok (nf := 1) (F := (FM 2)) (f := [35]) (R := []) (p := 4) e70 rfl c81a
        have le81 := pm_l (A 6) l [35] (i + 4) (by omega)
        have R81 := H78
        have v81 := hv78 c81a
        rw [show pm _ (A 6) l _ = 1 from c81a] at R81 le81
        have x9 : rN (A 6) l i = 5 := by rw [rN, eJ]; exact e81
        have o9 : rOK (A 6) l i := ⟨by rw [eJ]; decide, by rw [eJ, x9]; rfl⟩
        have fin9 : RM M78 m q A (i + 5) K78 := R81
        rw [← x9] at fin9
        have lo9 : ∀ x, x < a → K78 x = K x := fun x h9 => ((lo78 x (by omega)).trans ((lk) x (by omega)))
        refine g_run 48 2 rfl ?_
        exact g_iret 51 rfl rfl (by first | exact trivial | exact Or.inl rfl | exact Or.inr rfl | (show _ ∨ _; omega)) (by first | exact ⟨rfl, fr78, _, fin9, (by rw [if_neg n9]), lo9, fun h => absurd h n9⟩ | exact ⟨rfl, fr78, _, fin9, (by rw [if_pos o9]), lo9, fun _ => ⟨(by rw [eJ]; exact ((lo78 _ (by omega)).trans (va_up_self _ _ _))), (by rw [eJ]; intro p hp; have hp3 : p < 1 := hp; match p, hp3 with | 0, _ => exact v81)⟩⟩)
  · replace c6 := b_1.mp c6
    have u9 : atC (A 6) l (i + 1) 117 := (pm_one (by decide)).mp c6
    have eJ : rJ (A 6) l i = 1 := rJ_1 h0 u9
    have e6 : pm (FM 1) (A 6) l i = 2 + pm [114, 110, 32, 35, 35, 126, 35] (A 6) l (i + 2) := by rw [FM_1, pm_1 (by decide) h0, pm_1 (by decide) u9]; exact Nat.add_comm _ 2
    have R6 := hq3.1
    rw [show pm [117] (A 6) l (i + 1) = 1 from c6] at R6
    have le6 := u9.1
    refine g_run 4 1 rfl ?_
    refine g_ldcS 5 rfl (e_mem 24 rfl) ?_
    refine g_callV 6 rfl cv_RX8_210 R6.2.1 (r_word hK hR (show RM _ m q A (i + 2) K from R6) (by omega) 0 (by decide)) rfl rfl (by decide) (by omega) (by omega) (Nat.le_of_ble_eq_true rfl) (e_kw fun M12 hq12 => ?_) e_kwx
    have fr12 := e_fr_tr fr3 (e_fr_w hq12.2 (by omega))
    refine g_if_eq 7 54 rfl rfl b_r (fun c15 => ?_) (fun c15 => ?_)
    · replace c15 := b_0.mp c15
      have c15a : ¬ pm [114, 110, 32] (A 6) l (i + 2) = 3 := c15
      have x15 := pm_no (nf := 3) (F := (FM 1)) (f := [114, 110, 32]) (R := [35, 35, 126, 35]) (p := 2) e6 rfl c15a
      have x9 : rN (A 6) l i = 2 + pm [114, 110, 32] (A 6) l (i + 2) := by rw [rN, eJ]; exact x15.1
      have n9 : ¬ rOK (A 6) l i := fun h => by have h2 := h.2; rw [eJ, x9] at h2; have h3 : (FM 1).length = 9 := rfl; have h4 := x15.2; omega
      have fin9 : RM M12 m q A (i + (2 + pm [114, 110, 32] (A 6) l (i + 2))) K := by rw [← Nat.add_assoc]; exact hq12.1
      rw [← x9] at fin9
      have lo9 : ∀ x, x < a → K x = K x := fun x _ => rfl
      have fin8 : ∀ V : Prop, rOK (A 6) l i → V := fun V h => absurd h n9
      
      refine g_run 30 1 rfl ?_
      exact g_iret 31 rfl rfl (by first | exact trivial | exact Or.inl rfl | exact Or.inr rfl | (show _ ∨ _; omega)) (by first | exact ⟨rfl, fr12, _, fin9, (by rw [if_neg n9]), lo9, fun h => absurd h n9⟩ | exact ⟨rfl, fr12, _, fin9, (by rw [if_pos o9]), lo9, fun _ => ⟨(by rw [eJ]; exact ((lo44 _ (by omega)).trans ((lo34 _ (by omega)).trans ((lo23 _ (by omega)).trans hKa)))), (by rw [eJ]; intro p hp; have hp3 : p < 3 := hp; match p, hp3 with | 0, _ => exact ((lo44 _ (by omega)).trans ((lo34 _ (by omega)).trans v26)) | 1, _ => exact ((lo44 _ (by omega)).trans v37) | 2, _ => exact v47)⟩⟩)
    · replace c15 := b_1.mp c15
      have c15a : pm [114, 110, 32] (A 6) l (i + 2) = 3 := c15
      have e15 := pm_ok (nf := 3) (F := (FM 1)) (f := [114, 110, 32]) (R := [35, 35, 126, 35]) (p := 2) e6 rfl c15a
      have le15 := pm_l (A 6) l [114, 110, 32] (i + 2) (by omega)
      have R15 : RM M12 m q A (i + 2 + pm [114, 110, 32] (A 6) l (i + 2)) K := hq12.1
      rw [show pm _ (A 6) l _ = 3 from c15a] at R15 le15
      refine g_run 8 5 rfl ?_
      refine g_callV 13 rfl cv_RX8_205 R15.2.1 (r_num1 hR (show RM _ m q A (i + 5) K from R15) (by omega) _ (a + 1) (by omega) (by omega)) rfl rfl (by decide) (by omega) (by omega) (Nat.le_of_ble_eq_true rfl) (fun v9 M23 n9 h9 _ => ?_) (fun E M9 n9 h9 _ => by obtain ⟨-, -, K9, -, h3, -⟩ := h9; cases h3)
      obtain ⟨hn9, fq23, K23, H23, h3, lo23, hv23⟩ := h9
      subst n9
      cases h3
      have fr23 := e_fr_tr fr12 fq23
      refine g_if_eq 14 54 rfl rfl b_r (fun c26 => ?_) (fun c26 => ?_)
      · replace c26 := b_0.mp c26
        have c26a : ¬ pm [35] (A 6) l (i + 5) = 1 := c26
        have x26 := pm_no (nf := 1) (F := (FM 1)) (f := [35]) (R := [35, 126, 35]) (p := 5) e15 rfl c26a
        have x9 : rN (A 6) l i = 5 + pm [35] (A 6) l (i + 5) := by rw [rN, eJ]; exact x26.1
        have n9 : ¬ rOK (A 6) l i := fun h => by have h2 := h.2; rw [eJ, x9] at h2; have h3 : (FM 1).length = 9 := rfl; have h4 := x26.2; omega
        have fin9 : RM M23 m q A (i + (5 + pm [35] (A 6) l (i + 5))) K23 := by rw [← Nat.add_assoc]; exact H23
        rw [← x9] at fin9
        have lo9 : ∀ x, x < a → K23 x = K x := fun x h9 => (lo23 x (by omega))
        have fin8 : ∀ V : Prop, rOK (A 6) l i → V := fun V h => absurd h n9
        
        refine g_run 30 1 rfl ?_
        exact g_iret 31 rfl rfl (by first | exact trivial | exact Or.inl rfl | exact Or.inr rfl | (show _ ∨ _; omega)) (by first | exact ⟨rfl, fr23, _, fin9, (by rw [if_neg n9]), lo9, fun h => absurd h n9⟩ | exact ⟨rfl, fr23, _, fin9, (by rw [if_pos o9]), lo9, fun _ => ⟨(by rw [eJ]; exact ((lo44 _ (by omega)).trans ((lo34 _ (by omega)).trans ((lo23 _ (by omega)).trans hKa)))), (by rw [eJ]; intro p hp; have hp3 : p < 3 := hp; match p, hp3 with | 0, _ => exact ((lo44 _ (by omega)).trans ((lo34 _ (by omega)).trans v26)) | 1, _ => exact ((lo44 _ (by omega)).trans v37) | 2, _ => exact v47)⟩⟩)
      · replace c26 := b_1.mp c26
        have c26a : pm [35] (A 6) l (i + 5) = 1 := c26
        have e26 := pm_ok (nf := 1) (F := (FM 1)) (f := [35]) (R := [35, 126, 35]) (p := 5) e15 rfl c26a
        have le26 := pm_l (A 6) l [35] (i + 5) (by omega)
        have R26 := H23
        have v26 := hv23 c26a
        rw [show pm _ (A 6) l _ = 1 from c26a] at R26 le26
        refine g_run 15 5 rfl ?_
        refine g_callV 20 rfl cv_RX8_205 R26.2.1 (r_num1 hR (show RM _ m q A (i + 6) K23 from R26) (by omega) _ (a + 2) (by omega) (by omega)) rfl rfl (by decide) (by omega) (by omega) (Nat.le_of_ble_eq_true rfl) (fun v9 M34 n9 h9 _ => ?_) (fun E M9 n9 h9 _ => by obtain ⟨-, -, K9, -, h3, -⟩ := h9; cases h3)
        obtain ⟨hn9, fq34, K34, H34, h3, lo34, hv34⟩ := h9
        subst n9
        cases h3
        have fr34 := e_fr_tr fr23 fq34
        refine g_if_eq 21 54 rfl rfl b_r (fun c37 => ?_) (fun c37 => ?_)
        · replace c37 := b_0.mp c37
          have c37a : ¬ pm [35] (A 6) l (i + 6) = 1 := c37
          have x37 := pm_no (nf := 1) (F := (FM 1)) (f := [35]) (R := [126, 35]) (p := 6) e26 rfl c37a
          have x9 : rN (A 6) l i = 6 + pm [35] (A 6) l (i + 6) := by rw [rN, eJ]; exact x37.1
          have n9 : ¬ rOK (A 6) l i := fun h => by have h2 := h.2; rw [eJ, x9] at h2; have h3 : (FM 1).length = 9 := rfl; have h4 := x37.2; omega
          have fin9 : RM M34 m q A (i + (6 + pm [35] (A 6) l (i + 6))) K34 := by rw [← Nat.add_assoc]; exact H34
          rw [← x9] at fin9
          have lo9 : ∀ x, x < a → K34 x = K x := fun x h9 => ((lo34 x (by omega)).trans (lo23 x (by omega)))
          have fin8 : ∀ V : Prop, rOK (A 6) l i → V := fun V h => absurd h n9
          
          refine g_run 30 1 rfl ?_
          exact g_iret 31 rfl rfl (by first | exact trivial | exact Or.inl rfl | exact Or.inr rfl | (show _ ∨ _; omega)) (by first | exact ⟨rfl, fr34, _, fin9, (by rw [if_neg n9]), lo9, fun h => absurd h n9⟩ | exact ⟨rfl, fr34, _, fin9, (by rw [if_pos o9]), lo9, fun _ => ⟨(by rw [eJ]; exact ((lo44 _ (by omega)).trans ((lo34 _ (by omega)).trans ((lo23 _ (by omega)).trans hKa)))), (by rw [eJ]; intro p hp; have hp3 : p < 3 := hp; match p, hp3 with | 0, _ => exact ((lo44 _ (by omega)).trans ((lo34 _ (by omega)).trans v26)) | 1, _ => exact ((lo44 _ (by omega)).trans v37) | 2, _ => exact v47)⟩⟩)
        · replace c37 := b_1.mp c37
          have c37a : pm [35] (A 6) l (i + 6) = 1 := c37
          have e37 := pm_ok (nf := 1) (F := (FM 1)) (f := [35]) (R := [126, 35]) (p := 6) e26 rfl c37a
          have le37 := pm_l (A 6) l [35] (i + 6) (by omega)
          have R37 := H34
          have v37 := hv34 c37a
          rw [show pm _ (A 6) l _ = 1 from c37a] at R37 le37
          refine g_run 22 4 rfl ?_
          refine g_callV 26 rfl cv_RX8_214 R37.2.1 (r_steps hR (show RM _ m q A (i + 7) K34 from R37) (by omega) _ (a + 3) (by omega) (by omega)) rfl rfl (by decide) (by omega) (by omega) (Nat.le_of_ble_eq_true rfl) (fun v9 M44 n9 h9 _ => ?_) (fun E M9 n9 h9 _ => by obtain ⟨-, -, K9, -, h3, -⟩ := h9; cases h3)
          obtain ⟨hn9, fq44, K44, H44, h3, lo44, hv44⟩ := h9
          subst n9
          cases h3
          have fr44 := e_fr_tr fr34 fq44
          refine g_if_eq 27 54 rfl rfl b_r (fun c47 => ?_) (fun c47 => ?_)
          · replace c47 := b_0.mp c47
            have c47a : ¬ pm [126, 35] (A 6) l (i + 7) = 2 := c47
            have x47 := pm_no (nf := 2) (F := (FM 1)) (f := [126, 35]) (R := []) (p := 7) e37 rfl c47a
            have x9 : rN (A 6) l i = 7 + pm [126, 35] (A 6) l (i + 7) := by rw [rN, eJ]; exact x47.1
            have n9 : ¬ rOK (A 6) l i := fun h => by have h2 := h.2; rw [eJ, x9] at h2; have h3 : (FM 1).length = 9 := rfl; have h4 := x47.2; omega
            have fin9 : RM M44 m q A (i + (7 + pm [126, 35] (A 6) l (i + 7))) K44 := by rw [← Nat.add_assoc]; exact H44
            rw [← x9] at fin9
            have lo9 : ∀ x, x < a → K44 x = K x := fun x h9 => ((lo44 x (by omega)).trans ((lo34 x (by omega)).trans (lo23 x (by omega))))
            have fin8 : ∀ V : Prop, rOK (A 6) l i → V := fun V h => absurd h n9
            
            refine g_run 30 1 rfl ?_
            exact g_iret 31 rfl rfl (by first | exact trivial | exact Or.inl rfl | exact Or.inr rfl | (show _ ∨ _; omega)) (by first | exact ⟨rfl, fr44, _, fin9, (by rw [if_neg n9]), lo9, fun h => absurd h n9⟩ | exact ⟨rfl, fr44, _, fin9, (by rw [if_pos o9]), lo9, fun _ => ⟨(by rw [eJ]; exact ((lo44 _ (by omega)).trans ((lo34 _ (by omega)).trans ((lo23 _ (by omega)).trans hKa)))), (by rw [eJ]; intro p hp; have hp3 : p < 3 := hp; match p, hp3 with | 0, _ => exact ((lo44 _ (by omega)).trans ((lo34 _ (by omega)).trans v26)) | 1, _ => exact ((lo44 _ (by omega)).trans v37) | 2, _ => exact v47)⟩⟩)
          · replace c47 := b_1.mp c47
            have c47a : pm [126, 35] (A 6) l (i + 7) = 2 := c47
            have e47 := pm_ok (nf := 2) (F := (FM 1)) (f := [126, 35]) (R := []) (p := 7) e37 rfl c47a
            have le47 := pm_l (A 6) l [126, 35] (i + 7) (by omega)
            have R47 := H44
            have v47 := hv44 c47a
            rw [show pm _ (A 6) l _ = 2 from c47a] at R47 le47
            have x9 : rN (A 6) l i = 9 := by rw [rN, eJ]; exact e47
            have o9 : rOK (A 6) l i := ⟨by rw [eJ]; decide, by rw [eJ, x9]; rfl⟩
            have fin9 : RM M44 m q A (i + 9) K44 := R47
            rw [← x9] at fin9
            have lo9 : ∀ x, x < a → K44 x = K x := fun x h9 => ((lo44 x (by omega)).trans ((lo34 x (by omega)).trans (lo23 x (by omega))))
            refine g_run 28 2 rfl ?_
            exact g_iret 31 rfl rfl (by first | exact trivial | exact Or.inl rfl | exact Or.inr rfl | (show _ ∨ _; omega)) (by first | exact ⟨rfl, fr44, _, fin9, (by rw [if_neg n9]), lo9, fun h => absurd h n9⟩ | exact ⟨rfl, fr44, _, fin9, (by rw [if_pos o9]), lo9, fun _ => ⟨(by rw [eJ]; exact ((lo44 _ (by omega)).trans ((lo34 _ (by omega)).trans ((lo23 _ (by omega)).trans hKa)))), (by rw [eJ]; intro p hp; have hp3 : p < 3 := hp; match p, hp3 with | 0, _ => exact ((lo44 _ (by omega)).trans ((lo34 _ (by omega)).trans v26)) | 1, _ => exact ((lo44 _ (by omega)).trans v37) | 2, _ => exact v47)⟩⟩)
theorem r_readsD (hK : KM Γ) (hR : RH q A l) (H0 : RM M m q A (i + 1) K) (z : Int) (a : Nat) (hz : z = a) (ha : a + 4 < 155) (h0 : atC (A 6) l i 100) (hKa : K a = 100) : Ct (e_L r0) Γ mX8_readsD 5 0 0 [vR m, vI z] M n (RQ M n m q A l i a K) := by
  have fr0 : e_fr m (m + 9) M M := e_fr_refl
  have H : MM M m (va_up q 16 ((i + 1 : Nat) : Int)) (va_up A 7 K) := H0
  have le0 := h0.1
  refine g_start ok_X8_readsD rfl rfl ?_
  refine g_run 0 2 rfl ?_
  refine g_callV 2 rfl cv_RX8_202 H.2.1 (r_sign hR H (by omega) 111 (by decide)) rfl rfl (by decide) (by omega) (by omega) (Nat.le_of_ble_eq_true rfl) (e_kw fun M3 hq3 => ?_) e_kwx
  have fr3 := e_fr_tr fr0 (e_fr_w hq3.2 (by omega))
  refine g_if_eq 3 34 rfl rfl b_r (fun c6 => ?_) (fun c6 => ?_)
  · replace c6 := b_0.mp c6
    have eJ : rJ (A 6) l i = 4 := rJ_4 h0 (fun e => c6 ((pm_one (by decide)).mpr e))
    have e6 : pm (FM 4) (A 6) l i = 1 + pm [97, 109, 112, 32, 35] (A 6) l (i + 1) := by rw [FM_4, pm_1 (by decide) h0]; exact Nat.add_comm _ 1
    have R6 := hq3.1
    rw [pm_n1 c6] at R6
    refine g_run 18 1 rfl ?_
    refine g_get 19 rfl fl_RX8_38 R6.2.1 rfl ?_
    refine g_run 20 2 rfl ?_
    refine g_iast 22 a rfl rfl (by decide) R6.2.2.2.2.2.2.2.2.2 (by first | rfl | omega) (by omega) (by decide) (fun M41 hM41 => ?_)
    have H41 := MM_A7 R6 hM41
    have fr41 := e_fr_tr fr3 (e_fr_up hM41 (by omega))
    have R41 := H41
    rw [up_up, va_up_self] at R41
    have lk : ∀ x, x < a → va_up K a 97 x = K x := fun x h9 => va_up_ne _ _ (by omega)
    refine g_run 23 1 rfl ?_
    refine g_ldcS 24 rfl (e_mem 27 rfl) ?_
    refine g_callV 25 rfl cv_RX8_210 R41.2.1 (r_word hK hR (show RM _ m q A (i + 1) (va_up K a 97) from R41) (by omega) 3 (by decide)) rfl rfl (by decide) (by omega) (by omega) (Nat.le_of_ble_eq_true rfl) (e_kw fun M45 hq45 => ?_) e_kwx
    have fr45 := e_fr_tr fr41 (e_fr_w hq45.2 (by omega))
    refine g_if_eq 26 66 rfl rfl b_r (fun c48 => ?_) (fun c48 => ?_)
    · replace c48 := b_0.mp c48
      have c48a : ¬ pm [97, 109, 112, 32] (A 6) l (i + 1) = 4 := c48
      have x48 := pm_no (nf := 4) (F := (FM 4)) (f := [97, 109, 112, 32]) (R := [35]) (p := 1) e6 rfl c48a
      have x9 : rN (A 6) l i = 1 + pm [97, 109, 112, 32] (A 6) l (i + 1) := by rw [rN, eJ]; exact x48.1
      have n9 : ¬ rOK (A 6) l i := fun h => by have h2 := h.2; rw [eJ, x9] at h2; have h3 : (FM 4).length = 6 := rfl; have h4 := x48.2; omega
      have fin9 : RM M45 m q A (i + (1 + pm [97, 109, 112, 32] (A 6) l (i + 1))) (va_up K a 97) := by rw [← Nat.add_assoc]; exact hq45.1
      rw [← x9] at fin9
      have lo9 : ∀ x, x < a → (va_up K a 97) x = K x := lk
      have fin8 : ∀ V : Prop, rOK (A 6) l i → V := fun V h => absurd h n9
      
      refine g_run 36 1 rfl ?_
      exact g_iret 37 rfl rfl (by first | exact trivial | exact Or.inl rfl | exact Or.inr rfl | (show _ ∨ _; omega)) (by first | exact ⟨rfl, fr45, _, fin9, (by rw [if_neg n9]), lo9, fun h => absurd h n9⟩ | exact ⟨rfl, fr45, _, fin9, (by rw [if_pos o9]), lo9, fun _ => ⟨(by rw [eJ]; exact ((lo56 _ (by omega)).trans (va_up_self _ _ _))), (by rw [eJ]; intro p hp; have hp3 : p < 1 := hp; match p, hp3 with | 0, _ => exact v59)⟩⟩)
    · replace c48 := b_1.mp c48
      have c48a : pm [97, 109, 112, 32] (A 6) l (i + 1) = 4 := c48
      have e48 := pm_ok (nf := 4) (F := (FM 4)) (f := [97, 109, 112, 32]) (R := [35]) (p := 1) e6 rfl c48a
      have le48 := pm_l (A 6) l [97, 109, 112, 32] (i + 1) (by omega)
      have R48 : RM M45 m q A (i + 1 + pm [97, 109, 112, 32] (A 6) l (i + 1)) (va_up K a 97) := hq45.1
      rw [show pm _ (A 6) l _ = 4 from c48a] at R48 le48
      refine g_run 27 5 rfl ?_
      refine g_callV 32 rfl cv_RX8_205 R48.2.1 (r_num1 hR (show RM _ m q A (i + 5) (va_up K a 97) from R48) (by omega) _ (a + 1) (by omega) (by omega)) rfl rfl (by decide) (by omega) (by omega) (Nat.le_of_ble_eq_true rfl) (fun v9 M56 n9 h9 _ => ?_) (fun E M9 n9 h9 _ => by obtain ⟨-, -, K9, -, h3, -⟩ := h9; cases h3)
      obtain ⟨hn9, fq56, K56, H56, h3, lo56, hv56⟩ := h9
      subst n9
      cases h3
      have fr56 := e_fr_tr fr45 fq56
      refine g_if_eq 33 66 rfl rfl b_r (fun c59 => ?_) (fun c59 => ?_)
      · replace c59 := b_0.mp c59
        have c59a : ¬ pm [35] (A 6) l (i + 5) = 1 := c59
        have x59 := pm_no (nf := 1) (F := (FM 4)) (f := [35]) (R := []) (p := 5) e48 rfl c59a
        have x9 : rN (A 6) l i = 5 + pm [35] (A 6) l (i + 5) := by rw [rN, eJ]; exact x59.1
        have n9 : ¬ rOK (A 6) l i := fun h => by have h2 := h.2; rw [eJ, x9] at h2; have h3 : (FM 4).length = 6 := rfl; have h4 := x59.2; omega
        have fin9 : RM M56 m q A (i + (5 + pm [35] (A 6) l (i + 5))) K56 := by rw [← Nat.add_assoc]; exact H56
        rw [← x9] at fin9
        have lo9 : ∀ x, x < a → K56 x = K x := fun x h9 => ((lo56 x (by omega)).trans ((lk) x (by omega)))
        have fin8 : ∀ V : Prop, rOK (A 6) l i → V := fun V h => absurd h n9
        
        refine g_run 36 1 rfl ?_
        exact g_iret 37 rfl rfl (by first | exact trivial | exact Or.inl rfl | exact Or.inr rfl | (show _ ∨ _; omega)) (by first | exact ⟨rfl, fr56, _, fin9, (by rw [if_neg n9]), lo9, fun h => absurd h n9⟩ | exact ⟨rfl, fr56, _, fin9, (by rw [if_pos o9]), lo9, fun _ => ⟨(by rw [eJ]; exact ((lo56 _ (by omega)).trans (va_up_self _ _ _))), (by rw [eJ]; intro p hp; have hp3 : p < 1 := hp; match p, hp3 with | 0, _ => exact v59)⟩⟩)
      · replace c59 := b_1.mp c59
        have c59a : pm [35] (A 6) l (i + 5) = 1 := c59
        have e59 := pm_ok (nf := 1) (F := (FM 4)) (f := [35]) (R := []) (p := 5) e48 rfl c59a
        have le59 := pm_l (A 6) l [35] (i + 5) (by omega)
        have R59 := H56
        have v59 := hv56 c59a
        rw [show pm _ (A 6) l _ = 1 from c59a] at R59 le59
        have x9 : rN (A 6) l i = 6 := by rw [rN, eJ]; exact e59
        have o9 : rOK (A 6) l i := ⟨by rw [eJ]; decide, by rw [eJ, x9]; rfl⟩
        have fin9 : RM M56 m q A (i + 6) K56 := R59
        rw [← x9] at fin9
        have lo9 : ∀ x, x < a → K56 x = K x := fun x h9 => ((lo56 x (by omega)).trans ((lk) x (by omega)))
        refine g_run 34 2 rfl ?_
        exact g_iret 37 rfl rfl (by first | exact trivial | exact Or.inl rfl | exact Or.inr rfl | (show _ ∨ _; omega)) (by first | exact ⟨rfl, fr56, _, fin9, (by rw [if_neg n9]), lo9, fun h => absurd h n9⟩ | exact ⟨rfl, fr56, _, fin9, (by rw [if_pos o9]), lo9, fun _ => ⟨(by rw [eJ]; exact ((lo56 _ (by omega)).trans (va_up_self _ _ _))), (by rw [eJ]; intro p hp; have hp3 : p < 1 := hp; match p, hp3 with | 0, _ => exact v59)⟩⟩)
  · replace c6 := b_1.mp c6
    have u9 : atC (A 6) l (i + 1) 111 := (pm_one (by decide)).mp c6
    have eJ : rJ (A 6) l i = 0 := rJ_0 h0 u9
    have e6 : pm (FM 0) (A 6) l i = 2 + pm [111, 114, 32, 35, 35, 35] (A 6) l (i + 2) := by rw [FM_0, pm_1 (by decide) h0, pm_1 (by decide) u9]; exact Nat.add_comm _ 2
    have R6 := hq3.1
    rw [show pm [111] (A 6) l (i + 1) = 1 from c6] at R6
    have le6 := u9.1
    refine g_run 4 1 rfl ?_
    refine g_ldcS 5 rfl (e_mem 26 rfl) ?_
    refine g_callV 6 rfl cv_RX8_210 R6.2.1 (r_word hK hR (show RM _ m q A (i + 2) K from R6) (by omega) 2 (by decide)) rfl rfl (by decide) (by omega) (by omega) (Nat.le_of_ble_eq_true rfl) (e_kw fun M12 hq12 => ?_) e_kwx
    have fr12 := e_fr_tr fr3 (e_fr_w hq12.2 (by omega))
    refine g_if_eq 7 32 rfl rfl b_r (fun c15 => ?_) (fun c15 => ?_)
    · replace c15 := b_0.mp c15
      have c15a : ¬ pm [111, 114, 32] (A 6) l (i + 2) = 3 := c15
      have x15 := pm_no (nf := 3) (F := (FM 0)) (f := [111, 114, 32]) (R := [35, 35, 35]) (p := 2) e6 rfl c15a
      have x9 : rN (A 6) l i = 2 + pm [111, 114, 32] (A 6) l (i + 2) := by rw [rN, eJ]; exact x15.1
      have n9 : ¬ rOK (A 6) l i := fun h => by have h2 := h.2; rw [eJ, x9] at h2; have h3 : (FM 0).length = 8 := rfl; have h4 := x15.2; omega
      have fin9 : RM M12 m q A (i + (2 + pm [111, 114, 32] (A 6) l (i + 2))) K := by rw [← Nat.add_assoc]; exact hq12.1
      rw [← x9] at fin9
      have lo9 : ∀ x, x < a → K x = K x := fun x _ => rfl
      have fin8 : ∀ V : Prop, rOK (A 6) l i → V := fun V h => absurd h n9
      
      refine g_run 16 1 rfl ?_
      exact g_iret 17 rfl rfl (by first | exact trivial | exact Or.inl rfl | exact Or.inr rfl | (show _ ∨ _; omega)) (by first | exact ⟨rfl, fr12, _, fin9, (by rw [if_neg n9]), lo9, fun h => absurd h n9⟩ | exact ⟨rfl, fr12, _, fin9, (by rw [if_pos o9]), lo9, fun _ => ⟨(by rw [eJ]; exact ((lo22 _ (by omega)).trans hKa)), (by rw [eJ]; intro p hp; have hp3 : p < 3 := hp; match p, hp3 with | 0, _ => exact v25.1 | 1, _ => exact v25.2.1 | 2, _ => exact v25.2.2)⟩⟩)
    · replace c15 := b_1.mp c15
      have c15a : pm [111, 114, 32] (A 6) l (i + 2) = 3 := c15
      have e15 := pm_ok (nf := 3) (F := (FM 0)) (f := [111, 114, 32]) (R := [35, 35, 35]) (p := 2) e6 rfl c15a
      have le15 := pm_l (A 6) l [111, 114, 32] (i + 2) (by omega)
      have R15 : RM M12 m q A (i + 2 + pm [111, 114, 32] (A 6) l (i + 2)) K := hq12.1
      rw [show pm _ (A 6) l _ = 3 from c15a] at R15 le15
      refine g_run 8 4 rfl ?_
      refine g_callV 12 rfl cv_RX8_221 R15.2.1 (r_three hR (show RM _ m q A (i + 5) K from R15) (by omega) _ (a + 1) (by omega) (by omega)) rfl rfl (by decide) (by omega) (by omega) (Nat.le_of_ble_eq_true rfl) (fun v9 M22 n9 h9 _ => ?_) (fun E M9 n9 h9 _ => by obtain ⟨-, -, K9, -, h3, -⟩ := h9; cases h3)
      obtain ⟨hn9, fq22, K22, H22, h3, lo22, hv22⟩ := h9
      subst n9
      cases h3
      have fr22 := e_fr_tr fr12 fq22
      refine g_if_eq 13 32 rfl rfl b_r (fun c25 => ?_) (fun c25 => ?_)
      · replace c25 := b_0.mp c25
        have c25a : ¬ pm [35, 35, 35] (A 6) l (i + 5) = 3 := c25
        have x25 := pm_no (nf := 3) (F := (FM 0)) (f := [35, 35, 35]) (R := []) (p := 5) e15 rfl c25a
        have x9 : rN (A 6) l i = 5 + pm [35, 35, 35] (A 6) l (i + 5) := by rw [rN, eJ]; exact x25.1
        have n9 : ¬ rOK (A 6) l i := fun h => by have h2 := h.2; rw [eJ, x9] at h2; have h3 : (FM 0).length = 8 := rfl; have h4 := x25.2; omega
        have fin9 : RM M22 m q A (i + (5 + pm [35, 35, 35] (A 6) l (i + 5))) K22 := by rw [← Nat.add_assoc]; exact H22
        rw [← x9] at fin9
        have lo9 : ∀ x, x < a → K22 x = K x := fun x h9 => (lo22 x (by omega))
        have fin8 : ∀ V : Prop, rOK (A 6) l i → V := fun V h => absurd h n9
        
        refine g_run 16 1 rfl ?_
        exact g_iret 17 rfl rfl (by first | exact trivial | exact Or.inl rfl | exact Or.inr rfl | (show _ ∨ _; omega)) (by first | exact ⟨rfl, fr22, _, fin9, (by rw [if_neg n9]), lo9, fun h => absurd h n9⟩ | exact ⟨rfl, fr22, _, fin9, (by rw [if_pos o9]), lo9, fun _ => ⟨(by rw [eJ]; exact ((lo22 _ (by omega)).trans hKa)), (by rw [eJ]; intro p hp; have hp3 : p < 3 := hp; match p, hp3 with | 0, _ => exact v25.1 | 1, _ => exact v25.2.1 | 2, _ => exact v25.2.2)⟩⟩)
      · replace c25 := b_1.mp c25
        have c25a : pm [35, 35, 35] (A 6) l (i + 5) = 3 := c25
        have e25 := pm_ok (nf := 3) (F := (FM 0)) (f := [35, 35, 35]) (R := []) (p := 5) e15 rfl c25a
        have le25 := pm_l (A 6) l [35, 35, 35] (i + 5) (by omega)
        have R25 := H22
        have v25 := hv22 c25a
        rw [show pm _ (A 6) l _ = 3 from c25a] at R25 le25
        have x9 : rN (A 6) l i = 8 := by rw [rN, eJ]; exact e25
        have o9 : rOK (A 6) l i := ⟨by rw [eJ]; decide, by rw [eJ, x9]; rfl⟩
        have fin9 : RM M22 m q A (i + 8) K22 := R25
        rw [← x9] at fin9
        have lo9 : ∀ x, x < a → K22 x = K x := fun x h9 => (lo22 x (by omega))
        refine g_run 14 2 rfl ?_
        exact g_iret 17 rfl rfl (by first | exact trivial | exact Or.inl rfl | exact Or.inr rfl | (show _ ∨ _; omega)) (by first | exact ⟨rfl, fr22, _, fin9, (by rw [if_neg n9]), lo9, fun h => absurd h n9⟩ | exact ⟨rfl, fr22, _, fin9, (by rw [if_pos o9]), lo9, fun _ => ⟨(by rw [eJ]; exact ((lo22 _ (by omega)).trans hKa)), (by rw [eJ]; intro p hp; have hp3 : p < 3 := hp; match p, hp3 with | 0, _ => exact v25.1 | 1, _ => exact v25.2.1 | 2, _ => exact v25.2.2)⟩⟩)
theorem r_readsS (hK : KM Γ) (hR : RH q A l) (H0 : RM M m q A (i + 1) K) (z : Int) (a : Nat) (hz : z = a) (ha : a + 4 < 155) (h0 : atC (A 6) l i 115) (hKa : K a = 115) : Ct (e_L r0) Γ mX8_readsS 5 0 0 [vR m, vI z] M n (RQ M n m q A l i a K) := by
  have fr0 : e_fr m (m + 9) M M := e_fr_refl
  have H : MM M m (va_up q 16 ((i + 1 : Nat) : Int)) (va_up A 7 K) := H0
  have le0 := h0.1
  refine g_start ok_X8_readsS rfl rfl ?_
  refine g_run 0 2 rfl ?_
  refine g_callV 2 rfl cv_RX8_202 H.2.1 (r_sign hR H (by omega) 104 (by decide)) rfl rfl (by decide) (by omega) (by omega) (Nat.le_of_ble_eq_true rfl) (e_kw fun M3 hq3 => ?_) e_kwx
  have fr3 := e_fr_tr fr0 (e_fr_w hq3.2 (by omega))
  refine g_if_eq 3 35 rfl rfl b_r (fun c6 => ?_) (fun c6 => ?_)
  · replace c6 := b_0.mp c6
    have eJ : rJ (A 6) l i = 9 := rJ_9 h0 (fun e => c6 ((pm_one (by decide)).mpr e))
    have e6 : pm (FM 9) (A 6) l i = 1 + pm [101, 116, 32, 35, 32, 35, 35, 35] (A 6) l (i + 1) := by rw [FM_9, pm_1 (by decide) h0]; exact Nat.add_comm _ 1
    have R6 := hq3.1
    rw [pm_n1 c6] at R6
    refine g_run 19 1 rfl ?_
    refine g_get 20 rfl fl_RX8_38 R6.2.1 rfl ?_
    refine g_run 21 2 rfl ?_
    refine g_iast 23 a rfl rfl (by decide) R6.2.2.2.2.2.2.2.2.2 (by first | rfl | omega) (by omega) (by decide) (fun M42 hM42 => ?_)
    have H42 := MM_A7 R6 hM42
    have fr42 := e_fr_tr fr3 (e_fr_up hM42 (by omega))
    have R42 := H42
    rw [up_up, va_up_self] at R42
    have lk : ∀ x, x < a → va_up K a 101 x = K x := fun x h9 => va_up_ne _ _ (by omega)
    refine g_run 24 1 rfl ?_
    refine g_ldcS 25 rfl (e_mem 29 rfl) ?_
    refine g_callV 26 rfl cv_RX8_210 R42.2.1 (r_word hK hR (show RM _ m q A (i + 1) (va_up K a 101) from R42) (by omega) 5 (by decide)) rfl rfl (by decide) (by omega) (by omega) (Nat.le_of_ble_eq_true rfl) (e_kw fun M46 hq46 => ?_) e_kwx
    have fr46 := e_fr_tr fr42 (e_fr_w hq46.2 (by omega))
    refine g_if_eq 27 86 rfl rfl b_r (fun c49 => ?_) (fun c49 => ?_)
    · replace c49 := b_0.mp c49
      have c49a : ¬ pm [101, 116, 32] (A 6) l (i + 1) = 3 := c49
      have x49 := pm_no (nf := 3) (F := (FM 9)) (f := [101, 116, 32]) (R := [35, 32, 35, 35, 35]) (p := 1) e6 rfl c49a
      have x9 : rN (A 6) l i = 1 + pm [101, 116, 32] (A 6) l (i + 1) := by rw [rN, eJ]; exact x49.1
      have n9 : ¬ rOK (A 6) l i := fun h => by have h2 := h.2; rw [eJ, x9] at h2; have h3 : (FM 9).length = 9 := rfl; have h4 := x49.2; omega
      have fin9 : RM M46 m q A (i + (1 + pm [101, 116, 32] (A 6) l (i + 1))) (va_up K a 101) := by rw [← Nat.add_assoc]; exact hq46.1
      rw [← x9] at fin9
      have lo9 : ∀ x, x < a → (va_up K a 101) x = K x := lk
      have fin8 : ∀ V : Prop, rOK (A 6) l i → V := fun V h => absurd h n9
      
      refine g_run 47 1 rfl ?_
      exact g_iret 48 rfl rfl (by first | exact trivial | exact Or.inl rfl | exact Or.inr rfl | (show _ ∨ _; omega)) (by first | exact ⟨rfl, fr46, _, fin9, (by rw [if_neg n9]), lo9, fun h => absurd h n9⟩ | exact ⟨rfl, fr46, _, fin9, (by rw [if_pos o9]), lo9, fun _ => ⟨(by rw [eJ]; exact ((lo76 _ (by omega)).trans ((lo57 _ (by omega)).trans (va_up_self _ _ _)))), (by rw [eJ]; intro p hp; have hp3 : p < 4 := hp; match p, hp3 with | 0, _ => exact ((lo76 _ (by omega)).trans v60) | 1, _ => exact v79.1 | 2, _ => exact v79.2.1 | 3, _ => exact v79.2.2)⟩⟩)
    · replace c49 := b_1.mp c49
      have c49a : pm [101, 116, 32] (A 6) l (i + 1) = 3 := c49
      have e49 := pm_ok (nf := 3) (F := (FM 9)) (f := [101, 116, 32]) (R := [35, 32, 35, 35, 35]) (p := 1) e6 rfl c49a
      have le49 := pm_l (A 6) l [101, 116, 32] (i + 1) (by omega)
      have R49 : RM M46 m q A (i + 1 + pm [101, 116, 32] (A 6) l (i + 1)) (va_up K a 101) := hq46.1
      rw [show pm _ (A 6) l _ = 3 from c49a] at R49 le49
      refine g_run 28 5 rfl ?_
      refine g_callV 33 rfl cv_RX8_205 R49.2.1 (r_num1 hR (show RM _ m q A (i + 4) (va_up K a 101) from R49) (by omega) _ (a + 1) (by omega) (by omega)) rfl rfl (by decide) (by omega) (by omega) (Nat.le_of_ble_eq_true rfl) (fun v9 M57 n9 h9 _ => ?_) (fun E M9 n9 h9 _ => by obtain ⟨-, -, K9, -, h3, -⟩ := h9; cases h3)
      obtain ⟨hn9, fq57, K57, H57, h3, lo57, hv57⟩ := h9
      subst n9
      cases h3
      have fr57 := e_fr_tr fr46 fq57
      refine g_if_eq 34 86 rfl rfl b_r (fun c60 => ?_) (fun c60 => ?_)
      · replace c60 := b_0.mp c60
        have c60a : ¬ pm [35] (A 6) l (i + 4) = 1 := c60
        have x60 := pm_no (nf := 1) (F := (FM 9)) (f := [35]) (R := [32, 35, 35, 35]) (p := 4) e49 rfl c60a
        have x9 : rN (A 6) l i = 4 + pm [35] (A 6) l (i + 4) := by rw [rN, eJ]; exact x60.1
        have n9 : ¬ rOK (A 6) l i := fun h => by have h2 := h.2; rw [eJ, x9] at h2; have h3 : (FM 9).length = 9 := rfl; have h4 := x60.2; omega
        have fin9 : RM M57 m q A (i + (4 + pm [35] (A 6) l (i + 4))) K57 := by rw [← Nat.add_assoc]; exact H57
        rw [← x9] at fin9
        have lo9 : ∀ x, x < a → K57 x = K x := fun x h9 => ((lo57 x (by omega)).trans ((lk) x (by omega)))
        have fin8 : ∀ V : Prop, rOK (A 6) l i → V := fun V h => absurd h n9
        
        refine g_run 47 1 rfl ?_
        exact g_iret 48 rfl rfl (by first | exact trivial | exact Or.inl rfl | exact Or.inr rfl | (show _ ∨ _; omega)) (by first | exact ⟨rfl, fr57, _, fin9, (by rw [if_neg n9]), lo9, fun h => absurd h n9⟩ | exact ⟨rfl, fr57, _, fin9, (by rw [if_pos o9]), lo9, fun _ => ⟨(by rw [eJ]; exact ((lo76 _ (by omega)).trans ((lo57 _ (by omega)).trans (va_up_self _ _ _)))), (by rw [eJ]; intro p hp; have hp3 : p < 4 := hp; match p, hp3 with | 0, _ => exact ((lo76 _ (by omega)).trans v60) | 1, _ => exact v79.1 | 2, _ => exact v79.2.1 | 3, _ => exact v79.2.2)⟩⟩)
      · replace c60 := b_1.mp c60
        have c60a : pm [35] (A 6) l (i + 4) = 1 := c60
        have e60 := pm_ok (nf := 1) (F := (FM 9)) (f := [35]) (R := [32, 35, 35, 35]) (p := 4) e49 rfl c60a
        have le60 := pm_l (A 6) l [35] (i + 4) (by omega)
        have R60 := H57
        have v60 := hv57 c60a
        rw [show pm _ (A 6) l _ = 1 from c60a] at R60 le60
        refine g_run 35 2 rfl ?_
        refine g_callV 37 rfl cv_RX8_202 R60.2.1 (r_sign hR (show RM _ m q A (i + 5) K57 from R60) (by omega) 32 (by decide)) rfl rfl (by decide) (by omega) (by omega) (Nat.le_of_ble_eq_true rfl) (e_kw fun M66 hq66 => ?_) e_kwx
        have fr66 := e_fr_tr fr57 (e_fr_w hq66.2 (by omega))
        refine g_if_eq 38 86 rfl rfl b_r (fun c69 => ?_) (fun c69 => ?_)
        · replace c69 := b_0.mp c69
          have c69a : ¬ pm [32] (A 6) l (i + 5) = 1 := c69
          have x69 := pm_no (nf := 1) (F := (FM 9)) (f := [32]) (R := [35, 35, 35]) (p := 5) e60 rfl c69a
          have x9 : rN (A 6) l i = 5 + pm [32] (A 6) l (i + 5) := by rw [rN, eJ]; exact x69.1
          have n9 : ¬ rOK (A 6) l i := fun h => by have h2 := h.2; rw [eJ, x9] at h2; have h3 : (FM 9).length = 9 := rfl; have h4 := x69.2; omega
          have fin9 : RM M66 m q A (i + (5 + pm [32] (A 6) l (i + 5))) K57 := by rw [← Nat.add_assoc]; exact hq66.1
          rw [← x9] at fin9
          have lo9 : ∀ x, x < a → K57 x = K x := fun x h9 => ((lo57 x (by omega)).trans ((lk) x (by omega)))
          have fin8 : ∀ V : Prop, rOK (A 6) l i → V := fun V h => absurd h n9
          
          refine g_run 47 1 rfl ?_
          exact g_iret 48 rfl rfl (by first | exact trivial | exact Or.inl rfl | exact Or.inr rfl | (show _ ∨ _; omega)) (by first | exact ⟨rfl, fr66, _, fin9, (by rw [if_neg n9]), lo9, fun h => absurd h n9⟩ | exact ⟨rfl, fr66, _, fin9, (by rw [if_pos o9]), lo9, fun _ => ⟨(by rw [eJ]; exact ((lo76 _ (by omega)).trans ((lo57 _ (by omega)).trans (va_up_self _ _ _)))), (by rw [eJ]; intro p hp; have hp3 : p < 4 := hp; match p, hp3 with | 0, _ => exact ((lo76 _ (by omega)).trans v60) | 1, _ => exact v79.1 | 2, _ => exact v79.2.1 | 3, _ => exact v79.2.2)⟩⟩)
        · replace c69 := b_1.mp c69
          have c69a : pm [32] (A 6) l (i + 5) = 1 := c69
          have e69 := pm_ok (nf := 1) (F := (FM 9)) (f := [32]) (R := [35, 35, 35]) (p := 5) e60 rfl c69a
          have le69 := pm_l (A 6) l [32] (i + 5) (by omega)
          have R69 : RM M66 m q A (i + 5 + pm [32] (A 6) l (i + 5)) K57 := hq66.1
          rw [show pm _ (A 6) l _ = 1 from c69a] at R69 le69
          refine g_run 39 4 rfl ?_
          refine g_callV 43 rfl cv_RX8_221 R69.2.1 (r_three hR (show RM _ m q A (i + 6) K57 from R69) (by omega) _ (a + 2) (by omega) (by omega)) rfl rfl (by decide) (by omega) (by omega) (Nat.le_of_ble_eq_true rfl) (fun v9 M76 n9 h9 _ => ?_) (fun E M9 n9 h9 _ => by obtain ⟨-, -, K9, -, h3, -⟩ := h9; cases h3)
          obtain ⟨hn9, fq76, K76, H76, h3, lo76, hv76⟩ := h9
          subst n9
          cases h3
          have fr76 := e_fr_tr fr66 fq76
          refine g_if_eq 44 86 rfl rfl b_r (fun c79 => ?_) (fun c79 => ?_)
          · replace c79 := b_0.mp c79
            have c79a : ¬ pm [35, 35, 35] (A 6) l (i + 6) = 3 := c79
            have x79 := pm_no (nf := 3) (F := (FM 9)) (f := [35, 35, 35]) (R := []) (p := 6) e69 rfl c79a
            have x9 : rN (A 6) l i = 6 + pm [35, 35, 35] (A 6) l (i + 6) := by rw [rN, eJ]; exact x79.1
            have n9 : ¬ rOK (A 6) l i := fun h => by have h2 := h.2; rw [eJ, x9] at h2; have h3 : (FM 9).length = 9 := rfl; have h4 := x79.2; omega
            have fin9 : RM M76 m q A (i + (6 + pm [35, 35, 35] (A 6) l (i + 6))) K76 := by rw [← Nat.add_assoc]; exact H76
            rw [← x9] at fin9
            have lo9 : ∀ x, x < a → K76 x = K x := fun x h9 => ((lo76 x (by omega)).trans ((lo57 x (by omega)).trans ((lk) x (by omega))))
            have fin8 : ∀ V : Prop, rOK (A 6) l i → V := fun V h => absurd h n9
            
            refine g_run 47 1 rfl ?_
            exact g_iret 48 rfl rfl (by first | exact trivial | exact Or.inl rfl | exact Or.inr rfl | (show _ ∨ _; omega)) (by first | exact ⟨rfl, fr76, _, fin9, (by rw [if_neg n9]), lo9, fun h => absurd h n9⟩ | exact ⟨rfl, fr76, _, fin9, (by rw [if_pos o9]), lo9, fun _ => ⟨(by rw [eJ]; exact ((lo76 _ (by omega)).trans ((lo57 _ (by omega)).trans (va_up_self _ _ _)))), (by rw [eJ]; intro p hp; have hp3 : p < 4 := hp; match p, hp3 with | 0, _ => exact ((lo76 _ (by omega)).trans v60) | 1, _ => exact v79.1 | 2, _ => exact v79.2.1 | 3, _ => exact v79.2.2)⟩⟩)
          · replace c79 := b_1.mp c79
            have c79a : pm [35, 35, 35] (A 6) l (i + 6) = 3 := c79
            have e79 := pm_ok (nf := 3) (F := (FM 9)) (f := [35, 35, 35]) (R := []) (p := 6) e69 rfl c79a
            have le79 := pm_l (A 6) l [35, 35, 35] (i + 6) (by omega)
            have R79 := H76
            have v79 := hv76 c79a
            rw [show pm _ (A 6) l _ = 3 from c79a] at R79 le79
            have x9 : rN (A 6) l i = 9 := by rw [rN, eJ]; exact e79
            have o9 : rOK (A 6) l i := ⟨by rw [eJ]; decide, by rw [eJ, x9]; rfl⟩
            have fin9 : RM M76 m q A (i + 9) K76 := R79
            rw [← x9] at fin9
            have lo9 : ∀ x, x < a → K76 x = K x := fun x h9 => ((lo76 x (by omega)).trans ((lo57 x (by omega)).trans ((lk) x (by omega))))
            refine g_run 45 2 rfl ?_
            exact g_iret 48 rfl rfl (by first | exact trivial | exact Or.inl rfl | exact Or.inr rfl | (show _ ∨ _; omega)) (by first | exact ⟨rfl, fr76, _, fin9, (by rw [if_neg n9]), lo9, fun h => absurd h n9⟩ | exact ⟨rfl, fr76, _, fin9, (by rw [if_pos o9]), lo9, fun _ => ⟨(by rw [eJ]; exact ((lo76 _ (by omega)).trans ((lo57 _ (by omega)).trans (va_up_self _ _ _)))), (by rw [eJ]; intro p hp; have hp3 : p < 4 := hp; match p, hp3 with | 0, _ => exact ((lo76 _ (by omega)).trans v60) | 1, _ => exact v79.1 | 2, _ => exact v79.2.1 | 3, _ => exact v79.2.2)⟩⟩)
  · replace c6 := b_1.mp c6
    have u9 : atC (A 6) l (i + 1) 104 := (pm_one (by decide)).mp c6
    have eJ : rJ (A 6) l i = 3 := rJ_3 h0 u9
    have e6 : pm (FM 3) (A 6) l i = 2 + pm [117, 116, 32, 35] (A 6) l (i + 2) := by rw [FM_3, pm_1 (by decide) h0, pm_1 (by decide) u9]; exact Nat.add_comm _ 2
    have R6 := hq3.1
    rw [show pm [104] (A 6) l (i + 1) = 1 from c6] at R6
    have le6 := u9.1
    refine g_run 4 1 rfl ?_
    refine g_ldcS 5 rfl (e_mem 28 rfl) ?_
    refine g_callV 6 rfl cv_RX8_210 R6.2.1 (r_word hK hR (show RM _ m q A (i + 2) K from R6) (by omega) 4 (by decide)) rfl rfl (by decide) (by omega) (by omega) (Nat.le_of_ble_eq_true rfl) (e_kw fun M12 hq12 => ?_) e_kwx
    have fr12 := e_fr_tr fr3 (e_fr_w hq12.2 (by omega))
    refine g_if_eq 7 33 rfl rfl b_r (fun c15 => ?_) (fun c15 => ?_)
    · replace c15 := b_0.mp c15
      have c15a : ¬ pm [117, 116, 32] (A 6) l (i + 2) = 3 := c15
      have x15 := pm_no (nf := 3) (F := (FM 3)) (f := [117, 116, 32]) (R := [35]) (p := 2) e6 rfl c15a
      have x9 : rN (A 6) l i = 2 + pm [117, 116, 32] (A 6) l (i + 2) := by rw [rN, eJ]; exact x15.1
      have n9 : ¬ rOK (A 6) l i := fun h => by have h2 := h.2; rw [eJ, x9] at h2; have h3 : (FM 3).length = 6 := rfl; have h4 := x15.2; omega
      have fin9 : RM M12 m q A (i + (2 + pm [117, 116, 32] (A 6) l (i + 2))) K := by rw [← Nat.add_assoc]; exact hq12.1
      rw [← x9] at fin9
      have lo9 : ∀ x, x < a → K x = K x := fun x _ => rfl
      have fin8 : ∀ V : Prop, rOK (A 6) l i → V := fun V h => absurd h n9
      
      refine g_run 17 1 rfl ?_
      exact g_iret 18 rfl rfl (by first | exact trivial | exact Or.inl rfl | exact Or.inr rfl | (show _ ∨ _; omega)) (by first | exact ⟨rfl, fr12, _, fin9, (by rw [if_neg n9]), lo9, fun h => absurd h n9⟩ | exact ⟨rfl, fr12, _, fin9, (by rw [if_pos o9]), lo9, fun _ => ⟨(by rw [eJ]; exact ((lo23 _ (by omega)).trans hKa)), (by rw [eJ]; intro p hp; have hp3 : p < 1 := hp; match p, hp3 with | 0, _ => exact v26)⟩⟩)
    · replace c15 := b_1.mp c15
      have c15a : pm [117, 116, 32] (A 6) l (i + 2) = 3 := c15
      have e15 := pm_ok (nf := 3) (F := (FM 3)) (f := [117, 116, 32]) (R := [35]) (p := 2) e6 rfl c15a
      have le15 := pm_l (A 6) l [117, 116, 32] (i + 2) (by omega)
      have R15 : RM M12 m q A (i + 2 + pm [117, 116, 32] (A 6) l (i + 2)) K := hq12.1
      rw [show pm _ (A 6) l _ = 3 from c15a] at R15 le15
      refine g_run 8 5 rfl ?_
      refine g_callV 13 rfl cv_RX8_205 R15.2.1 (r_num1 hR (show RM _ m q A (i + 5) K from R15) (by omega) _ (a + 1) (by omega) (by omega)) rfl rfl (by decide) (by omega) (by omega) (Nat.le_of_ble_eq_true rfl) (fun v9 M23 n9 h9 _ => ?_) (fun E M9 n9 h9 _ => by obtain ⟨-, -, K9, -, h3, -⟩ := h9; cases h3)
      obtain ⟨hn9, fq23, K23, H23, h3, lo23, hv23⟩ := h9
      subst n9
      cases h3
      have fr23 := e_fr_tr fr12 fq23
      refine g_if_eq 14 33 rfl rfl b_r (fun c26 => ?_) (fun c26 => ?_)
      · replace c26 := b_0.mp c26
        have c26a : ¬ pm [35] (A 6) l (i + 5) = 1 := c26
        have x26 := pm_no (nf := 1) (F := (FM 3)) (f := [35]) (R := []) (p := 5) e15 rfl c26a
        have x9 : rN (A 6) l i = 5 + pm [35] (A 6) l (i + 5) := by rw [rN, eJ]; exact x26.1
        have n9 : ¬ rOK (A 6) l i := fun h => by have h2 := h.2; rw [eJ, x9] at h2; have h3 : (FM 3).length = 6 := rfl; have h4 := x26.2; omega
        have fin9 : RM M23 m q A (i + (5 + pm [35] (A 6) l (i + 5))) K23 := by rw [← Nat.add_assoc]; exact H23
        rw [← x9] at fin9
        have lo9 : ∀ x, x < a → K23 x = K x := fun x h9 => (lo23 x (by omega))
        have fin8 : ∀ V : Prop, rOK (A 6) l i → V := fun V h => absurd h n9
        
        refine g_run 17 1 rfl ?_
        exact g_iret 18 rfl rfl (by first | exact trivial | exact Or.inl rfl | exact Or.inr rfl | (show _ ∨ _; omega)) (by first | exact ⟨rfl, fr23, _, fin9, (by rw [if_neg n9]), lo9, fun h => absurd h n9⟩ | exact ⟨rfl, fr23, _, fin9, (by rw [if_pos o9]), lo9, fun _ => ⟨(by rw [eJ]; exact ((lo23 _ (by omega)).trans hKa)), (by rw [eJ]; intro p hp; have hp3 : p < 1 := hp; match p, hp3 with | 0, _ => exact v26)⟩⟩)
      · replace c26 := b_1.mp c26
        have c26a : pm [35] (A 6) l (i + 5) = 1 := c26
        have e26 := pm_ok (nf := 1) (F := (FM 3)) (f := [35]) (R := []) (p := 5) e15 rfl c26a
        have le26 := pm_l (A 6) l [35] (i + 5) (by omega)
        have R26 := H23
        have v26 := hv23 c26a
        rw [show pm _ (A 6) l _ = 1 from c26a] at R26 le26
        have x9 : rN (A 6) l i = 6 := by rw [rN, eJ]; exact e26
        have o9 : rOK (A 6) l i := ⟨by rw [eJ]; decide, by rw [eJ, x9]; rfl⟩
        have fin9 : RM M23 m q A (i + 6) K23 := R26
        rw [← x9] at fin9
        have lo9 : ∀ x, x < a → K23 x = K x := fun x h9 => (lo23 x (by omega))
        refine g_run 15 2 rfl ?_
        exact g_iret 18 rfl rfl (by first | exact trivial | exact Or.inl rfl | exact Or.inr rfl | (show _ ∨ _; omega)) (by first | exact ⟨rfl, fr23, _, fin9, (by rw [if_neg n9]), lo9, fun h => absurd h n9⟩ | exact ⟨rfl, fr23, _, fin9, (by rw [if_pos o9]), lo9, fun _ => ⟨(by rw [eJ]; exact ((lo23 _ (by omega)).trans hKa)), (by rw [eJ]; intro p hp; have hp3 : p < 1 := hp; match p, hp3 with | 0, _ => exact v26)⟩⟩)
end MR2
