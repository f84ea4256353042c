/-! the law's own methods: a call, and what is caught (wip/whole/gen/c_lh.py prints this part) -/
theorem ck_RL_13 : Cond.classLink RL 13 "java/lang/IllegalArgumentException" ∈ e_WS := (e_w1 708 (by decide +kernel) rfl)
theorem ck_RL_15 : Cond.classLink RL 15 "java/lang/IllegalStateException" ∈ e_WS := (e_w1 709 (by decide +kernel) rfl)
theorem ck_RL_20 : Cond.classLink RL 20 "java/lang/IndexOutOfBoundsException" ∈ e_WS := (e_w1 914 (by decide +kernel) rfl)
theorem ck_RL_30 : Cond.classLink RL 30 "java/lang/UnsupportedOperationException" ∈ e_WS := (e_w1 935 (by decide +kernel) rfl)
theorem ck_RL_79 : Cond.classLink RL 79 "java/util/NoSuchElementException" ∈ e_WS := (e_w1 1064 (by decide +kernel) rfl)
theorem ck_RL_109 : Cond.classLink RL 109 "java/lang/ArithmeticException" ∈ e_WS := (e_w1 1172 (by decide +kernel) rfl)
theorem ca_13 {r0 : Option Nat} : Cond.castable "java/lang/IllegalArgumentException" "java/lang/IllegalArgumentException" ∈ (e_L r0).2.2.1 := (show Cond.castable "java/lang/IllegalArgumentException" "java/lang/IllegalArgumentException" ∈ e_WN by decide +kernel)
theorem ca_15 {r0 : Option Nat} : Cond.castable "java/lang/IllegalStateException" "java/lang/IllegalStateException" ∈ (e_L r0).2.2.1 := (show Cond.castable "java/lang/IllegalStateException" "java/lang/IllegalStateException" ∈ e_WN by decide +kernel)
theorem ca_20 {r0 : Option Nat} : Cond.castable "java/lang/IndexOutOfBoundsException" "java/lang/IndexOutOfBoundsException" ∈ (e_L r0).2.2.1 := (show Cond.castable "java/lang/IndexOutOfBoundsException" "java/lang/IndexOutOfBoundsException" ∈ e_WN by decide +kernel)
theorem ca_30 {r0 : Option Nat} : Cond.castable "java/lang/UnsupportedOperationException" "java/lang/UnsupportedOperationException" ∈ (e_L r0).2.2.1 := (show Cond.castable "java/lang/UnsupportedOperationException" "java/lang/UnsupportedOperationException" ∈ e_WN by decide +kernel)
theorem ca_79 {r0 : Option Nat} : Cond.castable "java/util/NoSuchElementException" "java/util/NoSuchElementException" ∈ (e_L r0).2.2.1 := (show Cond.castable "java/util/NoSuchElementException" "java/util/NoSuchElementException" ∈ e_WN by decide +kernel)
theorem ca_109 {r0 : Option Nat} : Cond.castable "java/lang/ArithmeticException" "java/lang/ArithmeticException" ∈ (e_L r0).2.2.1 := (show Cond.castable "java/lang/ArithmeticException" "java/lang/ArithmeticException" ∈ e_WN by decide +kernel)
section LH
variable {r0 : Option Nat} {Γ : Cx} {M : Mem} {n x o : Nat} {fs : List aV} {mc ms d : Nat} {Q : Rv → Mem → Nat → Prop} {P : Int → Mem → Nat → Prop}
theorem l_addDoor (p0 : Int) (p1 : Int) (p2 : Int) (hx : M x = cO 8 fs) (ho : 100 ≤ o) (hC : Ct (e_L r0) Γ mX7_addDoor d mc ms [vR x, vI p0, vI p1, vI p2] M n Q) (hN : ∀ r1 M' n', Q (.inl r1) M' n' → ∃ (z : Int) (g : Nat → Int64), r1 = some (vI z) ∧ i32 z ∧ M' o = cL 3 1 g ∧ ∀ M'', M'' = va_up M' o (cL 3 1 (va_up g 0 (Int64.ofInt z))) → P 0 M'' n') (hE : ∀ E M' n', Q (.inr E) M' n' → (E = "java/lang/IllegalArgumentException" ∧ P 1 M' n') ∨ (E = "java/lang/IllegalStateException" ∧ P 2 M' n')) : Ct (e_L r0) Γ mL_addDoor (d + 1) mc ms [vR x, vI p0, vI p1, vI p2, vR o] M n (fun r' M' n' => ∃ k : Int, r' = .inl (some (vI k)) ∧ P k M' n') := by
  refine g_startX ok_L_addDoor (by decide) rfl ?_
  refine g_run 0 6 rfl ?_
  refine g_callV 6 rfl cv_RL_7 hx hC rfl rfl (by omega) (by omega) (by omega) (Nat.le_of_ble_eq_true rfl) (fun v9 M1 n9 h9 _ => ?_) (fun E M1 n9 h9 _ => ?_)
  · obtain ⟨z, g, rfl, hz, hg, hP⟩ := hN _ _ _ h9
    refine g_i2l 7 rfl hz ?_
    refine g_last 8 0 rfl rfl hg ho rfl (by decide) (by decide) (fun M2 hM2 => ?_)
    refine g_run 9 1 rfl ?_
    refine g_run 16 1 rfl ?_
    exact g_iret 17 rfl rfl trivial ⟨0, rfl, hP _ hM2⟩
  · rcases hE _ _ _ h9 with ⟨rfl, hP⟩ | ⟨rfl, hP⟩
    · refine gx_catch [] (0, 12, 15, 13) [(0, 12, 19, 15)] 10 5 rfl (fun z hz => absurd hz List.not_mem_nil) (by decide) (by decide) ck_RL_13 ca_13 rfl (Or.inr rfl) (by decide) rfl ?_
      refine g_run 11 1 rfl ?_
      exact g_iret 12 rfl rfl trivial ⟨1, rfl, hP⟩
    · refine gx_catch [(0, 12, 15, 13)] (0, 12, 19, 15) [] 13 5 rfl (List.forall_mem_cons.mpr ⟨⟨by decide, _, ck_RL_13, (show ("java/lang/IllegalStateException", "java/lang/IllegalArgumentException") ∈ e_NN by decide +kernel)⟩, fun _ h => absurd h List.not_mem_nil⟩) (by decide) (by decide) ck_RL_15 ca_15 rfl (Or.inr rfl) (by decide) rfl ?_
      refine g_run 14 1 rfl ?_
      exact g_iret 15 rfl rfl trivial ⟨2, rfl, hP⟩
theorem l_turn (p0 : Int) (p1 : Int) (p2 : Int) (hx : M x = cO 8 fs) (ho : 100 ≤ o) (hC : Ct (e_L r0) Γ mX7_turn d mc ms [vR x, vI p0, vI p1, vI p2] M n Q) (hN : ∀ r1 M' n', Q (.inl r1) M' n' → ∃ (z : Int) (g : Nat → Int64), r1 = some (vI z) ∧ i32 z ∧ M' o = cL 3 1 g ∧ ∀ M'', M'' = va_up M' o (cL 3 1 (va_up g 0 (Int64.ofInt z))) → P 0 M'' n') (hE : ∀ E M' n', Q (.inr E) M' n' → (E = "java/lang/IndexOutOfBoundsException" ∧ P 1 M' n') ∨ (E = "java/lang/IllegalArgumentException" ∧ P 2 M' n') ∨ (E = "java/lang/IllegalStateException" ∧ P 3 M' n')) : Ct (e_L r0) Γ mL_turn (d + 1) mc ms [vR x, vI p0, vI p1, vI p2, vR o] M n (fun r' M' n' => ∃ k : Int, r' = .inl (some (vI k)) ∧ P k M' n') := by
  refine g_startX ok_L_turn (by decide) rfl ?_
  refine g_run 0 6 rfl ?_
  refine g_callV 6 rfl cv_RL_17 hx hC rfl rfl (by omega) (by omega) (by omega) (Nat.le_of_ble_eq_true rfl) (fun v9 M1 n9 h9 _ => ?_) (fun E M1 n9 h9 _ => ?_)
  · obtain ⟨z, g, rfl, hz, hg, hP⟩ := hN _ _ _ h9
    refine g_i2l 7 rfl hz ?_
    refine g_last 8 0 rfl rfl hg ho rfl (by decide) (by decide) (fun M2 hM2 => ?_)
    refine g_run 9 1 rfl ?_
    refine g_run 19 1 rfl ?_
    exact g_iret 20 rfl rfl trivial ⟨0, rfl, hP _ hM2⟩
  · rcases hE _ _ _ h9 with ⟨rfl, hP⟩ | ⟨rfl, hP⟩ | ⟨rfl, hP⟩
    · refine gx_catch [] (0, 12, 15, 20) [(0, 12, 19, 13), (0, 12, 23, 15)] 10 5 rfl (fun z hz => absurd hz List.not_mem_nil) (by decide) (by decide) ck_RL_20 ca_20 rfl (Or.inr rfl) (by decide) rfl ?_
      refine g_run 11 1 rfl ?_
      exact g_iret 12 rfl rfl trivial ⟨1, rfl, hP⟩
    · refine gx_catch [(0, 12, 15, 20)] (0, 12, 19, 13) [(0, 12, 23, 15)] 13 5 rfl (List.forall_mem_cons.mpr ⟨⟨by decide, _, ck_RL_20, (show ("java/lang/IllegalArgumentException", "java/lang/IndexOutOfBoundsException") ∈ e_NN by decide +kernel)⟩, fun _ h => absurd h List.not_mem_nil⟩) (by decide) (by decide) ck_RL_13 ca_13 rfl (Or.inr rfl) (by decide) rfl ?_
      refine g_run 14 1 rfl ?_
      exact g_iret 15 rfl rfl trivial ⟨2, rfl, hP⟩
    · refine gx_catch [(0, 12, 15, 20), (0, 12, 19, 13)] (0, 12, 23, 15) [] 16 5 rfl (List.forall_mem_cons.mpr ⟨⟨by decide, _, ck_RL_20, (show ("java/lang/IllegalStateException", "java/lang/IndexOutOfBoundsException") ∈ e_NN by decide +kernel)⟩, List.forall_mem_cons.mpr ⟨⟨by decide, _, ck_RL_13, (show ("java/lang/IllegalStateException", "java/lang/IllegalArgumentException") ∈ e_NN by decide +kernel)⟩, fun _ h => absurd h List.not_mem_nil⟩⟩) (by decide) (by decide) ck_RL_15 ca_15 rfl (Or.inr rfl) (by decide) rfl ?_
      refine g_run 17 1 rfl ?_
      exact g_iret 18 rfl rfl trivial ⟨3, rfl, hP⟩
theorem l_tryLock (p0 : Int) (hx : M x = cO 8 fs) (ho : 100 ≤ o) (hC : Ct (e_L r0) Γ mX7_tryLock d mc ms [vR x, vI p0] M n Q) (hN : ∀ r1 M' n', Q (.inl r1) M' n' → ∃ (z : Int) (g : Nat → Int64), r1 = some (vI z) ∧ (z = 0 ∨ z = 1) ∧ M' o = cL 3 1 g ∧ ∀ M'', M'' = va_up M' o (cL 3 1 (va_up g 0 (Int64.ofInt z))) → P 0 M'' n') (hE : ∀ E M' n', Q (.inr E) M' n' → (E = "java/lang/IndexOutOfBoundsException" ∧ P 1 M' n') ∨ (E = "java/lang/IllegalStateException" ∧ P 2 M' n')) : Ct (e_L r0) Γ mL_tryLock (d + 1) mc ms [vR x, vI p0, vR o] M n (fun r' M' n' => ∃ k : Int, r' = .inl (some (vI k)) ∧ P k M' n') := by
  refine g_startX ok_L_tryLock (by decide) rfl ?_
  refine g_run 0 4 rfl ?_
  refine g_callV 4 rfl cv_RL_22 hx hC rfl rfl (by omega) (by omega) (by omega) (Nat.le_of_ble_eq_true rfl) (fun v9 M1 n9 h9 _ => ?_) (fun E M1 n9 h9 _ => ?_)
  · obtain ⟨z, g, rfl, hz, hg, hP⟩ := hN _ _ _ h9
    refine g_if_eq 5 14 rfl rfl (by omega) (fun c7 => ?_) (fun c7 => ?_)
    · refine g_lconst 8 rfl ?_
      rw [show Int64.ofNat ((0 : Fin 2) : Nat) = Int64.ofInt z from by rw [c7]; rfl]
      refine g_last 9 0 rfl rfl hg ho rfl (by decide) (by decide) (fun M2 hM2 => ?_)
      refine g_run 10 1 rfl ?_
      refine g_run 17 1 rfl ?_
      exact g_iret 18 rfl rfl trivial ⟨0, rfl, hP _ hM2⟩
    · refine g_lconst 6 rfl ?_
      rw [show Int64.ofNat ((1 : Fin 2) : Nat) = Int64.ofInt z from by rw [show z = 1 from by omega]; rfl]
      refine g_run 7 1 rfl ?_
      refine g_last 9 0 rfl rfl hg ho rfl (by decide) (by decide) (fun M2 hM2 => ?_)
      refine g_run 10 1 rfl ?_
      refine g_run 17 1 rfl ?_
      exact g_iret 18 rfl rfl trivial ⟨0, rfl, hP _ hM2⟩
  · rcases hE _ _ _ h9 with ⟨rfl, hP⟩ | ⟨rfl, hP⟩
    · refine gx_catch [] (0, 16, 19, 20) [(0, 16, 22, 15)] 11 3 rfl (fun z hz => absurd hz List.not_mem_nil) (by decide) (by decide) ck_RL_20 ca_20 rfl (Or.inl ⟨3, rfl, rfl⟩) (by decide) rfl ?_
      refine g_run 12 1 rfl ?_
      exact g_iret 13 rfl rfl trivial ⟨1, rfl, hP⟩
    · refine gx_catch [(0, 16, 19, 20)] (0, 16, 22, 15) [] 14 3 rfl (List.forall_mem_cons.mpr ⟨⟨by decide, _, ck_RL_20, (show ("java/lang/IllegalStateException", "java/lang/IndexOutOfBoundsException") ∈ e_NN by decide +kernel)⟩, fun _ h => absurd h List.not_mem_nil⟩) (by decide) (by decide) ck_RL_15 ca_15 rfl (Or.inl ⟨3, rfl, rfl⟩) (by decide) rfl ?_
      refine g_run 15 1 rfl ?_
      exact g_iret 16 rfl rfl trivial ⟨2, rfl, hP⟩
theorem l_shut (p0 : Int) (hx : M x = cO 8 fs) (ho : 100 ≤ o) (hC : Ct (e_L r0) Γ mX7_shut d mc ms [vR x, vI p0] M n Q) (hN : ∀ r1 M' n', Q (.inl r1) M' n' → ∃ (z : Int) (g : Nat → Int64), r1 = some (vI z) ∧ i32 z ∧ M' o = cL 3 1 g ∧ ∀ M'', M'' = va_up M' o (cL 3 1 (va_up g 0 (Int64.ofInt z))) → P 0 M'' n') (hE : ∀ E M' n', Q (.inr E) M' n' → (E = "java/lang/IndexOutOfBoundsException" ∧ P 1 M' n') ∨ (E = "java/lang/IllegalStateException" ∧ P 2 M' n') ∨ (E = "java/lang/UnsupportedOperationException" ∧ P 3 M' n')) : Ct (e_L r0) Γ mL_shut (d + 1) mc ms [vR x, vI p0, vR o] M n (fun r' M' n' => ∃ k : Int, r' = .inl (some (vI k)) ∧ P k M' n') := by
  refine g_startX ok_L_shut (by decide) rfl ?_
  refine g_run 0 4 rfl ?_
  refine g_callV 4 rfl cv_RL_26 hx hC rfl rfl (by omega) (by omega) (by omega) (Nat.le_of_ble_eq_true rfl) (fun v9 M1 n9 h9 _ => ?_) (fun E M1 n9 h9 _ => ?_)
  · obtain ⟨z, g, rfl, hz, hg, hP⟩ := hN _ _ _ h9
    refine g_i2l 5 rfl hz ?_
    refine g_last 6 0 rfl rfl hg ho rfl (by decide) (by decide) (fun M2 hM2 => ?_)
    refine g_run 7 1 rfl ?_
    refine g_run 17 1 rfl ?_
    exact g_iret 18 rfl rfl trivial ⟨0, rfl, hP _ hM2⟩
  · rcases hE _ _ _ h9 with ⟨rfl, hP⟩ | ⟨rfl, hP⟩ | ⟨rfl, hP⟩
    · refine gx_catch [] (0, 9, 12, 20) [(0, 9, 15, 15), (0, 9, 18, 30)] 8 3 rfl (fun z hz => absurd hz List.not_mem_nil) (by decide) (by decide) ck_RL_20 ca_20 rfl (Or.inl ⟨3, rfl, rfl⟩) (by decide) rfl ?_
      refine g_run 9 1 rfl ?_
      exact g_iret 10 rfl rfl trivial ⟨1, rfl, hP⟩
    · refine gx_catch [(0, 9, 12, 20)] (0, 9, 15, 15) [(0, 9, 18, 30)] 11 3 rfl (List.forall_mem_cons.mpr ⟨⟨by decide, _, ck_RL_20, (show ("java/lang/IllegalStateException", "java/lang/IndexOutOfBoundsException") ∈ e_NN by decide +kernel)⟩, fun _ h => absurd h List.not_mem_nil⟩) (by decide) (by decide) ck_RL_15 ca_15 rfl (Or.inl ⟨3, rfl, rfl⟩) (by decide) rfl ?_
      refine g_run 12 1 rfl ?_
      exact g_iret 13 rfl rfl trivial ⟨2, rfl, hP⟩
    · refine gx_catch [(0, 9, 12, 20), (0, 9, 15, 15)] (0, 9, 18, 30) [] 14 3 rfl (List.forall_mem_cons.mpr ⟨⟨by decide, _, ck_RL_20, (show ("java/lang/UnsupportedOperationException", "java/lang/IndexOutOfBoundsException") ∈ e_NN by decide +kernel)⟩, List.forall_mem_cons.mpr ⟨⟨by decide, _, ck_RL_15, (show ("java/lang/UnsupportedOperationException", "java/lang/IllegalStateException") ∈ e_NN by decide +kernel)⟩, fun _ h => absurd h List.not_mem_nil⟩⟩) (by decide) (by decide) ck_RL_30 ca_30 rfl (Or.inl ⟨3, rfl, rfl⟩) (by decide) rfl ?_
      refine g_run 15 1 rfl ?_
      exact g_iret 16 rfl rfl trivial ⟨3, rfl, hP⟩
theorem l_setCombination (p0 : Int) (p1 : Int) (p2 : Int) (p3 : Int) (hx : M x = cO 8 fs) (ho : 100 ≤ o) (hC : Ct (e_L r0) Γ mX7_setCombination d mc ms [vR x, vI p0, vI p1, vI p2, vI p3] M n Q) (hN : ∀ r1 M' n', Q (.inl r1) M' n' → ∃ (z : Int) (g : Nat → Int64), r1 = some (vI z) ∧ i32 z ∧ M' o = cL 3 1 g ∧ ∀ M'', M'' = va_up M' o (cL 3 1 (va_up g 0 (Int64.ofInt z))) → P 0 M'' n') (hE : ∀ E M' n', Q (.inr E) M' n' → (E = "java/lang/IndexOutOfBoundsException" ∧ P 1 M' n') ∨ (E = "java/lang/IllegalArgumentException" ∧ P 2 M' n') ∨ (E = "java/lang/IllegalStateException" ∧ P 3 M' n')) : Ct (e_L r0) Γ mL_setCombination (d + 1) mc ms [vR x, vI p0, vI p1, vI p2, vI p3, vR o] M n (fun r' M' n' => ∃ k : Int, r' = .inl (some (vI k)) ∧ P k M' n') := by
  refine g_startX ok_L_setCombination (by decide) rfl ?_
  refine g_run 0 7 rfl ?_
  refine g_callV 7 rfl cv_RL_32 hx hC rfl rfl (by omega) (by omega) (by omega) (Nat.le_of_ble_eq_true rfl) (fun v9 M1 n9 h9 _ => ?_) (fun E M1 n9 h9 _ => ?_)
  · obtain ⟨z, g, rfl, hz, hg, hP⟩ := hN _ _ _ h9
    refine g_i2l 8 rfl hz ?_
    refine g_last 9 0 rfl rfl hg ho rfl (by decide) (by decide) (fun M2 hM2 => ?_)
    refine g_run 10 1 rfl ?_
    refine g_run 20 1 rfl ?_
    exact g_iret 21 rfl rfl trivial ⟨0, rfl, hP _ hM2⟩
  · rcases hE _ _ _ h9 with ⟨rfl, hP⟩ | ⟨rfl, hP⟩ | ⟨rfl, hP⟩
    · refine gx_catch [] (0, 14, 17, 20) [(0, 14, 21, 13), (0, 14, 25, 15)] 11 6 rfl (fun z hz => absurd hz List.not_mem_nil) (by decide) (by decide) ck_RL_20 ca_20 rfl (Or.inr rfl) (by decide) rfl ?_
      refine g_run 12 1 rfl ?_
      exact g_iret 13 rfl rfl trivial ⟨1, rfl, hP⟩
    · refine gx_catch [(0, 14, 17, 20)] (0, 14, 21, 13) [(0, 14, 25, 15)] 14 6 rfl (List.forall_mem_cons.mpr ⟨⟨by decide, _, ck_RL_20, (show ("java/lang/IllegalArgumentException", "java/lang/IndexOutOfBoundsException") ∈ e_NN by decide +kernel)⟩, fun _ h => absurd h List.not_mem_nil⟩) (by decide) (by decide) ck_RL_13 ca_13 rfl (Or.inr rfl) (by decide) rfl ?_
      refine g_run 15 1 rfl ?_
      exact g_iret 16 rfl rfl trivial ⟨2, rfl, hP⟩
    · refine gx_catch [(0, 14, 17, 20), (0, 14, 21, 13)] (0, 14, 25, 15) [] 17 6 rfl (List.forall_mem_cons.mpr ⟨⟨by decide, _, ck_RL_20, (show ("java/lang/IllegalStateException", "java/lang/IndexOutOfBoundsException") ∈ e_NN by decide +kernel)⟩, List.forall_mem_cons.mpr ⟨⟨by decide, _, ck_RL_13, (show ("java/lang/IllegalStateException", "java/lang/IllegalArgumentException") ∈ e_NN by decide +kernel)⟩, fun _ h => absurd h List.not_mem_nil⟩⟩) (by decide) (by decide) ck_RL_15 ca_15 rfl (Or.inr rfl) (by decide) rfl ?_
      refine g_run 18 1 rfl ?_
      exact g_iret 19 rfl rfl trivial ⟨3, rfl, hP⟩
theorem l_setDamp (p0 : Int) (hx : M x = cO 8 fs) (ho : 100 ≤ o) (hC : Ct (e_L r0) Γ mX7_setDamp d mc ms [vR x, vI p0] M n Q) (hN : ∀ r1 M' n', Q (.inl r1) M' n' → ∃ (z : Int) (g : Nat → Int64), r1 = some (vI z) ∧ i32 z ∧ M' o = cL 3 1 g ∧ ∀ M'', M'' = va_up M' o (cL 3 1 (va_up g 0 (Int64.ofInt z))) → P 0 M'' n') (hE : ∀ E M' n', Q (.inr E) M' n' → (E = "java/lang/IllegalArgumentException" ∧ P 1 M' n')) : Ct (e_L r0) Γ mL_setDamp (d + 1) mc ms [vR x, vI p0, vR o] M n (fun r' M' n' => ∃ k : Int, r' = .inl (some (vI k)) ∧ P k M' n') := by
  refine g_startX ok_L_setDamp (by decide) rfl ?_
  refine g_run 0 4 rfl ?_
  refine g_callV 4 rfl cv_RL_36 hx hC rfl rfl (by omega) (by omega) (by omega) (Nat.le_of_ble_eq_true rfl) (fun v9 M1 n9 h9 _ => ?_) (fun E M1 n9 h9 _ => ?_)
  · obtain ⟨z, g, rfl, hz, hg, hP⟩ := hN _ _ _ h9
    refine g_i2l 5 rfl hz ?_
    refine g_last 6 0 rfl rfl hg ho rfl (by decide) (by decide) (fun M2 hM2 => ?_)
    refine g_run 7 1 rfl ?_
    refine g_run 11 1 rfl ?_
    exact g_iret 12 rfl rfl trivial ⟨0, rfl, hP _ hM2⟩
  · rcases hE _ _ _ h9 with ⟨rfl, hP⟩
    · refine gx_catch [] (0, 9, 12, 13) [] 8 3 rfl (fun z hz => absurd hz List.not_mem_nil) (by decide) (by decide) ck_RL_13 ca_13 rfl (Or.inl ⟨3, rfl, rfl⟩) (by decide) rfl ?_
      refine g_run 9 1 rfl ?_
      exact g_iret 10 rfl rfl trivial ⟨1, rfl, hP⟩
theorem l_bake (p0 : Int) (p1 : Int) (hx : M x = cO 8 fs) (ho : 100 ≤ o) (hC : Ct (e_L r0) Γ mX7_bake d mc ms [vR x, vI p0, vI p1] M n Q) (hN : ∀ r1 M' n', Q (.inl r1) M' n' → ∃ (z : Int) (g : Nat → Int64), r1 = some (vI z) ∧ i32 z ∧ M' o = cL 3 1 g ∧ ∀ M'', M'' = va_up M' o (cL 3 1 (va_up g 0 (Int64.ofInt z))) → P 0 M'' n') (hE : ∀ E M' n', Q (.inr E) M' n' → (E = "java/lang/IndexOutOfBoundsException" ∧ P 1 M' n') ∨ (E = "java/lang/IllegalStateException" ∧ P 2 M' n') ∨ (E = "java/lang/UnsupportedOperationException" ∧ P 3 M' n')) : Ct (e_L r0) Γ mL_bake (d + 1) mc ms [vR x, vI p0, vI p1, vR o] M n (fun r' M' n' => ∃ k : Int, r' = .inl (some (vI k)) ∧ P k M' n') := by
  refine g_startX ok_L_bake (by decide) rfl ?_
  refine g_run 0 5 rfl ?_
  refine g_callV 5 rfl cv_RL_39 hx hC rfl rfl (by omega) (by omega) (by omega) (Nat.le_of_ble_eq_true rfl) (fun v9 M1 n9 h9 _ => ?_) (fun E M1 n9 h9 _ => ?_)
  · obtain ⟨z, g, rfl, hz, hg, hP⟩ := hN _ _ _ h9
    refine g_i2l 6 rfl hz ?_
    refine g_last 7 0 rfl rfl hg ho rfl (by decide) (by decide) (fun M2 hM2 => ?_)
    refine g_run 8 1 rfl ?_
    refine g_run 18 1 rfl ?_
    exact g_iret 19 rfl rfl trivial ⟨0, rfl, hP _ hM2⟩
  · rcases hE _ _ _ h9 with ⟨rfl, hP⟩ | ⟨rfl, hP⟩ | ⟨rfl, hP⟩
    · refine gx_catch [] (0, 10, 13, 20) [(0, 10, 17, 15), (0, 10, 21, 30)] 9 4 rfl (fun z hz => absurd hz List.not_mem_nil) (by decide) (by decide) ck_RL_20 ca_20 rfl (Or.inr rfl) (by decide) rfl ?_
      refine g_run 10 1 rfl ?_
      exact g_iret 11 rfl rfl trivial ⟨1, rfl, hP⟩
    · refine gx_catch [(0, 10, 13, 20)] (0, 10, 17, 15) [(0, 10, 21, 30)] 12 4 rfl (List.forall_mem_cons.mpr ⟨⟨by decide, _, ck_RL_20, (show ("java/lang/IllegalStateException", "java/lang/IndexOutOfBoundsException") ∈ e_NN by decide +kernel)⟩, fun _ h => absurd h List.not_mem_nil⟩) (by decide) (by decide) ck_RL_15 ca_15 rfl (Or.inr rfl) (by decide) rfl ?_
      refine g_run 13 1 rfl ?_
      exact g_iret 14 rfl rfl trivial ⟨2, rfl, hP⟩
    · refine gx_catch [(0, 10, 13, 20), (0, 10, 17, 15)] (0, 10, 21, 30) [] 15 4 rfl (List.forall_mem_cons.mpr ⟨⟨by decide, _, ck_RL_20, (show ("java/lang/UnsupportedOperationException", "java/lang/IndexOutOfBoundsException") ∈ e_NN by decide +kernel)⟩, List.forall_mem_cons.mpr ⟨⟨by decide, _, ck_RL_15, (show ("java/lang/UnsupportedOperationException", "java/lang/IllegalStateException") ∈ e_NN by decide +kernel)⟩, fun _ h => absurd h List.not_mem_nil⟩⟩) (by decide) (by decide) ck_RL_30 ca_30 rfl (Or.inr rfl) (by decide) rfl ?_
      refine g_run 16 1 rfl ?_
      exact g_iret 17 rfl rfl trivial ⟨3, rfl, hP⟩
theorem l_passHours (p0 : Int) (hx : M x = cO 8 fs) (ho : 100 ≤ o) (hC : Ct (e_L r0) Γ mX7_passHours d mc ms [vR x, vI p0] M n Q) (hN : ∀ r1 M' n', Q (.inl r1) M' n' → ∃ (z : Int) (g : Nat → Int64), r1 = some (vI z) ∧ i32 z ∧ M' o = cL 3 1 g ∧ ∀ M'', M'' = va_up M' o (cL 3 1 (va_up g 0 (Int64.ofInt z))) → P 0 M'' n') (hE : ∀ E M' n', Q (.inr E) M' n' → (E = "java/lang/IllegalArgumentException" ∧ P 1 M' n')) : Ct (e_L r0) Γ mL_passHours (d + 1) mc ms [vR x, vI p0, vR o] M n (fun r' M' n' => ∃ k : Int, r' = .inl (some (vI k)) ∧ P k M' n') := by
  refine g_startX ok_L_passHours (by decide) rfl ?_
  refine g_run 0 4 rfl ?_
  refine g_callV 4 rfl cv_RL_43 hx hC rfl rfl (by omega) (by omega) (by omega) (Nat.le_of_ble_eq_true rfl) (fun v9 M1 n9 h9 _ => ?_) (fun E M1 n9 h9 _ => ?_)
  · obtain ⟨z, g, rfl, hz, hg, hP⟩ := hN _ _ _ h9
    refine g_i2l 5 rfl hz ?_
    refine g_last 6 0 rfl rfl hg ho rfl (by decide) (by decide) (fun M2 hM2 => ?_)
    refine g_run 7 1 rfl ?_
    refine g_run 11 1 rfl ?_
    exact g_iret 12 rfl rfl trivial ⟨0, rfl, hP _ hM2⟩
  · rcases hE _ _ _ h9 with ⟨rfl, hP⟩
    · refine gx_catch [] (0, 9, 12, 13) [] 8 3 rfl (fun z hz => absurd hz List.not_mem_nil) (by decide) (by decide) ck_RL_13 ca_13 rfl (Or.inl ⟨3, rfl, rfl⟩) (by decide) rfl ?_
      refine g_run 9 1 rfl ?_
      exact g_iret 10 rfl rfl trivial ⟨1, rfl, hP⟩
theorem l_dial (p0 : Int) (p1 : Int) (hx : M x = cO 8 fs) (ho : 100 ≤ o) (hC : Ct (e_L r0) Γ mX7_dial d mc ms [vR x, vI p0, vI p1] M n Q) (hN : ∀ r1 M' n', Q (.inl r1) M' n' → ∃ (z : Int) (g : Nat → Int64), r1 = some (vI z) ∧ i32 z ∧ M' o = cL 3 1 g ∧ ∀ M'', M'' = va_up M' o (cL 3 1 (va_up g 0 (Int64.ofInt z))) → P 0 M'' n') (hE : ∀ E M' n', Q (.inr E) M' n' → (E = "java/lang/IndexOutOfBoundsException" ∧ P 1 M' n')) : Ct (e_L r0) Γ mL_dial (d + 1) mc ms [vR x, vI p0, vI p1, vR o] M n (fun r' M' n' => ∃ k : Int, r' = .inl (some (vI k)) ∧ P k M' n') := by
  refine g_startX ok_L_dial (by decide) rfl ?_
  refine g_run 0 5 rfl ?_
  refine g_callV 5 rfl cv_RL_46 hx hC rfl rfl (by omega) (by omega) (by omega) (Nat.le_of_ble_eq_true rfl) (fun v9 M1 n9 h9 _ => ?_) (fun E M1 n9 h9 _ => ?_)
  · obtain ⟨z, g, rfl, hz, hg, hP⟩ := hN _ _ _ h9
    refine g_i2l 6 rfl hz ?_
    refine g_last 7 0 rfl rfl hg ho rfl (by decide) (by decide) (fun M2 hM2 => ?_)
    refine g_run 8 1 rfl ?_
    refine g_run 12 1 rfl ?_
    exact g_iret 13 rfl rfl trivial ⟨0, rfl, hP _ hM2⟩
  · rcases hE _ _ _ h9 with ⟨rfl, hP⟩
    · refine gx_catch [] (0, 10, 13, 20) [] 9 4 rfl (fun z hz => absurd hz List.not_mem_nil) (by decide) (by decide) ck_RL_20 ca_20 rfl (Or.inr rfl) (by decide) rfl ?_
      refine g_run 10 1 rfl ?_
      exact g_iret 11 rfl rfl trivial ⟨1, rfl, hP⟩
theorem l_combination (p0 : Int) (p1 : Int) (hx : M x = cO 8 fs) (ho : 100 ≤ o) (hC : Ct (e_L r0) Γ mX7_combination d mc ms [vR x, vI p0, vI p1] M n Q) (hN : ∀ r1 M' n', Q (.inl r1) M' n' → ∃ (z : Int) (g : Nat → Int64), r1 = some (vI z) ∧ i32 z ∧ M' o = cL 3 1 g ∧ ∀ M'', M'' = va_up M' o (cL 3 1 (va_up g 0 (Int64.ofInt z))) → P 0 M'' n') (hE : ∀ E M' n', Q (.inr E) M' n' → (E = "java/lang/IndexOutOfBoundsException" ∧ P 1 M' n')) : Ct (e_L r0) Γ mL_combination (d + 1) mc ms [vR x, vI p0, vI p1, vR o] M n (fun r' M' n' => ∃ k : Int, r' = .inl (some (vI k)) ∧ P k M' n') := by
  refine g_startX ok_L_combination (by decide) rfl ?_
  refine g_run 0 5 rfl ?_
  refine g_callV 5 rfl cv_RL_49 hx hC rfl rfl (by omega) (by omega) (by omega) (Nat.le_of_ble_eq_true rfl) (fun v9 M1 n9 h9 _ => ?_) (fun E M1 n9 h9 _ => ?_)
  · obtain ⟨z, g, rfl, hz, hg, hP⟩ := hN _ _ _ h9
    refine g_i2l 6 rfl hz ?_
    refine g_last 7 0 rfl rfl hg ho rfl (by decide) (by decide) (fun M2 hM2 => ?_)
    refine g_run 8 1 rfl ?_
    refine g_run 12 1 rfl ?_
    exact g_iret 13 rfl rfl trivial ⟨0, rfl, hP _ hM2⟩
  · rcases hE _ _ _ h9 with ⟨rfl, hP⟩
    · refine gx_catch [] (0, 10, 13, 20) [] 9 4 rfl (fun z hz => absurd hz List.not_mem_nil) (by decide) (by decide) ck_RL_20 ca_20 rfl (Or.inr rfl) (by decide) rfl ?_
      refine g_run 10 1 rfl ?_
      exact g_iret 11 rfl rfl trivial ⟨1, rfl, hP⟩
theorem l_isOpen (p0 : Int) (hx : M x = cO 8 fs) (ho : 100 ≤ o) (hC : Ct (e_L r0) Γ mX7_isOpen d mc ms [vR x, vI p0] M n Q) (hN : ∀ r1 M' n', Q (.inl r1) M' n' → ∃ (z : Int) (g : Nat → Int64), r1 = some (vI z) ∧ (z = 0 ∨ z = 1) ∧ M' o = cL 3 1 g ∧ ∀ M'', M'' = va_up M' o (cL 3 1 (va_up g 0 (Int64.ofInt z))) → P 0 M'' n') (hE : ∀ E M' n', Q (.inr E) M' n' → (E = "java/lang/IndexOutOfBoundsException" ∧ P 1 M' n')) : Ct (e_L r0) Γ mL_isOpen (d + 1) mc ms [vR x, vI p0, vR o] M n (fun r' M' n' => ∃ k : Int, r' = .inl (some (vI k)) ∧ P k M' n') := by
  refine g_startX ok_L_isOpen (by decide) rfl ?_
  refine g_run 0 4 rfl ?_
  refine g_callV 4 rfl cv_RL_52 hx hC rfl rfl (by omega) (by omega) (by omega) (Nat.le_of_ble_eq_true rfl) (fun v9 M1 n9 h9 _ => ?_) (fun E M1 n9 h9 _ => ?_)
  · obtain ⟨z, g, rfl, hz, hg, hP⟩ := hN _ _ _ h9
    refine g_if_eq 5 14 rfl rfl (by omega) (fun c7 => ?_) (fun c7 => ?_)
    · refine g_lconst 8 rfl ?_
      rw [show Int64.ofNat ((0 : Fin 2) : Nat) = Int64.ofInt z from by rw [c7]; rfl]
      refine g_last 9 0 rfl rfl hg ho rfl (by decide) (by decide) (fun M2 hM2 => ?_)
      refine g_run 10 1 rfl ?_
      refine g_run 14 1 rfl ?_
      exact g_iret 15 rfl rfl trivial ⟨0, rfl, hP _ hM2⟩
    · refine g_lconst 6 rfl ?_
      rw [show Int64.ofNat ((1 : Fin 2) : Nat) = Int64.ofInt z from by rw [show z = 1 from by omega]; rfl]
      refine g_run 7 1 rfl ?_
      refine g_last 9 0 rfl rfl hg ho rfl (by decide) (by decide) (fun M2 hM2 => ?_)
      refine g_run 10 1 rfl ?_
      refine g_run 14 1 rfl ?_
      exact g_iret 15 rfl rfl trivial ⟨0, rfl, hP _ hM2⟩
  · rcases hE _ _ _ h9 with ⟨rfl, hP⟩
    · refine gx_catch [] (0, 16, 19, 20) [] 11 3 rfl (fun z hz => absurd hz List.not_mem_nil) (by decide) (by decide) ck_RL_20 ca_20 rfl (Or.inl ⟨3, rfl, rfl⟩) (by decide) rfl ?_
      refine g_run 12 1 rfl ?_
      exact g_iret 13 rfl rfl trivial ⟨1, rfl, hP⟩
theorem l_isBroken (p0 : Int) (hx : M x = cO 8 fs) (ho : 100 ≤ o) (hC : Ct (e_L r0) Γ mX7_isBroken d mc ms [vR x, vI p0] M n Q) (hN : ∀ r1 M' n', Q (.inl r1) M' n' → ∃ (z : Int) (g : Nat → Int64), r1 = some (vI z) ∧ (z = 0 ∨ z = 1) ∧ M' o = cL 3 1 g ∧ ∀ M'', M'' = va_up M' o (cL 3 1 (va_up g 0 (Int64.ofInt z))) → P 0 M'' n') (hE : ∀ E M' n', Q (.inr E) M' n' → (E = "java/lang/IndexOutOfBoundsException" ∧ P 1 M' n')) : Ct (e_L r0) Γ mL_isBroken (d + 1) mc ms [vR x, vI p0, vR o] M n (fun r' M' n' => ∃ k : Int, r' = .inl (some (vI k)) ∧ P k M' n') := by
  refine g_startX ok_L_isBroken (by decide) rfl ?_
  refine g_run 0 4 rfl ?_
  refine g_callV 4 rfl cv_RL_55 hx hC rfl rfl (by omega) (by omega) (by omega) (Nat.le_of_ble_eq_true rfl) (fun v9 M1 n9 h9 _ => ?_) (fun E M1 n9 h9 _ => ?_)
  · obtain ⟨z, g, rfl, hz, hg, hP⟩ := hN _ _ _ h9
    refine g_if_eq 5 14 rfl rfl (by omega) (fun c7 => ?_) (fun c7 => ?_)
    · refine g_lconst 8 rfl ?_
      rw [show Int64.ofNat ((0 : Fin 2) : Nat) = Int64.ofInt z from by rw [c7]; rfl]
      refine g_last 9 0 rfl rfl hg ho rfl (by decide) (by decide) (fun M2 hM2 => ?_)
      refine g_run 10 1 rfl ?_
      refine g_run 14 1 rfl ?_
      exact g_iret 15 rfl rfl trivial ⟨0, rfl, hP _ hM2⟩
    · refine g_lconst 6 rfl ?_
      rw [show Int64.ofNat ((1 : Fin 2) : Nat) = Int64.ofInt z from by rw [show z = 1 from by omega]; rfl]
      refine g_run 7 1 rfl ?_
      refine g_last 9 0 rfl rfl hg ho rfl (by decide) (by decide) (fun M2 hM2 => ?_)
      refine g_run 10 1 rfl ?_
      refine g_run 14 1 rfl ?_
      exact g_iret 15 rfl rfl trivial ⟨0, rfl, hP _ hM2⟩
  · rcases hE _ _ _ h9 with ⟨rfl, hP⟩
    · refine gx_catch [] (0, 16, 19, 20) [] 11 3 rfl (fun z hz => absurd hz List.not_mem_nil) (by decide) (by decide) ck_RL_20 ca_20 rfl (Or.inl ⟨3, rfl, rfl⟩) (by decide) rfl ?_
      refine g_run 12 1 rfl ?_
      exact g_iret 13 rfl rfl trivial ⟨1, rfl, hP⟩
theorem l_crumbs (p0 : Int) (hx : M x = cO 8 fs) (ho : 100 ≤ o) (hC : Ct (e_L r0) Γ mX7_crumbs d mc ms [vR x, vI p0] M n Q) (hN : ∀ r1 M' n', Q (.inl r1) M' n' → ∃ (z : Int) (g : Nat → Int64), r1 = some (vI z) ∧ i32 z ∧ M' o = cL 3 1 g ∧ ∀ M'', M'' = va_up M' o (cL 3 1 (va_up g 0 (Int64.ofInt z))) → P 0 M'' n') (hE : ∀ E M' n', Q (.inr E) M' n' → (E = "java/lang/IndexOutOfBoundsException" ∧ P 1 M' n')) : Ct (e_L r0) Γ mL_crumbs (d + 1) mc ms [vR x, vI p0, vR o] M n (fun r' M' n' => ∃ k : Int, r' = .inl (some (vI k)) ∧ P k M' n') := by
  refine g_startX ok_L_crumbs (by decide) rfl ?_
  refine g_run 0 4 rfl ?_
  refine g_callV 4 rfl cv_RL_58 hx hC rfl rfl (by omega) (by omega) (by omega) (Nat.le_of_ble_eq_true rfl) (fun v9 M1 n9 h9 _ => ?_) (fun E M1 n9 h9 _ => ?_)
  · obtain ⟨z, g, rfl, hz, hg, hP⟩ := hN _ _ _ h9
    refine g_i2l 5 rfl hz ?_
    refine g_last 6 0 rfl rfl hg ho rfl (by decide) (by decide) (fun M2 hM2 => ?_)
    refine g_run 7 1 rfl ?_
    refine g_run 11 1 rfl ?_
    exact g_iret 12 rfl rfl trivial ⟨0, rfl, hP _ hM2⟩
  · rcases hE _ _ _ h9 with ⟨rfl, hP⟩
    · refine gx_catch [] (0, 9, 12, 20) [] 8 3 rfl (fun z hz => absurd hz List.not_mem_nil) (by decide) (by decide) ck_RL_20 ca_20 rfl (Or.inl ⟨3, rfl, rfl⟩) (by decide) rfl ?_
      refine g_run 9 1 rfl ?_
      exact g_iret 10 rfl rfl trivial ⟨1, rfl, hP⟩
theorem l_play (p0 : Int) (hx : M x = cO 8 fs) (ho : 100 ≤ o) (hC : Ct (e_L r0) Γ mX7_play d mc ms [vR x, vI p0] M n Q) (hN : ∀ r1 M' n', Q (.inl r1) M' n' → ∃ (z : Int) (g : Nat → Int64), r1 = some (vI z) ∧ i32 z ∧ M' o = cL 3 1 g ∧ ∀ M'', M'' = va_up M' o (cL 3 1 (va_up g 0 (Int64.ofInt z))) → P 0 M'' n') (hE : ∀ E M' n', Q (.inr E) M' n' → (E = "java/lang/IndexOutOfBoundsException" ∧ P 1 M' n')) : Ct (e_L r0) Γ mL_play (d + 1) mc ms [vR x, vI p0, vR o] M n (fun r' M' n' => ∃ k : Int, r' = .inl (some (vI k)) ∧ P k M' n') := by
  refine g_startX ok_L_play (by decide) rfl ?_
  refine g_run 0 4 rfl ?_
  refine g_callV 4 rfl cv_RL_61 hx hC rfl rfl (by omega) (by omega) (by omega) (Nat.le_of_ble_eq_true rfl) (fun v9 M1 n9 h9 _ => ?_) (fun E M1 n9 h9 _ => ?_)
  · obtain ⟨z, g, rfl, hz, hg, hP⟩ := hN _ _ _ h9
    refine g_i2l 5 rfl hz ?_
    refine g_last 6 0 rfl rfl hg ho rfl (by decide) (by decide) (fun M2 hM2 => ?_)
    refine g_run 7 1 rfl ?_
    refine g_run 11 1 rfl ?_
    exact g_iret 12 rfl rfl trivial ⟨0, rfl, hP _ hM2⟩
  · rcases hE _ _ _ h9 with ⟨rfl, hP⟩
    · refine gx_catch [] (0, 9, 12, 20) [] 8 3 rfl (fun z hz => absurd hz List.not_mem_nil) (by decide) (by decide) ck_RL_20 ca_20 rfl (Or.inl ⟨3, rfl, rfl⟩) (by decide) rfl ?_
      refine g_run 9 1 rfl ?_
      exact g_iret 10 rfl rfl trivial ⟨1, rfl, hP⟩
theorem l_fittingDials (p0 : Int) (hx : M x = cO 8 fs) (ho : 100 ≤ o) (hC : Ct (e_L r0) Γ mX7_fittingDials d mc ms [vR x, vI p0] M n Q) (hN : ∀ r1 M' n', Q (.inl r1) M' n' → ∃ (z : Int) (g : Nat → Int64), r1 = some (vI z) ∧ i32 z ∧ M' o = cL 3 1 g ∧ ∀ M'', M'' = va_up M' o (cL 3 1 (va_up g 0 (Int64.ofInt z))) → P 0 M'' n') (hE : ∀ E M' n', Q (.inr E) M' n' → (E = "java/lang/IndexOutOfBoundsException" ∧ P 1 M' n')) : Ct (e_L r0) Γ mL_fittingDials (d + 1) mc ms [vR x, vI p0, vR o] M n (fun r' M' n' => ∃ k : Int, r' = .inl (some (vI k)) ∧ P k M' n') := by
  refine g_startX ok_L_fittingDials (by decide) rfl ?_
  refine g_run 0 4 rfl ?_
  refine g_callV 4 rfl cv_RL_64 hx hC rfl rfl (by omega) (by omega) (by omega) (Nat.le_of_ble_eq_true rfl) (fun v9 M1 n9 h9 _ => ?_) (fun E M1 n9 h9 _ => ?_)
  · obtain ⟨z, g, rfl, hz, hg, hP⟩ := hN _ _ _ h9
    refine g_i2l 5 rfl hz ?_
    refine g_last 6 0 rfl rfl hg ho rfl (by decide) (by decide) (fun M2 hM2 => ?_)
    refine g_run 7 1 rfl ?_
    refine g_run 11 1 rfl ?_
    exact g_iret 12 rfl rfl trivial ⟨0, rfl, hP _ hM2⟩
  · rcases hE _ _ _ h9 with ⟨rfl, hP⟩
    · refine gx_catch [] (0, 9, 12, 20) [] 8 3 rfl (fun z hz => absurd hz List.not_mem_nil) (by decide) (by decide) ck_RL_20 ca_20 rfl (Or.inl ⟨3, rfl, rfl⟩) (by decide) rfl ?_
      refine g_run 9 1 rfl ?_
      exact g_iret 10 rfl rfl trivial ⟨1, rfl, hP⟩
theorem l_stepsToOpen (p0 : Int) (hx : M x = cO 8 fs) (ho : 100 ≤ o) (hC : Ct (e_L r0) Γ mX7_stepsToOpen d mc ms [vR x, vI p0] M n Q) (hN : ∀ r1 M' n', Q (.inl r1) M' n' → ∃ (z : Int) (g : Nat → Int64), r1 = some (vI z) ∧ i32 z ∧ M' o = cL 3 1 g ∧ ∀ M'', M'' = va_up M' o (cL 3 1 (va_up g 0 (Int64.ofInt z))) → P 0 M'' n') (hE : ∀ E M' n', Q (.inr E) M' n' → (E = "java/lang/IndexOutOfBoundsException" ∧ P 1 M' n')) : Ct (e_L r0) Γ mL_stepsToOpen (d + 1) mc ms [vR x, vI p0, vR o] M n (fun r' M' n' => ∃ k : Int, r' = .inl (some (vI k)) ∧ P k M' n') := by
  refine g_startX ok_L_stepsToOpen (by decide) rfl ?_
  refine g_run 0 4 rfl ?_
  refine g_callV 4 rfl cv_RL_67 hx hC rfl rfl (by omega) (by omega) (by omega) (Nat.le_of_ble_eq_true rfl) (fun v9 M1 n9 h9 _ => ?_) (fun E M1 n9 h9 _ => ?_)
  · obtain ⟨z, g, rfl, hz, hg, hP⟩ := hN _ _ _ h9
    refine g_i2l 5 rfl hz ?_
    refine g_last 6 0 rfl rfl hg ho rfl (by decide) (by decide) (fun M2 hM2 => ?_)
    refine g_run 7 1 rfl ?_
    refine g_run 11 1 rfl ?_
    exact g_iret 12 rfl rfl trivial ⟨0, rfl, hP _ hM2⟩
  · rcases hE _ _ _ h9 with ⟨rfl, hP⟩
    · refine gx_catch [] (0, 9, 12, 20) [] 8 3 rfl (fun z hz => absurd hz List.not_mem_nil) (by decide) (by decide) ck_RL_20 ca_20 rfl (Or.inl ⟨3, rfl, rfl⟩) (by decide) rfl ?_
      refine g_run 9 1 rfl ?_
      exact g_iret 10 rfl rfl trivial ⟨1, rfl, hP⟩
theorem l_stepsToOpenByTurning (p0 : Int) (hx : M x = cO 8 fs) (ho : 100 ≤ o) (hC : Ct (e_L r0) Γ mX7_stepsToOpenByTurning d mc ms [vR x, vI p0] M n Q) (hN : ∀ r1 M' n', Q (.inl r1) M' n' → ∃ (z : Int) (g : Nat → Int64), r1 = some (vI z) ∧ i32 z ∧ M' o = cL 3 1 g ∧ ∀ M'', M'' = va_up M' o (cL 3 1 (va_up g 0 (Int64.ofInt z))) → P 0 M'' n') (hE : ∀ E M' n', Q (.inr E) M' n' → (E = "java/lang/IndexOutOfBoundsException" ∧ P 1 M' n')) : Ct (e_L r0) Γ mL_stepsToOpenByTurning (d + 1) mc ms [vR x, vI p0, vR o] M n (fun r' M' n' => ∃ k : Int, r' = .inl (some (vI k)) ∧ P k M' n') := by
  refine g_startX ok_L_stepsToOpenByTurning (by decide) rfl ?_
  refine g_run 0 4 rfl ?_
  refine g_callV 4 rfl cv_RL_70 hx hC rfl rfl (by omega) (by omega) (by omega) (Nat.le_of_ble_eq_true rfl) (fun v9 M1 n9 h9 _ => ?_) (fun E M1 n9 h9 _ => ?_)
  · obtain ⟨z, g, rfl, hz, hg, hP⟩ := hN _ _ _ h9
    refine g_i2l 5 rfl hz ?_
    refine g_last 6 0 rfl rfl hg ho rfl (by decide) (by decide) (fun M2 hM2 => ?_)
    refine g_run 7 1 rfl ?_
    refine g_run 11 1 rfl ?_
    exact g_iret 12 rfl rfl trivial ⟨0, rfl, hP _ hM2⟩
  · rcases hE _ _ _ h9 with ⟨rfl, hP⟩
    · refine gx_catch [] (0, 9, 12, 20) [] 8 3 rfl (fun z hz => absurd hz List.not_mem_nil) (by decide) (by decide) ck_RL_20 ca_20 rfl (Or.inl ⟨3, rfl, rfl⟩) (by decide) rfl ?_
      refine g_run 9 1 rfl ?_
      exact g_iret 10 rfl rfl trivial ⟨1, rfl, hP⟩
theorem l_openingSettings (p0 : Int) (hx : M x = cO 8 fs) (ho : 100 ≤ o) (hC : Ct (e_L r0) Γ mX7_openingSettings d mc ms [vR x, vI p0] M n Q) (hN : ∀ r1 M' n', Q (.inl r1) M' n' → ∃ (z : Int) (g : Nat → Int64), r1 = some (vI z) ∧ i32 z ∧ M' o = cL 3 1 g ∧ ∀ M'', M'' = va_up M' o (cL 3 1 (va_up g 0 (Int64.ofInt z))) → P 0 M'' n') (hE : ∀ E M' n', Q (.inr E) M' n' → (E = "java/lang/IndexOutOfBoundsException" ∧ P 1 M' n')) : Ct (e_L r0) Γ mL_openingSettings (d + 1) mc ms [vR x, vI p0, vR o] M n (fun r' M' n' => ∃ k : Int, r' = .inl (some (vI k)) ∧ P k M' n') := by
  refine g_startX ok_L_openingSettings (by decide) rfl ?_
  refine g_run 0 4 rfl ?_
  refine g_callV 4 rfl cv_RL_73 hx hC rfl rfl (by omega) (by omega) (by omega) (Nat.le_of_ble_eq_true rfl) (fun v9 M1 n9 h9 _ => ?_) (fun E M1 n9 h9 _ => ?_)
  · obtain ⟨z, g, rfl, hz, hg, hP⟩ := hN _ _ _ h9
    refine g_i2l 5 rfl hz ?_
    refine g_last 6 0 rfl rfl hg ho rfl (by decide) (by decide) (fun M2 hM2 => ?_)
    refine g_run 7 1 rfl ?_
    refine g_run 11 1 rfl ?_
    exact g_iret 12 rfl rfl trivial ⟨0, rfl, hP _ hM2⟩
  · rcases hE _ _ _ h9 with ⟨rfl, hP⟩
    · refine gx_catch [] (0, 9, 12, 20) [] 8 3 rfl (fun z hz => absurd hz List.not_mem_nil) (by decide) (by decide) ck_RL_20 ca_20 rfl (Or.inl ⟨3, rfl, rfl⟩) (by decide) rfl ?_
      refine g_run 9 1 rfl ?_
      exact g_iret 10 rfl rfl trivial ⟨1, rfl, hP⟩
theorem l_triesUntilBroken (p0 : Int) (hx : M x = cO 8 fs) (ho : 100 ≤ o) (hC : Ct (e_L r0) Γ mX7_triesUntilBroken d mc ms [vR x, vI p0] M n Q) (hN : ∀ r1 M' n', Q (.inl r1) M' n' → ∃ (z : Int) (g : Nat → Int64), r1 = some (vI z) ∧ i32 z ∧ M' o = cL 3 1 g ∧ ∀ M'', M'' = va_up M' o (cL 3 1 (va_up g 0 (Int64.ofInt z))) → P 0 M'' n') (hE : ∀ E M' n', Q (.inr E) M' n' → (E = "java/lang/IndexOutOfBoundsException" ∧ P 1 M' n') ∨ (E = "java/util/NoSuchElementException" ∧ P 2 M' n')) : Ct (e_L r0) Γ mL_triesUntilBroken (d + 1) mc ms [vR x, vI p0, vR o] M n (fun r' M' n' => ∃ k : Int, r' = .inl (some (vI k)) ∧ P k M' n') := by
  refine g_startX ok_L_triesUntilBroken (by decide) rfl ?_
  refine g_run 0 4 rfl ?_
  refine g_callV 4 rfl cv_RL_76 hx hC rfl rfl (by omega) (by omega) (by omega) (Nat.le_of_ble_eq_true rfl) (fun v9 M1 n9 h9 _ => ?_) (fun E M1 n9 h9 _ => ?_)
  · obtain ⟨z, g, rfl, hz, hg, hP⟩ := hN _ _ _ h9
    refine g_i2l 5 rfl hz ?_
    refine g_last 6 0 rfl rfl hg ho rfl (by decide) (by decide) (fun M2 hM2 => ?_)
    refine g_run 7 1 rfl ?_
    refine g_run 14 1 rfl ?_
    exact g_iret 15 rfl rfl trivial ⟨0, rfl, hP _ hM2⟩
  · rcases hE _ _ _ h9 with ⟨rfl, hP⟩ | ⟨rfl, hP⟩
    · refine gx_catch [] (0, 9, 12, 20) [(0, 9, 15, 79)] 8 3 rfl (fun z hz => absurd hz List.not_mem_nil) (by decide) (by decide) ck_RL_20 ca_20 rfl (Or.inl ⟨3, rfl, rfl⟩) (by decide) rfl ?_
      refine g_run 9 1 rfl ?_
      exact g_iret 10 rfl rfl trivial ⟨1, rfl, hP⟩
    · refine gx_catch [(0, 9, 12, 20)] (0, 9, 15, 79) [] 11 3 rfl (List.forall_mem_cons.mpr ⟨⟨by decide, _, ck_RL_20, (show ("java/util/NoSuchElementException", "java/lang/IndexOutOfBoundsException") ∈ e_NN by decide +kernel)⟩, fun _ h => absurd h List.not_mem_nil⟩) (by decide) (by decide) ck_RL_79 ca_79 rfl (Or.inl ⟨3, rfl, rfl⟩) (by decide) rfl ?_
      refine g_run 12 1 rfl ?_
      exact g_iret 13 rfl rfl trivial ⟨2, rfl, hP⟩
theorem l_dialAfter (p0 : Int) (p1 : Int) (p2 : Int) (hx : M x = cO 8 fs) (ho : 100 ≤ o) (hC : Ct (e_L r0) Γ mX7_dialAfter d mc ms [vR x, vI p0, vI p1, vI p2] M n Q) (hN : ∀ r1 M' n', Q (.inl r1) M' n' → ∃ (z : Int) (g : Nat → Int64), r1 = some (vI z) ∧ i32 z ∧ M' o = cL 3 1 g ∧ ∀ M'', M'' = va_up M' o (cL 3 1 (va_up g 0 (Int64.ofInt z))) → P 0 M'' n') (hE : ∀ E M' n', Q (.inr E) M' n' → (E = "java/lang/IndexOutOfBoundsException" ∧ P 1 M' n') ∨ (E = "java/lang/IllegalArgumentException" ∧ P 2 M' n')) : Ct (e_L r0) Γ mL_dialAfter (d + 1) mc ms [vR x, vI p0, vI p1, vI p2, vR o] M n (fun r' M' n' => ∃ k : Int, r' = .inl (some (vI k)) ∧ P k M' n') := by
  refine g_startX ok_L_dialAfter (by decide) rfl ?_
  refine g_run 0 6 rfl ?_
  refine g_callV 6 rfl cv_RL_81 hx hC rfl rfl (by omega) (by omega) (by omega) (Nat.le_of_ble_eq_true rfl) (fun v9 M1 n9 h9 _ => ?_) (fun E M1 n9 h9 _ => ?_)
  · obtain ⟨z, g, rfl, hz, hg, hP⟩ := hN _ _ _ h9
    refine g_i2l 7 rfl hz ?_
    refine g_last 8 0 rfl rfl hg ho rfl (by decide) (by decide) (fun M2 hM2 => ?_)
    refine g_run 9 1 rfl ?_
    refine g_run 16 1 rfl ?_
    exact g_iret 17 rfl rfl trivial ⟨0, rfl, hP _ hM2⟩
  · rcases hE _ _ _ h9 with ⟨rfl, hP⟩ | ⟨rfl, hP⟩
    · refine gx_catch [] (0, 12, 15, 20) [(0, 12, 19, 13)] 10 5 rfl (fun z hz => absurd hz List.not_mem_nil) (by decide) (by decide) ck_RL_20 ca_20 rfl (Or.inr rfl) (by decide) rfl ?_
      refine g_run 11 1 rfl ?_
      exact g_iret 12 rfl rfl trivial ⟨1, rfl, hP⟩
    · refine gx_catch [(0, 12, 15, 20)] (0, 12, 19, 13) [] 13 5 rfl (List.forall_mem_cons.mpr ⟨⟨by decide, _, ck_RL_20, (show ("java/lang/IllegalArgumentException", "java/lang/IndexOutOfBoundsException") ∈ e_NN by decide +kernel)⟩, fun _ h => absurd h List.not_mem_nil⟩) (by decide) (by decide) ck_RL_13 ca_13 rfl (Or.inr rfl) (by decide) rfl ?_
      refine g_run 14 1 rfl ?_
      exact g_iret 15 rfl rfl trivial ⟨2, rfl, hP⟩
theorem l_hoursUntilFitting (p0 : Int) (hx : M x = cO 8 fs) (ho : 100 ≤ o) (hC : Ct (e_L r0) Γ mX7_hoursUntilFitting d mc ms [vR x, vI p0] M n Q) (hN : ∀ r1 M' n', Q (.inl r1) M' n' → ∃ (z : Int) (g : Nat → Int64), r1 = some (vI z) ∧ i32 z ∧ M' o = cL 3 1 g ∧ ∀ M'', M'' = va_up M' o (cL 3 1 (va_up g 0 (Int64.ofInt z))) → P 0 M'' n') (hE : ∀ E M' n', Q (.inr E) M' n' → (E = "java/lang/IndexOutOfBoundsException" ∧ P 1 M' n') ∨ (E = "java/util/NoSuchElementException" ∧ P 2 M' n')) : Ct (e_L r0) Γ mL_hoursUntilFitting (d + 1) mc ms [vR x, vI p0, vR o] M n (fun r' M' n' => ∃ k : Int, r' = .inl (some (vI k)) ∧ P k M' n') := by
  refine g_startX ok_L_hoursUntilFitting (by decide) rfl ?_
  refine g_run 0 4 rfl ?_
  refine g_callV 4 rfl cv_RL_84 hx hC rfl rfl (by omega) (by omega) (by omega) (Nat.le_of_ble_eq_true rfl) (fun v9 M1 n9 h9 _ => ?_) (fun E M1 n9 h9 _ => ?_)
  · obtain ⟨z, g, rfl, hz, hg, hP⟩ := hN _ _ _ h9
    refine g_i2l 5 rfl hz ?_
    refine g_last 6 0 rfl rfl hg ho rfl (by decide) (by decide) (fun M2 hM2 => ?_)
    refine g_run 7 1 rfl ?_
    refine g_run 14 1 rfl ?_
    exact g_iret 15 rfl rfl trivial ⟨0, rfl, hP _ hM2⟩
  · rcases hE _ _ _ h9 with ⟨rfl, hP⟩ | ⟨rfl, hP⟩
    · refine gx_catch [] (0, 9, 12, 20) [(0, 9, 15, 79)] 8 3 rfl (fun z hz => absurd hz List.not_mem_nil) (by decide) (by decide) ck_RL_20 ca_20 rfl (Or.inl ⟨3, rfl, rfl⟩) (by decide) rfl ?_
      refine g_run 9 1 rfl ?_
      exact g_iret 10 rfl rfl trivial ⟨1, rfl, hP⟩
    · refine gx_catch [(0, 9, 12, 20)] (0, 9, 15, 79) [] 11 3 rfl (List.forall_mem_cons.mpr ⟨⟨by decide, _, ck_RL_20, (show ("java/util/NoSuchElementException", "java/lang/IndexOutOfBoundsException") ∈ e_NN by decide +kernel)⟩, fun _ h => absurd h List.not_mem_nil⟩) (by decide) (by decide) ck_RL_79 ca_79 rfl (Or.inl ⟨3, rfl, rfl⟩) (by decide) rfl ?_
      refine g_run 12 1 rfl ?_
      exact g_iret 13 rfl rfl trivial ⟨2, rfl, hP⟩
theorem l_bakedDoor (p0 : Int) (hx : M x = cO 8 fs) (ho : 100 ≤ o) (hC : Ct (e_L r0) Γ mX7_bakedDoor d mc ms [vR x, vI p0] M n Q) (hN : ∀ r1 M' n', Q (.inl r1) M' n' → ∃ (z : Int) (g : Nat → Int64), r1 = some (vI z) ∧ i32 z ∧ M' o = cL 3 1 g ∧ ∀ M'', M'' = va_up M' o (cL 3 1 (va_up g 0 (Int64.ofInt z))) → P 0 M'' n') (hE : ∀ E M' n', Q (.inr E) M' n' → (E = "java/lang/IndexOutOfBoundsException" ∧ P 1 M' n') ∨ (E = "java/util/NoSuchElementException" ∧ P 2 M' n')) : Ct (e_L r0) Γ mL_bakedDoor (d + 1) mc ms [vR x, vI p0, vR o] M n (fun r' M' n' => ∃ k : Int, r' = .inl (some (vI k)) ∧ P k M' n') := by
  refine g_startX ok_L_bakedDoor (by decide) rfl ?_
  refine g_run 0 4 rfl ?_
  refine g_callV 4 rfl cv_RL_87 hx hC rfl rfl (by omega) (by omega) (by omega) (Nat.le_of_ble_eq_true rfl) (fun v9 M1 n9 h9 _ => ?_) (fun E M1 n9 h9 _ => ?_)
  · obtain ⟨z, g, rfl, hz, hg, hP⟩ := hN _ _ _ h9
    refine g_i2l 5 rfl hz ?_
    refine g_last 6 0 rfl rfl hg ho rfl (by decide) (by decide) (fun M2 hM2 => ?_)
    refine g_run 7 1 rfl ?_
    refine g_run 14 1 rfl ?_
    exact g_iret 15 rfl rfl trivial ⟨0, rfl, hP _ hM2⟩
  · rcases hE _ _ _ h9 with ⟨rfl, hP⟩ | ⟨rfl, hP⟩
    · refine gx_catch [] (0, 9, 12, 20) [(0, 9, 15, 79)] 8 3 rfl (fun z hz => absurd hz List.not_mem_nil) (by decide) (by decide) ck_RL_20 ca_20 rfl (Or.inl ⟨3, rfl, rfl⟩) (by decide) rfl ?_
      refine g_run 9 1 rfl ?_
      exact g_iret 10 rfl rfl trivial ⟨1, rfl, hP⟩
    · refine gx_catch [(0, 9, 12, 20)] (0, 9, 15, 79) [] 11 3 rfl (List.forall_mem_cons.mpr ⟨⟨by decide, _, ck_RL_20, (show ("java/util/NoSuchElementException", "java/lang/IndexOutOfBoundsException") ∈ e_NN by decide +kernel)⟩, fun _ h => absurd h List.not_mem_nil⟩) (by decide) (by decide) ck_RL_79 ca_79 rfl (Or.inl ⟨3, rfl, rfl⟩) (by decide) rfl ?_
      refine g_run 12 1 rfl ?_
      exact g_iret 13 rfl rfl trivial ⟨2, rfl, hP⟩
theorem l_bakingHours (p0 : Int) (hx : M x = cO 8 fs) (ho : 100 ≤ o) (hC : Ct (e_L r0) Γ mX7_bakingHours d mc ms [vR x, vI p0] M n Q) (hN : ∀ r1 M' n', Q (.inl r1) M' n' → ∃ (z : Int) (g : Nat → Int64), r1 = some (vI z) ∧ i32 z ∧ M' o = cL 3 1 g ∧ ∀ M'', M'' = va_up M' o (cL 3 1 (va_up g 0 (Int64.ofInt z))) → P 0 M'' n') (hE : ∀ E M' n', Q (.inr E) M' n' → (E = "java/lang/IndexOutOfBoundsException" ∧ P 1 M' n')) : Ct (e_L r0) Γ mL_bakingHours (d + 1) mc ms [vR x, vI p0, vR o] M n (fun r' M' n' => ∃ k : Int, r' = .inl (some (vI k)) ∧ P k M' n') := by
  refine g_startX ok_L_bakingHours (by decide) rfl ?_
  refine g_run 0 4 rfl ?_
  refine g_callV 4 rfl cv_RL_90 hx hC rfl rfl (by omega) (by omega) (by omega) (Nat.le_of_ble_eq_true rfl) (fun v9 M1 n9 h9 _ => ?_) (fun E M1 n9 h9 _ => ?_)
  · obtain ⟨z, g, rfl, hz, hg, hP⟩ := hN _ _ _ h9
    refine g_i2l 5 rfl hz ?_
    refine g_last 6 0 rfl rfl hg ho rfl (by decide) (by decide) (fun M2 hM2 => ?_)
    refine g_run 7 1 rfl ?_
    refine g_run 11 1 rfl ?_
    exact g_iret 12 rfl rfl trivial ⟨0, rfl, hP _ hM2⟩
  · rcases hE _ _ _ h9 with ⟨rfl, hP⟩
    · refine gx_catch [] (0, 9, 12, 20) [] 8 3 rfl (fun z hz => absurd hz List.not_mem_nil) (by decide) (by decide) ck_RL_20 ca_20 rfl (Or.inl ⟨3, rfl, rfl⟩) (by decide) rfl ?_
      refine g_run 9 1 rfl ?_
      exact g_iret 10 rfl rfl trivial ⟨1, rfl, hP⟩
theorem l_isBaking (p0 : Int) (hx : M x = cO 8 fs) (ho : 100 ≤ o) (hC : Ct (e_L r0) Γ mX7_isBaking d mc ms [vR x, vI p0] M n Q) (hN : ∀ r1 M' n', Q (.inl r1) M' n' → ∃ (z : Int) (g : Nat → Int64), r1 = some (vI z) ∧ (z = 0 ∨ z = 1) ∧ M' o = cL 3 1 g ∧ ∀ M'', M'' = va_up M' o (cL 3 1 (va_up g 0 (Int64.ofInt z))) → P 0 M'' n') (hE : ∀ E M' n', Q (.inr E) M' n' → (E = "java/lang/IndexOutOfBoundsException" ∧ P 1 M' n')) : Ct (e_L r0) Γ mL_isBaking (d + 1) mc ms [vR x, vI p0, vR o] M n (fun r' M' n' => ∃ k : Int, r' = .inl (some (vI k)) ∧ P k M' n') := by
  refine g_startX ok_L_isBaking (by decide) rfl ?_
  refine g_run 0 4 rfl ?_
  refine g_callV 4 rfl cv_RL_93 hx hC rfl rfl (by omega) (by omega) (by omega) (Nat.le_of_ble_eq_true rfl) (fun v9 M1 n9 h9 _ => ?_) (fun E M1 n9 h9 _ => ?_)
  · obtain ⟨z, g, rfl, hz, hg, hP⟩ := hN _ _ _ h9
    refine g_if_eq 5 14 rfl rfl (by omega) (fun c7 => ?_) (fun c7 => ?_)
    · refine g_lconst 8 rfl ?_
      rw [show Int64.ofNat ((0 : Fin 2) : Nat) = Int64.ofInt z from by rw [c7]; rfl]
      refine g_last 9 0 rfl rfl hg ho rfl (by decide) (by decide) (fun M2 hM2 => ?_)
      refine g_run 10 1 rfl ?_
      refine g_run 14 1 rfl ?_
      exact g_iret 15 rfl rfl trivial ⟨0, rfl, hP _ hM2⟩
    · refine g_lconst 6 rfl ?_
      rw [show Int64.ofNat ((1 : Fin 2) : Nat) = Int64.ofInt z from by rw [show z = 1 from by omega]; rfl]
      refine g_run 7 1 rfl ?_
      refine g_last 9 0 rfl rfl hg ho rfl (by decide) (by decide) (fun M2 hM2 => ?_)
      refine g_run 10 1 rfl ?_
      refine g_run 14 1 rfl ?_
      exact g_iret 15 rfl rfl trivial ⟨0, rfl, hP _ hM2⟩
  · rcases hE _ _ _ h9 with ⟨rfl, hP⟩
    · refine gx_catch [] (0, 16, 19, 20) [] 11 3 rfl (fun z hz => absurd hz List.not_mem_nil) (by decide) (by decide) ck_RL_20 ca_20 rfl (Or.inl ⟨3, rfl, rfl⟩) (by decide) rfl ?_
      refine g_run 12 1 rfl ?_
      exact g_iret 13 rfl rfl trivial ⟨1, rfl, hP⟩
theorem l_doorByCrumbs (p0 : Int) (hx : M x = cO 8 fs) (ho : 100 ≤ o) (hC : Ct (e_L r0) Γ mX7_doorByCrumbs d mc ms [vR x, vI p0] M n Q) (hN : ∀ r1 M' n', Q (.inl r1) M' n' → ∃ (z : Int) (g : Nat → Int64), r1 = some (vI z) ∧ i32 z ∧ M' o = cL 3 1 g ∧ ∀ M'', M'' = va_up M' o (cL 3 1 (va_up g 0 (Int64.ofInt z))) → P 0 M'' n') (hE : ∀ E M' n', Q (.inr E) M' n' → (E = "java/util/NoSuchElementException" ∧ P 1 M' n')) : Ct (e_L r0) Γ mL_doorByCrumbs (d + 1) mc ms [vR x, vI p0, vR o] M n (fun r' M' n' => ∃ k : Int, r' = .inl (some (vI k)) ∧ P k M' n') := by
  refine g_startX ok_L_doorByCrumbs (by decide) rfl ?_
  refine g_run 0 4 rfl ?_
  refine g_callV 4 rfl cv_RL_96 hx hC rfl rfl (by omega) (by omega) (by omega) (Nat.le_of_ble_eq_true rfl) (fun v9 M1 n9 h9 _ => ?_) (fun E M1 n9 h9 _ => ?_)
  · obtain ⟨z, g, rfl, hz, hg, hP⟩ := hN _ _ _ h9
    refine g_i2l 5 rfl hz ?_
    refine g_last 6 0 rfl rfl hg ho rfl (by decide) (by decide) (fun M2 hM2 => ?_)
    refine g_run 7 1 rfl ?_
    refine g_run 11 1 rfl ?_
    exact g_iret 12 rfl rfl trivial ⟨0, rfl, hP _ hM2⟩
  · rcases hE _ _ _ h9 with ⟨rfl, hP⟩
    · refine gx_catch [] (0, 9, 12, 79) [] 8 3 rfl (fun z hz => absurd hz List.not_mem_nil) (by decide) (by decide) ck_RL_79 ca_79 rfl (Or.inl ⟨3, rfl, rfl⟩) (by decide) rfl ?_
      refine g_run 9 1 rfl ?_
      exact g_iret 10 rfl rfl trivial ⟨1, rfl, hP⟩
theorem l_triedDoor (p0 : Int) (hx : M x = cO 8 fs) (ho : 100 ≤ o) (hC : Ct (e_L r0) Γ mX7_triedDoor d mc ms [vR x, vI p0] M n Q) (hN : ∀ r1 M' n', Q (.inl r1) M' n' → ∃ (z : Int) (g : Nat → Int64), r1 = some (vI z) ∧ i32 z ∧ M' o = cL 3 1 g ∧ ∀ M'', M'' = va_up M' o (cL 3 1 (va_up g 0 (Int64.ofInt z))) → P 0 M'' n') (hE : ∀ E M' n', Q (.inr E) M' n' → (E = "java/util/NoSuchElementException" ∧ P 1 M' n')) : Ct (e_L r0) Γ mL_triedDoor (d + 1) mc ms [vR x, vI p0, vR o] M n (fun r' M' n' => ∃ k : Int, r' = .inl (some (vI k)) ∧ P k M' n') := by
  refine g_startX ok_L_triedDoor (by decide) rfl ?_
  refine g_run 0 4 rfl ?_
  refine g_callV 4 rfl cv_RL_99 hx hC rfl rfl (by omega) (by omega) (by omega) (Nat.le_of_ble_eq_true rfl) (fun v9 M1 n9 h9 _ => ?_) (fun E M1 n9 h9 _ => ?_)
  · obtain ⟨z, g, rfl, hz, hg, hP⟩ := hN _ _ _ h9
    refine g_i2l 5 rfl hz ?_
    refine g_last 6 0 rfl rfl hg ho rfl (by decide) (by decide) (fun M2 hM2 => ?_)
    refine g_run 7 1 rfl ?_
    refine g_run 11 1 rfl ?_
    exact g_iret 12 rfl rfl trivial ⟨0, rfl, hP _ hM2⟩
  · rcases hE _ _ _ h9 with ⟨rfl, hP⟩
    · refine gx_catch [] (0, 9, 12, 79) [] 8 3 rfl (fun z hz => absurd hz List.not_mem_nil) (by decide) (by decide) ck_RL_79 ca_79 rfl (Or.inl ⟨3, rfl, rfl⟩) (by decide) rfl ?_
      refine g_run 9 1 rfl ?_
      exact g_iret 10 rfl rfl trivial ⟨1, rfl, hP⟩
theorem l_didOpen (p0 : Int) (hx : M x = cO 8 fs) (ho : 100 ≤ o) (hC : Ct (e_L r0) Γ mX7_didOpen d mc ms [vR x, vI p0] M n Q) (hN : ∀ r1 M' n', Q (.inl r1) M' n' → ∃ (z : Int) (g : Nat → Int64), r1 = some (vI z) ∧ (z = 0 ∨ z = 1) ∧ M' o = cL 3 1 g ∧ ∀ M'', M'' = va_up M' o (cL 3 1 (va_up g 0 (Int64.ofInt z))) → P 0 M'' n') (hE : ∀ E M' n', Q (.inr E) M' n' → (E = "java/util/NoSuchElementException" ∧ P 1 M' n')) : Ct (e_L r0) Γ mL_didOpen (d + 1) mc ms [vR x, vI p0, vR o] M n (fun r' M' n' => ∃ k : Int, r' = .inl (some (vI k)) ∧ P k M' n') := by
  refine g_startX ok_L_didOpen (by decide) rfl ?_
  refine g_run 0 4 rfl ?_
  refine g_callV 4 rfl cv_RL_102 hx hC rfl rfl (by omega) (by omega) (by omega) (Nat.le_of_ble_eq_true rfl) (fun v9 M1 n9 h9 _ => ?_) (fun E M1 n9 h9 _ => ?_)
  · obtain ⟨z, g, rfl, hz, hg, hP⟩ := hN _ _ _ h9
    refine g_if_eq 5 14 rfl rfl (by omega) (fun c7 => ?_) (fun c7 => ?_)
    · refine g_lconst 8 rfl ?_
      rw [show Int64.ofNat ((0 : Fin 2) : Nat) = Int64.ofInt z from by rw [c7]; rfl]
      refine g_last 9 0 rfl rfl hg ho rfl (by decide) (by decide) (fun M2 hM2 => ?_)
      refine g_run 10 1 rfl ?_
      refine g_run 14 1 rfl ?_
      exact g_iret 15 rfl rfl trivial ⟨0, rfl, hP _ hM2⟩
    · refine g_lconst 6 rfl ?_
      rw [show Int64.ofNat ((1 : Fin 2) : Nat) = Int64.ofInt z from by rw [show z = 1 from by omega]; rfl]
      refine g_run 7 1 rfl ?_
      refine g_last 9 0 rfl rfl hg ho rfl (by decide) (by decide) (fun M2 hM2 => ?_)
      refine g_run 10 1 rfl ?_
      refine g_run 14 1 rfl ?_
      exact g_iret 15 rfl rfl trivial ⟨0, rfl, hP _ hM2⟩
  · rcases hE _ _ _ h9 with ⟨rfl, hP⟩
    · refine gx_catch [] (0, 16, 19, 79) [] 11 3 rfl (fun z hz => absurd hz List.not_mem_nil) (by decide) (by decide) ck_RL_79 ca_79 rfl (Or.inl ⟨3, rfl, rfl⟩) (by decide) rfl ?_
      refine g_run 12 1 rfl ?_
      exact g_iret 13 rfl rfl trivial ⟨1, rfl, hP⟩
theorem l_meanCrumbs  (hx : M x = cO 8 fs) (ho : 100 ≤ o) (hC : Ct (e_L r0) Γ mX7_meanCrumbs d mc ms [vR x] M n Q) (hN : ∀ r1 M' n', Q (.inl r1) M' n' → ∃ (z : UInt64) (g : Nat → UInt64), r1 = some (vD z) ∧ M' o = cD 4 1 g ∧ ∀ M'', M'' = va_up M' o (cD 4 1 (va_up g 0 z)) → P 0 M'' n') (hE : ∀ E M' n', Q (.inr E) M' n' → (E = "java/lang/ArithmeticException" ∧ P 1 M' n')) : Ct (e_L r0) Γ mL_meanCrumbs (d + 1) mc ms [vR x, vR o] M n (fun r' M' n' => ∃ k : Int, r' = .inl (some (vI k)) ∧ P k M' n') := by
  refine g_startX ok_L_meanCrumbs (by decide) rfl ?_
  refine g_run 0 3 rfl ?_
  refine g_callV 3 rfl cv_RL_105 hx hC rfl rfl (by omega) (by omega) (by omega) (Nat.le_of_ble_eq_true rfl) (fun v9 M1 n9 h9 _ => ?_) (fun E M1 n9 h9 _ => ?_)
  · obtain ⟨z, g, rfl, hg, hP⟩ := hN _ _ _ h9
    refine g_dast 4 0 rfl rfl hg ho rfl (by decide) (by decide) (fun M2 hM2 => ?_)
    refine g_run 5 1 rfl ?_
    refine g_run 9 1 rfl ?_
    exact g_iret 10 rfl rfl trivial ⟨0, rfl, hP _ hM2⟩
  · rcases hE _ _ _ h9 with ⟨rfl, hP⟩
    · refine gx_catch [] (0, 7, 10, 109) [] 6 2 rfl (fun z hz => absurd hz List.not_mem_nil) (by decide) (by decide) ck_RL_109 ca_109 rfl (Or.inl ⟨2, rfl, rfl⟩) (by decide) rfl ?_
      refine g_run 7 1 rfl ?_
      exact g_iret 8 rfl rfl trivial ⟨1, rfl, hP⟩
theorem l_openedShare  (hx : M x = cO 8 fs) (ho : 100 ≤ o) (hC : Ct (e_L r0) Γ mX7_openedShare d mc ms [vR x] M n Q) (hN : ∀ r1 M' n', Q (.inl r1) M' n' → ∃ (z : UInt32) (g : Nat → UInt64), r1 = some (vF z) ∧ vf_n32 z ∧ M' o = cD 4 1 g ∧ ∀ M'', M'' = va_up M' o (cD 4 1 (va_up g 0 (FP.f2d z))) → P 0 M'' n') (hE : ∀ E M' n', Q (.inr E) M' n' → (E = "java/lang/ArithmeticException" ∧ P 1 M' n')) : Ct (e_L r0) Γ mL_openedShare (d + 1) mc ms [vR x, vR o] M n (fun r' M' n' => ∃ k : Int, r' = .inl (some (vI k)) ∧ P k M' n') := by
  refine g_startX ok_L_openedShare (by decide) rfl ?_
  refine g_run 0 3 rfl ?_
  refine g_callV 3 rfl cv_RL_111 hx hC rfl rfl (by omega) (by omega) (by omega) (Nat.le_of_ble_eq_true rfl) (fun v9 M1 n9 h9 _ => ?_) (fun E M1 n9 h9 _ => ?_)
  · obtain ⟨z, g, rfl, hz, hg, hP⟩ := hN _ _ _ h9
    refine g_f2d 4 rfl (f2d_n hz) ?_
    refine g_dast 5 0 rfl rfl hg ho rfl (by decide) (by decide) (fun M2 hM2 => ?_)
    refine g_run 6 1 rfl ?_
    refine g_run 10 1 rfl ?_
    exact g_iret 11 rfl rfl trivial ⟨0, rfl, hP _ hM2⟩
  · rcases hE _ _ _ h9 with ⟨rfl, hP⟩
    · refine gx_catch [] (0, 8, 11, 109) [] 7 2 rfl (fun z hz => absurd hz List.not_mem_nil) (by decide) (by decide) ck_RL_109 ca_109 rfl (Or.inl ⟨2, rfl, rfl⟩) (by decide) rfl ?_
      refine g_run 8 1 rfl ?_
      exact g_iret 9 rfl rfl trivial ⟨1, rfl, hP⟩
theorem l_renderLock (p0 : Int) (hx : M x = cO 8 fs) (ho : 100 ≤ o) (hC : Ct (e_L r0) Γ mX7_renderLock d mc ms [vR x, vI p0] M n Q) (hN : ∀ r1 M' n', Q (.inl r1) M' n' → ∃ (z : Int) (g : Nat → Int64), r1 = some (vI z) ∧ i32 z ∧ M' o = cL 3 1 g ∧ ∀ M'', M'' = va_up M' o (cL 3 1 (va_up g 0 (Int64.ofInt z))) → P 0 M'' n') (hE : ∀ E M' n', Q (.inr E) M' n' → (E = "java/lang/IndexOutOfBoundsException" ∧ P 1 M' n')) : Ct (e_L r0) Γ mL_renderLock (d + 1) mc ms [vR x, vI p0, vR o] M n (fun r' M' n' => ∃ k : Int, r' = .inl (some (vI k)) ∧ P k M' n') := by
  refine g_startX ok_L_renderLock (by decide) rfl ?_
  refine g_run 0 4 rfl ?_
  refine g_callV 4 rfl cv_RL_115 hx hC rfl rfl (by omega) (by omega) (by omega) (Nat.le_of_ble_eq_true rfl) (fun v9 M1 n9 h9 _ => ?_) (fun E M1 n9 h9 _ => ?_)
  · obtain ⟨z, g, rfl, hz, hg, hP⟩ := hN _ _ _ h9
    refine g_i2l 5 rfl hz ?_
    refine g_last 6 0 rfl rfl hg ho rfl (by decide) (by decide) (fun M2 hM2 => ?_)
    refine g_run 7 1 rfl ?_
    refine g_run 11 1 rfl ?_
    exact g_iret 12 rfl rfl trivial ⟨0, rfl, hP _ hM2⟩
  · rcases hE _ _ _ h9 with ⟨rfl, hP⟩
    · refine gx_catch [] (0, 9, 12, 20) [] 8 3 rfl (fun z hz => absurd hz List.not_mem_nil) (by decide) (by decide) ck_RL_20 ca_20 rfl (Or.inl ⟨3, rfl, rfl⟩) (by decide) rfl ?_
      refine g_run 9 1 rfl ?_
      exact g_iret 10 rfl rfl trivial ⟨1, rfl, hP⟩
theorem l_outputAt (p0 : Int) (hx : M x = cO 8 fs) (ho : 100 ≤ o) (hC : Ct (e_L r0) Γ mX7_outputAt d mc ms [vR x, vI p0] M n Q) (hN : ∀ r1 M' n', Q (.inl r1) M' n' → ∃ (z : Int) (g : Nat → Int64), r1 = some (vI z) ∧ i32 z ∧ M' o = cL 3 1 g ∧ ∀ M'', M'' = va_up M' o (cL 3 1 (va_up g 0 (Int64.ofInt z))) → P 0 M'' n') (hE : ∀ E M' n', Q (.inr E) M' n' → (E = "java/lang/IndexOutOfBoundsException" ∧ P 1 M' n')) : Ct (e_L r0) Γ mL_outputAt (d + 1) mc ms [vR x, vI p0, vR o] M n (fun r' M' n' => ∃ k : Int, r' = .inl (some (vI k)) ∧ P k M' n') := by
  refine g_startX ok_L_outputAt (by decide) rfl ?_
  refine g_run 0 4 rfl ?_
  refine g_callV 4 rfl cv_RL_118 hx hC rfl rfl (by omega) (by omega) (by omega) (Nat.le_of_ble_eq_true rfl) (fun v9 M1 n9 h9 _ => ?_) (fun E M1 n9 h9 _ => ?_)
  · obtain ⟨z, g, rfl, hz, hg, hP⟩ := hN _ _ _ h9
    refine g_i2l 5 rfl hz ?_
    refine g_last 6 0 rfl rfl hg ho rfl (by decide) (by decide) (fun M2 hM2 => ?_)
    refine g_run 7 1 rfl ?_
    refine g_run 11 1 rfl ?_
    exact g_iret 12 rfl rfl trivial ⟨0, rfl, hP _ hM2⟩
  · rcases hE _ _ _ h9 with ⟨rfl, hP⟩
    · refine gx_catch [] (0, 9, 12, 20) [] 8 3 rfl (fun z hz => absurd hz List.not_mem_nil) (by decide) (by decide) ck_RL_20 ca_20 rfl (Or.inl ⟨3, rfl, rfl⟩) (by decide) rfl ?_
      refine g_run 9 1 rfl ?_
      exact g_iret 10 rfl rfl trivial ⟨1, rfl, hP⟩
theorem l_type (p0 : Int) (hx : M x = cO 8 fs) (ho : 100 ≤ o) (hC : Ct (e_L r0) Γ mX7_type d mc ms [vR x, vI p0] M n Q) (hN : ∀ r1 M' n', Q (.inl r1) M' n' → ∃ (z : Int) (g : Nat → Int64), r1 = some (vI z) ∧ i32 z ∧ M' o = cL 3 1 g ∧ ∀ M'', M'' = va_up M' o (cL 3 1 (va_up g 0 (Int64.ofInt z))) → P 0 M'' n') (hE : ∀ E M' n', Q (.inr E) M' n' → (E = "java/lang/IllegalArgumentException" ∧ P 1 M' n') ∨ (E = "java/lang/IllegalStateException" ∧ P 2 M' n')) : Ct (e_L r0) Γ mL_type (d + 1) mc ms [vR x, vI p0, vR o] M n (fun r' M' n' => ∃ k : Int, r' = .inl (some (vI k)) ∧ P k M' n') := by
  refine g_startX ok_L_type (by decide) rfl ?_
  refine g_run 0 4 rfl ?_
  refine g_callV 4 rfl cv_RL_122 hx hC rfl rfl (by omega) (by omega) (by omega) (Nat.le_of_ble_eq_true rfl) (fun v9 M1 n9 h9 _ => ?_) (fun E M1 n9 h9 _ => ?_)
  · obtain ⟨z, g, rfl, hz, hg, hP⟩ := hN _ _ _ h9
    refine g_i2l 5 rfl hz ?_
    refine g_last 6 0 rfl rfl hg ho rfl (by decide) (by decide) (fun M2 hM2 => ?_)
    refine g_run 7 1 rfl ?_
    refine g_run 14 1 rfl ?_
    exact g_iret 15 rfl rfl trivial ⟨0, rfl, hP _ hM2⟩
  · rcases hE _ _ _ h9 with ⟨rfl, hP⟩ | ⟨rfl, hP⟩
    · refine gx_catch [] (0, 9, 12, 13) [(0, 9, 15, 15)] 8 3 rfl (fun z hz => absurd hz List.not_mem_nil) (by decide) (by decide) ck_RL_13 ca_13 rfl (Or.inl ⟨3, rfl, rfl⟩) (by decide) rfl ?_
      refine g_run 9 1 rfl ?_
      exact g_iret 10 rfl rfl trivial ⟨1, rfl, hP⟩
    · refine gx_catch [(0, 9, 12, 13)] (0, 9, 15, 15) [] 11 3 rfl (List.forall_mem_cons.mpr ⟨⟨by decide, _, ck_RL_13, (show ("java/lang/IllegalStateException", "java/lang/IllegalArgumentException") ∈ e_NN by decide +kernel)⟩, fun _ h => absurd h List.not_mem_nil⟩) (by decide) (by decide) ck_RL_15 ca_15 rfl (Or.inl ⟨3, rfl, rfl⟩) (by decide) rfl ?_
      refine g_run 12 1 rfl ?_
      exact g_iret 13 rfl rfl trivial ⟨2, rfl, hP⟩
theorem l_runScript  (hx : M x = cO 8 fs) (ho : 100 ≤ o) (hC : Ct (e_L r0) Γ mX7_runScript d mc ms [vR x] M n Q) (hN : ∀ r1 M' n', Q (.inl r1) M' n' → ∃ (z : Int) (g : Nat → Int64), r1 = some (vI z) ∧ i32 z ∧ M' o = cL 3 1 g ∧ ∀ M'', M'' = va_up M' o (cL 3 1 (va_up g 0 (Int64.ofInt z))) → P 0 M'' n') (hE : ∀ E M' n', Q (.inr E) M' n' → (E = "java/lang/IllegalArgumentException" ∧ P 1 M' n') ∨ (E = "java/lang/IllegalStateException" ∧ P 2 M' n')) : Ct (e_L r0) Γ mL_runScript (d + 1) mc ms [vR x, vR o] M n (fun r' M' n' => ∃ k : Int, r' = .inl (some (vI k)) ∧ P k M' n') := by
  refine g_startX ok_L_runScript (by decide) rfl ?_
  refine g_run 0 3 rfl ?_
  refine g_callV 3 rfl cv_RL_126 hx hC rfl rfl (by omega) (by omega) (by omega) (Nat.le_of_ble_eq_true rfl) (fun v9 M1 n9 h9 _ => ?_) (fun E M1 n9 h9 _ => ?_)
  · obtain ⟨z, g, rfl, hz, hg, hP⟩ := hN _ _ _ h9
    refine g_i2l 4 rfl hz ?_
    refine g_last 5 0 rfl rfl hg ho rfl (by decide) (by decide) (fun M2 hM2 => ?_)
    refine g_run 6 1 rfl ?_
    refine g_run 13 1 rfl ?_
    exact g_iret 14 rfl rfl trivial ⟨0, rfl, hP _ hM2⟩
  · rcases hE _ _ _ h9 with ⟨rfl, hP⟩ | ⟨rfl, hP⟩
    · refine gx_catch [] (0, 8, 11, 13) [(0, 8, 14, 15)] 7 2 rfl (fun z hz => absurd hz List.not_mem_nil) (by decide) (by decide) ck_RL_13 ca_13 rfl (Or.inl ⟨2, rfl, rfl⟩) (by decide) rfl ?_
      refine g_run 8 1 rfl ?_
      exact g_iret 9 rfl rfl trivial ⟨1, rfl, hP⟩
    · refine gx_catch [(0, 8, 11, 13)] (0, 8, 14, 15) [] 10 2 rfl (List.forall_mem_cons.mpr ⟨⟨by decide, _, ck_RL_13, (show ("java/lang/IllegalStateException", "java/lang/IllegalArgumentException") ∈ e_NN by decide +kernel)⟩, fun _ h => absurd h List.not_mem_nil⟩) (by decide) (by decide) ck_RL_15 ca_15 rfl (Or.inl ⟨2, rfl, rfl⟩) (by decide) rfl ?_
      refine g_run 11 1 rfl ?_
      exact g_iret 12 rfl rfl trivial ⟨2, rfl, hP⟩
theorem l_errorPosition  (hx : M x = cO 8 fs) (ho : 100 ≤ o) (hC : Ct (e_L r0) Γ mX7_errorPosition d mc ms [vR x] M n Q) (hN : ∀ r1 M' n', Q (.inl r1) M' n' → ∃ (z : Int) (g : Nat → Int64), r1 = some (vI z) ∧ i32 z ∧ M' o = cL 3 1 g ∧ ∀ M'', M'' = va_up M' o (cL 3 1 (va_up g 0 (Int64.ofInt z))) → P 0 M'' n') (hE : ∀ E M' n', Q (.inr E) M' n' → (E = "java/util/NoSuchElementException" ∧ P 1 M' n')) : Ct (e_L r0) Γ mL_errorPosition (d + 1) mc ms [vR x, vR o] M n (fun r' M' n' => ∃ k : Int, r' = .inl (some (vI k)) ∧ P k M' n') := by
  refine g_startX ok_L_errorPosition (by decide) rfl ?_
  refine g_run 0 3 rfl ?_
  refine g_callV 3 rfl cv_RL_130 hx hC rfl rfl (by omega) (by omega) (by omega) (Nat.le_of_ble_eq_true rfl) (fun v9 M1 n9 h9 _ => ?_) (fun E M1 n9 h9 _ => ?_)
  · obtain ⟨z, g, rfl, hz, hg, hP⟩ := hN _ _ _ h9
    refine g_i2l 4 rfl hz ?_
    refine g_last 5 0 rfl rfl hg ho rfl (by decide) (by decide) (fun M2 hM2 => ?_)
    refine g_run 6 1 rfl ?_
    refine g_run 10 1 rfl ?_
    exact g_iret 11 rfl rfl trivial ⟨0, rfl, hP _ hM2⟩
  · rcases hE _ _ _ h9 with ⟨rfl, hP⟩
    · refine gx_catch [] (0, 8, 11, 79) [] 7 2 rfl (fun z hz => absurd hz List.not_mem_nil) (by decide) (by decide) ck_RL_79 ca_79 rfl (Or.inl ⟨2, rfl, rfl⟩) (by decide) rfl ?_
      refine g_run 8 1 rfl ?_
      exact g_iret 9 rfl rfl trivial ⟨1, rfl, hP⟩
theorem l_failedCommand  (hx : M x = cO 8 fs) (ho : 100 ≤ o) (hC : Ct (e_L r0) Γ mX7_failedCommand d mc ms [vR x] M n Q) (hN : ∀ r1 M' n', Q (.inl r1) M' n' → ∃ (z : Int) (g : Nat → Int64), r1 = some (vI z) ∧ i32 z ∧ M' o = cL 3 1 g ∧ ∀ M'', M'' = va_up M' o (cL 3 1 (va_up g 0 (Int64.ofInt z))) → P 0 M'' n') (hE : ∀ E M' n', Q (.inr E) M' n' → (E = "java/util/NoSuchElementException" ∧ P 1 M' n')) : Ct (e_L r0) Γ mL_failedCommand (d + 1) mc ms [vR x, vR o] M n (fun r' M' n' => ∃ k : Int, r' = .inl (some (vI k)) ∧ P k M' n') := by
  refine g_startX ok_L_failedCommand (by decide) rfl ?_
  refine g_run 0 3 rfl ?_
  refine g_callV 3 rfl cv_RL_133 hx hC rfl rfl (by omega) (by omega) (by omega) (Nat.le_of_ble_eq_true rfl) (fun v9 M1 n9 h9 _ => ?_) (fun E M1 n9 h9 _ => ?_)
  · obtain ⟨z, g, rfl, hz, hg, hP⟩ := hN _ _ _ h9
    refine g_i2l 4 rfl hz ?_
    refine g_last 5 0 rfl rfl hg ho rfl (by decide) (by decide) (fun M2 hM2 => ?_)
    refine g_run 6 1 rfl ?_
    refine g_run 10 1 rfl ?_
    exact g_iret 11 rfl rfl trivial ⟨0, rfl, hP _ hM2⟩
  · rcases hE _ _ _ h9 with ⟨rfl, hP⟩
    · refine gx_catch [] (0, 8, 11, 79) [] 7 2 rfl (fun z hz => absurd hz List.not_mem_nil) (by decide) (by decide) ck_RL_79 ca_79 rfl (Or.inl ⟨2, rfl, rfl⟩) (by decide) rfl ?_
      refine g_run 8 1 rfl ?_
      exact g_iret 9 rfl rfl trivial ⟨1, rfl, hP⟩
theorem l_undo  (hx : M x = cO 8 fs) (ho : 100 ≤ o) (hC : Ct (e_L r0) Γ mX7_undo d mc ms [vR x] M n Q) (hN : ∀ r1 M' n', Q (.inl r1) M' n' → ∃ (z : Int) (g : Nat → Int64), r1 = some (vI z) ∧ i32 z ∧ M' o = cL 3 1 g ∧ ∀ M'', M'' = va_up M' o (cL 3 1 (va_up g 0 (Int64.ofInt z))) → P 0 M'' n') (hE : ∀ E M' n', Q (.inr E) M' n' → (E = "java/util/NoSuchElementException" ∧ P 1 M' n')) : Ct (e_L r0) Γ mL_undo (d + 1) mc ms [vR x, vR o] M n (fun r' M' n' => ∃ k : Int, r' = .inl (some (vI k)) ∧ P k M' n') := by
  refine g_startX ok_L_undo (by decide) rfl ?_
  refine g_run 0 3 rfl ?_
  refine g_callV 3 rfl cv_RL_136 hx hC rfl rfl (by omega) (by omega) (by omega) (Nat.le_of_ble_eq_true rfl) (fun v9 M1 n9 h9 _ => ?_) (fun E M1 n9 h9 _ => ?_)
  · obtain ⟨z, g, rfl, hz, hg, hP⟩ := hN _ _ _ h9
    refine g_i2l 4 rfl hz ?_
    refine g_last 5 0 rfl rfl hg ho rfl (by decide) (by decide) (fun M2 hM2 => ?_)
    refine g_run 6 1 rfl ?_
    refine g_run 10 1 rfl ?_
    exact g_iret 11 rfl rfl trivial ⟨0, rfl, hP _ hM2⟩
  · rcases hE _ _ _ h9 with ⟨rfl, hP⟩
    · refine gx_catch [] (0, 8, 11, 79) [] 7 2 rfl (fun z hz => absurd hz List.not_mem_nil) (by decide) (by decide) ck_RL_79 ca_79 rfl (Or.inl ⟨2, rfl, rfl⟩) (by decide) rfl ?_
      refine g_run 8 1 rfl ?_
      exact g_iret 9 rfl rfl trivial ⟨1, rfl, hP⟩
theorem l_restore  (hx : M x = cO 8 fs) (ho : 100 ≤ o) (hC : Ct (e_L r0) Γ mX7_restore d mc ms [vR x] M n Q) (hN : ∀ r1 M' n', Q (.inl r1) M' n' → ∃ (z : Int) (g : Nat → Int64), r1 = some (vI z) ∧ i32 z ∧ M' o = cL 3 1 g ∧ ∀ M'', M'' = va_up M' o (cL 3 1 (va_up g 0 (Int64.ofInt z))) → P 0 M'' n') (hE : ∀ E M' n', Q (.inr E) M' n' → (E = "java/lang/IllegalStateException" ∧ P 1 M' n')) : Ct (e_L r0) Γ mL_restore (d + 1) mc ms [vR x, vR o] M n (fun r' M' n' => ∃ k : Int, r' = .inl (some (vI k)) ∧ P k M' n') := by
  refine g_startX ok_L_restore (by decide) rfl ?_
  refine g_run 0 3 rfl ?_
  refine g_callV 3 rfl cv_RL_139 hx hC rfl rfl (by omega) (by omega) (by omega) (Nat.le_of_ble_eq_true rfl) (fun v9 M1 n9 h9 _ => ?_) (fun E M1 n9 h9 _ => ?_)
  · obtain ⟨z, g, rfl, hz, hg, hP⟩ := hN _ _ _ h9
    refine g_i2l 4 rfl hz ?_
    refine g_last 5 0 rfl rfl hg ho rfl (by decide) (by decide) (fun M2 hM2 => ?_)
    refine g_run 6 1 rfl ?_
    refine g_run 10 1 rfl ?_
    exact g_iret 11 rfl rfl trivial ⟨0, rfl, hP _ hM2⟩
  · rcases hE _ _ _ h9 with ⟨rfl, hP⟩
    · refine gx_catch [] (0, 8, 11, 15) [] 7 2 rfl (fun z hz => absurd hz List.not_mem_nil) (by decide) (by decide) ck_RL_15 ca_15 rfl (Or.inl ⟨2, rfl, rfl⟩) (by decide) rfl ?_
      refine g_run 8 1 rfl ?_
      exact g_iret 9 rfl rfl trivial ⟨1, rfl, hP⟩
end LH
