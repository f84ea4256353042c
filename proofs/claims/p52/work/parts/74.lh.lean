/-! the law's helpers: a call, and what is caught (wip/p52/gen/c_lh52.py prints this part) -/
theorem ck_RL_15 : Cond.classLink RL 15 "java/lang/IllegalArgumentException" ∈ e_WS := (e_w1 493 (by decide +kernel) rfl)
theorem ck_RL_18 : Cond.classLink RL 18 "java/lang/IllegalStateException" ∈ e_WS := (e_w1 494 (by decide +kernel) rfl)
theorem ck_RL_24 : Cond.classLink RL 24 "java/lang/IndexOutOfBoundsException" ∈ e_WS := (e_w1 490 (by decide +kernel) rfl)
theorem ck_RL_31 : Cond.classLink RL 31 "java/lang/UnsupportedOperationException" ∈ e_WS := (e_w1 713 (by decide +kernel) rfl)
theorem ck_RL_50 : Cond.classLink RL 50 "java/util/NoSuchElementException" ∈ e_WS := (e_w1 732 (by decide +kernel) rfl)
theorem ca_15 {r0 : Option Nat} : Cond.castable "java/lang/IllegalArgumentException" "java/lang/IllegalArgumentException" ∈ (e_L r0).2.2.1 := (show Cond.castable "java/lang/IllegalArgumentException" "java/lang/IllegalArgumentException" ∈ e_WN by decide +kernel)
theorem ca_18 {r0 : Option Nat} : Cond.castable "java/lang/IllegalStateException" "java/lang/IllegalStateException" ∈ (e_L r0).2.2.1 := (show Cond.castable "java/lang/IllegalStateException" "java/lang/IllegalStateException" ∈ e_WN by decide +kernel)
theorem ca_24 {r0 : Option Nat} : Cond.castable "java/lang/IndexOutOfBoundsException" "java/lang/IndexOutOfBoundsException" ∈ (e_L r0).2.2.1 := (show Cond.castable "java/lang/IndexOutOfBoundsException" "java/lang/IndexOutOfBoundsException" ∈ e_WN by decide +kernel)
theorem ca_31 {r0 : Option Nat} : Cond.castable "java/lang/UnsupportedOperationException" "java/lang/UnsupportedOperationException" ∈ (e_L r0).2.2.1 := (show Cond.castable "java/lang/UnsupportedOperationException" "java/lang/UnsupportedOperationException" ∈ e_WN by decide +kernel)
theorem ca_50 {r0 : Option Nat} : Cond.castable "java/util/NoSuchElementException" "java/util/NoSuchElementException" ∈ (e_L r0).2.2.1 := (show Cond.castable "java/util/NoSuchElementException" "java/util/NoSuchElementException" ∈ e_WN by decide +kernel)
section LH
variable {r0 : Option Nat} {Γ : Cx} {M : Mem} {n : Nat} {fs : List aV} {mc ms d mc2 ms2 d2 : Nat} {Q : Rv → Mem → Nat → Prop} {P : Int → Mem → Nat → Prop}
theorem w_addDoor (p0 : Int) (p1 : Int) (p2 : Int) (hx : M 100 = cO 8 fs) (hC : Ct (e_L r0) Γ mX7_addDoor d mc ms [vR 100, vI p0, vI p1, vI p2] M n Q) (hd : d + 1 ≤ d2) (hmc : mc ≤ mc2) (hms : ms ≤ ms2) (hN : ∀ r1 M' n', Q (.inl r1) M' n' → ∃ z : Int, r1 = some (vI z) ∧ P z M' n') (hE : ∀ E M' n', Q (.inr E) M' n' → (E = "java/lang/IllegalArgumentException" ∧ P (-900001) M' n') ∨ (E = "java/lang/IllegalStateException" ∧ P (-900002) M' n')) : Ct (e_L r0) Γ mL_addDoor d2 mc2 ms2 [vR 100, vI p0, vI p1, vI p2] M n (fun r' M' n' => ∃ z : Int, r' = .inl (some (vI z)) ∧ P z M' n') := by
  refine g_startX ok_L_addDoor (by decide) rfl ?_
  refine g_run 0 4 rfl ?_
  refine g_callV 4 rfl cv_RL_9 hx hC rfl rfl hd (by omega) (by omega) (Nat.le_of_ble_eq_true rfl) (fun v9 M1 n9 h9 _ => ?_) (fun E M1 n9 h9 _ => ?_)
  · obtain ⟨z, rfl, hP⟩ := hN _ _ _ h9
    exact g_iret 5 rfl rfl trivial ⟨z, rfl, hP⟩
  · rcases hE _ _ _ h9 with ⟨rfl, hP⟩ | ⟨rfl, hP⟩
    · refine gx_catch [] (0, 7, 8, 15) [(0, 7, 13, 18)] 6 4 rfl (fun z hz => absurd hz List.not_mem_nil) (by decide) (by decide) ck_RL_15 ca_15 rfl (Or.inr rfl) (by decide) rfl ?_
      refine g_ldcI 7 rfl lc_RL_17 ?_
      exact g_iret 8 rfl rfl trivial ⟨-900001, rfl, hP⟩
    · refine gx_catch [(0, 7, 8, 15)] (0, 7, 13, 18) [] 9 4 rfl (List.forall_mem_cons.mpr ⟨⟨by decide, _, ck_RL_15, (show ("java/lang/IllegalStateException", "java/lang/IllegalArgumentException") ∈ e_NN by decide +kernel)⟩, fun _ h => absurd h List.not_mem_nil⟩) (by decide) (by decide) ck_RL_18 ca_18 rfl (Or.inr rfl) (by decide) rfl ?_
      refine g_ldcI 10 rfl lc_RL_20 ?_
      exact g_iret 11 rfl rfl trivial ⟨-900002, rfl, hP⟩
theorem w_turn (p0 : Int) (p1 : Int) (p2 : Int) (hx : M 100 = cO 8 fs) (hC : Ct (e_L r0) Γ mX7_turn d mc ms [vR 100, vI p0, vI p1, vI p2] M n Q) (hd : d + 1 ≤ d2) (hmc : mc ≤ mc2) (hms : ms ≤ ms2) (hN : ∀ r1 M' n', Q (.inl r1) M' n' → ∃ z : Int, r1 = some (vI z) ∧ P z M' n') (hE : ∀ E M' n', Q (.inr E) M' n' → (E = "java/lang/IndexOutOfBoundsException" ∧ P (-900001) M' n') ∨ (E = "java/lang/IllegalArgumentException" ∧ P (-900002) M' n') ∨ (E = "java/lang/IllegalStateException" ∧ P (-900003) M' n')) : Ct (e_L r0) Γ mL_turn d2 mc2 ms2 [vR 100, vI p0, vI p1, vI p2] M n (fun r' M' n' => ∃ z : Int, r' = .inl (some (vI z)) ∧ P z M' n') := by
  refine g_startX ok_L_turn (by decide) rfl ?_
  refine g_run 0 4 rfl ?_
  refine g_callV 4 rfl cv_RL_21 hx hC rfl rfl hd (by omega) (by omega) (Nat.le_of_ble_eq_true rfl) (fun v9 M1 n9 h9 _ => ?_) (fun E M1 n9 h9 _ => ?_)
  · obtain ⟨z, rfl, hP⟩ := hN _ _ _ h9
    exact g_iret 5 rfl rfl trivial ⟨z, rfl, hP⟩
  · rcases hE _ _ _ h9 with ⟨rfl, hP⟩ | ⟨rfl, hP⟩ | ⟨rfl, hP⟩
    · refine gx_catch [] (0, 7, 8, 24) [(0, 7, 13, 15), (0, 7, 18, 18)] 6 4 rfl (fun z hz => absurd hz List.not_mem_nil) (by decide) (by decide) ck_RL_24 ca_24 rfl (Or.inr rfl) (by decide) rfl ?_
      refine g_ldcI 7 rfl lc_RL_17 ?_
      exact g_iret 8 rfl rfl trivial ⟨-900001, rfl, hP⟩
    · refine gx_catch [(0, 7, 8, 24)] (0, 7, 13, 15) [(0, 7, 18, 18)] 9 4 rfl (List.forall_mem_cons.mpr ⟨⟨by decide, _, ck_RL_24, (show ("java/lang/IllegalArgumentException", "java/lang/IndexOutOfBoundsException") ∈ e_NN by decide +kernel)⟩, fun _ h => absurd h List.not_mem_nil⟩) (by decide) (by decide) ck_RL_15 ca_15 rfl (Or.inr rfl) (by decide) rfl ?_
      refine g_ldcI 10 rfl lc_RL_20 ?_
      exact g_iret 11 rfl rfl trivial ⟨-900002, rfl, hP⟩
    · refine gx_catch [(0, 7, 8, 24), (0, 7, 13, 15)] (0, 7, 18, 18) [] 12 4 rfl (List.forall_mem_cons.mpr ⟨⟨by decide, _, ck_RL_24, (show ("java/lang/IllegalStateException", "java/lang/IndexOutOfBoundsException") ∈ e_NN by decide +kernel)⟩, List.forall_mem_cons.mpr ⟨⟨by decide, _, ck_RL_15, (show ("java/lang/IllegalStateException", "java/lang/IllegalArgumentException") ∈ e_NN by decide +kernel)⟩, fun _ h => absurd h List.not_mem_nil⟩⟩) (by decide) (by decide) ck_RL_18 ca_18 rfl (Or.inr rfl) (by decide) rfl ?_
      refine g_ldcI 13 rfl lc_RL_26 ?_
      exact g_iret 14 rfl rfl trivial ⟨-900003, rfl, hP⟩
theorem w_shut (p0 : Int) (hx : M 100 = cO 8 fs) (hC : Ct (e_L r0) Γ mX7_shut d mc ms [vR 100, vI p0] M n Q) (hd : d + 1 ≤ d2) (hmc : mc ≤ mc2) (hms : ms ≤ ms2) (hN : ∀ r1 M' n', Q (.inl r1) M' n' → ∃ z : Int, r1 = some (vI z) ∧ P z M' n') (hE : ∀ E M' n', Q (.inr E) M' n' → (E = "java/lang/IndexOutOfBoundsException" ∧ P (-900001) M' n') ∨ (E = "java/lang/IllegalStateException" ∧ P (-900002) M' n') ∨ (E = "java/lang/UnsupportedOperationException" ∧ P (-900003) M' n')) : Ct (e_L r0) Γ mL_shut d2 mc2 ms2 [vR 100, vI p0] M n (fun r' M' n' => ∃ z : Int, r' = .inl (some (vI z)) ∧ P z M' n') := by
  refine g_startX ok_L_shut (by decide) rfl ?_
  refine g_run 0 2 rfl ?_
  refine g_callV 2 rfl cv_RL_27 hx hC rfl rfl hd (by omega) (by omega) (Nat.le_of_ble_eq_true rfl) (fun v9 M1 n9 h9 _ => ?_) (fun E M1 n9 h9 _ => ?_)
  · obtain ⟨z, rfl, hP⟩ := hN _ _ _ h9
    exact g_iret 3 rfl rfl trivial ⟨z, rfl, hP⟩
  · rcases hE _ _ _ h9 with ⟨rfl, hP⟩ | ⟨rfl, hP⟩ | ⟨rfl, hP⟩
    · refine gx_catch [] (0, 5, 6, 24) [(0, 5, 10, 18), (0, 5, 14, 31)] 4 2 rfl (fun z hz => absurd hz List.not_mem_nil) (by decide) (by decide) ck_RL_24 ca_24 rfl (Or.inl ⟨2, rfl, rfl⟩) (by decide) rfl ?_
      refine g_ldcI 5 rfl lc_RL_17 ?_
      exact g_iret 6 rfl rfl trivial ⟨-900001, rfl, hP⟩
    · refine gx_catch [(0, 5, 6, 24)] (0, 5, 10, 18) [(0, 5, 14, 31)] 7 2 rfl (List.forall_mem_cons.mpr ⟨⟨by decide, _, ck_RL_24, (show ("java/lang/IllegalStateException", "java/lang/IndexOutOfBoundsException") ∈ e_NN by decide +kernel)⟩, fun _ h => absurd h List.not_mem_nil⟩) (by decide) (by decide) ck_RL_18 ca_18 rfl (Or.inl ⟨2, rfl, rfl⟩) (by decide) rfl ?_
      refine g_ldcI 8 rfl lc_RL_20 ?_
      exact g_iret 9 rfl rfl trivial ⟨-900002, rfl, hP⟩
    · refine gx_catch [(0, 5, 6, 24), (0, 5, 10, 18)] (0, 5, 14, 31) [] 10 2 rfl (List.forall_mem_cons.mpr ⟨⟨by decide, _, ck_RL_24, (show ("java/lang/UnsupportedOperationException", "java/lang/IndexOutOfBoundsException") ∈ e_NN by decide +kernel)⟩, List.forall_mem_cons.mpr ⟨⟨by decide, _, ck_RL_18, (show ("java/lang/UnsupportedOperationException", "java/lang/IllegalStateException") ∈ e_NN by decide +kernel)⟩, fun _ h => absurd h List.not_mem_nil⟩⟩) (by decide) (by decide) ck_RL_31 ca_31 rfl (Or.inl ⟨2, rfl, rfl⟩) (by decide) rfl ?_
      refine g_ldcI 11 rfl lc_RL_26 ?_
      exact g_iret 12 rfl rfl trivial ⟨-900003, rfl, hP⟩
theorem w_setCombination (p0 : Int) (p1 : Int) (p2 : Int) (p3 : Int) (hx : M 100 = cO 8 fs) (hC : Ct (e_L r0) Γ mX7_setCombination d mc ms [vR 100, vI p0, vI p1, vI p2, vI p3] M n Q) (hd : d + 1 ≤ d2) (hmc : mc ≤ mc2) (hms : ms ≤ ms2) (hN : ∀ r1 M' n', Q (.inl r1) M' n' → ∃ z : Int, r1 = some (vI z) ∧ P z M' n') (hE : ∀ E M' n', Q (.inr E) M' n' → (E = "java/lang/IndexOutOfBoundsException" ∧ P (-900001) M' n') ∨ (E = "java/lang/IllegalArgumentException" ∧ P (-900002) M' n') ∨ (E = "java/lang/IllegalStateException" ∧ P (-900003) M' n')) : Ct (e_L r0) Γ mL_setCombination d2 mc2 ms2 [vR 100, vI p0, vI p1, vI p2, vI p3] M n (fun r' M' n' => ∃ z : Int, r' = .inl (some (vI z)) ∧ P z M' n') := by
  refine g_startX ok_L_setCombination (by decide) rfl ?_
  refine g_run 0 5 rfl ?_
  refine g_callV 5 rfl cv_RL_33 hx hC rfl rfl hd (by omega) (by omega) (Nat.le_of_ble_eq_true rfl) (fun v9 M1 n9 h9 _ => ?_) (fun E M1 n9 h9 _ => ?_)
  · obtain ⟨z, rfl, hP⟩ := hN _ _ _ h9
    exact g_iret 6 rfl rfl trivial ⟨z, rfl, hP⟩
  · rcases hE _ _ _ h9 with ⟨rfl, hP⟩ | ⟨rfl, hP⟩ | ⟨rfl, hP⟩
    · refine gx_catch [] (0, 9, 10, 24) [(0, 9, 15, 15), (0, 9, 20, 18)] 7 5 rfl (fun z hz => absurd hz List.not_mem_nil) (by decide) (by decide) ck_RL_24 ca_24 rfl (Or.inr rfl) (by decide) rfl ?_
      refine g_ldcI 8 rfl lc_RL_17 ?_
      exact g_iret 9 rfl rfl trivial ⟨-900001, rfl, hP⟩
    · refine gx_catch [(0, 9, 10, 24)] (0, 9, 15, 15) [(0, 9, 20, 18)] 10 5 rfl (List.forall_mem_cons.mpr ⟨⟨by decide, _, ck_RL_24, (show ("java/lang/IllegalArgumentException", "java/lang/IndexOutOfBoundsException") ∈ e_NN by decide +kernel)⟩, fun _ h => absurd h List.not_mem_nil⟩) (by decide) (by decide) ck_RL_15 ca_15 rfl (Or.inr rfl) (by decide) rfl ?_
      refine g_ldcI 11 rfl lc_RL_20 ?_
      exact g_iret 12 rfl rfl trivial ⟨-900002, rfl, hP⟩
    · refine gx_catch [(0, 9, 10, 24), (0, 9, 15, 15)] (0, 9, 20, 18) [] 13 5 rfl (List.forall_mem_cons.mpr ⟨⟨by decide, _, ck_RL_24, (show ("java/lang/IllegalStateException", "java/lang/IndexOutOfBoundsException") ∈ e_NN by decide +kernel)⟩, List.forall_mem_cons.mpr ⟨⟨by decide, _, ck_RL_15, (show ("java/lang/IllegalStateException", "java/lang/IllegalArgumentException") ∈ e_NN by decide +kernel)⟩, fun _ h => absurd h List.not_mem_nil⟩⟩) (by decide) (by decide) ck_RL_18 ca_18 rfl (Or.inr rfl) (by decide) rfl ?_
      refine g_ldcI 14 rfl lc_RL_26 ?_
      exact g_iret 15 rfl rfl trivial ⟨-900003, rfl, hP⟩
theorem w_setDamp (p0 : Int) (hx : M 100 = cO 8 fs) (hC : Ct (e_L r0) Γ mX7_setDamp d mc ms [vR 100, vI p0] M n Q) (hd : d + 1 ≤ d2) (hmc : mc ≤ mc2) (hms : ms ≤ ms2) (hN : ∀ r1 M' n', Q (.inl r1) M' n' → ∃ z : Int, r1 = some (vI z) ∧ P z M' n') (hE : ∀ E M' n', Q (.inr E) M' n' → (E = "java/lang/IllegalArgumentException" ∧ P (-900001) M' n')) : Ct (e_L r0) Γ mL_setDamp d2 mc2 ms2 [vR 100, vI p0] M n (fun r' M' n' => ∃ z : Int, r' = .inl (some (vI z)) ∧ P z M' n') := by
  refine g_startX ok_L_setDamp (by decide) rfl ?_
  refine g_run 0 2 rfl ?_
  refine g_callV 2 rfl cv_RL_37 hx hC rfl rfl hd (by omega) (by omega) (Nat.le_of_ble_eq_true rfl) (fun v9 M1 n9 h9 _ => ?_) (fun E M1 n9 h9 _ => ?_)
  · obtain ⟨z, rfl, hP⟩ := hN _ _ _ h9
    exact g_iret 3 rfl rfl trivial ⟨z, rfl, hP⟩
  · rcases hE _ _ _ h9 with ⟨rfl, hP⟩
    · refine gx_catch [] (0, 5, 6, 15) [] 4 2 rfl (fun z hz => absurd hz List.not_mem_nil) (by decide) (by decide) ck_RL_15 ca_15 rfl (Or.inl ⟨2, rfl, rfl⟩) (by decide) rfl ?_
      refine g_ldcI 5 rfl lc_RL_17 ?_
      exact g_iret 6 rfl rfl trivial ⟨-900001, rfl, hP⟩
theorem w_bake (p0 : Int) (p1 : Int) (hx : M 100 = cO 8 fs) (hC : Ct (e_L r0) Γ mX7_bake d mc ms [vR 100, vI p0, vI p1] M n Q) (hd : d + 1 ≤ d2) (hmc : mc ≤ mc2) (hms : ms ≤ ms2) (hN : ∀ r1 M' n', Q (.inl r1) M' n' → ∃ z : Int, r1 = some (vI z) ∧ P z M' n') (hE : ∀ E M' n', Q (.inr E) M' n' → (E = "java/lang/IndexOutOfBoundsException" ∧ P (-900001) M' n') ∨ (E = "java/lang/IllegalStateException" ∧ P (-900002) M' n') ∨ (E = "java/lang/UnsupportedOperationException" ∧ P (-900003) M' n')) : Ct (e_L r0) Γ mL_bake d2 mc2 ms2 [vR 100, vI p0, vI p1] M n (fun r' M' n' => ∃ z : Int, r' = .inl (some (vI z)) ∧ P z M' n') := by
  refine g_startX ok_L_bake (by decide) rfl ?_
  refine g_run 0 3 rfl ?_
  refine g_callV 3 rfl cv_RL_40 hx hC rfl rfl hd (by omega) (by omega) (Nat.le_of_ble_eq_true rfl) (fun v9 M1 n9 h9 _ => ?_) (fun E M1 n9 h9 _ => ?_)
  · obtain ⟨z, rfl, hP⟩ := hN _ _ _ h9
    exact g_iret 4 rfl rfl trivial ⟨z, rfl, hP⟩
  · rcases hE _ _ _ h9 with ⟨rfl, hP⟩ | ⟨rfl, hP⟩ | ⟨rfl, hP⟩
    · refine gx_catch [] (0, 6, 7, 24) [(0, 6, 11, 18), (0, 6, 15, 31)] 5 3 rfl (fun z hz => absurd hz List.not_mem_nil) (by decide) (by decide) ck_RL_24 ca_24 rfl (Or.inl ⟨3, rfl, rfl⟩) (by decide) rfl ?_
      refine g_ldcI 6 rfl lc_RL_17 ?_
      exact g_iret 7 rfl rfl trivial ⟨-900001, rfl, hP⟩
    · refine gx_catch [(0, 6, 7, 24)] (0, 6, 11, 18) [(0, 6, 15, 31)] 8 3 rfl (List.forall_mem_cons.mpr ⟨⟨by decide, _, ck_RL_24, (show ("java/lang/IllegalStateException", "java/lang/IndexOutOfBoundsException") ∈ e_NN by decide +kernel)⟩, fun _ h => absurd h List.not_mem_nil⟩) (by decide) (by decide) ck_RL_18 ca_18 rfl (Or.inl ⟨3, rfl, rfl⟩) (by decide) rfl ?_
      refine g_ldcI 9 rfl lc_RL_20 ?_
      exact g_iret 10 rfl rfl trivial ⟨-900002, rfl, hP⟩
    · refine gx_catch [(0, 6, 7, 24), (0, 6, 11, 18)] (0, 6, 15, 31) [] 11 3 rfl (List.forall_mem_cons.mpr ⟨⟨by decide, _, ck_RL_24, (show ("java/lang/UnsupportedOperationException", "java/lang/IndexOutOfBoundsException") ∈ e_NN by decide +kernel)⟩, List.forall_mem_cons.mpr ⟨⟨by decide, _, ck_RL_18, (show ("java/lang/UnsupportedOperationException", "java/lang/IllegalStateException") ∈ e_NN by decide +kernel)⟩, fun _ h => absurd h List.not_mem_nil⟩⟩) (by decide) (by decide) ck_RL_31 ca_31 rfl (Or.inl ⟨3, rfl, rfl⟩) (by decide) rfl ?_
      refine g_ldcI 12 rfl lc_RL_26 ?_
      exact g_iret 13 rfl rfl trivial ⟨-900003, rfl, hP⟩
theorem w_passHours (p0 : Int) (hx : M 100 = cO 8 fs) (hC : Ct (e_L r0) Γ mX7_passHours d mc ms [vR 100, vI p0] M n Q) (hd : d + 1 ≤ d2) (hmc : mc ≤ mc2) (hms : ms ≤ ms2) (hN : ∀ r1 M' n', Q (.inl r1) M' n' → ∃ z : Int, r1 = some (vI z) ∧ P z M' n') (hE : ∀ E M' n', Q (.inr E) M' n' → (E = "java/lang/IllegalArgumentException" ∧ P (-900001) M' n')) : Ct (e_L r0) Γ mL_passHours d2 mc2 ms2 [vR 100, vI p0] M n (fun r' M' n' => ∃ z : Int, r' = .inl (some (vI z)) ∧ P z M' n') := by
  refine g_startX ok_L_passHours (by decide) rfl ?_
  refine g_run 0 2 rfl ?_
  refine g_callV 2 rfl cv_RL_44 hx hC rfl rfl hd (by omega) (by omega) (Nat.le_of_ble_eq_true rfl) (fun v9 M1 n9 h9 _ => ?_) (fun E M1 n9 h9 _ => ?_)
  · obtain ⟨z, rfl, hP⟩ := hN _ _ _ h9
    exact g_iret 3 rfl rfl trivial ⟨z, rfl, hP⟩
  · rcases hE _ _ _ h9 with ⟨rfl, hP⟩
    · refine gx_catch [] (0, 5, 6, 15) [] 4 2 rfl (fun z hz => absurd hz List.not_mem_nil) (by decide) (by decide) ck_RL_15 ca_15 rfl (Or.inl ⟨2, rfl, rfl⟩) (by decide) rfl ?_
      refine g_ldcI 5 rfl lc_RL_17 ?_
      exact g_iret 6 rfl rfl trivial ⟨-900001, rfl, hP⟩
theorem w_triesUntilBroken (p0 : Int) (hx : M 100 = cO 8 fs) (hC : Ct (e_L r0) Γ mX7_triesUntilBroken d mc ms [vR 100, vI p0] M n Q) (hd : d + 1 ≤ d2) (hmc : mc ≤ mc2) (hms : ms ≤ ms2) (hN : ∀ r1 M' n', Q (.inl r1) M' n' → ∃ z : Int, r1 = some (vI z) ∧ P z M' n') (hE : ∀ E M' n', Q (.inr E) M' n' → (E = "java/lang/IndexOutOfBoundsException" ∧ P (-900001) M' n') ∨ (E = "java/util/NoSuchElementException" ∧ P (-900002) M' n')) : Ct (e_L r0) Γ mL_triesUntilBroken d2 mc2 ms2 [vR 100, vI p0] M n (fun r' M' n' => ∃ z : Int, r' = .inl (some (vI z)) ∧ P z M' n') := by
  refine g_startX ok_L_triesUntilBroken (by decide) rfl ?_
  refine g_run 0 2 rfl ?_
  refine g_callV 2 rfl cv_RL_47 hx hC rfl rfl hd (by omega) (by omega) (Nat.le_of_ble_eq_true rfl) (fun v9 M1 n9 h9 _ => ?_) (fun E M1 n9 h9 _ => ?_)
  · obtain ⟨z, rfl, hP⟩ := hN _ _ _ h9
    exact g_iret 3 rfl rfl trivial ⟨z, rfl, hP⟩
  · rcases hE _ _ _ h9 with ⟨rfl, hP⟩ | ⟨rfl, hP⟩
    · refine gx_catch [] (0, 5, 6, 24) [(0, 5, 10, 50)] 4 2 rfl (fun z hz => absurd hz List.not_mem_nil) (by decide) (by decide) ck_RL_24 ca_24 rfl (Or.inl ⟨2, rfl, rfl⟩) (by decide) rfl ?_
      refine g_ldcI 5 rfl lc_RL_17 ?_
      exact g_iret 6 rfl rfl trivial ⟨-900001, rfl, hP⟩
    · refine gx_catch [(0, 5, 6, 24)] (0, 5, 10, 50) [] 7 2 rfl (List.forall_mem_cons.mpr ⟨⟨by decide, _, ck_RL_24, (show ("java/util/NoSuchElementException", "java/lang/IndexOutOfBoundsException") ∈ e_NN by decide +kernel)⟩, fun _ h => absurd h List.not_mem_nil⟩) (by decide) (by decide) ck_RL_50 ca_50 rfl (Or.inl ⟨2, rfl, rfl⟩) (by decide) rfl ?_
      refine g_ldcI 8 rfl lc_RL_20 ?_
      exact g_iret 9 rfl rfl trivial ⟨-900002, rfl, hP⟩
theorem w_dialAfter (p0 : Int) (p1 : Int) (p2 : Int) (hx : M 100 = cO 8 fs) (hC : Ct (e_L r0) Γ mX7_dialAfter d mc ms [vR 100, vI p0, vI p1, vI p2] M n Q) (hd : d + 1 ≤ d2) (hmc : mc ≤ mc2) (hms : ms ≤ ms2) (hN : ∀ r1 M' n', Q (.inl r1) M' n' → ∃ z : Int, r1 = some (vI z) ∧ P z M' n') (hE : ∀ E M' n', Q (.inr E) M' n' → (E = "java/lang/IndexOutOfBoundsException" ∧ P (-900001) M' n') ∨ (E = "java/lang/IllegalArgumentException" ∧ P (-900002) M' n')) : Ct (e_L r0) Γ mL_dialAfter d2 mc2 ms2 [vR 100, vI p0, vI p1, vI p2] M n (fun r' M' n' => ∃ z : Int, r' = .inl (some (vI z)) ∧ P z M' n') := by
  refine g_startX ok_L_dialAfter (by decide) rfl ?_
  refine g_run 0 4 rfl ?_
  refine g_callV 4 rfl cv_RL_52 hx hC rfl rfl hd (by omega) (by omega) (Nat.le_of_ble_eq_true rfl) (fun v9 M1 n9 h9 _ => ?_) (fun E M1 n9 h9 _ => ?_)
  · obtain ⟨z, rfl, hP⟩ := hN _ _ _ h9
    exact g_iret 5 rfl rfl trivial ⟨z, rfl, hP⟩
  · rcases hE _ _ _ h9 with ⟨rfl, hP⟩ | ⟨rfl, hP⟩
    · refine gx_catch [] (0, 7, 8, 24) [(0, 7, 13, 15)] 6 4 rfl (fun z hz => absurd hz List.not_mem_nil) (by decide) (by decide) ck_RL_24 ca_24 rfl (Or.inr rfl) (by decide) rfl ?_
      refine g_ldcI 7 rfl lc_RL_17 ?_
      exact g_iret 8 rfl rfl trivial ⟨-900001, rfl, hP⟩
    · refine gx_catch [(0, 7, 8, 24)] (0, 7, 13, 15) [] 9 4 rfl (List.forall_mem_cons.mpr ⟨⟨by decide, _, ck_RL_24, (show ("java/lang/IllegalArgumentException", "java/lang/IndexOutOfBoundsException") ∈ e_NN by decide +kernel)⟩, fun _ h => absurd h List.not_mem_nil⟩) (by decide) (by decide) ck_RL_15 ca_15 rfl (Or.inr rfl) (by decide) rfl ?_
      refine g_ldcI 10 rfl lc_RL_20 ?_
      exact g_iret 11 rfl rfl trivial ⟨-900002, rfl, hP⟩
theorem w_hoursUntilFitting (p0 : Int) (hx : M 100 = cO 8 fs) (hC : Ct (e_L r0) Γ mX7_hoursUntilFitting d mc ms [vR 100, vI p0] M n Q) (hd : d + 1 ≤ d2) (hmc : mc ≤ mc2) (hms : ms ≤ ms2) (hN : ∀ r1 M' n', Q (.inl r1) M' n' → ∃ z : Int, r1 = some (vI z) ∧ P z M' n') (hE : ∀ E M' n', Q (.inr E) M' n' → (E = "java/lang/IndexOutOfBoundsException" ∧ P (-900001) M' n') ∨ (E = "java/util/NoSuchElementException" ∧ P (-900002) M' n')) : Ct (e_L r0) Γ mL_hoursUntilFitting d2 mc2 ms2 [vR 100, vI p0] M n (fun r' M' n' => ∃ z : Int, r' = .inl (some (vI z)) ∧ P z M' n') := by
  refine g_startX ok_L_hoursUntilFitting (by decide) rfl ?_
  refine g_run 0 2 rfl ?_
  refine g_callV 2 rfl cv_RL_55 hx hC rfl rfl hd (by omega) (by omega) (Nat.le_of_ble_eq_true rfl) (fun v9 M1 n9 h9 _ => ?_) (fun E M1 n9 h9 _ => ?_)
  · obtain ⟨z, rfl, hP⟩ := hN _ _ _ h9
    exact g_iret 3 rfl rfl trivial ⟨z, rfl, hP⟩
  · rcases hE _ _ _ h9 with ⟨rfl, hP⟩ | ⟨rfl, hP⟩
    · refine gx_catch [] (0, 5, 6, 24) [(0, 5, 10, 50)] 4 2 rfl (fun z hz => absurd hz List.not_mem_nil) (by decide) (by decide) ck_RL_24 ca_24 rfl (Or.inl ⟨2, rfl, rfl⟩) (by decide) rfl ?_
      refine g_ldcI 5 rfl lc_RL_17 ?_
      exact g_iret 6 rfl rfl trivial ⟨-900001, rfl, hP⟩
    · refine gx_catch [(0, 5, 6, 24)] (0, 5, 10, 50) [] 7 2 rfl (List.forall_mem_cons.mpr ⟨⟨by decide, _, ck_RL_24, (show ("java/util/NoSuchElementException", "java/lang/IndexOutOfBoundsException") ∈ e_NN by decide +kernel)⟩, fun _ h => absurd h List.not_mem_nil⟩) (by decide) (by decide) ck_RL_50 ca_50 rfl (Or.inl ⟨2, rfl, rfl⟩) (by decide) rfl ?_
      refine g_ldcI 8 rfl lc_RL_20 ?_
      exact g_iret 9 rfl rfl trivial ⟨-900002, rfl, hP⟩
theorem w_bakedDoor (p0 : Int) (hx : M 100 = cO 8 fs) (hC : Ct (e_L r0) Γ mX7_bakedDoor d mc ms [vR 100, vI p0] M n Q) (hd : d + 1 ≤ d2) (hmc : mc ≤ mc2) (hms : ms ≤ ms2) (hN : ∀ r1 M' n', Q (.inl r1) M' n' → ∃ z : Int, r1 = some (vI z) ∧ P z M' n') (hE : ∀ E M' n', Q (.inr E) M' n' → (E = "java/lang/IndexOutOfBoundsException" ∧ P (-900001) M' n') ∨ (E = "java/util/NoSuchElementException" ∧ P (-900002) M' n')) : Ct (e_L r0) Γ mL_bakedDoor d2 mc2 ms2 [vR 100, vI p0] M n (fun r' M' n' => ∃ z : Int, r' = .inl (some (vI z)) ∧ P z M' n') := by
  refine g_startX ok_L_bakedDoor (by decide) rfl ?_
  refine g_run 0 2 rfl ?_
  refine g_callV 2 rfl cv_RL_58 hx hC rfl rfl hd (by omega) (by omega) (Nat.le_of_ble_eq_true rfl) (fun v9 M1 n9 h9 _ => ?_) (fun E M1 n9 h9 _ => ?_)
  · obtain ⟨z, rfl, hP⟩ := hN _ _ _ h9
    exact g_iret 3 rfl rfl trivial ⟨z, rfl, hP⟩
  · rcases hE _ _ _ h9 with ⟨rfl, hP⟩ | ⟨rfl, hP⟩
    · refine gx_catch [] (0, 5, 6, 24) [(0, 5, 10, 50)] 4 2 rfl (fun z hz => absurd hz List.not_mem_nil) (by decide) (by decide) ck_RL_24 ca_24 rfl (Or.inl ⟨2, rfl, rfl⟩) (by decide) rfl ?_
      refine g_ldcI 5 rfl lc_RL_17 ?_
      exact g_iret 6 rfl rfl trivial ⟨-900001, rfl, hP⟩
    · refine gx_catch [(0, 5, 6, 24)] (0, 5, 10, 50) [] 7 2 rfl (List.forall_mem_cons.mpr ⟨⟨by decide, _, ck_RL_24, (show ("java/util/NoSuchElementException", "java/lang/IndexOutOfBoundsException") ∈ e_NN by decide +kernel)⟩, fun _ h => absurd h List.not_mem_nil⟩) (by decide) (by decide) ck_RL_50 ca_50 rfl (Or.inl ⟨2, rfl, rfl⟩) (by decide) rfl ?_
      refine g_ldcI 8 rfl lc_RL_20 ?_
      exact g_iret 9 rfl rfl trivial ⟨-900002, rfl, hP⟩
theorem w_triedDoor (p0 : Int) (hx : M 100 = cO 8 fs) (hC : Ct (e_L r0) Γ mX7_triedDoor d mc ms [vR 100, vI p0] M n Q) (hd : d + 1 ≤ d2) (hmc : mc ≤ mc2) (hms : ms ≤ ms2) (hN : ∀ r1 M' n', Q (.inl r1) M' n' → ∃ z : Int, r1 = some (vI z) ∧ P z M' n') (hE : ∀ E M' n', Q (.inr E) M' n' → (E = "java/util/NoSuchElementException" ∧ P (-900001) M' n')) : Ct (e_L r0) Γ mL_triedDoor d2 mc2 ms2 [vR 100, vI p0] M n (fun r' M' n' => ∃ z : Int, r' = .inl (some (vI z)) ∧ P z M' n') := by
  refine g_startX ok_L_triedDoor (by decide) rfl ?_
  refine g_run 0 2 rfl ?_
  refine g_callV 2 rfl cv_RL_61 hx hC rfl rfl hd (by omega) (by omega) (Nat.le_of_ble_eq_true rfl) (fun v9 M1 n9 h9 _ => ?_) (fun E M1 n9 h9 _ => ?_)
  · obtain ⟨z, rfl, hP⟩ := hN _ _ _ h9
    exact g_iret 3 rfl rfl trivial ⟨z, rfl, hP⟩
  · rcases hE _ _ _ h9 with ⟨rfl, hP⟩
    · refine gx_catch [] (0, 5, 6, 50) [] 4 2 rfl (fun z hz => absurd hz List.not_mem_nil) (by decide) (by decide) ck_RL_50 ca_50 rfl (Or.inl ⟨2, rfl, rfl⟩) (by decide) rfl ?_
      refine g_ldcI 5 rfl lc_RL_17 ?_
      exact g_iret 6 rfl rfl trivial ⟨-900001, rfl, hP⟩
theorem w_runScript  (hx : M 100 = cO 8 fs) (hC : Ct (e_L r0) Γ mX7_runScript d mc ms [vR 100] M n Q) (hd : d + 1 ≤ d2) (hmc : mc ≤ mc2) (hms : ms ≤ ms2) (hN : ∀ r1 M' n', Q (.inl r1) M' n' → ∃ z : Int, r1 = some (vI z) ∧ P z M' n') (hE : ∀ E M' n', Q (.inr E) M' n' → (E = "java/lang/IllegalArgumentException" ∧ P (-900001) M' n') ∨ (E = "java/lang/IllegalStateException" ∧ P (-900002) M' n')) : Ct (e_L r0) Γ mL_runScript d2 mc2 ms2 [vR 100] M n (fun r' M' n' => ∃ z : Int, r' = .inl (some (vI z)) ∧ P z M' n') := by
  refine g_startX ok_L_runScript (by decide) rfl ?_
  refine g_run 0 1 rfl ?_
  refine g_callV 1 rfl cv_RL_64 hx hC rfl rfl hd (by omega) (by omega) (Nat.le_of_ble_eq_true rfl) (fun v9 M1 n9 h9 _ => ?_) (fun E M1 n9 h9 _ => ?_)
  · obtain ⟨z, rfl, hP⟩ := hN _ _ _ h9
    exact g_iret 2 rfl rfl trivial ⟨z, rfl, hP⟩
  · rcases hE _ _ _ h9 with ⟨rfl, hP⟩ | ⟨rfl, hP⟩
    · refine gx_catch [] (0, 4, 5, 15) [(0, 4, 9, 18)] 3 1 rfl (fun z hz => absurd hz List.not_mem_nil) (by decide) (by decide) ck_RL_15 ca_15 rfl (Or.inl ⟨1, rfl, rfl⟩) (by decide) rfl ?_
      refine g_ldcI 4 rfl lc_RL_17 ?_
      exact g_iret 5 rfl rfl trivial ⟨-900001, rfl, hP⟩
    · refine gx_catch [(0, 4, 5, 15)] (0, 4, 9, 18) [] 6 1 rfl (List.forall_mem_cons.mpr ⟨⟨by decide, _, ck_RL_15, (show ("java/lang/IllegalStateException", "java/lang/IllegalArgumentException") ∈ e_NN by decide +kernel)⟩, fun _ h => absurd h List.not_mem_nil⟩) (by decide) (by decide) ck_RL_18 ca_18 rfl (Or.inl ⟨1, rfl, rfl⟩) (by decide) rfl ?_
      refine g_ldcI 7 rfl lc_RL_20 ?_
      exact g_iret 8 rfl rfl trivial ⟨-900002, rfl, hP⟩
theorem w_undo  (hx : M 100 = cO 8 fs) (hC : Ct (e_L r0) Γ mX7_undo d mc ms [vR 100] M n Q) (hd : d + 1 ≤ d2) (hmc : mc ≤ mc2) (hms : ms ≤ ms2) (hN : ∀ r1 M' n', Q (.inl r1) M' n' → ∃ z : Int, r1 = some (vI z) ∧ P z M' n') (hE : ∀ E M' n', Q (.inr E) M' n' → (E = "java/util/NoSuchElementException" ∧ P (-900001) M' n')) : Ct (e_L r0) Γ mL_undo d2 mc2 ms2 [vR 100] M n (fun r' M' n' => ∃ z : Int, r' = .inl (some (vI z)) ∧ P z M' n') := by
  refine g_startX ok_L_undo (by decide) rfl ?_
  refine g_run 0 1 rfl ?_
  refine g_callV 1 rfl cv_RL_68 hx hC rfl rfl hd (by omega) (by omega) (Nat.le_of_ble_eq_true rfl) (fun v9 M1 n9 h9 _ => ?_) (fun E M1 n9 h9 _ => ?_)
  · obtain ⟨z, rfl, hP⟩ := hN _ _ _ h9
    exact g_iret 2 rfl rfl trivial ⟨z, rfl, hP⟩
  · rcases hE _ _ _ h9 with ⟨rfl, hP⟩
    · refine gx_catch [] (0, 4, 5, 50) [] 3 1 rfl (fun z hz => absurd hz List.not_mem_nil) (by decide) (by decide) ck_RL_50 ca_50 rfl (Or.inl ⟨1, rfl, rfl⟩) (by decide) rfl ?_
      refine g_ldcI 4 rfl lc_RL_17 ?_
      exact g_iret 5 rfl rfl trivial ⟨-900001, rfl, hP⟩
theorem w_restore  (hx : M 100 = cO 8 fs) (hC : Ct (e_L r0) Γ mX7_restore d mc ms [vR 100] M n Q) (hd : d + 1 ≤ d2) (hmc : mc ≤ mc2) (hms : ms ≤ ms2) (hN : ∀ r1 M' n', Q (.inl r1) M' n' → ∃ z : Int, r1 = some (vI z) ∧ P z M' n') (hE : ∀ E M' n', Q (.inr E) M' n' → (E = "java/lang/IllegalStateException" ∧ P (-900001) M' n')) : Ct (e_L r0) Γ mL_restore d2 mc2 ms2 [vR 100] M n (fun r' M' n' => ∃ z : Int, r' = .inl (some (vI z)) ∧ P z M' n') := by
  refine g_startX ok_L_restore (by decide) rfl ?_
  refine g_run 0 1 rfl ?_
  refine g_callV 1 rfl cv_RL_71 hx hC rfl rfl hd (by omega) (by omega) (Nat.le_of_ble_eq_true rfl) (fun v9 M1 n9 h9 _ => ?_) (fun E M1 n9 h9 _ => ?_)
  · obtain ⟨z, rfl, hP⟩ := hN _ _ _ h9
    exact g_iret 2 rfl rfl trivial ⟨z, rfl, hP⟩
  · rcases hE _ _ _ h9 with ⟨rfl, hP⟩
    · refine gx_catch [] (0, 4, 5, 18) [] 3 1 rfl (fun z hz => absurd hz List.not_mem_nil) (by decide) (by decide) ck_RL_18 ca_18 rfl (Or.inl ⟨1, rfl, rfl⟩) (by decide) rfl ?_
      refine g_ldcI 4 rfl lc_RL_17 ?_
      exact g_iret 5 rfl rfl trivial ⟨-900001, rfl, hP⟩
theorem w_tryLock (p0 : Int) (hx : M 100 = cO 8 fs) (hC : Ct (e_L r0) Γ mX7_tryLock d mc ms [vR 100, vI p0] M n Q) (hd : d + 1 ≤ d2) (hmc : mc ≤ mc2) (hms : ms ≤ ms2) (hN : ∀ r1 M' n', Q (.inl r1) M' n' → ∃ z : Int, r1 = some (vI z) ∧ (z = 0 ∨ z = 1) ∧ P z M' n') (hE : ∀ E M' n', Q (.inr E) M' n' → (E = "java/lang/IndexOutOfBoundsException" ∧ P (-900001) M' n') ∨ (E = "java/lang/IllegalStateException" ∧ P (-900002) M' n')) : Ct (e_L r0) Γ mL_tryLock d2 mc2 ms2 [vR 100, vI p0] M n (fun r' M' n' => ∃ z : Int, r' = .inl (some (vI z)) ∧ P z M' n') := by
  refine g_startX ok_L_tryLock (by decide) rfl ?_
  refine g_run 0 2 rfl ?_
  refine g_callV 2 rfl cv_RL_74 hx hC rfl rfl hd (by omega) (by omega) (Nat.le_of_ble_eq_true rfl) (fun v9 M1 n9 h9 _ => ?_) (fun E M1 n9 h9 _ => ?_)
  · obtain ⟨z, rfl, hz, hP⟩ := hN _ _ _ h9
    refine g_if_eq 3 12 rfl rfl (by omega) (fun c7 => ?_) (fun c7 => ?_)
    · refine g_run 6 1 rfl ?_
      exact g_iret 7 rfl rfl trivial ⟨0, rfl, c7 ▸ hP⟩
    · refine g_run 4 2 rfl ?_
      exact g_iret 7 rfl rfl trivial ⟨1, rfl, (show z = 1 by omega) ▸ hP⟩
  · rcases hE _ _ _ h9 with ⟨rfl, hP⟩ | ⟨rfl, hP⟩
    · refine gx_catch [] (0, 13, 14, 24) [(0, 13, 18, 18)] 8 2 rfl (fun z hz => absurd hz List.not_mem_nil) (by decide) (by decide) ck_RL_24 ca_24 rfl (Or.inl ⟨2, rfl, rfl⟩) (by decide) rfl ?_
      refine g_ldcI 9 rfl lc_RL_17 ?_
      exact g_iret 10 rfl rfl trivial ⟨-900001, rfl, hP⟩
    · refine gx_catch [(0, 13, 14, 24)] (0, 13, 18, 18) [] 11 2 rfl (List.forall_mem_cons.mpr ⟨⟨by decide, _, ck_RL_24, (show ("java/lang/IllegalStateException", "java/lang/IndexOutOfBoundsException") ∈ e_NN by decide +kernel)⟩, fun _ h => absurd h List.not_mem_nil⟩) (by decide) (by decide) ck_RL_18 ca_18 rfl (Or.inl ⟨2, rfl, rfl⟩) (by decide) rfl ?_
      refine g_ldcI 12 rfl lc_RL_20 ?_
      exact g_iret 13 rfl rfl trivial ⟨-900002, rfl, hP⟩
end LH
section LP
variable {r0 : Option Nat} {Γ : Cx} {M : Mem} {n : Nat} {B : Int} {σ ρ : HS} {r : Nat → HS} {f c5 : Nat} {sv : Int}
theorem l_addDoor (hK : KM Γ) (h : PZ B M n σ ρ r f c5 sv) (hB : B + 181 ≤ 100000) (a : Int) (ha : i32 a) (b : Int) (hb : i32 b) (u : Int) (hu : i32 u) : Ct (e_L r0) Γ mL_addDoor 7 1 6 [vR 100, vI a, vI b, vI u] M n (CHc B M n σ ρ r f c5 sv 0 a b u 0) := by
  obtain ⟨hn, pb, τ, ep, fp, v, cap, t, nm, pl, s, a1, a2, a3, a4, a5, a6, a7, a8, a9⟩ := h
  by_cases h0 : rf σ 0 a b u 0 = 0
  · have hz := runV_rng pb.2.1.1 pb.1 0 a b u 0 h0
    refine w_addDoor a b u (P := CHp B M n σ ρ r f c5 sv 0 a b u 0) a1 (x_addDoor hK a1 a2 pb.2.1.1 (by have := pb.1; omega) a5 pb.2.2.2.2.1 pb.2.2.2.2.2 a ha b hb u hu h0) (by omega) (by omega) (by omega) (fun r1 M' n' q => ?_) (fun E M' n' q => by cases q.1)
    obtain ⟨q1, q2, k1, k2, k3, k4⟩ := q
    cases q1
    exact ⟨_, rfl, q2, fun k hk => k4 k (by omega) (by omega), Or.inl ⟨h0, hz, PZ_chg hn (PB_step pb (by omega) hB (Hok_run pb.2.1.1 0 a b u 0 h0) (HJ_run pb.2.1.2 pb.2.1.1 0 a b u 0 h0)) a3 a4 a6 a7 a8 a9 k1 k2 k3 k4⟩⟩
  · have hc : rf σ 0 a b u 0 = 2 ∨ rf σ 0 a b u 0 = 3 := by
      revert h0
      show ¬ rfDoor σ a b u = 0 → (rfDoor σ a b u = 2 ∨ rfDoor σ a b u = 3)
      unfold rfDoor
      (repeat' split) <;> decide
    refine w_addDoor a b u (P := CHp B M n σ ρ r f c5 sv 0 a b u 0) a1 (x_addDoorX hK a1 a2 pb.2.1.1 (by have := pb.1; omega) a5 pb.2.2.2.2.1 pb.2.2.2.2.2 a ha b hb u hu h0) (by omega) (by omega) (by omega) (fun r1 M' n' q => by cases q.1) (fun E M' n' q => ?_)
    obtain ⟨q1, q2, q3⟩ := q
    have e : E = exN (rf σ 0 a b u 0) := by cases q1; rfl
    rcases hc with hc | hc
    · exact Or.inl ⟨e.trans (by rw [hc]; rfl), q3, fun k _ => by rw [q2], Or.inr ⟨h0, by decide, q2⟩⟩
    · exact Or.inr (⟨e.trans (by rw [hc]; rfl), q3, fun k _ => by rw [q2], Or.inr ⟨h0, by decide, q2⟩⟩)
theorem l_turn (hK : KM Γ) (h : PZ B M n σ ρ r f c5 sv) (hB : B + 181 ≤ 100000) (a : Int) (ha : i32 a) (b : Int) (hb : i32 b) (u : Int) (hu : i32 u) : Ct (e_L r0) Γ mL_turn 7 1 6 [vR 100, vI a, vI b, vI u] M n (CHc B M n σ ρ r f c5 sv 1 a b u 0) := by
  obtain ⟨hn, pb, τ, ep, fp, v, cap, t, nm, pl, s, a1, a2, a3, a4, a5, a6, a7, a8, a9⟩ := h
  by_cases h0 : rf σ 1 a b u 0 = 0
  · have hz := runV_rng pb.2.1.1 pb.1 1 a b u 0 h0
    refine w_turn a b u (P := CHp B M n σ ρ r f c5 sv 1 a b u 0) a1 (x_turn hK a1 a2 pb.2.1.1 (by have := pb.1; omega) a5 pb.2.2.2.2.1 pb.2.2.2.2.2 a ha b hb u hu h0) (by omega) (by omega) (by omega) (fun r1 M' n' q => ?_) (fun E M' n' q => by cases q.1)
    obtain ⟨q1, q2, k1, k2, k3, k4⟩ := q
    cases q1
    exact ⟨_, rfl, q2, fun k hk => k4 k (by omega) (by omega), Or.inl ⟨h0, hz, PZ_chg hn (PB_step pb (by omega) hB (Hok_run pb.2.1.1 1 a b u 0 h0) (HJ_run pb.2.1.2 pb.2.1.1 1 a b u 0 h0)) a3 a4 a6 a7 a8 a9 k1 k2 k3 k4⟩⟩
  · have hc : rf σ 1 a b u 0 = 1 ∨ rf σ 1 a b u 0 = 2 ∨ rf σ 1 a b u 0 = 3 := by
      revert h0
      show ¬ rfTurn σ a b u = 0 → (rfTurn σ a b u = 1 ∨ rfTurn σ a b u = 2 ∨ rfTurn σ a b u = 3)
      unfold rfTurn
      (repeat' split) <;> decide
    refine w_turn a b u (P := CHp B M n σ ρ r f c5 sv 1 a b u 0) a1 (x_turnX hK a1 a2 pb.2.1.1 (by have := pb.1; omega) a5 pb.2.2.2.2.1 pb.2.2.2.2.2 a ha b hb u hu h0) (by omega) (by omega) (by omega) (fun r1 M' n' q => by cases q.1) (fun E M' n' q => ?_)
    obtain ⟨q1, q2, q3⟩ := q
    have e : E = exN (rf σ 1 a b u 0) := by cases q1; rfl
    rcases hc with hc | hc | hc
    · exact Or.inl ⟨e.trans (by rw [hc]; rfl), q3, fun k _ => by rw [q2], Or.inr ⟨h0, by decide, q2⟩⟩
    · exact Or.inr (Or.inl ⟨e.trans (by rw [hc]; rfl), q3, fun k _ => by rw [q2], Or.inr ⟨h0, by decide, q2⟩⟩)
    · exact Or.inr (Or.inr (⟨e.trans (by rw [hc]; rfl), q3, fun k _ => by rw [q2], Or.inr ⟨h0, by decide, q2⟩⟩))
theorem l_tryLock (hK : KM Γ) (h : PZ B M n σ ρ r f c5 sv) (hB : B + 181 ≤ 100000) (a : Int) (ha : i32 a) : Ct (e_L r0) Γ mL_tryLock 7 1 6 [vR 100, vI a] M n (CHc B M n σ ρ r f c5 sv 2 a 0 0 0) := by
  obtain ⟨hn, pb, τ, ep, fp, v, cap, t, nm, pl, s, a1, a2, a3, a4, a5, a6, a7, a8, a9⟩ := h
  by_cases h0 : rf σ 2 a 0 0 0 = 0
  · have hz := runV_rng pb.2.1.1 pb.1 2 a 0 0 0 h0
    refine w_tryLock a (P := CHp B M n σ ρ r f c5 sv 2 a 0 0 0) a1 (x_tryLock hK a1 a2 pb.2.1.1 (by have := pb.1; omega) a5 pb.2.2.2.2.1 pb.2.2.2.2.2 a ha h0) (by omega) (by omega) (by omega) (fun r1 M' n' q => ?_) (fun E M' n' q => by cases q.1)
    obtain ⟨q1, q2, k1, k2, k3, k4⟩ := q
    cases q1
    exact ⟨_, rfl, b_01, q2, fun k hk => k4 k (by omega) (by omega), Or.inl ⟨h0, by split <;> omega, PZ_chg hn (PB_step pb (by omega) hB (Hok_run pb.2.1.1 2 a 0 0 0 h0) (HJ_run pb.2.1.2 pb.2.1.1 2 a 0 0 0 h0)) a3 a4 a6 a7 a8 a9 k1 k2 k3 k4⟩⟩
  · have hc : rf σ 2 a 0 0 0 = 1 ∨ rf σ 2 a 0 0 0 = 3 := by
      revert h0
      show ¬ rfTry σ a = 0 → (rfTry σ a = 1 ∨ rfTry σ a = 3)
      unfold rfTry
      (repeat' split) <;> decide
    refine w_tryLock a (P := CHp B M n σ ρ r f c5 sv 2 a 0 0 0) a1 (x_tryLockX hK a1 a2 pb.2.1.1 (by have := pb.1; omega) a5 pb.2.2.2.2.1 pb.2.2.2.2.2 a ha h0) (by omega) (by omega) (by omega) (fun r1 M' n' q => by cases q.1) (fun E M' n' q => ?_)
    obtain ⟨q1, q2, q3⟩ := q
    have e : E = exN (rf σ 2 a 0 0 0) := by cases q1; rfl
    rcases hc with hc | hc
    · exact Or.inl ⟨e.trans (by rw [hc]; rfl), q3, fun k _ => by rw [q2], Or.inr ⟨h0, by decide, q2⟩⟩
    · exact Or.inr (⟨e.trans (by rw [hc]; rfl), q3, fun k _ => by rw [q2], Or.inr ⟨h0, by decide, q2⟩⟩)
theorem l_shut (hK : KM Γ) (h : PZ B M n σ ρ r f c5 sv) (hB : B + 181 ≤ 100000) (a : Int) (ha : i32 a) : Ct (e_L r0) Γ mL_shut 7 1 6 [vR 100, vI a] M n (CHc B M n σ ρ r f c5 sv 3 a 0 0 0) := by
  obtain ⟨hn, pb, τ, ep, fp, v, cap, t, nm, pl, s, a1, a2, a3, a4, a5, a6, a7, a8, a9⟩ := h
  by_cases h0 : rf σ 3 a 0 0 0 = 0
  · have hz := runV_rng pb.2.1.1 pb.1 3 a 0 0 0 h0
    refine w_shut a (P := CHp B M n σ ρ r f c5 sv 3 a 0 0 0) a1 (x_shut hK a1 a2 pb.2.1.1 (by have := pb.1; omega) a5 pb.2.2.2.2.1 pb.2.2.2.2.2 a ha h0) (by omega) (by omega) (by omega) (fun r1 M' n' q => ?_) (fun E M' n' q => by cases q.1)
    obtain ⟨q1, q2, k1, k2, k3, k4⟩ := q
    cases q1
    exact ⟨_, rfl, q2, fun k hk => k4 k (by omega) (by omega), Or.inl ⟨h0, hz, PZ_chg hn (PB_step pb (by omega) hB (Hok_run pb.2.1.1 3 a 0 0 0 h0) (HJ_run pb.2.1.2 pb.2.1.1 3 a 0 0 0 h0)) a3 a4 a6 a7 a8 a9 k1 k2 k3 k4⟩⟩
  · have hc : rf σ 3 a 0 0 0 = 1 ∨ rf σ 3 a 0 0 0 = 3 ∨ rf σ 3 a 0 0 0 = 4 := by
      revert h0
      show ¬ rfShut σ a = 0 → (rfShut σ a = 1 ∨ rfShut σ a = 3 ∨ rfShut σ a = 4)
      unfold rfShut
      (repeat' split) <;> decide
    refine w_shut a (P := CHp B M n σ ρ r f c5 sv 3 a 0 0 0) a1 (x_shutX hK a1 a2 pb.2.1.1 (by have := pb.1; omega) a5 pb.2.2.2.2.1 pb.2.2.2.2.2 a ha h0) (by omega) (by omega) (by omega) (fun r1 M' n' q => by cases q.1) (fun E M' n' q => ?_)
    obtain ⟨q1, q2, q3⟩ := q
    have e : E = exN (rf σ 3 a 0 0 0) := by cases q1; rfl
    rcases hc with hc | hc | hc
    · exact Or.inl ⟨e.trans (by rw [hc]; rfl), q3, fun k _ => by rw [q2], Or.inr ⟨h0, by decide, q2⟩⟩
    · exact Or.inr (Or.inl ⟨e.trans (by rw [hc]; rfl), q3, fun k _ => by rw [q2], Or.inr ⟨h0, by decide, q2⟩⟩)
    · exact Or.inr (Or.inr (⟨e.trans (by rw [hc]; rfl), q3, fun k _ => by rw [q2], Or.inr ⟨h0, by decide, q2⟩⟩))
theorem l_setDamp (hK : KM Γ) (h : PZ B M n σ ρ r f c5 sv) (hB : B + 181 ≤ 100000) (a : Int) (ha : i32 a) : Ct (e_L r0) Γ mL_setDamp 7 1 6 [vR 100, vI a] M n (CHc B M n σ ρ r f c5 sv 4 a 0 0 0) := by
  obtain ⟨hn, pb, τ, ep, fp, v, cap, t, nm, pl, s, a1, a2, a3, a4, a5, a6, a7, a8, a9⟩ := h
  by_cases h0 : rf σ 4 a 0 0 0 = 0
  · have hz := runV_rng pb.2.1.1 pb.1 4 a 0 0 0 h0
    refine w_setDamp a (P := CHp B M n σ ρ r f c5 sv 4 a 0 0 0) a1 (x_setDamp hK a1 a2 pb.2.1.1 (by have := pb.1; omega) a5 pb.2.2.2.2.1 pb.2.2.2.2.2 a ha h0) (by omega) (by omega) (by omega) (fun r1 M' n' q => ?_) (fun E M' n' q => by cases q.1)
    obtain ⟨q1, q2, k1, k2, k3, k4⟩ := q
    cases q1
    exact ⟨_, rfl, q2, fun k hk => k4 k (by omega) (by omega), Or.inl ⟨h0, hz, PZ_chg hn (PB_step pb (by omega) hB (Hok_run pb.2.1.1 4 a 0 0 0 h0) (HJ_run pb.2.1.2 pb.2.1.1 4 a 0 0 0 h0)) a3 a4 a6 a7 a8 a9 k1 k2 k3 k4⟩⟩
  · have hc : rf σ 4 a 0 0 0 = 2 := by
      revert h0
      show ¬ rfDamp a = 0 → (rfDamp a = 2)
      unfold rfDamp
      (repeat' split) <;> decide
    refine w_setDamp a (P := CHp B M n σ ρ r f c5 sv 4 a 0 0 0) a1 (x_setDampX hK a1 a2 pb.2.1.1 (by have := pb.1; omega) a5 pb.2.2.2.2.1 pb.2.2.2.2.2 a ha h0) (by omega) (by omega) (by omega) (fun r1 M' n' q => by cases q.1) (fun E M' n' q => ?_)
    obtain ⟨q1, q2, q3⟩ := q
    have e : E = exN (rf σ 4 a 0 0 0) := by cases q1; rfl
    rcases hc with hc
    · exact ⟨e.trans (by rw [hc]; rfl), q3, fun k _ => by rw [q2], Or.inr ⟨h0, by decide, q2⟩⟩
theorem l_bake (hK : KM Γ) (h : PZ B M n σ ρ r f c5 sv) (hB : B + 181 ≤ 100000) (a : Int) (ha : i32 a) (b : Int) (hb : i32 b) : Ct (e_L r0) Γ mL_bake 7 1 6 [vR 100, vI a, vI b] M n (CHc B M n σ ρ r f c5 sv 5 a b 0 0) := by
  obtain ⟨hn, pb, τ, ep, fp, v, cap, t, nm, pl, s, a1, a2, a3, a4, a5, a6, a7, a8, a9⟩ := h
  by_cases h0 : rf σ 5 a b 0 0 = 0
  · have hz := runV_rng pb.2.1.1 pb.1 5 a b 0 0 h0
    refine w_bake a b (P := CHp B M n σ ρ r f c5 sv 5 a b 0 0) a1 (x_bake hK a1 a2 pb.2.1.1 (by have := pb.1; omega) a5 pb.2.2.2.2.1 pb.2.2.2.2.2 a ha b hb h0) (by omega) (by omega) (by omega) (fun r1 M' n' q => ?_) (fun E M' n' q => by cases q.1)
    obtain ⟨q1, q2, k1, k2, k3, k4⟩ := q
    cases q1
    exact ⟨_, rfl, q2, fun k hk => k4 k (by omega) (by omega), Or.inl ⟨h0, hz, PZ_chg hn (PB_step pb (by omega) hB (Hok_run pb.2.1.1 5 a b 0 0 h0) (HJ_run pb.2.1.2 pb.2.1.1 5 a b 0 0 h0)) a3 a4 a6 a7 a8 a9 k1 k2 k3 k4⟩⟩
  · have hc : rf σ 5 a b 0 0 = 1 ∨ rf σ 5 a b 0 0 = 3 ∨ rf σ 5 a b 0 0 = 4 := by
      revert h0
      show ¬ rfBake σ a b = 0 → (rfBake σ a b = 1 ∨ rfBake σ a b = 3 ∨ rfBake σ a b = 4)
      unfold rfBake
      (repeat' split) <;> decide
    refine w_bake a b (P := CHp B M n σ ρ r f c5 sv 5 a b 0 0) a1 (x_bakeX hK a1 a2 pb.2.1.1 (by have := pb.1; omega) a5 pb.2.2.2.2.1 pb.2.2.2.2.2 a ha b hb h0) (by omega) (by omega) (by omega) (fun r1 M' n' q => by cases q.1) (fun E M' n' q => ?_)
    obtain ⟨q1, q2, q3⟩ := q
    have e : E = exN (rf σ 5 a b 0 0) := by cases q1; rfl
    rcases hc with hc | hc | hc
    · exact Or.inl ⟨e.trans (by rw [hc]; rfl), q3, fun k _ => by rw [q2], Or.inr ⟨h0, by decide, q2⟩⟩
    · exact Or.inr (Or.inl ⟨e.trans (by rw [hc]; rfl), q3, fun k _ => by rw [q2], Or.inr ⟨h0, by decide, q2⟩⟩)
    · exact Or.inr (Or.inr (⟨e.trans (by rw [hc]; rfl), q3, fun k _ => by rw [q2], Or.inr ⟨h0, by decide, q2⟩⟩))
theorem l_passHours (hK : KM Γ) (h : PZ B M n σ ρ r f c5 sv) (hB : B + 181 ≤ 100000) (a : Int) (ha : i32 a) : Ct (e_L r0) Γ mL_passHours 7 1 6 [vR 100, vI a] M n (CHc B M n σ ρ r f c5 sv 7 a 0 0 0) := by
  obtain ⟨hn, pb, τ, ep, fp, v, cap, t, nm, pl, s, a1, a2, a3, a4, a5, a6, a7, a8, a9⟩ := h
  by_cases h0 : rf σ 7 a 0 0 0 = 0
  · have hz := runV_rng pb.2.1.1 pb.1 7 a 0 0 0 h0
    refine w_passHours a (P := CHp B M n σ ρ r f c5 sv 7 a 0 0 0) a1 (x_passHours hK a1 a2 pb.2.1.1 (by have := pb.1; omega) a5 pb.2.2.2.2.1 pb.2.2.2.2.2 a ha h0) (by omega) (by omega) (by omega) (fun r1 M' n' q => ?_) (fun E M' n' q => by cases q.1)
    obtain ⟨q1, q2, k1, k2, k3, k4⟩ := q
    cases q1
    exact ⟨_, rfl, q2, fun k hk => k4 k (by omega) (by omega), Or.inl ⟨h0, hz, PZ_chg hn (PB_step pb (by omega) hB (Hok_run pb.2.1.1 7 a 0 0 0 h0) (HJ_run pb.2.1.2 pb.2.1.1 7 a 0 0 0 h0)) a3 a4 a6 a7 a8 a9 k1 k2 k3 k4⟩⟩
  · have hc : rf σ 7 a 0 0 0 = 2 := by
      revert h0
      show ¬ rfHours a = 0 → (rfHours a = 2)
      unfold rfHours
      (repeat' split) <;> decide
    refine w_passHours a (P := CHp B M n σ ρ r f c5 sv 7 a 0 0 0) a1 (x_passHoursX hK a1 a2 pb.2.1.1 (by have := pb.1; omega) a5 pb.2.2.2.2.1 pb.2.2.2.2.2 a ha h0) (by omega) (by omega) (by omega) (fun r1 M' n' q => by cases q.1) (fun E M' n' q => ?_)
    obtain ⟨q1, q2, q3⟩ := q
    have e : E = exN (rf σ 7 a 0 0 0) := by cases q1; rfl
    rcases hc with hc
    · exact ⟨e.trans (by rw [hc]; rfl), q3, fun k _ => by rw [q2], Or.inr ⟨h0, by decide, q2⟩⟩
theorem l_setCombination (hK : KM Γ) (h : PZ B M n σ ρ r f c5 sv) (hB : B + 181 ≤ 100000) (a : Int) (ha : i32 a) (b : Int) (hb : i32 b) (u : Int) (hu : i32 u) (y : Int) (hy : i32 y) : Ct (e_L r0) Γ mL_setCombination 7 1 6 [vR 100, vI a, vI b, vI u, vI y] M n (CHc B M n σ ρ r f c5 sv 9 a b u y) := by
  obtain ⟨hn, pb, τ, ep, fp, v, cap, t, nm, pl, s, a1, a2, a3, a4, a5, a6, a7, a8, a9⟩ := h
  by_cases h0 : rf σ 9 a b u y = 0
  · have hz := runV_rng pb.2.1.1 pb.1 9 a b u y h0
    refine w_setCombination a b u y (P := CHp B M n σ ρ r f c5 sv 9 a b u y) a1 (x_setCombination hK a1 a2 pb.2.1.1 (by have := pb.1; omega) a5 pb.2.2.2.2.1 pb.2.2.2.2.2 a ha b hb u hu y hy h0) (by omega) (by omega) (by omega) (fun r1 M' n' q => ?_) (fun E M' n' q => by cases q.1)
    obtain ⟨q1, q2, k1, k2, k3, k4⟩ := q
    cases q1
    exact ⟨_, rfl, q2, fun k hk => k4 k (by omega) (by omega), Or.inl ⟨h0, hz, PZ_chg hn (PB_step pb (by omega) hB (Hok_run pb.2.1.1 9 a b u y h0) (HJ_run pb.2.1.2 pb.2.1.1 9 a b u y h0)) a3 a4 a6 a7 a8 a9 k1 k2 k3 k4⟩⟩
  · have hc : rf σ 9 a b u y = 1 ∨ rf σ 9 a b u y = 2 ∨ rf σ 9 a b u y = 3 := by
      revert h0
      show ¬ rfSet σ a b u y = 0 → (rfSet σ a b u y = 1 ∨ rfSet σ a b u y = 2 ∨ rfSet σ a b u y = 3)
      unfold rfSet
      (repeat' split) <;> decide
    refine w_setCombination a b u y (P := CHp B M n σ ρ r f c5 sv 9 a b u y) a1 (x_setCombinationX hK a1 a2 pb.2.1.1 (by have := pb.1; omega) a5 pb.2.2.2.2.1 pb.2.2.2.2.2 a ha b hb u hu y hy h0) (by omega) (by omega) (by omega) (fun r1 M' n' q => by cases q.1) (fun E M' n' q => ?_)
    obtain ⟨q1, q2, q3⟩ := q
    have e : E = exN (rf σ 9 a b u y) := by cases q1; rfl
    rcases hc with hc | hc | hc
    · exact Or.inl ⟨e.trans (by rw [hc]; rfl), q3, fun k _ => by rw [q2], Or.inr ⟨h0, by decide, q2⟩⟩
    · exact Or.inr (Or.inl ⟨e.trans (by rw [hc]; rfl), q3, fun k _ => by rw [q2], Or.inr ⟨h0, by decide, q2⟩⟩)
    · exact Or.inr (Or.inr (⟨e.trans (by rw [hc]; rfl), q3, fun k _ => by rw [q2], Or.inr ⟨h0, by decide, q2⟩⟩))
end LP
