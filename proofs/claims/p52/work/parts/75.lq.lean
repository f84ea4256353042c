/-! the law's other helpers (by hand) -/
section LQ
variable {r0 : Option Nat} {Γ : Cx} {M : Mem} {n : Nat} {B : Int} {σ ρ : HS} {r : Nat → HS} {f c5 : Nat} {sv : Int}
/-- nothing changed but the spare house -/
abbrev SPq (M : Mem) (n : Nat) (M' : Mem) (n' : Nat) : Prop := n' = n ∧ (M' = M ∨ SP 100 M M')
theorem PZ_spq {M' : Mem} {n' : Nat} (h : PZ B M n σ ρ r f c5 sv) (q : SPq M n M' n') : PZ B M' n' σ ρ r f c5 sv := by
  obtain ⟨rfl, rfl | q⟩ := q
  · exact h
  · exact PZ_sp h q
theorem SPq_fr {M' : Mem} {n' : Nat} (q : SPq M n M' n') : ∀ k, 149 ≤ k → M' k = M k := fun k hk => by
  obtain ⟨-, rfl | q⟩ := q
  · rfl
  · exact q.2 k (by omega)
theorem PZ_mk {B' : Int} {M' : Mem} {σ' : HS} {r' : Nat → HS} {f' c' : Nat} {ep fp : Int} {τ : HS} {v cap : Nat} {t nm : Nat → Int} {pl : Int} {s : TS} (hn : 373 ≤ n) (hb : PB B' σ' ρ r' f' c') (a3 : HM M 125 τ) (a4 : HM M 149 ρ) (a6 : SM M 367 v cap 0 t nm pl) (a7 : BT M 371 372 16 s) (a8 : v = 369 ∨ (373 ≤ v ∧ v < n)) (a9 : NB nm ∧ (cap = 16 ∨ cap = 34) ∧ ∀ j, j < 0 → 32 ≤ t j ∧ t j ≤ 126) (k1 : XO M' 100 sv ep fp) (k2 : HM M' 101 σ') (k3 : YM M' 173 f' c' r') (hf : e_fh 100 M M') : PZ B' M' n σ' ρ r' f' c' sv :=
  ⟨hn, hb, τ, ep, fp, v, cap, t, nm, pl, s, k1, k2, HM_e (fun k h1 h2 => hf k (by omega) (by omega)) a3, HM_e (fun k h1 h2 => hf k (by omega) (by omega)) a4, k3, SM_fr a6 (fun k hk => hf k (by omega) (by omega)), BM_fr a7 (hf _ (by omega) (by omega)) (hf _ (by omega) (by omega)), a8, a9⟩
theorem l_bakedDoor (h : PZ B M n σ ρ r f c5 sv) (o : Nat) (ho : o < 2) : Ct (e_L r0) Γ mL_bakedDoor 3 1 6 [vR 100, vI (o : Int)] M n (fun r' M' n' => ∃ z : Int, r' = .inl (some (vI z)) ∧ z = (if σ.od o = -1 then -900002 else σ.od o) ∧ M' = M ∧ n' = n) := by
  obtain ⟨hn, pb, τ, ep, fp, v, cap, t, nm, pl, s, a1, a2, a3, a4, a5, a6, a7, a8, a9⟩ := h
  by_cases e : σ.od o = -1
  · refine w_bakedDoor (o : Int) (P := fun z M' n' => z = (if σ.od o = -1 then -900002 else σ.od o) ∧ M' = M ∧ n' = n) a1 (x_bakedDoorY a1 a2 pb.2.1.1 (o : Int) (by omega) (by omega) (by rw [Int.toNat_natCast]; exact e)) (by omega) (by omega) (by omega) (fun r1 M' n' q => by cases q.1) (fun E M' n' q => ?_)
    obtain ⟨q1, q2, q3⟩ := q
    cases q1
    exact Or.inr ⟨rfl, by rw [if_pos e], q2, q3⟩
  · refine w_bakedDoor (o : Int) (P := fun z M' n' => z = (if σ.od o = -1 then -900002 else σ.od o) ∧ M' = M ∧ n' = n) a1 (x_bakedDoor a1 a2 pb.2.1.1 (o : Int) (by omega) (by omega) (by rw [Int.toNat_natCast]; exact e)) (by omega) (by omega) (by omega) (fun r1 M' n' q => ?_) (fun E M' n' q => by cases q.1)
    obtain ⟨q1, q2, q3⟩ := q
    cases q1
    exact ⟨_, rfl, by rw [if_neg e, Int.toNat_natCast], q2, q3⟩
theorem l_triedDoor (h : PZ B M n σ ρ r f c5 sv) (o : Nat) (ho : (o : Int) < (if 10 < σ.sc 3 then 10 else σ.sc 3)) : Ct (e_L r0) Γ mL_triedDoor 3 1 6 [vR 100, vI (o : Int)] M n (fun r' M' n' => ∃ z : Int, r' = .inl (some (vI z)) ∧ z = σ.td o ∧ M' = M ∧ n' = n) := by
  obtain ⟨hn, pb, τ, ep, fp, v, cap, t, nm, pl, s, a1, a2, a3, a4, a5, a6, a7, a8, a9⟩ := h
  have h10 : (o : Int) < 10 := by
    by_cases e : 10 < σ.sc 3
    · rw [if_pos e] at ho; exact ho
    · rw [if_neg e] at ho; omega
  refine w_triedDoor (o : Int) (P := fun z M' n' => z = σ.td o ∧ M' = M ∧ n' = n) a1 (x_triedDoor a1 a2 pb.2.1.1 (by have := pb.1; omega) (o : Int) (by omega) ⟨by omega, ho⟩) (by omega) (by omega) (by omega) (fun r1 M' n' q => ?_) (fun E M' n' q => by cases q.1)
  obtain ⟨q1, q2, q3⟩ := q
  cases q1
  exact ⟨_, rfl, by rw [Int.toNat_natCast], q2, q3⟩
theorem l_undo (h : PZ B M n σ ρ r f c5 sv) (h0 : 0 < c5) : Ct (e_L r0) Γ mL_undo 7 1 6 [vR 100] M n (fun r' M' n' => ∃ z : Int, r' = .inl (some (vI z)) ∧ z = (c5 : Int) - 1 ∧ n' = n ∧ (∀ k, 373 ≤ k → M' k = M k) ∧ PZ B M' n (r ((f + (c5 - 1)) % 8)) ρ r f (c5 - 1) sv) := by
  obtain ⟨hn, pb, τ, ep, fp, v, cap, t, nm, pl, s, a1, a2, a3, a4, a5, a6, a7, a8, a9⟩ := h
  refine w_undo (P := fun z M' n' => z = (c5 : Int) - 1 ∧ n' = n ∧ (∀ k, 373 ≤ k → M' k = M k) ∧ PZ B M' n (r ((f + (c5 - 1)) % 8)) ρ r f (c5 - 1) sv) a1 (x_undo a1 a2 a5 (fun j hj => (pb.2.2.2.1 j hj).1) pb.2.2.2.2.1 pb.2.2.2.2.2 h0) (by omega) (by omega) (by omega) (fun r1 M' n' q => ?_) (fun E M' n' q => by cases q.1)
  obtain ⟨q1, q2, k1, k2, k3, k4⟩ := q
  cases q1
  exact ⟨_, rfl, rfl, q2, fun k hk => k4 k (by omega) (by omega), PZ_mk hn ⟨pb.1, pb.2.2.2.1 _ (by omega), pb.2.2.1, pb.2.2.2.1, pb.2.2.2.2.1, by have := pb.2.2.2.2.2; omega⟩ a3 a4 a6 a7 a8 a9 k1 k2 k3 k4⟩
theorem l_undoX (h : PZ B M n σ ρ r f c5 sv) (h0 : c5 = 0) : Ct (e_L r0) Γ mL_undo 7 1 6 [vR 100] M n (fun r' M' n' => ∃ z : Int, r' = .inl (some (vI z)) ∧ z = -900001 ∧ M' = M ∧ n' = n) := by
  obtain ⟨hn, pb, τ, ep, fp, v, cap, t, nm, pl, s, a1, a2, a3, a4, a5, a6, a7, a8, a9⟩ := h
  refine w_undo (P := fun z M' n' => z = -900001 ∧ M' = M ∧ n' = n) a1 (x_undoX a1 a2 a5 (fun j hj => (pb.2.2.2.1 j hj).1) pb.2.2.2.2.1 pb.2.2.2.2.2 h0) (by omega) (by omega) (by omega) (fun r1 M' n' q => by cases q.1) (fun E M' n' q => ?_)
  obtain ⟨q1, q2, q3⟩ := q
  cases q1
  exact ⟨rfl, rfl, q2, q3⟩
theorem l_restore (h : PZ B M n σ ρ r f c5 sv) (h0 : sv = 1) : Ct (e_L r0) Γ mL_restore 7 1 6 [vR 100] M n (fun r' M' n' => ∃ z : Int, r' = .inl (some (vI z)) ∧ z = ρ.sc 0 ∧ n' = n ∧ (∀ k, 373 ≤ k → M' k = M k) ∧ PZ B M' n ρ ρ r f 0 sv) := by
  obtain ⟨hn, pb, τ, ep, fp, v, cap, t, nm, pl, s, a1, a2, a3, a4, a5, a6, a7, a8, a9⟩ := h
  refine w_restore (P := fun z M' n' => z = ρ.sc 0 ∧ n' = n ∧ (∀ k, 373 ≤ k → M' k = M k) ∧ PZ B M' n ρ ρ r f 0 sv) a1 (x_restore a1 a2 a4 pb.2.2.1.1 a5 h0) (by omega) (by omega) (by omega) (fun r1 M' n' q => ?_) (fun E M' n' q => by cases q.1)
  obtain ⟨q1, q2, k1, k2, k3, k4⟩ := q
  cases q1
  exact ⟨_, rfl, rfl, q2, fun k hk => k4 k (by omega) (by omega), PZ_mk hn ⟨pb.1, pb.2.2.1, pb.2.2.1, pb.2.2.2.1, pb.2.2.2.2.1, by omega⟩ a3 a4 a6 a7 a8 a9 k1 k2 k3 k4⟩
/-- the save, as it goes on -/
theorem PZ_save {M' : Mem} {ep fp : Int} {τ : HS} {v cap : Nat} {t nm : Nat → Int} {pl : Int} {s : TS} (hn : 373 ≤ n) (pb : PB B σ ρ r f c5) (a2 : HM M 101 σ) (a3 : HM M 125 τ) (a5 : YM M 173 f c5 r) (a6 : SM M 367 v cap 0 t nm pl) (a7 : BT M 371 372 16 s) (a8 : v = 369 ∨ (373 ≤ v ∧ v < n)) (a9 : NB nm ∧ (cap = 16 ∨ cap = 34) ∧ ∀ j, j < 0 → 32 ≤ t j ∧ t j ≤ 126) (k1 : XO M' 100 1 ep fp) (k2 : HM M' 149 σ) (hf : e_fr2 149 173 100 M M') : PZ B M' n σ σ r f c5 1 :=
  ⟨hn, ⟨pb.1, pb.2.1, pb.2.1, pb.2.2.2⟩, τ, ep, fp, v, cap, t, nm, pl, s, k1, HM_e (fun k h1 h2 => hf k (by omega) (by omega)) a2, HM_e (fun k h1 h2 => hf k (by omega) (by omega)) a3, k2, YM_e (fun k h1 h2 => hf k (by omega) (by omega)) a5, SM_fr a6 (fun k hk => hf k (by omega) (by omega)), BM_fr a7 (hf _ (by omega) (by omega)) (hf _ (by omega) (by omega)), a8, a9⟩
/-- the end of a script -/
abbrev FRM (M : Mem) (n : Nat) (M' : Mem) : Prop := ∀ k g, 373 ≤ k → k < n → M k = cI 0 110 g → M' k = M k
def DEp (B : Int) (M : Mem) (n : Nat) (σ ρ : HS) (r : Nat → HS) (f c5 : Nat) (sv : Int) (z : Int) (M' : Mem) (n' : Nat) : Prop := n ≤ n' ∧ FRM M n M' ∧ ((OKz z ∧ ∃ σ' : HS, σ.sc 0 ≤ σ'.sc 0 ∧ PZ (B + 2400) M' n' σ' ρ (yR f c5 r σ) (yF f c5) (yC c5) sv) ∨ (EXz z ∧ PZ (B + 2400) M' n' σ ρ r f c5 sv))
def DE (B : Int) (M : Mem) (n : Nat) (σ ρ : HS) (r : Nat → HS) (f c5 : Nat) (sv : Int) : Rv → Mem → Nat → Prop := fun r' M' n' => ∃ z : Int, r' = .inl (some (vI z)) ∧ DEp B M n σ ρ r f c5 sv z M' n'
theorem CHp_DEp {c : Nat} {a b x y z : Int} {M' : Mem} {n' : Nat} (h : PZ B M n σ ρ r f c5 sv) (hB : B + 2400 ≤ 100000) (q : CHp B M n σ ρ r f c5 sv c a b x y z M' n') : DEp B M n σ ρ r f c5 sv z M' n' := by
  obtain ⟨rfl, q1, ⟨-, q2, q3⟩ | ⟨-, q2, rfl⟩⟩ := q
  · exact ⟨Nat.le_refl _, fun k g h1 _ _ => q1 k h1, Or.inl ⟨q2, _, sc0_run σ c a b x y, PZ_up q3 (by omega) hB⟩⟩
  · exact ⟨Nat.le_refl _, fun k g h1 _ _ => rfl, Or.inr ⟨q2, PZ_up h (by omega) hB⟩⟩
theorem l_runScript (hK : KM Γ) (hP : PV Γ) (hn : 373 ≤ n) (pb : PB B σ ρ r f c5) {l : Nat} (h : PX M n σ ρ r f c5 sv l) (h60 : l ≤ 60) (hB : B + 2400 ≤ 100000) : Ct (e_L r0) Γ mL_runScript 8 1 6 [vR 100] M n (DE B M n σ ρ r f c5 sv) := by
  obtain ⟨τ, ep, fp, v, cap, t, nm, pl, s, a1, a2, a3, a4, a5, a6, a7, a8, a9, a10, a11⟩ := h
  have hv9 : M v = cI 2 cap t := a6.2.2.1.2.2.2.2.2.2.1
  have hfrm : ∀ {M' : Mem}, e_rx 100 v M M' → FRM M n M' := fun hr k g h1 _ h3 => hr k (by omega) (fun e => by rw [e, hv9] at h3; cases h3)
  have key : ∀ {M' : Mem} {σ' τ' : HS} {r' : Nat → HS} {f' c' : Nat} {ep' fp' pl' : Int} {nm' : Nat → Int}, e_rx 100 v M M' → PB (B + 2400) σ' ρ r' f' c' → NB nm' → SM M' 367 v cap 0 t nm' pl' → XO M' 100 sv ep' fp' → HM M' 101 σ' → HM M' 125 τ' → YM M' 173 f' c' r' → PZ (B + 2400) M' n σ' ρ r' f' c' sv := fun {M' σ' τ' r' f' c' ep' fp' pl' nm'} hr hb hnb hS k1 k2 k3 k4 =>
    ⟨hn, hb, τ', ep', fp', v, cap, t, nm', pl', s, k1, k2, k3, HM_e (fun k h1 h2 => hr k (by omega) (by omega)) a4, k4, hS, BM_fr a7 (hr _ (by omega) (by omega)) (hr _ (by omega) (by omega)), a8, hnb, a10, fun j hj => absurd hj (by omega)⟩
  refine w_runScript (P := DEp B M n σ ρ r f c5 sv) a1 (x_runScript hK hP a1 a6 (by omega) a2 pb.2.1.1 (by have := pb.1; omega) h60 a11 a9 a3 a5 pb.2.2.2.2.1 pb.2.2.2.2.2) (by omega) (by omega) (by omega) (fun r1 M' n' q => ?_) (fun E M' n' q => ?_)
  · obtain ⟨rfl, hrx, k, hgo, -, ⟨nm1, pl1, nb1, hS1⟩, q⟩ := q
    have srk := sT_rng k hgo
    rcases q with ⟨-, q1, -⟩ | ⟨-, hz, q1, k1, k2, k3, k4⟩ | ⟨-, c, -, -, -, q1, -⟩
    · cases q1
    · cases q1
      have hj := HJ_hSq pb.2.1.2 pb.2.1.1 (k + 1) hz
      exact ⟨_, rfl, Nat.le_refl _, hfrm hrx, Or.inl ⟨by omega, _, hj.2, key hrx (PB_step pb (by omega) hB (Hok_mono (hSq_ok pb.2.1.1 (k + 1) hz) (by omega)) hj.1) nb1 hS1 k1 k2 k3 k4⟩⟩
    · cases q1
  · obtain ⟨rfl, hrx, k, hgo, -, ⟨nm1, pl1, nb1, hS1⟩, q⟩ := q
    rcases q with ⟨-, q1, k1, k2, k3, k4⟩ | ⟨-, -, q1, -⟩ | ⟨-, c, -, -, -, q1, k1, k2, k3, k4⟩
    · cases q1
      exact Or.inl ⟨rfl, Nat.le_refl _, hfrm hrx, Or.inr ⟨by decide, key hrx (PB_up pb (by omega) hB) nb1 hS1 k1 k2 k3 k4⟩⟩
    · cases q1
    · cases q1
      exact Or.inr ⟨rfl, Nat.le_refl _, hfrm hrx, Or.inr ⟨by decide, key hrx (PB_up pb (by omega) hB) nb1 hS1 k1 k2 k3 k4⟩⟩
/-- predictions: any answer within bounds, nothing changed but the spare house -/
abbrev PRp (M : Mem) (n : Nat) (z : Int) (M' : Mem) (n' : Nat) : Prop := (-900003 ≤ z ∧ z ≤ 1000000) ∧ SPq M n M' n'
theorem l_triesUntilBroken (h : PZ B M n σ ρ r f c5 sv) (z : Int) (hz : i32 z) (hd : hDoor σ z) : Ct (e_L r0) Γ mL_triesUntilBroken 7 1 6 [vR 100, vI z] M n (fun r' M' n' => ∃ y : Int, r' = .inl (some (vI y)) ∧ PRp M n y M' n') := by
  obtain ⟨hn, pb, τ, ep, fp, v, cap, t, nm, pl, s, a1, a2, a3, a4, a5, a6, a7, a8, a9⟩ := h
  have hrg := lTub_rng 21 (σ.lk z.toNat)
  refine w_triesUntilBroken z (P := PRp M n) a1 (x_triesUntilBroken a1 a2 pb.2.1.1 a3 z hz hd) (by omega) (by omega) (by omega) (fun r1 M' n' q => ?_) (fun E M' n' q => ?_)
  · obtain ⟨q1, q2, ⟨-, q3⟩ | ⟨-, q3⟩⟩ := q
    · cases q3
    · cases q3
      exact ⟨_, rfl, by omega, q1, Or.inr q2⟩
  · obtain ⟨q1, q2, ⟨-, q3⟩ | ⟨-, q3⟩⟩ := q
    · cases q3
      exact Or.inr ⟨rfl, by decide, q1, Or.inr q2⟩
    · cases q3
theorem l_dialAfter (h : PZ B M n σ ρ r f c5 sv) (z y u : Int) (hz : i32 z) (hd : hDoor σ z) (hy : 0 ≤ y ∧ y ≤ 2) (hu : 0 ≤ u ∧ u ≤ 60) : Ct (e_L r0) Γ mL_dialAfter 7 1 6 [vR 100, vI z, vI y, vI u] M n (fun r' M' n' => ∃ y : Int, r' = .inl (some (vI y)) ∧ PRp M n y M' n') := by
  obtain ⟨hn, pb, τ, ep, fp, v, cap, t, nm, pl, s, a1, a2, a3, a4, a5, a6, a7, a8, a9⟩ := h
  have q6 := pb.2.1.1.2.1
  have hrg := ((Hok_hrs pb.2.1.1 u.toNat).2.2.2.2 z.toNat (by omega)).2.2 y.toNat (by omega)
  refine w_dialAfter z y u (P := PRp M n) a1 (x_dialAfter a1 a2 pb.2.1.1 a3 (by have := pb.1; omega) z hz y (by omega) u (by omega) hd hy hu) (by omega) (by omega) (by omega) (fun r1 M' n' q => ?_) (fun E M' n' q => by cases q.1)
  obtain ⟨q1, q2, q3⟩ := q
  cases q1
  exact ⟨_, rfl, by omega, q2, Or.inr q3⟩
theorem l_hoursUntilFitting (h : PZ B M n σ ρ r f c5 sv) (z : Int) (hz : i32 z) (hd : hDoor σ z) : Ct (e_L r0) Γ mL_hoursUntilFitting 7 1 6 [vR 100, vI z] M n (fun r' M' n' => ∃ y : Int, r' = .inl (some (vI y)) ∧ PRp M n y M' n') := by
  obtain ⟨hn, pb, τ, ep, fp, v, cap, t, nm, pl, s, a1, a2, a3, a4, a5, a6, a7, a8, a9⟩ := h
  refine w_hoursUntilFitting z (P := PRp M n) a1 (x_hoursUntilFitting a1 a2 pb.2.1.1 a3 (by have := pb.1; omega) z hz hd) (by omega) (by omega) (by omega) (fun r1 M' n' q => ?_) (fun E M' n' q => ?_)
  · obtain ⟨q1, q2, k, -, ⟨hk, -, q3⟩ | ⟨-, q3⟩⟩ := q
    · cases q3
      exact ⟨_, rfl, by omega, q1, Or.inr q2⟩
    · cases q3
  · obtain ⟨q1, q2, k, -, ⟨-, -, q3⟩ | ⟨-, q3⟩⟩ := q
    · cases q3
    · cases q3
      exact Or.inr ⟨rfl, by decide, q1, Or.inr q2⟩
end LQ
