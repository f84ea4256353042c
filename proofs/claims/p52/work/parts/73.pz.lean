/-! what holds between two calls of the law (by hand): the object at 100; l: the script's letters -/
def PX (M : Mem) (n : Nat) (σ ρ : HS) (r : Nat → HS) (f c5 : Nat) (sv : Int) (l : Nat) : Prop := ∃ (τ : HS) (ep fp : Int) (v cap : Nat) (t nm : Nat → Int) (pl : Int) (s : TS), XO M 100 sv ep fp ∧ HM M 101 σ ∧ HM M 125 τ ∧ HM M 149 ρ ∧ YM M 173 f c5 r ∧ SM M 367 v cap l t nm pl ∧ BT M 371 372 16 s ∧ (v = 369 ∨ (373 ≤ v ∧ v < n)) ∧ NB nm ∧ (cap = 16 ∨ cap = 34) ∧ ∀ j, j < l → 32 ≤ t j ∧ t j ≤ 126
def PB (B : Int) (σ ρ : HS) (r : Nat → HS) (f c5 : Nat) : Prop := (20 ≤ B ∧ B ≤ 100000) ∧ (Hok B σ ∧ HJ σ) ∧ (Hok B ρ ∧ HJ ρ) ∧ (∀ j, j < 8 → Hok B (r j) ∧ HJ (r j)) ∧ f < 8 ∧ c5 ≤ 8
def PZ (B : Int) (M : Mem) (n : Nat) (σ ρ : HS) (r : Nat → HS) (f c5 : Nat) (sv : Int) : Prop := 373 ≤ n ∧ PB B σ ρ r f c5 ∧ PX M n σ ρ r f c5 sv 0
section PZ
variable {B B' : Int} {M M' : Mem} {n n' : Nat} {σ ρ : HS} {r : Nat → HS} {f c5 l : Nat} {sv : Int}
theorem PX_e (h : PX M n σ ρ r f c5 sv l) (hf : ∀ k, 100 ≤ k → k < 373 → M' k = M k) (hv : ∀ k cap g, 373 ≤ k → k < n → M k = cI 2 cap g → M' k = M k) (hn : n ≤ n') : PX M' n' σ ρ r f c5 sv l := by
  obtain ⟨τ, ep, fp, v, cap, t, nm, pl, s, a1, a2, a3, a4, a5, a6, a7, a8, a9⟩ := h
  refine ⟨τ, ep, fp, v, cap, t, nm, pl, s, (hf _ (by omega) (by omega)).trans a1, HM_e (fun k h1 h2 => hf k (by omega) (by omega)) a2, HM_e (fun k h1 h2 => hf k (by omega) (by omega)) a3, HM_e (fun k h1 h2 => hf k (by omega) (by omega)) a4, YM_e (fun k h1 h2 => hf k (by omega) (by omega)) a5, SM_fr a6 (fun k hk => ?_), BM_fr a7 (hf _ (by omega) (by omega)) (hf _ (by omega) (by omega)), by omega, a9⟩
  by_cases e : k < 373
  · exact hf k (by omega) e
  · have e2 : k = v := by omega
    subst e2
    exact hv k cap t (by omega) (by omega) a6.2.2.1.2.2.2.2.2.2.1
theorem PX_fr (h : PX M n σ ρ r f c5 sv l) (hf : ∀ k, 100 ≤ k → k < n → M' k = M k) (h9 : 373 ≤ n) (hn : n ≤ n') : PX M' n' σ ρ r f c5 sv l := PX_e h (fun k h1 h2 => hf k h1 (by omega)) (fun k _ _ h1 h2 _ => hf k (by omega) h2) hn
theorem PX_sp (h : PX M n σ ρ r f c5 sv l) (hs : SP 100 M M') : PX M' n σ ρ r f c5 sv l := by
  obtain ⟨τ, ep, fp, v, cap, t, nm, pl, s, a1, a2, a3, a4, a5, a6, a7, a8, a9⟩ := h
  obtain ⟨⟨τ', ht⟩, hf⟩ := hs
  exact ⟨τ', ep, fp, v, cap, t, nm, pl, s, (hf _ (by omega)).trans a1, HM_fr hf (by omega) a2, ht, HM_fr hf (by omega) a4, YM_fr hf (by omega) a5, SM_fr a6 (fun k hk => hf k (by omega)), BM_fr a7 (hf _ (by omega)) (hf _ (by omega)), a8, a9⟩
theorem PB_up (h : PB B σ ρ r f c5) (h1 : B ≤ B') (h2 : B' ≤ 100000) : PB B' σ ρ r f c5 := ⟨⟨by have := h.1; omega, h2⟩, ⟨Hok_mono h.2.1.1 h1, h.2.1.2⟩, ⟨Hok_mono h.2.2.1.1 h1, h.2.2.1.2⟩, fun j hj => ⟨Hok_mono (h.2.2.2.1 j hj).1 h1, (h.2.2.2.1 j hj).2⟩, h.2.2.2.2⟩
theorem PZ_up (h : PZ B M n σ ρ r f c5 sv) (h1 : B ≤ B') (h2 : B' ≤ 100000) : PZ B' M n σ ρ r f c5 sv := ⟨h.1, PB_up h.2.1 h1 h2, h.2.2⟩
theorem PZ_fr (h : PZ B M n σ ρ r f c5 sv) (hf : ∀ k, 100 ≤ k → k < n → M' k = M k) (hn : n ≤ n') : PZ B M' n' σ ρ r f c5 sv := ⟨by have := h.1; omega, h.2.1, PX_fr h.2.2 hf h.1 hn⟩
theorem PZ_sp (h : PZ B M n σ ρ r f c5 sv) (hs : SP 100 M M') : PZ B M' n σ ρ r f c5 sv := ⟨h.1, h.2.1, PX_sp h.2.2 hs⟩
theorem yF_lt (hf : f < 8) : yF f c5 < 8 := by unfold yF; split <;> omega
theorem yC_le (hc : c5 ≤ 8) : yC c5 ≤ 8 := by unfold yC; split <;> omega
/-- a change: the state before it goes to the history -/
theorem PB_step {σ' : HS} (h : PB B σ ρ r f c5) (h1 : B ≤ B') (h2 : B' ≤ 100000) (hr : Hok B' σ') (hj : HJ σ') : PB B' σ' ρ (yR f c5 r σ) (yF f c5) (yC c5) := by
  have q := PB_up h h1 h2
  refine ⟨q.1, ⟨hr, hj⟩, q.2.2.1, fun j hj => ?_, yF_lt h.2.2.2.2.1, yC_le h.2.2.2.2.2⟩
  unfold yR
  by_cases e : j = (yF f c5 + (yC c5 - 1)) % 8
  · rw [e, va_up_self]; exact q.2.1
  · rw [va_up_ne _ _ e]; exact q.2.2.2.1 j hj
/-- a law's call that comes to a change, carried out or refused -/
abbrev OKz (z : Int) : Prop := -100000 ≤ z ∧ z ≤ 1000000
abbrev EXz (z : Int) : Prop := -900003 ≤ z ∧ z ≤ -900001
def CHp (B : Int) (M : Mem) (n : Nat) (σ ρ : HS) (r : Nat → HS) (f c5 : Nat) (sv : Int) (c : Nat) (a b x y : Int) (z : Int) (M' : Mem) (n' : Nat) : Prop := n' = n ∧ (∀ k, 373 ≤ k → M' k = M k) ∧ ((rf σ c a b x y = 0 ∧ OKz z ∧ PZ (B + 181) M' n (run σ c a b x y) ρ (yR f c5 r σ) (yF f c5) (yC c5) sv) ∨ (rf σ c a b x y ≠ 0 ∧ EXz z ∧ M' = M))
def CHc (B : Int) (M : Mem) (n : Nat) (σ ρ : HS) (r : Nat → HS) (f c5 : Nat) (sv : Int) (c : Nat) (a b x y : Int) : Rv → Mem → Nat → Prop := fun r' M' n' => ∃ z : Int, r' = .inl (some (vI z)) ∧ CHp B M n σ ρ r f c5 sv c a b x y z M' n'
theorem runV_rng (hr : Hok B σ) (hB : 20 ≤ B ∧ B ≤ 100000) (c : Nat) (a b x y : Int) (h0 : rf σ c a b x y = 0) : -100000 ≤ runV σ c a b x y ∧ runV σ c a b x y ≤ 1000000 := by
  have q0 := hr.1 0 (by decide)
  have q1 := hr.1 1 (by decide)
  have q2 := hr.2.1
  have q8 := hr.1 8 (by decide)
  unfold rf at h0
  unfold runV
  split
  · omega
  · unfold p_turn; omega
  · split <;> omega
  · have := nShut_rng (doShut σ a).lk (σ.sc 0).toNat
    omega
  · omega
  · have h1 := rfBake_0 h0
    have k := (hr.2.2.2.2 a.toNat (by omega)).2.1
    omega
  · unfold lDiff
    (repeat' split) <;> omega
  · have h1 : 1 ≤ a ∧ a ≤ 60 := by
      apply rfHours_0
      split at h0 <;> first | exact h0 | (exfalso; simp_all)
    have k := (Hok_hrs hr a.toNat).1 8 (by decide)
    omega
theorem PZ_chg {σ' : HS} {ep fp : Int} {τ : HS} {v cap : Nat} {t nm : Nat → Int} {pl : Int} {s : TS} (hn : 373 ≤ n) (hb : PB B' σ' ρ (yR f c5 r σ) (yF f c5) (yC c5)) (a3 : HM M 125 τ) (a4 : HM M 149 ρ) (a6 : SM M 367 v cap 0 t nm pl) (a7 : BT M 371 372 16 s) (a8 : v = 369 ∨ (373 ≤ v ∧ v < n)) (a9 : NB nm ∧ (cap = 16 ∨ cap = 34) ∧ ∀ j, j < 0 → 32 ≤ t j ∧ t j ≤ 126) (k1 : XO M' 100 sv ep fp) (k2 : HM M' 101 σ') (k3 : YM M' 173 (yF f c5) (yC c5) (yR f c5 r σ)) (hf : e_fh 100 M M') : PZ B' M' n σ' ρ (yR f c5 r σ) (yF f c5) (yC c5) sv :=
  ⟨hn, hb, τ, ep, fp, v, cap, t, nm, pl, s, k1, k2, HM_e (fun k h1 h2 => hf k (by omega) (by omega)) a3, HM_e (fun k h1 h2 => hf k (by omega) (by omega)) a4, k3, SM_fr a6 (fun k hk => hf k (by omega) (by omega)), BM_fr a7 (hf _ (by omega) (by omega)) (hf _ (by omega) (by omega)), a8, a9⟩
end PZ
