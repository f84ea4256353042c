/-! the law's small methods (by hand) -/
def KS (Γ : Cx) : Prop := ∃ (L : Nat) (xs : Nat → Int), Γ.cM = e_cMem L xs ∧ L ≤ 260
theorem KS_KM {Γ : Cx} (h : KS Γ) : KM Γ := by
  obtain ⟨L, xs, e, -⟩ := h
  exact ⟨L, xs, e⟩
section EQ
variable {Λ : Ls} {Γ : Cx} {X : MD} {d mc ms mc' ms' : Nat} {Q : Rv → Mem → Nat → Prop} {pc pc' : Nat} {ls : List (Option aV)} {st : List aV} {M : Mem} {n n0 kc ks : Nat} {P : Int → Prop} {R : Int → Mem → Nat → Prop}
/-- a number of which P is said; nothing changed -/
def e_rq (P : Int → Prop) (M : Mem) (n : Nat) : Rv → Mem → Nat → Prop := fun r' M' n' => M' = M ∧ n' = n ∧ ∃ y : Int, P y ∧ r' = .inl (some (vI y))
theorem e_kq (kk : ∀ y, P y → G Λ Γ X d mc ms Q pc ls (vI y :: st) M n (kc + mc') (ks + ms')) : ∀ v' M' n', e_rq P M n (.inl v') M' n' → n0 ≤ n' → G Λ Γ X d mc ms Q pc ls (v'.toList ++ st) M' n' (kc + mc') (ks + ms') := by
  rintro v' M' n' ⟨e1, e2, y, hy, e3⟩ -
  cases e3
  rw [e1, e2]
  exact kk y hy
theorem e_kqx : ∀ E M' n', e_rq P M n (.inr E) M' n' → n0 ≤ n' → GX Λ Γ X d mc ms Q E pc ls M' n' (kc + mc') (ks + ms') := by
  rintro E M' n' ⟨-, -, y, -, e3⟩ -
  cases e3
/-- a number, and a memory, of which R is said -/
theorem e_kz (kk : ∀ z M' n', R z M' n' → G Λ Γ X d mc ms Q pc ls (vI z :: st) M' n' (kc + mc') (ks + ms')) : ∀ v' M' n', (∃ z : Int, (Sum.inl v' : Rv) = .inl (some (vI z)) ∧ R z M' n') → n0 ≤ n' → G Λ Γ X d mc ms Q pc ls (v'.toList ++ st) M' n' (kc + mc') (ks + ms') := by
  rintro v' M' n' ⟨z, e3, h⟩ -
  cases e3
  exact kk z M' n' h
theorem e_kzx : ∀ E M' n', (∃ z : Int, (Sum.inr E : Rv) = .inl (some (vI z)) ∧ R z M' n') → n0 ≤ n' → GX Λ Γ X d mc ms Q E pc ls M' n' (kc + mc') (ks + ms') := by
  rintro E M' n' ⟨z, e3, h⟩ -
  cases e3
theorem g_icmp_same (i tgt : Nat) {off a : Int} (hd : X.tb[i]? = some (pc, .if_icmp .eq off, pc')) (ht : (pc : Int) + off = (tgt : Int)) (kt : G Λ Γ X d mc ms Q tgt ls st M n kc ks) : G Λ Γ X d mc ms Q pc ls (vI a :: vI a :: st) M n kc ks := by
  intro hE p e R s m args below meth c H locs ad ad0 n0 lsA hF h1 h2 hX hW hS hL hs
  obtain ⟨hdd, rfl⟩ := e_dec hF.1 hd
  exact lv_icmp_eq hF.1.1 hF.1.2.1 hdd ht (fun _ => kt hE p e R s m args below meth c H locs ad ad0 n0 lsA hF h1 h2 hX hW hS hL hs.2.2) (fun h => absurd rfl h)
end EQ
section SM9
variable {r0 : Option Nat} {Γ : Cx} {M : Mem} {n : Nat} {B : Int} {σ ρ : HS} {r : Nat → HS} {f c5 : Nat} {sv ep fp : Int}
theorem l_cell (hS : KS Γ) (z : Int) (hz : 0 ≤ z ∧ z ≤ 1000) : Ct (e_L r0) Γ mL_cell 0 0 0 [vR 60, vI z] M n (e_rq (fun _ => True) M n) := by
  refine g_start ok_L_cell rfl rfl ?_
  refine g_low (fun hl => ?_)
  obtain ⟨L, xs, e, hL⟩ := hS
  have h60 : M 60 = cI 10 L xs := by rw [hl 60 (by decide), e]; rfl
  have tail : ∀ w : Int, G (e_L r0) Γ mL_cell 0 0 0 (e_rq (fun _ => True) M n) 15 [some (vR 60), some (vI z), none] [vI w, vI 69069] M n 0 0 := fun w => by
    refine g_run 10 11 rfl ?_
    refine g_iushrQ 21 rfl (fun y1 _ => ?_)
    refine g_ixorQ 22 rfl (fun y2 _ => ?_)
    refine g_ldcI 23 rfl lc_RL_8 ?_
    refine g_run 24 5 rfl ?_
    refine g_iushrQ 29 rfl (fun y3 _ => ?_)
    refine g_ixorQ 30 rfl (fun y4 _ => ?_)
    exact g_iret 31 rfl rfl trivial ⟨rfl, rfl, _, trivial, rfl⟩
  refine g_ldcI 0 rfl lc_RL_7 ?_
  refine g_run 1 2 rfl ?_
  refine g_alen 3 rfl h60 ?_
  dsimp only
  refine g_icmp_ge 4 14 rfl rfl (by omega) (by omega) (fun c5 => ?_) (fun c5 => ?_)
  · refine g_run 9 1 rfl ?_
    exact tail 0
  · refine g_run 5 2 rfl ?_
    refine g_iald 7 z.toNat rfl rfl h60 (Int.toNat_of_nonneg (by omega)).symm (by omega) (by omega) ?_
    refine g_run 8 1 rfl ?_
    exact tail _
theorem l_in (hS : KS Γ) (z k : Int) (hz : 0 ≤ z ∧ z ≤ 1000) (hk : 0 < k ∧ k ≤ 1000) : Ct (e_L r0) Γ mL_in 1 0 0 [vR 60, vI z, vI k] M n (e_rq (fun y => 0 ≤ y ∧ y < k) M n) := by
  refine g_start ok_L_in rfl rfl ?_
  refine g_run 0 2 rfl ?_
  refine g_callS 2 rfl cs_RL_78 (l_cell hS z hz) rfl rfl (by decide) (by omega) (by omega) (Nat.le_of_ble_eq_true rfl) (e_kq fun y _ => ?_) e_kqx
  refine g_ldcI 3 rfl lc_RL_84 ?_
  refine g_iandQ 4 rfl (fun w hw => ?_)
  refine g_run 5 1 rfl ?_
  refine g_irem 6 rfl hw (by omega) ?_
  exact g_iret 7 rfl rfl trivial ⟨rfl, rfl, _, ⟨Int.emod_nonneg _ (by omega), Int.emod_lt_of_pos _ (by omega)⟩, rfl⟩
theorem l_away (hx : XO M 100 sv ep fp) (hH : HM M 101 σ) (hr : Hok B σ) (k d : Nat) (hk : (k : Int) < σ.sc 0) (hd : d < 3) : Ct (e_L r0) Γ mL_away 3 0 0 [vR 100, vI (k : Int), vI (d : Int)] M n (e_rt (.inl (some (vI (p_dist ((σ.lk k).cb d) ((σ.lk k).dl d))))) M n) := by
  have q6 := hr.2.1
  have q := (hr.2.2.2.2 k (by omega)).2.2 d hd
  refine g_start ok_L_away rfl rfl ?_
  refine g_run 0 3 rfl ?_
  refine g_callV 3 rfl cv_RL_129 hx (x_dial hx hH hr (k : Int) (by omega) (d : Int) (by omega) ⟨by omega, hk⟩ (by omega)) rfl rfl (by decide) (by omega) (by omega) (Nat.le_of_ble_eq_true rfl) (e_kr ?_) e_kx
  refine g_run 4 3 rfl ?_
  refine g_callV 7 rfl cv_RL_126 hx (x_combination hx hH hr (k : Int) (by omega) (d : Int) (by omega) ⟨by omega, hk⟩ (by omega)) rfl rfl (by decide) (by omega) (by omega) (Nat.le_of_ble_eq_true rfl) (e_kr ?_) e_kx
  simp only [Int.toNat_natCast]
  refine g_run 8 1 rfl ?_
  refine g_abs 9 rfl ab_RL_215 (by omega) (Nat.le_of_ble_eq_true rfl) ?_
  have h9 : 0 ≤ (if 0 ≤ (σ.lk k).dl d - (σ.lk k).cb d then (σ.lk k).dl d - (σ.lk k).cb d else 0 - ((σ.lk k).dl d - (σ.lk k).cb d)) ∧ (if 0 ≤ (σ.lk k).dl d - (σ.lk k).cb d then (σ.lk k).dl d - (σ.lk k).cb d else 0 - ((σ.lk k).dl d - (σ.lk k).cb d)) ≤ 9 := by split <;> omega
  refine g_run 10 5 rfl ?_
  refine g_min 15 rfl cm_RL_220 (by omega) (by omega) (Nat.le_of_ble_eq_true rfl) ?_
  exact g_iret 16 rfl rfl trivial ⟨by rw [← p_ab_eq ⟨q.1, q.2.1⟩ q.2.2]; rfl, rfl, rfl⟩
def p_mis (dl cb : Nat → Int) (pl : Int) : Nat → Int
  | 0 => 0
  | k + 1 => p_mis dl cb pl k + (if p_dist (cb k) (dl k) ≤ pl then 0 else 1)
theorem p_mis_eq (dl cb : Nat → Int) (pl : Int) : ∀ k : Nat, p_mis dl cb pl k = (k : Int) - p_fitN dl cb pl k
  | 0 => by simp [p_mis, p_fitN]
  | k + 1 => by
    show p_mis dl cb pl k + (if p_dist (cb k) (dl k) ≤ pl then 0 else 1) = _ - (p_fitN dl cb pl k + (if p_dist (cb k) (dl k) ≤ pl then 1 else 0))
    rw [p_mis_eq dl cb pl k]
    split <;> omega
theorem p_mis_rng (dl cb : Nat → Int) (pl : Int) (k : Nat) : 0 ≤ p_mis dl cb pl k ∧ p_mis dl cb pl k ≤ k := by
  rw [p_mis_eq]
  have := p_fitN_rng dl cb pl k
  omega
theorem l_misfits (hx : XO M 100 sv ep fp) (hH : HM M 101 σ) (hr : Hok B σ) (k : Nat) (hk : (k : Int) < σ.sc 0) (pl : Int) (hp : 0 ≤ pl ∧ pl ≤ 4) : Ct (e_L r0) Γ mL_misfits 4 0 0 [vR 100, vI (k : Int), vI pl] M n (e_rt (.inl (some (vI (p_mis (σ.lk k).dl (σ.lk k).cb pl 3)))) M n) := by
  refine g_start ok_L_misfits rfl rfl ?_
  refine g_run 0 4 rfl ?_
  refine e_down (P := fun d => G (e_L r0) Γ mL_misfits 4 0 0 _ 5 [some (vR 100), some (vI (k : Int)), some (vI pl), some (vI (p_mis (σ.lk k).dl (σ.lk k).cb pl d)), some (vI (d : Int))] [] M n 0 0) 3 ?_ 0 (by omega)
  intro d hd ih
  have hm := p_mis_rng (σ.lk k).dl (σ.lk k).cb pl d
  refine g_run 4 2 rfl ?_
  refine g_icmp_ge 6 36 rfl rfl (by omega) (by omega) (fun c8 => ?_) (fun c8 => ?_)
  · obtain rfl : d = 3 := by omega
    refine g_run 21 1 rfl ?_
    exact g_iret 22 rfl rfl trivial ⟨rfl, rfl, rfl⟩
  · have hq := p_dist_rng ((σ.lk k).cb d) ((σ.lk k).dl d)
    have ih9 := ih (by omega)
    refine g_run 7 4 rfl ?_
    refine g_callS 11 rfl cs_RL_223 (l_away hx hH hr k d hk (by omega)) rfl rfl (by decide) (by omega) (by omega) (Nat.le_of_ble_eq_true rfl) (e_kr ?_) e_kx
    refine g_run 12 1 rfl ?_
    refine g_icmp_le 13 27 rfl rfl (by omega) (by omega) (fun c20 => ?_) (fun c20 => ?_)
    · rw [show p_mis (σ.lk k).dl (σ.lk k).cb pl (d + 1) = p_mis (σ.lk k).dl (σ.lk k).cb pl d + 0 from by rw [p_mis, if_pos c20]] at ih9
      refine g_run 16 5 rfl ?_
      exact ih9
    · rw [show p_mis (σ.lk k).dl (σ.lk k).cb pl (d + 1) = p_mis (σ.lk k).dl (σ.lk k).cb pl d + 1 from by rw [p_mis, if_neg c20]] at ih9
      refine g_run 14 2 rfl ?_
      refine g_run 17 4 rfl ?_
      exact ih9
theorem l_areAlike (a b : Nat) (g : Nat → Int) (ha : M a = cI 0 110 g) (hb : M b = cI 0 110 g) : Ct (e_L r0) Γ mL_areAlike 0 0 0 [vR a, vR b] M n (e_rt (.inl (some (vI 1))) M n) := by
  refine g_start ok_L_areAlike rfl rfl ?_
  refine g_run 0 2 rfl ?_
  refine e_down (P := fun k => G (e_L r0) Γ mL_areAlike 0 0 0 _ 2 [some (vR a), some (vR b), some (vI (k : Int))] [] M n 0 0) 110 ?_ 0 (by omega)
  intro k hk ih
  refine g_run 2 2 rfl ?_
  refine g_alen 4 rfl ha ?_
  dsimp only
  refine g_icmp_ge 5 25 rfl rfl (by omega) (by omega) (fun c5 => ?_) (fun c5 => ?_)
  · refine g_run 17 1 rfl ?_
    exact g_iret 18 rfl rfl (Or.inr rfl) ⟨rfl, rfl, rfl⟩
  · refine g_run 6 2 rfl ?_
    refine g_iald 8 k rfl rfl ha rfl (by omega) (by decide) ?_
    refine g_run 9 2 rfl ?_
    refine g_iald 11 k rfl rfl hb rfl (by omega) (by decide) ?_
    refine g_icmp_same 12 19 rfl rfl ?_
    refine g_run 15 2 rfl ?_
    exact ih (by omega)
/-- the object with l letters in the script, their cell neither a nor k -/
def PXv (M : Mem) (n : Nat) (σ ρ : HS) (r : Nat → HS) (f c5 : Nat) (sv : Int) (l a k : Nat) : Prop := ∃ (τ : HS) (ep fp : Int) (v cap : Nat) (t nm : Nat → Int) (pl : Int) (s : TS), (v ≠ a ∧ v ≠ k) ∧ XO M 100 sv ep fp ∧ HM M 101 σ ∧ HM M 125 τ ∧ HM M 149 ρ ∧ YM M 173 f c5 r ∧ SM M 367 v cap l t nm pl ∧ BT M 371 372 16 s ∧ (v = 369 ∨ (373 ≤ v ∧ v < n)) ∧ NB nm ∧ (cap = 16 ∨ cap = 34) ∧ ∀ j, j < l → 32 ≤ t j ∧ t j ≤ 126
theorem PXv_PX {l a k : Nat} (h : PXv M n σ ρ r f c5 sv l a k) : PX M n σ ρ r f c5 sv l := by
  obtain ⟨τ, ep, fp, v, cap, t, nm, pl, s, -, h⟩ := h
  exact ⟨τ, ep, fp, v, cap, t, nm, pl, s, h⟩
theorem up_ch {t : Nat → Int} {j : Nat} {x : Int} (h : ∀ i, i < j → 32 ≤ t i ∧ t i ≤ 126) (hx : 32 ≤ x ∧ x ≤ 126) : ∀ i, i < j + 1 → 32 ≤ va_up t j x i ∧ va_up t j x i ≤ 126 := fun i hi => by
  by_cases e : i = j
  · rw [e, va_up_self]; exact hx
  · rw [va_up_ne _ _ e]; exact h i (by omega)
theorem l_does (hK : KM Γ) (hP : PV Γ) (hn : 373 ≤ n) (pb : PB B σ ρ r f c5) (hB : B + 2400 ≤ 100000) {a k len : Nat} {g : Nat → Int} (hX0 : PXv M n σ ρ r f c5 sv 0 a k) (ha : M a = cI 2 len g) (hk : M k = cO 0 [vR a, vI 0, vI 0, vI 0]) (hg : ∀ j, j < len → 32 ≤ g j ∧ g j ≤ 126) (hl : len ≤ 30) (han : 373 ≤ a ∧ a < n) (hkn : 373 ≤ k ∧ k < n) : Ct (e_L r0) Γ mL_does 9 40 1200 [vR 100, vR k] M n (DE B M n σ ρ r f c5 sv) := by
  refine g_start ok_L_does rfl rfl ?_
  refine g_run 0 4 rfl ?_
  refine e_down (P := fun j => ∀ (M' : Mem) (n' kc ks : Nat) (w : Int), n ≤ n' → kc ≤ j → ks ≤ 34 * j → (0 ≤ w ∧ w ≤ 40 * j) → (∀ q, 373 ≤ q → q < n → (q = a ∨ q = k ∨ ∃ g, M q = cI 0 110 g) → M' q = M q) → PXv M' n' σ ρ r f c5 sv j a k → G (e_L r0) Γ mL_does 9 40 1200 (DE B M n σ ρ r f c5 sv) 4 [some (vR 100), some (vR k), some (vI w), some (vI (j : Int))] [] M' n' kc ks) len ?_ 0 (by omega) M n 0 0 0 (Nat.le_refl _) (by omega) (by omega) (by omega) (fun _ _ _ _ => rfl) hX0
  intro j hj ih M' n' kc ks w h1 h2 h3 hw hf hX
  have ka : M' a = cI 2 len g := (hf a han.1 han.2 (Or.inl rfl)).trans ha
  have kk : M' k = cO 0 [vR a, vI 0, vI 0, vI 0] := (hf k hkn.1 hkn.2 (Or.inr (Or.inl rfl))).trans hk
  refine g_run 4 2 rfl ?_
  refine g_callV 6 rfl cv0_RL_85 kk (j_slenM kk ka (by omega)) rfl rfl (by decide) (by omega) (by omega) (Nat.le_of_ble_eq_true rfl) (e_kr ?_) e_kx
  refine g_icmp_ge 7 30 rfl rfl (by omega) (by omega) (fun c9 => ?_) (fun c9 => ?_)
  · obtain rfl : j = len := by omega
    refine g_run 18 1 rfl ?_
    refine g_if_ge 19 39 rfl rfl (by omega) (fun _ => ?_) (fun c => absurd c (by omega))
    refine g_run 22 1 rfl ?_
    refine g_callSX 23 rfl cs_RL_99 (l_runScript hK hP (by omega) pb (PXv_PX hX) (by omega) hB) rfl rfl (by decide) (by omega) (by omega) (Nat.le_of_ble_eq_true rfl) (e_kz fun z M2 n2 q => ?_) e_kzx
    refine g_iret 24 rfl rfl trivial ⟨z, rfl, Nat.le_trans h1 q.1, fun x g9 x1 x2 x3 => ?_, q.2.2⟩
    have e := hf x x1 x2 (Or.inr (Or.inr ⟨g9, x3⟩))
    exact (q.2.1 x g9 x1 (by omega) (e.trans x3)).trans e
  · refine g_run 8 4 rfl ?_
    refine g_callV 12 rfl cv0_RL_90 kk (j_schrM kk ka (by omega) j (by omega) (by have := hg j (by omega); omega)) rfl rfl (by decide) (by omega) (by omega) (Nat.le_of_ble_eq_true rfl) (e_kr ?_) e_kx
    obtain ⟨τ, ep, fp, v, cap, t, nm, pl, s, hv9, a1, a2, a3, a4, a5, a6, a7, a8, a9, a10, a11⟩ := hX
    have hv2 : M' v = cI 2 cap t := a6.2.2.1.2.2.2.2.2.2.1
    have hjc : j ≤ cap := a6.2.2.1.2.2.2.2.1
    have hqv : ∀ q, 373 ≤ q → q < n → (q = a ∨ q = k ∨ ∃ g, M q = cI 0 110 g) → q ≠ v := fun q q1 q2 q3 e => by
      have q4 := hf q q1 q2 q3
      rcases q3 with q3 | q3 | ⟨g9, q3⟩
      · exact hv9.1 (e.symm.trans q3)
      · exact hv9.2 (e.symm.trans q3)
      · have q5 := q4.trans q3
        rw [e, hv2] at q5
        cases q5
    by_cases hcap : j < cap
    · refine g_callV 13 rfl cv_RL_94 a1 (x_type hP a1 a6 (by omega) (g j) (hg j (by omega)) (by omega) hcap) rfl rfl (by decide) (by omega) (by omega) (Nat.le_of_ble_eq_true rfl) (e_kw fun M2 hq2 => ?_) e_kwx
      refine g_run 14 4 rfl ?_
      exact ih (by omega) M2 n' _ _ (w + ((j : Int) + 1)) h1 (by omega) (by omega) (by omega) (fun q q1 q2 q3 => (hq2.2 q (by omega) (hqv q q1 q2 q3)).trans (hf q q1 q2 q3)) ⟨τ, ep, fp, v, cap, va_up t j (g j), nm, pl, s, hv9, (hq2.2 _ (by omega) (by omega)).trans a1, HM_e (fun k h1 h2 => hq2.2 k (by omega) (by omega)) a2, HM_e (fun k h1 h2 => hq2.2 k (by omega) (by omega)) a3, HM_e (fun k h1 h2 => hq2.2 k (by omega) (by omega)) a4, YM_e (fun k h1 h2 => hq2.2 k (by omega) (by omega)) a5, hq2.1, BM_fr a7 (hq2.2 _ (by omega) (by omega)) (hq2.2 _ (by omega) (by omega)), a8, a9, a10, up_ch a11 (hg j (by omega))⟩
    · refine g_callV 13 rfl cv_RL_94 a1 (x_typeG hP a1 a6 (by omega) (g j) (hg j (by omega)) (by omega) (by omega) (by omega) (by omega)) rfl rfl (by decide) (by omega) (by omega) (Nat.le_of_ble_eq_true rfl) (e_kw fun M2 hq2 => ?_) e_kwx
      refine g_run 14 4 rfl ?_
      exact ih (by omega) M2 (n' + 1) _ _ (w + ((j : Int) + 1)) (by omega) (by omega) (by omega) (by omega) (fun q q1 q2 q3 => (hq2.2 q (by omega) (by omega)).trans (hf q q1 q2 q3)) ⟨τ, ep, fp, n', j + 2 + j, va_up (va_cpy t (fun _ => 0) 0 0 j) j (g j), nm, pl, s, ⟨by omega, by omega⟩, (hq2.2 _ (by omega) (by omega)).trans a1, HM_e (fun k h1 h2 => hq2.2 k (by omega) (by omega)) a2, HM_e (fun k h1 h2 => hq2.2 k (by omega) (by omega)) a3, HM_e (fun k h1 h2 => hq2.2 k (by omega) (by omega)) a4, YM_e (fun k h1 h2 => hq2.2 k (by omega) (by omega)) a5, hq2.1, BM_fr a7 (hq2.2 _ (by omega) (by omega)) (hq2.2 _ (by omega) (by omega)), Or.inr (by omega), a9, Or.inr (by omega), up_ch (fun i hi => by rw [e_cpy0 hi]; exact a11 i hi) (hg j (by omega))⟩
end SM9
