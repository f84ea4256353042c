/-! the law's other calls (wip/whole/gen/c_se.py prints this part) -/
def StD (r0 : Option Nat) (Γ : Cx) (B : Int) (M : Mem) (n : Nat) (X Y : MD) : Prop := ∃ (d mc ms d2 : Nat) (P : Int → Mem → Nat → Prop), (d ≤ 10 ∧ mc ≤ 2 ∧ ms ≤ 200 ∧ d2 ≤ 10) ∧ Ct (e_L r0) Γ X d mc ms [vR 100, vR 383] M n (fun r' M' n' => ∃ k : Int, r' = .inl (some (vI k)) ∧ P k M' n') ∧ ∀ k M' n', P k M' n' → i32 k ∧ (∃ fs : List aV, M' 373 = cO 9 fs) ∧ Cw r0 Γ Y d2 0 0 [vR 373] M' n' (fun r' M'' n'' => n'' = n' ∧ ∃ b : UInt64, r' = .inl (some (vD b)) ∧ (k = 0 → vf_n64 b ∧ ∃ g, M'' 383 = cD 4 1 g ∧ g 0 = b) ∧ ∃ q A, q 6 = k ∧ LZ (B + 2400) M'' n'' q A)
def StF (r0 : Option Nat) (Γ : Cx) (B : Int) (M : Mem) (n : Nat) (X Y : MD) : Prop := ∃ (d mc ms d2 : Nat) (P : Int → Mem → Nat → Prop), (d ≤ 10 ∧ mc ≤ 2 ∧ ms ≤ 200 ∧ d2 ≤ 10) ∧ Ct (e_L r0) Γ X d mc ms [vR 100, vR 383] M n (fun r' M' n' => ∃ k : Int, r' = .inl (some (vI k)) ∧ P k M' n') ∧ ∀ k M' n', P k M' n' → i32 k ∧ (∃ fs : List aV, M' 373 = cO 9 fs) ∧ Cw r0 Γ Y d2 0 0 [vR 373] M' n' (fun r' M'' n'' => n'' = n' ∧ ∃ b : UInt32, r' = .inl (some (vF b)) ∧ (k = 0 → vf_n32 b ∧ ∃ g, M'' 383 = cD 4 1 g ∧ g 0 = FP.f2d b) ∧ ∃ q A, q 6 = k ∧ LZ (B + 2400) M'' n'' q A)
section SE
variable {r0 : Option Nat} {Γ : Cx} {B : Int} {M M1 M' M'' : Mem} {n : Nat} {q q' : Nat → Int} {A A' : Nat → Nat → Int}
theorem LZ_in {B' : Int} {σ τ ρ : HS} {r : Nat → HS} {f c5 : Nat} {sv ep fp : Int} {v cap l : Nat} {t nm : Nat → Int} {pl : Int} {s : TS} (hn : 384 ≤ n) (hC : LC M1 n σ τ ρ r f c5 sv ep fp v cap l t nm pl s) (hM : ∀ k, k ≠ 382 → M' k = M1 k) (hg : ∃ g, M' 382 = cL 3 1 g) (hgd : ∃ g, M1 383 = cD 4 1 g) (hf2 : e_fr 373 (373 + 9) M' M'') (hm2 : MM M'' 373 q' A') (hb : LB B' σ ρ r f c5 l nm) (hV : LV q' A' σ ρ r f c5 sv ep fp l t s) : LZ B' M'' n q' A' := by
  have hv := hC.2.2.2.2.2.2.2
  exact ⟨hn, σ, τ, ρ, r, f, c5, sv, ep, fp, v, cap, l, t, nm, pl, s, LC_e hC (fun k hk => (hf2 k (by omega)).trans (hM k (by omega))) (Nat.le_refl _), hb, hV, hm2, by rw [hf2 382 (by omega)]; exact hg, by rw [hf2 383 (by omega), hM 383 (by decide)]; exact hgd⟩
theorem s_meanCrumbs (hB : 20 ≤ B ∧ B + 2400 ≤ 10000000) (hZ : LZ B M n q A) : StD r0 Γ B M n mL_meanCrumbs mX8_meanCrumbs := by
  have hZ0 := hZ
  obtain ⟨hn, σ, τ, ρ, r, f, c5, sv, ep, fp, v, cap, l, t, nm, pl, s, ⟨hx, hH, hT, hS, hY, hSM, hBT, hv9⟩, hbb, hV, hX, ⟨g0, hg0⟩, hgd⟩ := hZ
  have hr := hbb.2.1.1
  have hi := hbb.2.1.2
  have rv := hV.1
  have b9 := hbb.1
  have q9 := hr.2.1
  have vk := RV_Vok rv hr (by omega)
  obtain ⟨gd, hgd⟩ := hgd
  have q0 := hr.1 0 (by decide)
  have a2 := rv.1.2.2.1
  by_cases h0 : σ.sc 0 = 0
  · refine ⟨3, 1, 6, 2, Pex M n 1, ⟨by decide, by decide, by decide, by decide⟩, l_meanCrumbs hx (by decide) (x_meanCrumbsX hx hH hr h0) nN_rt (fun E M' n' ⟨h1, h2, h3⟩ => by cases h1; exact ⟨rfl, rfl, h3, h2⟩), fun k M' n' hP => ?_⟩
    obtain ⟨rfl, rfl, rfl⟩ := hP
    have hm := m_meanCrumbs (r0 := r0) (Γ := Γ) (n := n') hX vk
    rw [if_pos (c := A 0 2 = 0) (by omega), if_pos (c := A 0 2 = 0) (by omega)] at hm
    refine ⟨by decide, ⟨_, hX.2.1⟩, _, hm, ?_⟩
    rintro r' M'' n'' ⟨e1, e2, hm2, hf2⟩
    exact ⟨e2, _, e1, fun e => absurd e (by decide), _, _, rfl, e2 ▸ LZ_q hZ0 hf2 hm2 ⟨rfl, rfl, rfl, rfl, rfl, rfl⟩ ⟨rfl, rfl, rfl, rfl, rfl⟩ (by omega) hB.2⟩
  · have sr := sCr_rng hr (σ.sc 0).toNat (by omega)
    refine ⟨3, 0, 0, 2, fun k M' n' => k = 0 ∧ n' = n ∧ ∃ g : Nat → UInt64, M' = va_up M 383 (cD 4 1 (va_up g 0 (dQ (sCr σ.lk (σ.sc 0).toNat) (σ.sc 0)))), ⟨by decide, by decide, by decide, by decide⟩, l_meanCrumbs hx (by decide) (x_meanCrumbs hx hH hr h0) ?_ nE_rt, fun k M' n' hP => ?_⟩
    · rintro r1 M' n' ⟨h1, rfl, rfl⟩
      cases h1
      exact ⟨_, gd, rfl, hgd, fun M'' e => ⟨rfl, rfl, gd, e⟩⟩
    · obtain ⟨rfl, rfl, g, hM⟩ := hP
      have hZ1 := LZ_outD hZ0 hM
      have hm := m_meanCrumbs (r0 := r0) (Γ := Γ) (n := n') (LZ_mm hZ1) vk
      rw [if_neg (c := A 0 2 = 0) (by omega), if_neg (c := A 0 2 = 0) (by omega), a2, RV_sum rv _ (by omega)] at hm
      refine ⟨by decide, ⟨_, (LZ_mm hZ1).2.1⟩, _, hm, ?_⟩
      rintro r' M'' n'' ⟨e1, e2, hm2, hf2⟩
      exact ⟨e2, _, e1, fun _ => ⟨dQ_n (by omega) (by omega), _, (hf2 383 (by omega)).trans (by rw [hM, va_up_self]), va_up_self _ _ _⟩, _, _, rfl, e2 ▸ LZ_q hZ1 hf2 hm2 ⟨rfl, rfl, rfl, rfl, rfl, rfl⟩ ⟨rfl, rfl, rfl, rfl, rfl⟩ (by omega) hB.2⟩
theorem s_openedShare (hB : 20 ≤ B ∧ B + 2400 ≤ 10000000) (hZ : LZ B M n q A) : StF r0 Γ B M n mL_openedShare mX8_openedShare := by
  have hZ0 := hZ
  obtain ⟨hn, σ, τ, ρ, r, f, c5, sv, ep, fp, v, cap, l, t, nm, pl, s, ⟨hx, hH, hT, hS, hY, hSM, hBT, hv9⟩, hbb, hV, hX, ⟨g0, hg0⟩, hgd⟩ := hZ
  have hr := hbb.2.1.1
  have hi := hbb.2.1.2
  have rv := hV.1
  have b9 := hbb.1
  have q9 := hr.2.1
  have vk := RV_Vok rv hr (by omega)
  obtain ⟨gd, hgd⟩ := hgd
  have q3 := hr.1 3 (by decide)
  have q4 := hr.1 4 (by decide)
  have a3 := rv.1.2.2.2.1
  have a4 := rv.1.2.2.2.2.1
  by_cases h0 : σ.sc 3 = 0
  · refine ⟨3, 1, 6, 2, Pex M n 1, ⟨by decide, by decide, by decide, by decide⟩, l_openedShare hx (by decide) (x_openedShareX hx hH hr h0) nN_rt (fun E M' n' ⟨h1, h2, h3⟩ => by cases h1; exact ⟨rfl, rfl, h3, h2⟩), fun k M' n' hP => ?_⟩
    obtain ⟨rfl, rfl, rfl⟩ := hP
    have hm := m_openedShare (r0 := r0) (Γ := Γ) (n := n') hX (by omega) (by omega)
    rw [if_pos (c := A 0 3 = 0) (by omega), if_pos (c := A 0 3 = 0) (by omega)] at hm
    refine ⟨by decide, ⟨_, hX.2.1⟩, _, hm, ?_⟩
    rintro r' M'' n'' ⟨e1, e2, hm2, hf2⟩
    exact ⟨e2, _, e1, fun e => absurd e (by decide), _, _, rfl, e2 ▸ LZ_q hZ0 hf2 hm2 ⟨rfl, rfl, rfl, rfl, rfl, rfl⟩ ⟨rfl, rfl, rfl, rfl, rfl⟩ (by omega) hB.2⟩
  · have hq : vf_n32 (fQ (σ.sc 4) (σ.sc 3)) := fQ_n (by omega) (by omega)
    refine ⟨3, 0, 0, 2, fun k M' n' => k = 0 ∧ n' = n ∧ ∃ g : Nat → UInt64, M' = va_up M 383 (cD 4 1 (va_up g 0 (FP.f2d (fQ (σ.sc 4) (σ.sc 3))))), ⟨by decide, by decide, by decide, by decide⟩, l_openedShare hx (by decide) (x_openedShare hx hH hr (by omega) h0) ?_ nE_rt, fun k M' n' hP => ?_⟩
    · rintro r1 M' n' ⟨h1, rfl, rfl⟩
      cases h1
      exact ⟨_, gd, rfl, hq, hgd, fun M'' e => ⟨rfl, rfl, gd, e⟩⟩
    · obtain ⟨rfl, rfl, g, hM⟩ := hP
      have hZ1 := LZ_outD hZ0 hM
      have hm := m_openedShare (r0 := r0) (Γ := Γ) (n := n') (LZ_mm hZ1) (by omega) (by omega)
      rw [if_neg (c := A 0 3 = 0) (by omega), if_neg (c := A 0 3 = 0) (by omega), a3, a4] at hm
      refine ⟨by decide, ⟨_, (LZ_mm hZ1).2.1⟩, _, hm, ?_⟩
      rintro r' M'' n'' ⟨e1, e2, hm2, hf2⟩
      exact ⟨e2, _, e1, fun _ => ⟨hq, _, (hf2 383 (by omega)).trans (by rw [hM, va_up_self]), va_up_self _ _ _⟩, _, _, rfl, e2 ▸ LZ_q hZ1 hf2 hm2 ⟨rfl, rfl, rfl, rfl, rfl, rfl⟩ ⟨rfl, rfl, rfl, rfl, rfl⟩ (by omega) hB.2⟩
theorem LC_tx {σ τ ρ : HS} {r : Nat → HS} {f c5 : Nat} {sv ep fp : Int} {v cap l : Nat} {t nm : Nat → Int} {pl : Int} {s s2 : TS} (h : LC M n σ τ ρ r f c5 sv ep fp v cap l t nm pl s) (k1 : BT M1 371 372 16 s2) (k2 : e_fr 371 373 M M1) : LC M1 n σ τ ρ r f c5 sv ep fp v cap l t nm pl s2 := by
  obtain ⟨a1, a2, a3, a4, a5, a6, a7, a8⟩ := h
  exact ⟨(k2 _ (by omega)).trans a1, HM_fr k2 (by omega) a2, HM_fr k2 (by omega) a3, HM_fr k2 (by omega) a4, YM_fr k2 (by omega) a5, SM_fr a6 (fun k hk => k2 k (by omega)), k1, a8⟩
theorem s_renderLock (hK : KM Γ) (hP9 : PV Γ) (hB : 20 ≤ B ∧ B + 2400 ≤ 10000000) (hZ : LZ B M n q A) (z : Int) (hz : i32 z) : StK r0 Γ B M n i32 mL_renderLock mX8_renderLock [vR 100, vI z, vR 382] [vR 373, vI z] := by
  have hZ0 := hZ
  obtain ⟨hn, σ, τ, ρ, r, f, c5, sv, ep, fp, v, cap, l, t, nm, pl, s, ⟨hx, hH, hT, hS, hY, hSM, hBT, hv9⟩, hbb, hV, hX, ⟨g0, hg0⟩, hgd⟩ := hZ
  have hr := hbb.2.1.1
  have hi := hbb.2.1.2
  have rv := hV.1
  have b9 := hbb.1
  have q9 := hr.2.1
  have vk := RV_Vok rv hr (by omega)
  by_cases hd : hDoor σ z
  · have hd9 := hd
    have te := TE_lock rv hr z.toNat (by omega) s.2 (A 5)
    have T : tD (A 0) z = 0 := if_pos ((RV_door rv z).mpr hd)
    generalize hkl : kLock σ z.toNat s.2 = s2 at te
    have hC := x_renderLock (r0 := r0) (n := n) hK hP9 hx hH hr hBT z hz hd
    rw [hkl] at hC
    have e : (if tD (A 0) z = 0 then ((rLock (A 0) z.toNat (A 5)).1 : Int) else 0) = (s2.1 : Int) := (if_pos T).trans (by rw [te.1])
    by_cases hs2 : s2.1 ≤ 16
    · refine ⟨9, 0, 0, 4, fun k M' n' => k = 0 ∧ n' = n ∧ ∃ (M1 : Mem) (g : Nat → Int64), (BT M1 371 372 16 s2 ∧ e_fr 371 373 M M1) ∧ M' = va_up M1 382 (cL 3 1 (va_up g 0 (Int64.ofInt (s2.1 : Int)))), ⟨by decide, by decide, by decide, by decide⟩, l_renderLock z hx (by decide) hC (hN_wr (R := fun M1 => BT M1 371 372 16 s2 ∧ e_fr 371 373 M M1) (fun M' h => (h.2 382 (by omega)).trans hg0) True trivial (fun z => i32 z) ⟨by omega, by omega⟩) nE_wr, fun k M' n' hP => ?_⟩
      obtain ⟨rfl, rfl, M1, g, ⟨k1, k2⟩, hM⟩ := hP
      have hM9 : ∀ k, k ≠ 382 → M' k = M1 k := fun k hk => by rw [hM, va_up_ne _ _ hk]
      have hm := m_renderLock (r0 := r0) (Γ := Γ) (n := n') (MM_fr (a := 382) (b := 383) (M := M1) (fun k hk => hM9 k (by omega)) (by omega) (MM_fr k2 (by omega) hX)) vk z hz
      rw [e, if_pos T, if_pos T, ← te.1] at hm
      refine ⟨by decide, ⟨_, (MM_fr (a := 382) (b := 383) (M := M1) (fun k hk => hM9 k (by omega)) (by omega) (MM_fr k2 (by omega) hX)).2.1⟩, _, hm, ?_⟩
      rintro r' M'' n'' ⟨e1, e2, hm2, hf2⟩
      refine ⟨e2, _, ⟨by omega, by omega⟩, e1, fun _ => ⟨_, (hf2 382 (by omega)).trans (by rw [hM, va_up_self]), va_up_self _ _ _⟩, _, _, rfl, e2 ▸ LZ_in hn (LC_tx ⟨hx, hH, hT, hS, hY, hSM, hBT, hv9⟩ k1 k2) hM9 ⟨_, by rw [hM, va_up_self]⟩ (by rw [k2 383 (by omega)]; exact hgd) hf2 hm2 (LB_up hbb (by omega) hB.2) ?_⟩
      exact ⟨hV.1, hV.2.1, hV.2.2.1, hV.2.2.2.1, hV.2.2.2.2.1, hV.2.2.2.2.2.1, rfl, te.2⟩
    · refine ⟨9, 0, 0, 4, fun k M' n' => False, ⟨by decide, by decide, by decide, by decide⟩, l_renderLock z hx (by decide) hC (fun r1 M' n' h => absurd h.2.2.1.2.2.2.2.1 hs2) nE_wr, fun k M' n' hP => hP.elim⟩
  · skip
    have T : tD (A 0) z = 1 := if_neg (fun h => hd ((RV_door rv z).mp h))
    have e : (if tD (A 0) z = 0 then ((rLock (A 0) z.toNat (A 5)).1 : Int) else 0) = 0 := if_neg (by rw [T]; decide)
    refine ⟨9, 1, 6, 4, Pex M n 1, ⟨by decide, by decide, by decide, by decide⟩, l_renderLock z hx (by decide) (x_renderLockX hK hP9 hx hH hr z hz hd) nN_rt (fun E M' n' ⟨h1, h2, h3⟩ => by cases h1; exact ⟨rfl, rfl, h3, h2⟩), fun k M' n' hP => ?_⟩
    obtain ⟨rfl, rfl, rfl⟩ := hP
    have hm := m_renderLock (r0 := r0) (Γ := Γ) (n := n') hX vk z hz
    rw [e, if_neg (show ¬ tD (A 0) z = 0 by rw [T]; decide), if_neg (show ¬ tD (A 0) z = 0 by rw [T]; decide)] at hm
    exact ⟨by decide, fin_q hm hB hZ0 (by decide) rfl (fun e => absurd e (by decide)) ⟨rfl, rfl, rfl, rfl, rfl, rfl, rfl⟩ ⟨rfl, rfl, rfl, rfl, rfl⟩⟩
theorem s_doorCount (hB : 20 ≤ B ∧ B + 2400 ≤ 10000000) (hZ : LZ B M n q A) : StN r0 Γ B M n mX7_doorCount mX8_doorCount := by
  have hZ0 := hZ
  obtain ⟨hn, σ, τ, ρ, r, f, c5, sv, ep, fp, v, cap, l, t, nm, pl, s, ⟨hx, hH, hT, hS, hY, hSM, hBT, hv9⟩, hbb, hV, hX, ⟨g0, hg0⟩, hgd⟩ := hZ
  have hr := hbb.2.1.1
  have hi := hbb.2.1.2
  have rv := hV.1
  have b9 := hbb.1
  have q9 := hr.2.1
  have vk := RV_Vok rv hr (by omega)
  have b0 := hr.1 0 (by decide)
  have b1 := hr.1 1 (by decide)
  have b2 := hr.1 2 (by decide)
  have b3 := hr.1 3 (by decide)
  have b4 := hr.1 4 (by decide)
  have b8 := hr.1 8 (by decide)
  have bs := nShut_rng σ.lk (σ.sc 0).toNat
  have e : A 0 2 = σ.sc 0 := rv.1.2.2.1
  refine ⟨0, 0, 0, 0, σ.sc 0, fun M' n' => M' = M ∧ n' = n, ⟨by decide, by decide, by decide, by decide⟩, ⟨by omega, by omega⟩, ⟨_, x_doorCount hx hH hr, fun r' M' n' h => h⟩, fun M' n' hP => ?_⟩
  obtain ⟨rfl, rfl⟩ := hP
  have hm := m_doorCountQ (r0 := r0) (Γ := Γ) (n := n') hX vk
  rw [e] at hm
  refine ⟨⟨_, hX.2.1⟩, _, hm, ?_⟩
  rintro r' M'' n'' ⟨e1, e2, hm2, hf2⟩
  exact ⟨e2, e1, _, _, e2 ▸ LZ_q hZ0 hf2 hm2 ⟨rfl, rfl, rfl, rfl, rfl, rfl⟩ ⟨rfl, rfl, rfl, rfl, rfl⟩ (by omega) hB.2⟩
theorem s_damp (hB : 20 ≤ B ∧ B + 2400 ≤ 10000000) (hZ : LZ B M n q A) : StN r0 Γ B M n mX7_damp mX8_damp := by
  have hZ0 := hZ
  obtain ⟨hn, σ, τ, ρ, r, f, c5, sv, ep, fp, v, cap, l, t, nm, pl, s, ⟨hx, hH, hT, hS, hY, hSM, hBT, hv9⟩, hbb, hV, hX, ⟨g0, hg0⟩, hgd⟩ := hZ
  have hr := hbb.2.1.1
  have hi := hbb.2.1.2
  have rv := hV.1
  have b9 := hbb.1
  have q9 := hr.2.1
  have vk := RV_Vok rv hr (by omega)
  have b0 := hr.1 0 (by decide)
  have b1 := hr.1 1 (by decide)
  have b2 := hr.1 2 (by decide)
  have b3 := hr.1 3 (by decide)
  have b4 := hr.1 4 (by decide)
  have b8 := hr.1 8 (by decide)
  have bs := nShut_rng σ.lk (σ.sc 0).toNat
  have e : A 0 1 = σ.sc 1 := rv.1.2.1
  refine ⟨0, 0, 0, 0, σ.sc 1, fun M' n' => M' = M ∧ n' = n, ⟨by decide, by decide, by decide, by decide⟩, ⟨by omega, by omega⟩, ⟨_, x_damp hx hH hr, fun r' M' n' h => h⟩, fun M' n' hP => ?_⟩
  obtain ⟨rfl, rfl⟩ := hP
  have hm := m_dampQ (r0 := r0) (Γ := Γ) (n := n') hX vk
  rw [e] at hm
  refine ⟨⟨_, hX.2.1⟩, _, hm, ?_⟩
  rintro r' M'' n'' ⟨e1, e2, hm2, hf2⟩
  exact ⟨e2, e1, _, _, e2 ▸ LZ_q hZ0 hf2 hm2 ⟨rfl, rfl, rfl, rfl, rfl, rfl⟩ ⟨rfl, rfl, rfl, rfl, rfl⟩ (by omega) hB.2⟩
theorem s_hour (hB : 20 ≤ B ∧ B + 2400 ≤ 10000000) (hZ : LZ B M n q A) : StN r0 Γ B M n mX7_hour mX8_hour := by
  have hZ0 := hZ
  obtain ⟨hn, σ, τ, ρ, r, f, c5, sv, ep, fp, v, cap, l, t, nm, pl, s, ⟨hx, hH, hT, hS, hY, hSM, hBT, hv9⟩, hbb, hV, hX, ⟨g0, hg0⟩, hgd⟩ := hZ
  have hr := hbb.2.1.1
  have hi := hbb.2.1.2
  have rv := hV.1
  have b9 := hbb.1
  have q9 := hr.2.1
  have vk := RV_Vok rv hr (by omega)
  have b0 := hr.1 0 (by decide)
  have b1 := hr.1 1 (by decide)
  have b2 := hr.1 2 (by decide)
  have b3 := hr.1 3 (by decide)
  have b4 := hr.1 4 (by decide)
  have b8 := hr.1 8 (by decide)
  have bs := nShut_rng σ.lk (σ.sc 0).toNat
  have e : A 0 0 = σ.sc 2 := rv.1.1
  refine ⟨0, 0, 0, 0, σ.sc 2, fun M' n' => M' = M ∧ n' = n, ⟨by decide, by decide, by decide, by decide⟩, ⟨by omega, by omega⟩, ⟨_, x_hour hx hH hr, fun r' M' n' h => h⟩, fun M' n' hP => ?_⟩
  obtain ⟨rfl, rfl⟩ := hP
  have hm := m_hourQ (r0 := r0) (Γ := Γ) (n := n') hX vk
  rw [e] at hm
  refine ⟨⟨_, hX.2.1⟩, _, hm, ?_⟩
  rintro r' M'' n'' ⟨e1, e2, hm2, hf2⟩
  exact ⟨e2, e1, _, _, e2 ▸ LZ_q hZ0 hf2 hm2 ⟨rfl, rfl, rfl, rfl, rfl, rfl⟩ ⟨rfl, rfl, rfl, rfl, rfl⟩ (by omega) hB.2⟩
theorem s_tryTotal (hB : 20 ≤ B ∧ B + 2400 ≤ 10000000) (hZ : LZ B M n q A) : StN r0 Γ B M n mX7_tryTotal mX8_tryTotal := by
  have hZ0 := hZ
  obtain ⟨hn, σ, τ, ρ, r, f, c5, sv, ep, fp, v, cap, l, t, nm, pl, s, ⟨hx, hH, hT, hS, hY, hSM, hBT, hv9⟩, hbb, hV, hX, ⟨g0, hg0⟩, hgd⟩ := hZ
  have hr := hbb.2.1.1
  have hi := hbb.2.1.2
  have rv := hV.1
  have b9 := hbb.1
  have q9 := hr.2.1
  have vk := RV_Vok rv hr (by omega)
  have b0 := hr.1 0 (by decide)
  have b1 := hr.1 1 (by decide)
  have b2 := hr.1 2 (by decide)
  have b3 := hr.1 3 (by decide)
  have b4 := hr.1 4 (by decide)
  have b8 := hr.1 8 (by decide)
  have bs := nShut_rng σ.lk (σ.sc 0).toNat
  have e : A 0 3 = σ.sc 3 := rv.1.2.2.2.1
  refine ⟨0, 0, 0, 0, σ.sc 3, fun M' n' => M' = M ∧ n' = n, ⟨by decide, by decide, by decide, by decide⟩, ⟨by omega, by omega⟩, ⟨_, x_tryTotal hx hH hr, fun r' M' n' h => h⟩, fun M' n' hP => ?_⟩
  obtain ⟨rfl, rfl⟩ := hP
  have hm := m_tryTotalQ (r0 := r0) (Γ := Γ) (n := n') hX vk
  rw [e] at hm
  refine ⟨⟨_, hX.2.1⟩, _, hm, ?_⟩
  rintro r' M'' n'' ⟨e1, e2, hm2, hf2⟩
  exact ⟨e2, e1, _, _, e2 ▸ LZ_q hZ0 hf2 hm2 ⟨rfl, rfl, rfl, rfl, rfl, rfl⟩ ⟨rfl, rfl, rfl, rfl, rfl⟩ (by omega) hB.2⟩
theorem s_openedTotal (hB : 20 ≤ B ∧ B + 2400 ≤ 10000000) (hZ : LZ B M n q A) : StN r0 Γ B M n mX7_openedTotal mX8_openedTotal := by
  have hZ0 := hZ
  obtain ⟨hn, σ, τ, ρ, r, f, c5, sv, ep, fp, v, cap, l, t, nm, pl, s, ⟨hx, hH, hT, hS, hY, hSM, hBT, hv9⟩, hbb, hV, hX, ⟨g0, hg0⟩, hgd⟩ := hZ
  have hr := hbb.2.1.1
  have hi := hbb.2.1.2
  have rv := hV.1
  have b9 := hbb.1
  have q9 := hr.2.1
  have vk := RV_Vok rv hr (by omega)
  have b0 := hr.1 0 (by decide)
  have b1 := hr.1 1 (by decide)
  have b2 := hr.1 2 (by decide)
  have b3 := hr.1 3 (by decide)
  have b4 := hr.1 4 (by decide)
  have b8 := hr.1 8 (by decide)
  have bs := nShut_rng σ.lk (σ.sc 0).toNat
  have e : A 0 4 = σ.sc 4 := rv.1.2.2.2.2.1
  refine ⟨0, 0, 0, 0, σ.sc 4, fun M' n' => M' = M ∧ n' = n, ⟨by decide, by decide, by decide, by decide⟩, ⟨by omega, by omega⟩, ⟨_, x_openedTotal hx hH hr, fun r' M' n' h => h⟩, fun M' n' hP => ?_⟩
  obtain ⟨rfl, rfl⟩ := hP
  have hm := m_openedTotalQ (r0 := r0) (Γ := Γ) (n := n') hX vk
  rw [e] at hm
  refine ⟨⟨_, hX.2.1⟩, _, hm, ?_⟩
  rintro r' M'' n'' ⟨e1, e2, hm2, hf2⟩
  exact ⟨e2, e1, _, _, e2 ▸ LZ_q hZ0 hf2 hm2 ⟨rfl, rfl, rfl, rfl, rfl, rfl⟩ ⟨rfl, rfl, rfl, rfl, rfl⟩ (by omega) hB.2⟩
theorem s_bakedTotal (hB : 20 ≤ B ∧ B + 2400 ≤ 10000000) (hZ : LZ B M n q A) : StN r0 Γ B M n mX7_bakedTotal mX8_bakedTotal := by
  have hZ0 := hZ
  obtain ⟨hn, σ, τ, ρ, r, f, c5, sv, ep, fp, v, cap, l, t, nm, pl, s, ⟨hx, hH, hT, hS, hY, hSM, hBT, hv9⟩, hbb, hV, hX, ⟨g0, hg0⟩, hgd⟩ := hZ
  have hr := hbb.2.1.1
  have hi := hbb.2.1.2
  have rv := hV.1
  have b9 := hbb.1
  have q9 := hr.2.1
  have vk := RV_Vok rv hr (by omega)
  have b0 := hr.1 0 (by decide)
  have b1 := hr.1 1 (by decide)
  have b2 := hr.1 2 (by decide)
  have b3 := hr.1 3 (by decide)
  have b4 := hr.1 4 (by decide)
  have b8 := hr.1 8 (by decide)
  have bs := nShut_rng σ.lk (σ.sc 0).toNat
  have e : A 0 5 = σ.sc 8 := rv.1.2.2.2.2.2.1
  refine ⟨0, 0, 0, 0, σ.sc 8, fun M' n' => M' = M ∧ n' = n, ⟨by decide, by decide, by decide, by decide⟩, ⟨by omega, by omega⟩, ⟨_, x_bakedTotal hx hH hr, fun r' M' n' h => h⟩, fun M' n' hP => ?_⟩
  obtain ⟨rfl, rfl⟩ := hP
  have hm := m_bakedTotalQ (r0 := r0) (Γ := Γ) (n := n') hX vk
  rw [e] at hm
  refine ⟨⟨_, hX.2.1⟩, _, hm, ?_⟩
  rintro r' M'' n'' ⟨e1, e2, hm2, hf2⟩
  exact ⟨e2, e1, _, _, e2 ▸ LZ_q hZ0 hf2 hm2 ⟨rfl, rfl, rfl, rfl, rfl, rfl⟩ ⟨rfl, rfl, rfl, rfl, rfl⟩ (by omega) hB.2⟩
theorem s_rememberedTries (hB : 20 ≤ B ∧ B + 2400 ≤ 10000000) (hZ : LZ B M n q A) : StN r0 Γ B M n mX7_rememberedTries mX8_rememberedTries := by
  have hZ0 := hZ
  obtain ⟨hn, σ, τ, ρ, r, f, c5, sv, ep, fp, v, cap, l, t, nm, pl, s, ⟨hx, hH, hT, hS, hY, hSM, hBT, hv9⟩, hbb, hV, hX, ⟨g0, hg0⟩, hgd⟩ := hZ
  have hr := hbb.2.1.1
  have hi := hbb.2.1.2
  have rv := hV.1
  have b9 := hbb.1
  have q9 := hr.2.1
  have vk := RV_Vok rv hr (by omega)
  have b0 := hr.1 0 (by decide)
  have b1 := hr.1 1 (by decide)
  have b2 := hr.1 2 (by decide)
  have b3 := hr.1 3 (by decide)
  have b4 := hr.1 4 (by decide)
  have b8 := hr.1 8 (by decide)
  have bs := nShut_rng σ.lk (σ.sc 0).toNat
  have e : A 0 6 = if 10 < σ.sc 3 then 10 else σ.sc 3 := rv.1.2.2.2.2.2.2
  refine ⟨1, 0, 0, 0, if 10 < σ.sc 3 then 10 else σ.sc 3, fun M' n' => M' = M ∧ n' = n, ⟨by decide, by decide, by decide, by decide⟩, by split <;> exact ⟨by omega, by omega⟩, ⟨_, x_rememberedTries hx hH hr (by omega), fun r' M' n' h => h⟩, fun M' n' hP => ?_⟩
  obtain ⟨rfl, rfl⟩ := hP
  have hm := m_rememberedTriesQ (r0 := r0) (Γ := Γ) (n := n') hX vk
  rw [e] at hm
  refine ⟨⟨_, hX.2.1⟩, _, hm, ?_⟩
  rintro r' M'' n'' ⟨e1, e2, hm2, hf2⟩
  exact ⟨e2, e1, _, _, e2 ▸ LZ_q hZ0 hf2 hm2 ⟨rfl, rfl, rfl, rfl, rfl, rfl⟩ ⟨rfl, rfl, rfl, rfl, rfl⟩ (by omega) hB.2⟩
theorem s_shutLocks (hB : 20 ≤ B ∧ B + 2400 ≤ 10000000) (hZ : LZ B M n q A) : StN r0 Γ B M n mX7_shutLocks mX8_shutLocks := by
  have hZ0 := hZ
  obtain ⟨hn, σ, τ, ρ, r, f, c5, sv, ep, fp, v, cap, l, t, nm, pl, s, ⟨hx, hH, hT, hS, hY, hSM, hBT, hv9⟩, hbb, hV, hX, ⟨g0, hg0⟩, hgd⟩ := hZ
  have hr := hbb.2.1.1
  have hi := hbb.2.1.2
  have rv := hV.1
  have b9 := hbb.1
  have q9 := hr.2.1
  have vk := RV_Vok rv hr (by omega)
  have b0 := hr.1 0 (by decide)
  have b1 := hr.1 1 (by decide)
  have b2 := hr.1 2 (by decide)
  have b3 := hr.1 3 (by decide)
  have b4 := hr.1 4 (by decide)
  have b8 := hr.1 8 (by decide)
  have bs := nShut_rng σ.lk (σ.sc 0).toNat
  have e : vShut (A 0) (A 0 2).toNat = nShut σ.lk (σ.sc 0).toNat := (by rw [rv.1.2.2.1, RV_shut rv hr _ (by omega)])
  refine ⟨1, 0, 0, 4, nShut σ.lk (σ.sc 0).toNat, fun M' n' => M' = M ∧ n' = n, ⟨by decide, by decide, by decide, by decide⟩, ⟨by omega, by omega⟩, ⟨_, x_shutLocks hx hH hr, fun r' M' n' h => h⟩, fun M' n' hP => ?_⟩
  obtain ⟨rfl, rfl⟩ := hP
  have hm := m_shutLocks (r0 := r0) (Γ := Γ) (n := n') hX vk
  rw [e] at hm
  refine ⟨⟨_, hX.2.1⟩, _, hm, ?_⟩
  rintro r' M'' n'' ⟨e1, e2, hm2, hf2⟩
  exact ⟨e2, e1, _, _, e2 ▸ LZ_q hZ0 hf2 hm2 ⟨rfl, rfl, rfl, rfl, rfl, rfl⟩ ⟨rfl, rfl, rfl, rfl, rfl⟩ (by omega) hB.2⟩
theorem s_shutLocksByAccounts (hB : 20 ≤ B ∧ B + 2400 ≤ 10000000) (hZ : LZ B M n q A) : StN r0 Γ B M n mX7_shutLocksByAccounts mX8_shutLocksByAccounts := by
  have hZ0 := hZ
  obtain ⟨hn, σ, τ, ρ, r, f, c5, sv, ep, fp, v, cap, l, t, nm, pl, s, ⟨hx, hH, hT, hS, hY, hSM, hBT, hv9⟩, hbb, hV, hX, ⟨g0, hg0⟩, hgd⟩ := hZ
  have hr := hbb.2.1.1
  have hi := hbb.2.1.2
  have rv := hV.1
  have b9 := hbb.1
  have q9 := hr.2.1
  have vk := RV_Vok rv hr (by omega)
  have b0 := hr.1 0 (by decide)
  have b1 := hr.1 1 (by decide)
  have b2 := hr.1 2 (by decide)
  have b3 := hr.1 3 (by decide)
  have b4 := hr.1 4 (by decide)
  have b8 := hr.1 8 (by decide)
  have bs := nShut_rng σ.lk (σ.sc 0).toNat
  have e : vShut (A 0) (A 0 2).toNat = accts σ := (by rw [rv.1.2.2.1, RV_shut rv hr _ (by omega)]; exact hi.2.2.2.2.symm)
  refine ⟨1, 0, 0, 5, accts σ, fun M' n' => M' = M ∧ n' = n, ⟨by decide, by decide, by decide, by decide⟩, by rw [hi.2.2.2.2]; exact ⟨by omega, by omega⟩, ⟨_, x_shutLocks2 hx hH hr, fun r' M' n' h => h⟩, fun M' n' hP => ?_⟩
  obtain ⟨rfl, rfl⟩ := hP
  have hm := m_shutLocks2 (r0 := r0) (Γ := Γ) (n := n') hX vk
  rw [e] at hm
  refine ⟨⟨_, hX.2.1⟩, _, hm, ?_⟩
  rintro r' M'' n'' ⟨e1, e2, hm2, hf2⟩
  exact ⟨e2, e1, _, _, e2 ▸ LZ_q hZ0 hf2 hm2 ⟨rfl, rfl, rfl, rfl, rfl, rfl⟩ ⟨rfl, rfl, rfl, rfl, rfl⟩ (by omega) hB.2⟩
theorem s_renderOvens (hK : KM Γ) (hP9 : PV Γ) (hB : 20 ≤ B ∧ B + 2400 ≤ 10000000) (hZ : LZ B M n q A) : StN r0 Γ B M n mX7_renderOvens mX8_renderOvens := by
  have hZ0 := hZ
  obtain ⟨hn, σ, τ, ρ, r, f, c5, sv, ep, fp, v, cap, l, t, nm, pl, s, ⟨hx, hH, hT, hS, hY, hSM, hBT, hv9⟩, hbb, hV, hX, ⟨g0, hg0⟩, hgd⟩ := hZ
  have hr := hbb.2.1.1
  have hi := hbb.2.1.2
  have rv := hV.1
  have b9 := hbb.1
  have q9 := hr.2.1
  have vk := RV_Vok rv hr (by omega)
  have te := TE_ovens rv s.2 (A 5) 2 (by decide)
  have hC := x_renderOvens (r0 := r0) (n := n) hK hP9 hx hH hr hBT
  generalize hkl : kOv σ s.2 2 = s2 at te hC
  by_cases hs2 : s2.1 ≤ 16
  · refine ⟨8, 0, 0, 4, (s2.1 : Int), fun M' n' => n' = n ∧ BT M' 371 372 16 s2 ∧ e_fr 371 373 M M', ⟨by decide, by decide, by decide, by decide⟩, ⟨by omega, by omega⟩, ⟨_, hC, fun r' M' n' h => h⟩, fun M' n' hP => ?_⟩
    obtain ⟨rfl, k1, k2⟩ := hP
    have hm := m_renderOvens (r0 := r0) (Γ := Γ) (n := n') (MM_fr k2 (by omega) hX) vk
    rw [← te.1] at hm
    refine ⟨⟨_, (MM_fr k2 (by omega) hX).2.1⟩, _, hm, ?_⟩
    rintro r' M'' n'' ⟨e1, e2, hm2, hf2⟩
    refine ⟨e2, e1, _, _, e2 ▸ LZ_in hn (LC_tx ⟨hx, hH, hT, hS, hY, hSM, hBT, hv9⟩ k1 k2) (fun k _ => rfl) ⟨g0, by rw [k2 382 (by omega)]; exact hg0⟩ (by rw [k2 383 (by omega)]; exact hgd) hf2 hm2 (LB_up hbb (by omega) hB.2) ?_⟩
    exact ⟨hV.1, hV.2.1, hV.2.2.1, hV.2.2.2.1, hV.2.2.2.2.1, hV.2.2.2.2.2.1, rfl, te.2⟩
  · exact ⟨8, 0, 0, 4, 0, fun M' n' => False, ⟨by decide, by decide, by decide, by decide⟩, by decide, ⟨_, hC, fun r' M' n' h => absurd h.2.2.1.2.2.2.2.1 hs2⟩, fun M' n' hP => hP.elim⟩
theorem s_isConsistent (hB : 20 ≤ B ∧ B + 2400 ≤ 10000000) (hZ : LZ B M n q A) : StN r0 Γ B M n mX7_isConsistent mX8_isConsistent := by
  have hZ0 := hZ
  obtain ⟨hn, σ, τ, ρ, r, f, c5, sv, ep, fp, v, cap, l, t, nm, pl, s, ⟨hx, hH, hT, hS, hY, hSM, hBT, hv9⟩, hbb, hV, hX, ⟨g0, hg0⟩, hgd⟩ := hZ
  have hr := hbb.2.1.1
  have hi := hbb.2.1.2
  have rv := hV.1
  have b9 := hbb.1
  have q9 := hr.2.1
  have vk := RV_Vok rv hr (by omega)
  have q0 := hr.1 0 (by decide)
  have cs := RV_cons rv hr (A 0 2).toNat (by rw [rv.1.2.2.1]; omega)
  have ceq : (∀ d : Nat, d < (A 0 2).toNat → (σ.lk d).cr = 20 → (σ.lk d).op = 1) ↔ ((∀ d : Nat, (d : Int) < σ.sc 0 → (σ.lk d).cr = 20 → (σ.lk d).op = 1) ∧ nShut σ.lk (σ.sc 0).toNat = accts σ) := by
    rw [rv.1.2.2.1]
    exact ⟨fun h => ⟨fun d hd => h d (by omega), hi.2.2.2.2.symm⟩, fun h d hd => h.1 d (by omega)⟩
  have hw9 : vCons (A 0) (A 0 2).toNat = 0 ∨ vCons (A 0) (A 0 2).toNat = 1 := by
    rw [cs]; split
    · exact Or.inr rfl
    · exact Or.inl rfl
  refine ⟨3, 0, 0, 4, vCons (A 0) (A 0 2).toNat, fun M' n' => n' = n ∧ SP 100 M M', ⟨by decide, by decide, by decide, by decide⟩, by rcases hw9 with h | h <;> rw [h] <;> decide, ⟨_, x_isConsistent hx hH hr hT (by omega), ?_⟩, fun M' n' hP => ?_⟩
  · rintro r' M' n' ⟨e2, hsp, h9⟩
    refine ⟨?_, e2, hsp⟩
    rw [cs]
    rcases h9 with ⟨h1, h2⟩ | ⟨h1, h2⟩
    · rw [if_pos (ceq.mpr h1)]; exact h2
    · rw [if_neg (fun h => h1 (ceq.mp h))]; exact h2
  · obtain ⟨rfl, hsp⟩ := hP
    have hZ1 := LZ_sp hZ0 hsp
    refine ⟨⟨_, (LZ_mm hZ1).2.1⟩, _, m_isConsistent (r0 := r0) (Γ := Γ) (n := n') (LZ_mm hZ1) vk, ?_⟩
    rintro r' M'' n'' ⟨e1, e2, hm2, hf2⟩
    exact ⟨e2, e1, _, _, e2 ▸ LZ_q hZ1 hf2 hm2 ⟨rfl, rfl, rfl, rfl, rfl, rfl⟩ ⟨rfl, rfl, rfl, rfl, rfl⟩ (by omega) hB.2⟩
end SE
