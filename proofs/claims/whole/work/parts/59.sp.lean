/-! the law's calls that use the spare house (wip/whole/gen/c_sd.py prints this part) -/
section SD
variable {r0 : Option Nat} {Γ : Cx} {B : Int} {M M1 M' M'' : Mem} {n : Nat} {q q' : Nat → Int} {A A' : Nat → Nat → Int}
theorem LZ_sp (h : LZ B M n q A) (hs : SP 100 M M1) : LZ B M1 n q A := by
  obtain ⟨hn, σ, τ, ρ, r, f, c5, sv, ep, fp, v, cap, l, t, nm, pl, s, ⟨a1, a2, a3, a4, a5, a6, a7, a8⟩, hB, hV, hX, ⟨g, hg⟩, g2, hg2⟩ := h
  obtain ⟨⟨τ', ht⟩, hf⟩ := hs
  exact ⟨hn, σ, τ', ρ, r, f, c5, sv, ep, fp, v, cap, l, t, nm, pl, s, ⟨(hf _ (by omega)).trans a1, HM_fr hf (by omega) a2, ht, HM_fr hf (by omega) a4, YM_fr hf (by omega) a5, SM_fr a6 (fun k hk => hf k (by omega)), BM_fr a7 (hf _ (by omega)) (hf _ (by omega)), a8⟩, hB, hV, MM_fr hf (by omega) hX, ⟨g, (hf _ (by omega)).trans hg⟩, g2, (hf _ (by omega)).trans hg2⟩
theorem sp_out (h : SP 100 M M1) {x : aE} (hg : M 382 = x) : M1 382 = x := (h.2 382 (by omega)).trans hg
/-- the class gave w, the spare house is another -/
abbrev Psp (M : Mem) (n : Nat) (w : Int) : Int → Mem → Nat → Prop := fun k M' n' => k = 0 ∧ n' = n ∧ ∃ (M1 : Mem) (g : Nat → Int64), SP 100 M M1 ∧ M' = va_up M1 382 (cL 3 1 (va_up g 0 (Int64.ofInt w)))
theorem hN_sp {w : Int} (hw : i32 w) {g0 : Nat → Int64} (h : M 382 = cL 3 1 g0) : ∀ r1 M' n', e_wr (some (vI w)) n (fun M' => SP 100 M M') (.inl r1) M' n' → ∃ (z : Int) (g : Nat → Int64), r1 = some (vI z) ∧ i32 z ∧ M' 382 = cL 3 1 g ∧ ∀ M'', M'' = va_up M' 382 (cL 3 1 (va_up g 0 (Int64.ofInt z))) → Psp M n w 0 M'' n' := by
  rintro r1 M' n' ⟨h1, rfl, h3⟩
  cases h1
  exact ⟨w, g0, rfl, hw, sp_out h3 h, fun M'' e => ⟨rfl, rfl, M', g0, h3, e⟩⟩
theorem s_stepsToOpenByTurning (hB : 20 ≤ B ∧ B + 2400 ≤ 10000000) (hZ : LZ B M n q A) (z : Int) (hz : i32 z) : StK r0 Γ B M n i32 mL_stepsToOpenByTurning mX8_stepsToOpenByTurning [vR 100, vI z, vR 382] [vR 373, vI z] := by
  have hZ0 := hZ
  obtain ⟨hn, σ, τ, ρ, r, f, c5, sv, ep, fp, v, cap, l, t, nm, pl, s, ⟨hx, hH, hT, hS, hY, hSM, hBT, hv9⟩, hbb, hV, hX, ⟨g0, hg0⟩, hgd⟩ := hZ
  have hr := hbb.2.1.1
  have hi := hbb.2.1.2
  have rv := hV.1
  have b9 := hbb.1
  have q9 := hr.2.1
  have vk := RV_Vok rv hr (by omega)
  by_cases hd : hDoor σ z
  · have hd9 := hd
    have row := RV_row rv z.toNat (by omega)
    have kr := hr.2.2.2.2 z.toNat (by omega)
    have kc := kr.2.1
    have T : tD (A 0) z = 0 := if_pos ((RV_door rv z).mpr hd)
    have e : (if tD (A 0) z = 0 then vSteps (A 0) z.toNat 3 else 0) = lSteps (σ.lk z.toNat) := (if_pos T).trans (RV_steps rv hr z.toNat (by omega))
    have hw : i32 (lSteps (σ.lk z.toNat)) := by have h9 : 0 ≤ lSteps (σ.lk z.toNat) ∧ lSteps (σ.lk z.toNat) ≤ 10 * ((3 : Nat) : Int) := p_stepN_rng _ _ _ (by omega) 3; exact ⟨by omega, by omega⟩
    refine ⟨4, 0, 0, 4, Psp M n (lSteps (σ.lk z.toNat)), ⟨by decide, by decide, by decide, by decide⟩, l_stepsToOpenByTurning z hx (by decide) (x_stepsToOpen2 hx hH hr hT z hz hd) (hN_sp hw hg0) nE_wr, fun k M' n' hP => ?_⟩
    obtain ⟨rfl, rfl, M1, g, hsp, hM⟩ := hP
    have hZ1 := LZ_out (LZ_sp hZ0 hsp) hM
    have hm := m_stepsToOpen2 (r0 := r0) (Γ := Γ) (n := n') (LZ_mm hZ1) vk z hz
    rw [e, T] at hm
    exact ⟨by decide, fin_q hm hB hZ1 hw rfl (fun _ => ⟨_, by rw [hM, va_up_self], va_up_self _ _ _⟩) ⟨rfl, rfl, rfl, rfl, rfl, rfl, rfl⟩ ⟨rfl, rfl, rfl, rfl, rfl⟩⟩
  · skip
    have T : tD (A 0) z = 1 := if_neg (fun h => hd ((RV_door rv z).mp h))
    have e : (if tD (A 0) z = 0 then vSteps (A 0) z.toNat 3 else 0) = 0 := if_neg (by rw [T]; decide)
    refine ⟨4, 1, 6, 4, Pex M n 1, ⟨by decide, by decide, by decide, by decide⟩, l_stepsToOpenByTurning z hx (by decide) (x_stepsToOpen2X hx hH hr hT z hz hd) nN_rt (fun E M' n' ⟨h1, h2, h3⟩ => by cases h1; exact ⟨rfl, rfl, h3, h2⟩), fun k M' n' hP => ?_⟩
    obtain ⟨rfl, rfl, rfl⟩ := hP
    have hm := m_stepsToOpen2 (r0 := r0) (Γ := Γ) (n := n') hX vk z hz
    rw [e, T] at hm
    exact ⟨by decide, fin_q hm hB hZ0 (by decide) rfl (fun e => absurd e (by decide)) ⟨rfl, rfl, rfl, rfl, rfl, rfl, rfl⟩ ⟨rfl, rfl, rfl, rfl, rfl⟩⟩
theorem s_dialAfter (hB : 20 ≤ B ∧ B + 2400 ≤ 10000000) (hZ : LZ B M n q A) (z : Int) (hz : i32 z) (y : Int) (hy : i32 y) (u : Int) (hu : i32 u) : StK r0 Γ B M n i32 mL_dialAfter mX8_dialAfter [vR 100, vI z, vI y, vI u, vR 382] [vR 373, vI z, vI y, vI u] := by
  have hZ0 := hZ
  obtain ⟨hn, σ, τ, ρ, r, f, c5, sv, ep, fp, v, cap, l, t, nm, pl, s, ⟨hx, hH, hT, hS, hY, hSM, hBT, hv9⟩, hbb, hV, hX, ⟨g0, hg0⟩, hgd⟩ := hZ
  have hr := hbb.2.1.1
  have hi := hbb.2.1.2
  have rv := hV.1
  have b9 := hbb.1
  have q9 := hr.2.1
  have vk := RV_Vok rv hr (by omega)
  by_cases hd : hDoor σ z
  · have hd9 := hd
    by_cases h2 : 0 ≤ y ∧ y ≤ 2
    · have h29 := h2
      by_cases h3 : 0 ≤ u ∧ u ≤ 60
      · have h39 := h3
        have rowU := RV_row (RV_hrs rv hr hi u.toNat) z.toNat (by omega)
        have krU := ((Hok_hrs hr u.toNat).2.2.2.2 z.toNat (by omega)).2.2 y.toNat (by omega)
        have T : tDA (A 0) z y u = 0 := (if_pos ⟨(RV_door rv z).mpr hd, h2⟩).trans (if_pos h3)
        have e : (if tDA (A 0) z y u = 0 then mHrs (A 0) u.toNat (7 + 9 * z.toNat + (0 + y.toNat)) else 0) = ((doHrs σ u.toNat).lk z.toNat).dl y.toNat := (if_pos T).trans (by rw [Nat.zero_add]; exact (rowU.1 y.toNat (by omega)).1)
        have hw : i32 (((doHrs σ u.toNat).lk z.toNat).dl y.toNat) := ⟨by omega, by omega⟩
        refine ⟨6, 0, 0, 5, Psp M n (((doHrs σ u.toNat).lk z.toNat).dl y.toNat), ⟨by decide, by decide, by decide, by decide⟩, l_dialAfter z y u hx (by decide) (x_dialAfter hx hH hr hT (by omega) z hz y hy u hu hd h2 h3) (hN_sp hw hg0) nE_wr, fun k M' n' hP => ?_⟩
        obtain ⟨rfl, rfl, M1, g, hsp, hM⟩ := hP
        have hZ1 := LZ_out (LZ_sp hZ0 hsp) hM
        have hm := m_dialAfter (r0 := r0) (Γ := Γ) (n := n') (LZ_mm hZ1) vk (RV_Vh rv hr (by omega)) (by omega) z y u hz hy hu
        rw [e, if_pos T, T] at hm
        exact ⟨by decide, fin_q hm hB hZ1 hw rfl (fun _ => ⟨_, by rw [hM, va_up_self], va_up_self _ _ _⟩) ⟨rfl, rfl, rfl, rfl, rfl, rfl, rfl⟩ ⟨rfl, rfl, rfl, rfl, rfl⟩⟩
      · skip
        have T : tDA (A 0) z y u = 2 := (if_pos ⟨(RV_door rv z).mpr hd, h2⟩).trans (if_neg h3)
        have e : (if tDA (A 0) z y u = 0 then mHrs (A 0) u.toNat (7 + 9 * z.toNat + (0 + y.toNat)) else 0) = 0 := if_neg (by rw [T]; decide)
        refine ⟨6, 1, 6, 5, Pex M n 2, ⟨by decide, by decide, by decide, by decide⟩, l_dialAfter z y u hx (by decide) (x_dialAfterZ hx hH hr hT z hz y hy u hu hd h2 h3) nN_rt (fun E M' n' ⟨h1, h2, h3⟩ => by cases h1; exact Or.inr ⟨rfl, rfl, h3, h2⟩), fun k M' n' hP => ?_⟩
        obtain ⟨rfl, rfl, rfl⟩ := hP
        have hm := m_dialAfter (r0 := r0) (Γ := Γ) (n := n') hX vk (RV_Vh rv hr (by omega)) (by omega) z y u hz hy hu
        rw [e, if_neg (show ¬ tDA (A 0) z y u = 0 by rw [T]; decide), T] at hm
        exact ⟨by decide, fin_q hm hB hZ0 (by decide) rfl (fun e => absurd e (by decide)) ⟨rfl, rfl, rfl, rfl, rfl, rfl, rfl⟩ ⟨rfl, rfl, rfl, rfl, rfl⟩⟩
    · skip
      have T : tDA (A 0) z y u = 1 := if_neg (fun h => h2 h.2)
      have e : (if tDA (A 0) z y u = 0 then mHrs (A 0) u.toNat (7 + 9 * z.toNat + (0 + y.toNat)) else 0) = 0 := if_neg (by rw [T]; decide)
      refine ⟨6, 1, 6, 5, Pex M n 1, ⟨by decide, by decide, by decide, by decide⟩, l_dialAfter z y u hx (by decide) (x_dialAfterY hx hH hr hT z hz y hy u hu hd h2) nN_rt (fun E M' n' ⟨h1, h2, h3⟩ => by cases h1; exact Or.inl ⟨rfl, rfl, h3, h2⟩), fun k M' n' hP => ?_⟩
      obtain ⟨rfl, rfl, rfl⟩ := hP
      have hm := m_dialAfter (r0 := r0) (Γ := Γ) (n := n') hX vk (RV_Vh rv hr (by omega)) (by omega) z y u hz hy hu
      rw [e, if_neg (show ¬ tDA (A 0) z y u = 0 by rw [T]; decide), T] at hm
      exact ⟨by decide, fin_q hm hB hZ0 (by decide) rfl (fun e => absurd e (by decide)) ⟨rfl, rfl, rfl, rfl, rfl, rfl, rfl⟩ ⟨rfl, rfl, rfl, rfl, rfl⟩⟩
  · skip
    have T : tDA (A 0) z y u = 1 := if_neg (fun h => hd ((RV_door rv z).mp h.1))
    have e : (if tDA (A 0) z y u = 0 then mHrs (A 0) u.toNat (7 + 9 * z.toNat + (0 + y.toNat)) else 0) = 0 := if_neg (by rw [T]; decide)
    refine ⟨6, 1, 6, 5, Pex M n 1, ⟨by decide, by decide, by decide, by decide⟩, l_dialAfter z y u hx (by decide) (x_dialAfterX hx hH hr hT z hz y hy u hu hd) nN_rt (fun E M' n' ⟨h1, h2, h3⟩ => by cases h1; exact Or.inl ⟨rfl, rfl, h3, h2⟩), fun k M' n' hP => ?_⟩
    obtain ⟨rfl, rfl, rfl⟩ := hP
    have hm := m_dialAfter (r0 := r0) (Γ := Γ) (n := n') hX vk (RV_Vh rv hr (by omega)) (by omega) z y u hz hy hu
    rw [e, if_neg (show ¬ tDA (A 0) z y u = 0 by rw [T]; decide), T] at hm
    exact ⟨by decide, fin_q hm hB hZ0 (by decide) rfl (fun e => absurd e (by decide)) ⟨rfl, rfl, rfl, rfl, rfl, rfl, rfl⟩ ⟨rfl, rfl, rfl, rfl, rfl⟩⟩
theorem s_triesUntilBroken (hB : 20 ≤ B ∧ B + 2400 ≤ 10000000) (hZ : LZ B M n q A) (z : Int) (hz : i32 z) : StK r0 Γ B M n i32 mL_triesUntilBroken mX8_triesUntilBroken [vR 100, vI z, vR 382] [vR 373, vI z] := by
  have hZ0 := hZ
  obtain ⟨hn, σ, τ, ρ, r, f, c5, sv, ep, fp, v, cap, l, t, nm, pl, s, ⟨hx, hH, hT, hS, hY, hSM, hBT, hv9⟩, hbb, hV, hX, ⟨g0, hg0⟩, hgd⟩ := hZ
  have hr := hbb.2.1.1
  have hi := hbb.2.1.2
  have rv := hV.1
  have b9 := hbb.1
  have q9 := hr.2.1
  have vk := RV_Vok rv hr (by omega)
  by_cases hd : hDoor σ z
  · have hd9 := hd
    have row := RV_row rv z.toNat (by omega)
    have kr := hr.2.2.2.2 z.toNat (by omega)
    have kc := kr.2.1
    have et : vTub (A 0) z.toNat 21 (A 0 (7 + 9 * z.toNat + 7)) = lTub 21 (σ.lk z.toNat) := by rw [row.2.2.1]; exact RV_tub rv hr z.toNat (by omega) 21 _ rfl rfl kc.1 kc.2 (by omega)
    have lr := lTub_rng 21 (σ.lk z.toNat)
    refine ⟨5, 1, 6, 4, fun k M' n' => n' = n ∧ ((k = 0 ∧ 0 ≤ lTub 21 (σ.lk z.toNat) ∧ ∃ (M1 : Mem) (g : Nat → Int64), SP 100 M M1 ∧ M' = va_up M1 382 (cL 3 1 (va_up g 0 (Int64.ofInt (lTub 21 (σ.lk z.toNat)))))) ∨ (k = 2 ∧ lTub 21 (σ.lk z.toNat) < 0 ∧ SP 100 M M')), ⟨by decide, by decide, by decide, by decide⟩, l_triesUntilBroken z hx (by decide) (x_triesUntilBroken hx hH hr hT z hz hd) ?_ ?_, fun k M' n' hP => ?_⟩
    · rintro r1 M' n' ⟨rfl, hsp, h9⟩
      rcases h9 with ⟨-, h3⟩ | ⟨h2, h3⟩
      · cases h3
      · cases h3
        exact ⟨_, g0, rfl, ⟨by omega, by omega⟩, sp_out hsp hg0, fun M'' e => ⟨rfl, Or.inl ⟨rfl, h2, M', g0, hsp, e⟩⟩⟩
    · rintro E M' n' ⟨rfl, hsp, h9⟩
      rcases h9 with ⟨h2, h3⟩ | ⟨-, h3⟩
      · cases h3
        exact Or.inr ⟨rfl, rfl, Or.inr ⟨rfl, h2, hsp⟩⟩
      · cases h3
    · obtain ⟨rfl, hP⟩ := hP
      rcases hP with ⟨rfl, h2, M1, g, hsp, hM⟩ | ⟨rfl, h2, hsp⟩
      · have T : tTub (A 0) z = 0 := (if_pos ((RV_door rv z).mpr hd)).trans (if_neg (by omega))
        have e : (if tTub (A 0) z = 0 then vTub (A 0) z.toNat 21 (A 0 (7 + 9 * z.toNat + 7)) else 0) = lTub 21 (σ.lk z.toNat) := (if_pos T).trans et
        have hZ1 := LZ_out (LZ_sp hZ0 hsp) hM
        have hm := m_triesUntilBroken (r0 := r0) (Γ := Γ) (n := n') (LZ_mm hZ1) vk z hz
        rw [e, T] at hm
        exact ⟨by decide, fin_q hm hB hZ1 ⟨by omega, by omega⟩ rfl (fun _ => ⟨_, by rw [hM, va_up_self], va_up_self _ _ _⟩) ⟨rfl, rfl, rfl, rfl, rfl, rfl, rfl⟩ ⟨rfl, rfl, rfl, rfl, rfl⟩⟩
      · have T : tTub (A 0) z = 2 := (if_pos ((RV_door rv z).mpr hd)).trans (if_pos (by omega))
        have e : (if tTub (A 0) z = 0 then vTub (A 0) z.toNat 21 (A 0 (7 + 9 * z.toNat + 7)) else 0) = 0 := if_neg (by rw [T]; decide)
        have hZ1 := LZ_sp hZ0 hsp
        have hm := m_triesUntilBroken (r0 := r0) (Γ := Γ) (n := n') (LZ_mm hZ1) vk z hz
        rw [e, T] at hm
        exact ⟨by decide, fin_q hm hB hZ1 (by decide) rfl (fun e => absurd e (by decide)) ⟨rfl, rfl, rfl, rfl, rfl, rfl, rfl⟩ ⟨rfl, rfl, rfl, rfl, rfl⟩⟩
  · skip
    have T : tTub (A 0) z = 1 := if_neg (fun h => hd ((RV_door rv z).mp h))
    have e : (if tTub (A 0) z = 0 then vTub (A 0) z.toNat 21 (A 0 (7 + 9 * z.toNat + 7)) else 0) = 0 := if_neg (by rw [T]; decide)
    refine ⟨5, 1, 6, 4, Pex M n 1, ⟨by decide, by decide, by decide, by decide⟩, l_triesUntilBroken z hx (by decide) (x_triesUntilBrokenX hx hH hr hT z hz hd) nN_rt (fun E M' n' ⟨h1, h2, h3⟩ => by cases h1; exact Or.inl ⟨rfl, rfl, h3, h2⟩), fun k M' n' hP => ?_⟩
    obtain ⟨rfl, rfl, rfl⟩ := hP
    have hm := m_triesUntilBroken (r0 := r0) (Γ := Γ) (n := n') hX vk z hz
    rw [e, T] at hm
    exact ⟨by decide, fin_q hm hB hZ0 (by decide) rfl (fun e => absurd e (by decide)) ⟨rfl, rfl, rfl, rfl, rfl, rfl, rfl⟩ ⟨rfl, rfl, rfl, rfl, rfl⟩⟩
theorem s_hoursUntilFitting (hB : 20 ≤ B ∧ B + 2400 ≤ 10000000) (hZ : LZ B M n q A) (z : Int) (hz : i32 z) : StK r0 Γ B M n i32 mL_hoursUntilFitting mX8_hoursUntilFitting [vR 100, vI z, vR 382] [vR 373, vI z] := by
  have hZ0 := hZ
  obtain ⟨hn, σ, τ, ρ, r, f, c5, sv, ep, fp, v, cap, l, t, nm, pl, s, ⟨hx, hH, hT, hS, hY, hSM, hBT, hv9⟩, hbb, hV, hX, ⟨g0, hg0⟩, hgd⟩ := hZ
  have hr := hbb.2.1.1
  have hi := hbb.2.1.2
  have rv := hV.1
  have b9 := hbb.1
  have q9 := hr.2.1
  have vk := RV_Vok rv hr (by omega)
  have vh := RV_Vh rv hr (by omega)
  by_cases hd : hDoor σ z
  · have hd9 := hd
    have vd := (RV_door rv z).mpr hd
    have hm9 : ∀ j : Nat, vMany (mHrs (A 0) j) z.toNat = 3 - lFit ((doHrs σ j).lk z.toNat) := fun j => RV_many (RV_hrs rv hr hi j) (Hok_hrs hr j) z.toNat (by omega)
    refine ⟨6, 1, 6, 5, fun k M' n' => n' = n ∧ ∃ kk : Nat, (∀ j : Nat, j < kk → lFit ((doHrs σ j).lk z.toNat) ≠ 3) ∧ ((k = 0 ∧ kk ≤ 60 ∧ lFit ((doHrs σ kk).lk z.toNat) = 3 ∧ ∃ (M1 : Mem) (g : Nat → Int64), SP 100 M M1 ∧ M' = va_up M1 382 (cL 3 1 (va_up g 0 (Int64.ofInt (kk : Int))))) ∨ (k = 2 ∧ kk = 61 ∧ SP 100 M M')), ⟨by decide, by decide, by decide, by decide⟩, l_hoursUntilFitting z hx (by decide) (x_hoursUntilFitting hx hH hr hT (by omega) z hz hd) ?_ ?_, fun k M' n' hP => ?_⟩
    · rintro r1 M' n' ⟨rfl, hsp, kk, h8, h9⟩
      rcases h9 with ⟨h2, h4, h3⟩ | ⟨-, h3⟩
      · cases h3
        exact ⟨_, g0, rfl, ⟨by omega, by omega⟩, sp_out hsp hg0, fun M'' e => ⟨rfl, kk, h8, Or.inl ⟨rfl, h2, h4, M', g0, hsp, e⟩⟩⟩
      · cases h3
    · rintro E M' n' ⟨rfl, hsp, kk, h8, h9⟩
      rcases h9 with ⟨-, -, h3⟩ | ⟨h2, h3⟩
      · cases h3
      · cases h3
        exact Or.inr ⟨rfl, rfl, kk, h8, Or.inr ⟨rfl, h2, hsp⟩⟩
    · obtain ⟨rfl, kk, h8, hP⟩ := hP
      rcases hP with ⟨rfl, h2, h4, M1, g, hsp, hM⟩ | ⟨rfl, h2, hsp⟩
      · have hZ1 := LZ_out (LZ_sp hZ0 hsp) hM
        refine ⟨by decide, ⟨_, (LZ_mm hZ1).2.1⟩, _, m_hoursUntilFitting (r0 := r0) (Γ := Γ) (n := n') (LZ_mm hZ1) vk vh (by omega) z hz, ?_⟩
        rintro r' M'' n'' ⟨e2, hf2, h9⟩
        rcases h9 with ⟨h5, -⟩ | ⟨-, k2, h6, h7⟩
        · exact absurd vd h5
        · have ek : k2 = kk := by
            by_cases g1 : kk < k2
            · exact absurd (by rw [hm9, h4]; rfl) (h6 kk g1)
            · by_cases g2 : k2 < kk
              · rcases h7 with ⟨-, h7, -⟩ | ⟨h7, -⟩
                · exact absurd (by have h10 := hm9 k2; omega) (h8 k2 g2)
                · omega
              · omega
          subst ek
          rcases h7 with ⟨-, -, e1, hm2⟩ | ⟨h7, -⟩
          · exact ⟨e2, _, ⟨by omega, by omega⟩, e1, fun _ => ⟨_, (hf2 382 (by omega)).trans (by rw [hM, va_up_self]), va_up_self _ _ _⟩, _, _, rfl, e2 ▸ LZ_q hZ1 hf2 hm2 ⟨rfl, rfl, rfl, rfl, rfl, rfl⟩ ⟨rfl, rfl, rfl, rfl, rfl⟩ (by omega) hB.2⟩
          · omega
      · have hZ1 := LZ_sp hZ0 hsp
        refine ⟨by decide, ⟨_, (LZ_mm hZ1).2.1⟩, _, m_hoursUntilFitting (r0 := r0) (Γ := Γ) (n := n') (LZ_mm hZ1) vk vh (by omega) z hz, ?_⟩
        rintro r' M'' n'' ⟨e2, hf2, h9⟩
        rcases h9 with ⟨h5, -⟩ | ⟨-, k2, h6, h7⟩
        · exact absurd vd h5
        · rcases h7 with ⟨h10, h7, -⟩ | ⟨-, e1, hm2⟩
          · exact absurd (by have h11 := hm9 k2; omega) (h8 k2 (by omega))
          · exact ⟨e2, _, by decide, e1, fun e => absurd e (by decide), _, _, rfl, e2 ▸ LZ_q hZ1 hf2 hm2 ⟨rfl, rfl, rfl, rfl, rfl, rfl⟩ ⟨rfl, rfl, rfl, rfl, rfl⟩ (by omega) hB.2⟩
  · have vd : ¬ vDoor (A 0) z := fun h => hd ((RV_door rv z).mp h)
    refine ⟨6, 1, 6, 5, Pex M n 1, ⟨by decide, by decide, by decide, by decide⟩, l_hoursUntilFitting z hx (by decide) (x_hoursUntilFittingX hx hH hr hT z hz hd) nN_rt (fun E M' n' ⟨h1, h2, h3⟩ => by cases h1; exact Or.inl ⟨rfl, rfl, h3, h2⟩), fun k M' n' hP => ?_⟩
    obtain ⟨rfl, rfl, rfl⟩ := hP
    refine ⟨by decide, ⟨_, hX.2.1⟩, _, m_hoursUntilFitting (r0 := r0) (Γ := Γ) (n := n') hX vk vh (by omega) z hz, ?_⟩
    rintro r' M'' n'' ⟨e2, hf2, h9⟩
    rcases h9 with ⟨-, e1, hm2⟩ | ⟨h5, -⟩
    · exact ⟨e2, _, by decide, e1, fun e => absurd e (by decide), _, _, rfl, e2 ▸ LZ_q hZ0 hf2 hm2 ⟨rfl, rfl, rfl, rfl, rfl, rfl⟩ ⟨rfl, rfl, rfl, rfl, rfl⟩ (by omega) hB.2⟩
    · exact absurd h5 vd
theorem s_doorByCrumbs (hB : 20 ≤ B ∧ B + 2400 ≤ 10000000) (hZ : LZ B M n q A) (z : Int) (hz : i32 z) : StK r0 Γ B M n i32 mL_doorByCrumbs mX8_doorByCrumbs [vR 100, vI z, vR 382] [vR 373, vI z] := by
  have hZ0 := hZ
  obtain ⟨hn, σ, τ, ρ, r, f, c5, sv, ep, fp, v, cap, l, t, nm, pl, s, ⟨hx, hH, hT, hS, hY, hSM, hBT, hv9⟩, hbb, hV, hX, ⟨g0, hg0⟩, hgd⟩ := hZ
  have hr := hbb.2.1.1
  have hi := hbb.2.1.2
  have rv := hV.1
  have b9 := hbb.1
  have q9 := hr.2.1
  have vk := RV_Vok rv hr (by omega)
  have a2 := rv.1.2.2.1
  have q0 := hr.1 0 (by decide)
  have rk : ∀ d : Nat, (d : Int) < σ.sc 0 → vRank (A 0) d (A 0 2).toNat = rankN σ d (σ.sc 0).toNat := fun d h => by rw [a2]; exact RV_rank rv hr d (by omega) _ (by omega)
  refine ⟨5, 1, 6, 4, fun k M' n' => n' = n ∧ ((k = 0 ∧ ∃ d : Nat, (d : Int) < σ.sc 0 ∧ rankN σ d (σ.sc 0).toNat = z ∧ (∀ e : Nat, e < d → rankN σ e (σ.sc 0).toNat ≠ z) ∧ ∃ g : Nat → Int64, M' = va_up M 382 (cL 3 1 (va_up g 0 (Int64.ofInt (d : Int))))) ∨ (k = 1 ∧ (∀ e : Nat, (e : Int) < σ.sc 0 → rankN σ e (σ.sc 0).toNat ≠ z) ∧ M' = M)), ⟨by decide, by decide, by decide, by decide⟩, l_doorByCrumbs z hx (by decide) (x_doorByCrumbs hx hH hr z hz) ?_ ?_, fun k M' n' hP => ?_⟩
  · rintro r1 M' n' ⟨rfl, rfl, h9⟩
    rcases h9 with ⟨d, h1, h2, h4, h3⟩ | ⟨-, h3⟩
    · cases h3
      exact ⟨_, g0, rfl, ⟨by omega, by omega⟩, hg0, fun M'' e => ⟨rfl, Or.inl ⟨rfl, d, h1, h2, h4, g0, e⟩⟩⟩
    · cases h3
  · rintro E M' n' ⟨rfl, rfl, h9⟩
    rcases h9 with ⟨d, -, -, -, h3⟩ | ⟨h2, h3⟩
    · cases h3
    · cases h3
      exact ⟨rfl, rfl, Or.inr ⟨rfl, h2, rfl⟩⟩
  · obtain ⟨rfl, hP⟩ := hP
    rcases hP with ⟨rfl, d, h1, h2, h4, g, hM⟩ | ⟨rfl, h2, rfl⟩
    · have hZ1 := LZ_out hZ0 hM
      refine ⟨by decide, ⟨_, (LZ_mm hZ1).2.1⟩, _, m_doorByCrumbs (r0 := r0) (Γ := Γ) (n := n') (LZ_mm hZ1) vk z hz, ?_⟩
      rintro r' M'' n'' ⟨e2, hf2, h9⟩
      rcases h9 with ⟨d2, h5, h6, h7, e1, hm2⟩ | ⟨h5, -⟩
      · have ed : d2 = d := by
          by_cases g1 : d < d2
          · exact absurd (by rw [rk d h1]; exact h2) (h7 d g1)
          · by_cases g2 : d2 < d
            · exact absurd (by rw [← rk d2 (by omega)]; exact h6) (h4 d2 g2)
            · omega
        subst ed
        exact ⟨e2, _, ⟨by omega, by omega⟩, e1, fun _ => ⟨_, (hf2 382 (by omega)).trans (by rw [hM, va_up_self]), va_up_self _ _ _⟩, _, _, rfl, e2 ▸ LZ_q hZ1 hf2 hm2 ⟨rfl, rfl, rfl, rfl, rfl, rfl⟩ ⟨rfl, rfl, rfl, rfl, rfl⟩ (by omega) hB.2⟩
      · exact absurd (by rw [rk d h1]; exact h2) (h5 d (by omega))
    · refine ⟨by decide, ⟨_, hX.2.1⟩, _, m_doorByCrumbs (r0 := r0) (Γ := Γ) (n := n') hX vk z hz, ?_⟩
      rintro r' M'' n'' ⟨e2, hf2, h9⟩
      rcases h9 with ⟨d2, h5, h6, h7, e1, hm2⟩ | ⟨h5, e1, hm2⟩
      · exact absurd (by rw [← rk d2 (by omega)]; exact h6) (h2 d2 (by omega))
      · exact ⟨e2, _, by decide, e1, fun e => absurd e (by decide), _, _, rfl, e2 ▸ LZ_q hZ0 hf2 hm2 ⟨rfl, rfl, rfl, rfl, rfl, rfl⟩ ⟨rfl, rfl, rfl, rfl, rfl⟩ (by omega) hB.2⟩
end SD
