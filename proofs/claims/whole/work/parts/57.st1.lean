/-! the law's calls that change nothing (wip/whole/gen/c_st.py prints this part) -/
section ST
variable {r0 : Option Nat} {Γ : Cx} {B : Int} {M : Mem} {n : Nat} {q : Nat → Int} {A : Nat → Nat → Int}
theorem s_crumbs (hB : 20 ≤ B ∧ B + 2400 ≤ 10000000) (hZ : LZ B M n q A) (z : Int) (hz : i32 z) : StK r0 Γ B M n i32 mL_crumbs mX8_crumbs [vR 100, vI z, vR 382] [vR 373, vI z] := by
  have hZ0 := hZ
  obtain ⟨hn, σ, τ, ρ, r, f, c5, sv, ep, fp, v, cap, l, t, nm, pl, s, ⟨hx, hH, hT, hS, hY, hSM, hBT, hv9⟩, hbb, hV, hX, ⟨g0, hg0⟩, hgd⟩ := hZ
  have hr := hbb.2.1.1
  have hi := hbb.2.1.2
  have rv := hV.1
  have b9 := hbb.1
  have q9 := hr.2.1
  have vk := RV_Vok rv hr (by omega)
  by_cases hd : hDoor σ z
  · have hd9 := hd
    have row := RV_row rv z.toNat (by omega)
    have kr := hr.2.2.2.2 z.toNat (by omega)
    have kc := kr.2.1
    have T : tD (A 0) z = 0 := if_pos ((RV_door rv z).mpr hd)
    have e : (if tD (A 0) z = 0 then A 0 (7 + 9 * z.toNat + 7) else 0) = (σ.lk z.toNat).cr := (if_pos T).trans row.2.2.1
    have hw : i32 ((σ.lk z.toNat).cr) := ⟨by omega, by omega⟩
    refine ⟨3, 0, 0, 2, Pok M n ((σ.lk z.toNat).cr), ⟨by decide, by decide, by decide, by decide⟩, l_crumbs z hx (by decide) (x_crumbs hx hH hr z hz hd) (hN_rt hw hg0) nE_rt, fun k M' n' hP => ?_⟩
    obtain ⟨rfl, rfl, g, hM⟩ := hP
    have hZ1 := LZ_out hZ0 hM
    have hm := m_crumbs (r0 := r0) (Γ := Γ) (n := n') (LZ_mm hZ1) vk z hz
    rw [e, T] at hm
    exact ⟨by decide, fin_q hm hB hZ1 hw rfl (fun _ => ⟨_, by rw [hM, va_up_self], va_up_self _ _ _⟩) ⟨rfl, rfl, rfl, rfl, rfl, rfl, rfl⟩ ⟨rfl, rfl, rfl, rfl, rfl⟩⟩
  · skip
    have T : tD (A 0) z = 1 := if_neg (fun h => hd ((RV_door rv z).mp h))
    have e : (if tD (A 0) z = 0 then A 0 (7 + 9 * z.toNat + 7) else 0) = 0 := if_neg (by rw [T]; decide)
    refine ⟨3, 1, 6, 2, Pex M n 1, ⟨by decide, by decide, by decide, by decide⟩, l_crumbs z hx (by decide) (x_crumbsX hx hH hr z hz hd) nN_rt (fun E M' n' ⟨h1, h2, h3⟩ => by cases h1; exact ⟨rfl, rfl, h3, h2⟩), fun k M' n' hP => ?_⟩
    obtain ⟨rfl, rfl, rfl⟩ := hP
    have hm := m_crumbs (r0 := r0) (Γ := Γ) (n := n') hX vk z hz
    rw [e, T] at hm
    exact ⟨by decide, fin_q hm hB hZ0 (by decide) rfl (fun e => absurd e (by decide)) ⟨rfl, rfl, rfl, rfl, rfl, rfl, rfl⟩ ⟨rfl, rfl, rfl, rfl, rfl⟩⟩
theorem s_play (hB : 20 ≤ B ∧ B + 2400 ≤ 10000000) (hZ : LZ B M n q A) (z : Int) (hz : i32 z) : StK r0 Γ B M n i32 mL_play mX8_play [vR 100, vI z, vR 382] [vR 373, vI z] := by
  have hZ0 := hZ
  obtain ⟨hn, σ, τ, ρ, r, f, c5, sv, ep, fp, v, cap, l, t, nm, pl, s, ⟨hx, hH, hT, hS, hY, hSM, hBT, hv9⟩, hbb, hV, hX, ⟨g0, hg0⟩, hgd⟩ := hZ
  have hr := hbb.2.1.1
  have hi := hbb.2.1.2
  have rv := hV.1
  have b9 := hbb.1
  have q9 := hr.2.1
  have vk := RV_Vok rv hr (by omega)
  by_cases hd : hDoor σ z
  · have hd9 := hd
    have row := RV_row rv z.toNat (by omega)
    have kr := hr.2.2.2.2 z.toNat (by omega)
    have kc := kr.2.1
    have T : tD (A 0) z = 0 := if_pos ((RV_door rv z).mpr hd)
    have e : (if tD (A 0) z = 0 then A 0 (7 + 9 * z.toNat + 7) / 5 else 0) = (σ.lk z.toNat).cr / 5 := (if_pos T).trans (by rw [row.2.2.1])
    have hw : i32 ((σ.lk z.toNat).cr / 5) := ⟨by omega, by omega⟩
    refine ⟨3, 0, 0, 2, Pok M n ((σ.lk z.toNat).cr / 5), ⟨by decide, by decide, by decide, by decide⟩, l_play z hx (by decide) (x_play hx hH hr z hz hd) (hN_rt hw hg0) nE_rt, fun k M' n' hP => ?_⟩
    obtain ⟨rfl, rfl, g, hM⟩ := hP
    have hZ1 := LZ_out hZ0 hM
    have hm := m_play (r0 := r0) (Γ := Γ) (n := n') (LZ_mm hZ1) vk z hz
    rw [e, T] at hm
    exact ⟨by decide, fin_q hm hB hZ1 hw rfl (fun _ => ⟨_, by rw [hM, va_up_self], va_up_self _ _ _⟩) ⟨rfl, rfl, rfl, rfl, rfl, rfl, rfl⟩ ⟨rfl, rfl, rfl, rfl, rfl⟩⟩
  · skip
    have T : tD (A 0) z = 1 := if_neg (fun h => hd ((RV_door rv z).mp h))
    have e : (if tD (A 0) z = 0 then A 0 (7 + 9 * z.toNat + 7) / 5 else 0) = 0 := if_neg (by rw [T]; decide)
    refine ⟨3, 1, 6, 2, Pex M n 1, ⟨by decide, by decide, by decide, by decide⟩, l_play z hx (by decide) (x_playX hx hH hr z hz hd) nN_rt (fun E M' n' ⟨h1, h2, h3⟩ => by cases h1; exact ⟨rfl, rfl, h3, h2⟩), fun k M' n' hP => ?_⟩
    obtain ⟨rfl, rfl, rfl⟩ := hP
    have hm := m_play (r0 := r0) (Γ := Γ) (n := n') hX vk z hz
    rw [e, T] at hm
    exact ⟨by decide, fin_q hm hB hZ0 (by decide) rfl (fun e => absurd e (by decide)) ⟨rfl, rfl, rfl, rfl, rfl, rfl, rfl⟩ ⟨rfl, rfl, rfl, rfl, rfl⟩⟩
theorem s_fittingDials (hB : 20 ≤ B ∧ B + 2400 ≤ 10000000) (hZ : LZ B M n q A) (z : Int) (hz : i32 z) : StK r0 Γ B M n i32 mL_fittingDials mX8_fittingDials [vR 100, vI z, vR 382] [vR 373, vI z] := by
  have hZ0 := hZ
  obtain ⟨hn, σ, τ, ρ, r, f, c5, sv, ep, fp, v, cap, l, t, nm, pl, s, ⟨hx, hH, hT, hS, hY, hSM, hBT, hv9⟩, hbb, hV, hX, ⟨g0, hg0⟩, hgd⟩ := hZ
  have hr := hbb.2.1.1
  have hi := hbb.2.1.2
  have rv := hV.1
  have b9 := hbb.1
  have q9 := hr.2.1
  have vk := RV_Vok rv hr (by omega)
  by_cases hd : hDoor σ z
  · have hd9 := hd
    have row := RV_row rv z.toNat (by omega)
    have kr := hr.2.2.2.2 z.toNat (by omega)
    have kc := kr.2.1
    have T : tD (A 0) z = 0 := if_pos ((RV_door rv z).mpr hd)
    have e : (if tD (A 0) z = 0 then 3 - vMany (A 0) z.toNat else 0) = lFit (σ.lk z.toNat) := (if_pos T).trans (by rw [RV_many rv hr z.toNat (by omega)]; omega)
    have hw : i32 (lFit (σ.lk z.toNat)) := by have := lFit_rng (σ.lk z.toNat); exact ⟨by omega, by omega⟩
    refine ⟨3, 0, 0, 3, Pok M n (lFit (σ.lk z.toNat)), ⟨by decide, by decide, by decide, by decide⟩, l_fittingDials z hx (by decide) (x_fittingDials hx hH hr z hz hd) (hN_rt hw hg0) nE_rt, fun k M' n' hP => ?_⟩
    obtain ⟨rfl, rfl, g, hM⟩ := hP
    have hZ1 := LZ_out hZ0 hM
    have hm := m_fittingDials (r0 := r0) (Γ := Γ) (n := n') (LZ_mm hZ1) vk z hz
    rw [e, T] at hm
    exact ⟨by decide, fin_q hm hB hZ1 hw rfl (fun _ => ⟨_, by rw [hM, va_up_self], va_up_self _ _ _⟩) ⟨rfl, rfl, rfl, rfl, rfl, rfl, rfl⟩ ⟨rfl, rfl, rfl, rfl, rfl⟩⟩
  · skip
    have T : tD (A 0) z = 1 := if_neg (fun h => hd ((RV_door rv z).mp h))
    have e : (if tD (A 0) z = 0 then 3 - vMany (A 0) z.toNat else 0) = 0 := if_neg (by rw [T]; decide)
    refine ⟨3, 1, 6, 3, Pex M n 1, ⟨by decide, by decide, by decide, by decide⟩, l_fittingDials z hx (by decide) (x_fittingDialsX hx hH hr z hz hd) nN_rt (fun E M' n' ⟨h1, h2, h3⟩ => by cases h1; exact ⟨rfl, rfl, h3, h2⟩), fun k M' n' hP => ?_⟩
    obtain ⟨rfl, rfl, rfl⟩ := hP
    have hm := m_fittingDials (r0 := r0) (Γ := Γ) (n := n') hX vk z hz
    rw [e, T] at hm
    exact ⟨by decide, fin_q hm hB hZ0 (by decide) rfl (fun e => absurd e (by decide)) ⟨rfl, rfl, rfl, rfl, rfl, rfl, rfl⟩ ⟨rfl, rfl, rfl, rfl, rfl⟩⟩
theorem s_stepsToOpen (hB : 20 ≤ B ∧ B + 2400 ≤ 10000000) (hZ : LZ B M n q A) (z : Int) (hz : i32 z) : StK r0 Γ B M n i32 mL_stepsToOpen mX8_stepsToOpen [vR 100, vI z, vR 382] [vR 373, vI z] := by
  have hZ0 := hZ
  obtain ⟨hn, σ, τ, ρ, r, f, c5, sv, ep, fp, v, cap, l, t, nm, pl, s, ⟨hx, hH, hT, hS, hY, hSM, hBT, hv9⟩, hbb, hV, hX, ⟨g0, hg0⟩, hgd⟩ := hZ
  have hr := hbb.2.1.1
  have hi := hbb.2.1.2
  have rv := hV.1
  have b9 := hbb.1
  have q9 := hr.2.1
  have vk := RV_Vok rv hr (by omega)
  by_cases hd : hDoor σ z
  · have hd9 := hd
    have row := RV_row rv z.toNat (by omega)
    have kr := hr.2.2.2.2 z.toNat (by omega)
    have kc := kr.2.1
    have T : tD (A 0) z = 0 := if_pos ((RV_door rv z).mpr hd)
    have e : (if tD (A 0) z = 0 then vSteps (A 0) z.toNat 3 else 0) = lSteps (σ.lk z.toNat) := (if_pos T).trans (RV_steps rv hr z.toNat (by omega))
    have hw : i32 (lSteps (σ.lk z.toNat)) := by have h9 : 0 ≤ lSteps (σ.lk z.toNat) ∧ lSteps (σ.lk z.toNat) ≤ 10 * ((3 : Nat) : Int) := p_stepN_rng _ _ _ (by omega) 3; exact ⟨by omega, by omega⟩
    refine ⟨3, 0, 0, 3, Pok M n (lSteps (σ.lk z.toNat)), ⟨by decide, by decide, by decide, by decide⟩, l_stepsToOpen z hx (by decide) (x_stepsToOpen hx hH hr z hz hd) (hN_rt hw hg0) nE_rt, fun k M' n' hP => ?_⟩
    obtain ⟨rfl, rfl, g, hM⟩ := hP
    have hZ1 := LZ_out hZ0 hM
    have hm := m_stepsToOpen (r0 := r0) (Γ := Γ) (n := n') (LZ_mm hZ1) vk z hz
    rw [e, T] at hm
    exact ⟨by decide, fin_q hm hB hZ1 hw rfl (fun _ => ⟨_, by rw [hM, va_up_self], va_up_self _ _ _⟩) ⟨rfl, rfl, rfl, rfl, rfl, rfl, rfl⟩ ⟨rfl, rfl, rfl, rfl, rfl⟩⟩
  · skip
    have T : tD (A 0) z = 1 := if_neg (fun h => hd ((RV_door rv z).mp h))
    have e : (if tD (A 0) z = 0 then vSteps (A 0) z.toNat 3 else 0) = 0 := if_neg (by rw [T]; decide)
    refine ⟨3, 1, 6, 3, Pex M n 1, ⟨by decide, by decide, by decide, by decide⟩, l_stepsToOpen z hx (by decide) (x_stepsToOpenX hx hH hr z hz hd) nN_rt (fun E M' n' ⟨h1, h2, h3⟩ => by cases h1; exact ⟨rfl, rfl, h3, h2⟩), fun k M' n' hP => ?_⟩
    obtain ⟨rfl, rfl, rfl⟩ := hP
    have hm := m_stepsToOpen (r0 := r0) (Γ := Γ) (n := n') hX vk z hz
    rw [e, T] at hm
    exact ⟨by decide, fin_q hm hB hZ0 (by decide) rfl (fun e => absurd e (by decide)) ⟨rfl, rfl, rfl, rfl, rfl, rfl, rfl⟩ ⟨rfl, rfl, rfl, rfl, rfl⟩⟩
theorem s_openingSettings (hB : 20 ≤ B ∧ B + 2400 ≤ 10000000) (hZ : LZ B M n q A) (z : Int) (hz : i32 z) : StK r0 Γ B M n i32 mL_openingSettings mX8_openingSettings [vR 100, vI z, vR 382] [vR 373, vI z] := by
  have hZ0 := hZ
  obtain ⟨hn, σ, τ, ρ, r, f, c5, sv, ep, fp, v, cap, l, t, nm, pl, s, ⟨hx, hH, hT, hS, hY, hSM, hBT, hv9⟩, hbb, hV, hX, ⟨g0, hg0⟩, hgd⟩ := hZ
  have hr := hbb.2.1.1
  have hi := hbb.2.1.2
  have rv := hV.1
  have b9 := hbb.1
  have q9 := hr.2.1
  have vk := RV_Vok rv hr (by omega)
  by_cases hd : hDoor σ z
  · have hd9 := hd
    have row := RV_row rv z.toNat (by omega)
    have kr := hr.2.2.2.2 z.toNat (by omega)
    have kc := kr.2.1
    have T : tD (A 0) z = 0 := if_pos ((RV_door rv z).mpr hd)
    have e : (if tD (A 0) z = 0 then (2 * (A 0 (7 + 9 * z.toNat + 7) / 5) + 1) * (2 * (A 0 (7 + 9 * z.toNat + 7) / 5) + 1) * (2 * (A 0 (7 + 9 * z.toNat + 7) / 5) + 1) else 0) = (2 * ((σ.lk z.toNat).cr / 5) + 1) * (2 * ((σ.lk z.toNat).cr / 5) + 1) * (2 * ((σ.lk z.toNat).cr / 5) + 1) := (if_pos T).trans (by rw [row.2.2.1])
    have hw : i32 ((2 * ((σ.lk z.toNat).cr / 5) + 1) * (2 * ((σ.lk z.toNat).cr / 5) + 1) * (2 * ((σ.lk z.toNat).cr / 5) + 1)) := by have h9 : ∀ c : Int, 0 ≤ c → c ≤ 20 → i32 ((2 * (c / 5) + 1) * (2 * (c / 5) + 1) * (2 * (c / 5) + 1)) := fun c h1 h2 => (by have h3 : c / 5 = 0 ∨ c / 5 = 1 ∨ c / 5 = 2 ∨ c / 5 = 3 ∨ c / 5 = 4 := (by omega); rcases h3 with h | h | h | h | h <;> rw [h] <;> decide); exact h9 _ kc.1 kc.2
    refine ⟨3, 0, 0, 2, Pok M n ((2 * ((σ.lk z.toNat).cr / 5) + 1) * (2 * ((σ.lk z.toNat).cr / 5) + 1) * (2 * ((σ.lk z.toNat).cr / 5) + 1)), ⟨by decide, by decide, by decide, by decide⟩, l_openingSettings z hx (by decide) (x_openingSettings hx hH hr z hz hd) (hN_rt hw hg0) nE_rt, fun k M' n' hP => ?_⟩
    obtain ⟨rfl, rfl, g, hM⟩ := hP
    have hZ1 := LZ_out hZ0 hM
    have hm := m_openingSettings (r0 := r0) (Γ := Γ) (n := n') (LZ_mm hZ1) vk z hz
    rw [e, T] at hm
    exact ⟨by decide, fin_q hm hB hZ1 hw rfl (fun _ => ⟨_, by rw [hM, va_up_self], va_up_self _ _ _⟩) ⟨rfl, rfl, rfl, rfl, rfl, rfl, rfl⟩ ⟨rfl, rfl, rfl, rfl, rfl⟩⟩
  · skip
    have T : tD (A 0) z = 1 := if_neg (fun h => hd ((RV_door rv z).mp h))
    have e : (if tD (A 0) z = 0 then (2 * (A 0 (7 + 9 * z.toNat + 7) / 5) + 1) * (2 * (A 0 (7 + 9 * z.toNat + 7) / 5) + 1) * (2 * (A 0 (7 + 9 * z.toNat + 7) / 5) + 1) else 0) = 0 := if_neg (by rw [T]; decide)
    refine ⟨3, 1, 6, 2, Pex M n 1, ⟨by decide, by decide, by decide, by decide⟩, l_openingSettings z hx (by decide) (x_openingSettingsX hx hH hr z hz hd) nN_rt (fun E M' n' ⟨h1, h2, h3⟩ => by cases h1; exact ⟨rfl, rfl, h3, h2⟩), fun k M' n' hP => ?_⟩
    obtain ⟨rfl, rfl, rfl⟩ := hP
    have hm := m_openingSettings (r0 := r0) (Γ := Γ) (n := n') hX vk z hz
    rw [e, T] at hm
    exact ⟨by decide, fin_q hm hB hZ0 (by decide) rfl (fun e => absurd e (by decide)) ⟨rfl, rfl, rfl, rfl, rfl, rfl, rfl⟩ ⟨rfl, rfl, rfl, rfl, rfl⟩⟩
theorem s_isOpen (hB : 20 ≤ B ∧ B + 2400 ≤ 10000000) (hZ : LZ B M n q A) (z : Int) (hz : i32 z) : StK r0 Γ B M n b01 mL_isOpen mX8_isOpen [vR 100, vI z, vR 382] [vR 373, vI z] := by
  have hZ0 := hZ
  obtain ⟨hn, σ, τ, ρ, r, f, c5, sv, ep, fp, v, cap, l, t, nm, pl, s, ⟨hx, hH, hT, hS, hY, hSM, hBT, hv9⟩, hbb, hV, hX, ⟨g0, hg0⟩, hgd⟩ := hZ
  have hr := hbb.2.1.1
  have hi := hbb.2.1.2
  have rv := hV.1
  have b9 := hbb.1
  have q9 := hr.2.1
  have vk := RV_Vok rv hr (by omega)
  by_cases hd : hDoor σ z
  · have hd9 := hd
    have row := RV_row rv z.toNat (by omega)
    have kr := hr.2.2.2.2 z.toNat (by omega)
    have kc := kr.2.1
    have T : tD (A 0) z = 0 := if_pos ((RV_door rv z).mpr hd)
    have e : (if tD (A 0) z = 0 then (if vOpen (A 0) z.toNat then (1 : Int) else 0) else 0) = (σ.lk z.toNat).op := (if_pos T).trans (by by_cases g : vOpen (A 0) z.toNat; (rw [if_pos g]; exact (row.2.2.2.2.mpr g).symm); (rw [if_neg g]; exact ((RV_open rv hr z.toNat (by omega)).mpr g).symm))
    have hw : ((σ.lk z.toNat).op = 0 ∨ (σ.lk z.toNat).op = 1) := kr.1
    refine ⟨3, 0, 0, 3, Pok M n ((σ.lk z.toNat).op), ⟨by decide, by decide, by decide, by decide⟩, l_isOpen z hx (by decide) (x_isOpen hx hH hr z hz hd) (hN_rtB hw hg0) nE_rt, fun k M' n' hP => ?_⟩
    obtain ⟨rfl, rfl, g, hM⟩ := hP
    have hZ1 := LZ_out hZ0 hM
    have hm := m_isOpen (r0 := r0) (Γ := Γ) (n := n') (LZ_mm hZ1) vk z hz
    rw [e, T] at hm
    exact ⟨by decide, fin_q hm hB hZ1 hw rfl (fun _ => ⟨_, by rw [hM, va_up_self], va_up_self _ _ _⟩) ⟨rfl, rfl, rfl, rfl, rfl, rfl, rfl⟩ ⟨rfl, rfl, rfl, rfl, rfl⟩⟩
  · skip
    have T : tD (A 0) z = 1 := if_neg (fun h => hd ((RV_door rv z).mp h))
    have e : (if tD (A 0) z = 0 then (if vOpen (A 0) z.toNat then (1 : Int) else 0) else 0) = 0 := if_neg (by rw [T]; decide)
    refine ⟨3, 1, 6, 3, Pex M n 1, ⟨by decide, by decide, by decide, by decide⟩, l_isOpen z hx (by decide) (x_isOpenX hx hH hr z hz hd) nN_rt (fun E M' n' ⟨h1, h2, h3⟩ => by cases h1; exact ⟨rfl, rfl, h3, h2⟩), fun k M' n' hP => ?_⟩
    obtain ⟨rfl, rfl, rfl⟩ := hP
    have hm := m_isOpen (r0 := r0) (Γ := Γ) (n := n') hX vk z hz
    rw [e, T] at hm
    exact ⟨by decide, fin_q hm hB hZ0 (by decide) rfl (fun e => absurd e (by decide)) ⟨rfl, rfl, rfl, rfl, rfl, rfl, rfl⟩ ⟨rfl, rfl, rfl, rfl, rfl⟩⟩
theorem s_isBroken (hB : 20 ≤ B ∧ B + 2400 ≤ 10000000) (hZ : LZ B M n q A) (z : Int) (hz : i32 z) : StK r0 Γ B M n b01 mL_isBroken mX8_isBroken [vR 100, vI z, vR 382] [vR 373, vI z] := by
  have hZ0 := hZ
  obtain ⟨hn, σ, τ, ρ, r, f, c5, sv, ep, fp, v, cap, l, t, nm, pl, s, ⟨hx, hH, hT, hS, hY, hSM, hBT, hv9⟩, hbb, hV, hX, ⟨g0, hg0⟩, hgd⟩ := hZ
  have hr := hbb.2.1.1
  have hi := hbb.2.1.2
  have rv := hV.1
  have b9 := hbb.1
  have q9 := hr.2.1
  have vk := RV_Vok rv hr (by omega)
  by_cases hd : hDoor σ z
  · have hd9 := hd
    have row := RV_row rv z.toNat (by omega)
    have kr := hr.2.2.2.2 z.toNat (by omega)
    have kc := kr.2.1
    have T : tD (A 0) z = 0 := if_pos ((RV_door rv z).mpr hd)
    have e : (if tD (A 0) z = 0 then (if A 0 (7 + 9 * z.toNat + 7) = 20 then (1 : Int) else 0) else 0) = (if (σ.lk z.toNat).cr = 20 then (1 : Int) else 0) := (if_pos T).trans (by rw [row.2.2.1])
    have hw : ((if (σ.lk z.toNat).cr = 20 then (1 : Int) else 0) = 0 ∨ (if (σ.lk z.toNat).cr = 20 then (1 : Int) else 0) = 1) := b_01
    refine ⟨3, 0, 0, 3, Pok M n ((if (σ.lk z.toNat).cr = 20 then (1 : Int) else 0)), ⟨by decide, by decide, by decide, by decide⟩, l_isBroken z hx (by decide) (x_isBroken hx hH hr z hz hd) (hN_rtB hw hg0) nE_rt, fun k M' n' hP => ?_⟩
    obtain ⟨rfl, rfl, g, hM⟩ := hP
    have hZ1 := LZ_out hZ0 hM
    have hm := m_isBroken (r0 := r0) (Γ := Γ) (n := n') (LZ_mm hZ1) vk z hz
    rw [e, T] at hm
    exact ⟨by decide, fin_q hm hB hZ1 hw rfl (fun _ => ⟨_, by rw [hM, va_up_self], va_up_self _ _ _⟩) ⟨rfl, rfl, rfl, rfl, rfl, rfl, rfl⟩ ⟨rfl, rfl, rfl, rfl, rfl⟩⟩
  · skip
    have T : tD (A 0) z = 1 := if_neg (fun h => hd ((RV_door rv z).mp h))
    have e : (if tD (A 0) z = 0 then (if A 0 (7 + 9 * z.toNat + 7) = 20 then (1 : Int) else 0) else 0) = 0 := if_neg (by rw [T]; decide)
    refine ⟨3, 1, 6, 3, Pex M n 1, ⟨by decide, by decide, by decide, by decide⟩, l_isBroken z hx (by decide) (x_isBrokenX hx hH hr z hz hd) nN_rt (fun E M' n' ⟨h1, h2, h3⟩ => by cases h1; exact ⟨rfl, rfl, h3, h2⟩), fun k M' n' hP => ?_⟩
    obtain ⟨rfl, rfl, rfl⟩ := hP
    have hm := m_isBroken (r0 := r0) (Γ := Γ) (n := n') hX vk z hz
    rw [e, T] at hm
    exact ⟨by decide, fin_q hm hB hZ0 (by decide) rfl (fun e => absurd e (by decide)) ⟨rfl, rfl, rfl, rfl, rfl, rfl, rfl⟩ ⟨rfl, rfl, rfl, rfl, rfl⟩⟩
theorem s_isBaking (hB : 20 ≤ B ∧ B + 2400 ≤ 10000000) (hZ : LZ B M n q A) (z : Int) (hz : i32 z) : StK r0 Γ B M n b01 mL_isBaking mX8_isBaking [vR 100, vI z, vR 382] [vR 373, vI z] := by
  have hZ0 := hZ
  obtain ⟨hn, σ, τ, ρ, r, f, c5, sv, ep, fp, v, cap, l, t, nm, pl, s, ⟨hx, hH, hT, hS, hY, hSM, hBT, hv9⟩, hbb, hV, hX, ⟨g0, hg0⟩, hgd⟩ := hZ
  have hr := hbb.2.1.1
  have hi := hbb.2.1.2
  have rv := hV.1
  have b9 := hbb.1
  have q9 := hr.2.1
  have vk := RV_Vok rv hr (by omega)
  by_cases hd : hDoor σ z
  · have hd9 := hd
    have row := RV_row rv z.toNat (by omega)
    have kr := hr.2.2.2.2 z.toNat (by omega)
    have kc := kr.2.1
    have T : tD (A 0) z = 0 := if_pos ((RV_door rv z).mpr hd)
    have e : (if tD (A 0) z = 0 then (if vBake (A 0) z.toNat then (1 : Int) else 0) else 0) = (if hOven σ z then (1 : Int) else 0) := (if_pos T).trans (by have bk := RV_bake rv z.toNat (by omega); rw [show ((z.toNat : Nat) : Int) = z from by omega] at bk; by_cases g : hOven σ z; (rw [if_pos g, if_pos (bk.mpr g)]); (rw [if_neg g, if_neg (fun h => g (bk.mp h))]))
    have hw : ((if hOven σ z then (1 : Int) else 0) = 0 ∨ (if hOven σ z then (1 : Int) else 0) = 1) := b_01
    refine ⟨3, 0, 0, 3, Pok M n ((if hOven σ z then (1 : Int) else 0)), ⟨by decide, by decide, by decide, by decide⟩, l_isBaking z hx (by decide) (x_isBaking hx hH hr z hz hd) (hN_rtB hw hg0) nE_rt, fun k M' n' hP => ?_⟩
    obtain ⟨rfl, rfl, g, hM⟩ := hP
    have hZ1 := LZ_out hZ0 hM
    have hm := m_isBaking (r0 := r0) (Γ := Γ) (n := n') (LZ_mm hZ1) vk z hz
    rw [e, T] at hm
    exact ⟨by decide, fin_q hm hB hZ1 hw rfl (fun _ => ⟨_, by rw [hM, va_up_self], va_up_self _ _ _⟩) ⟨rfl, rfl, rfl, rfl, rfl, rfl, rfl⟩ ⟨rfl, rfl, rfl, rfl, rfl⟩⟩
  · skip
    have T : tD (A 0) z = 1 := if_neg (fun h => hd ((RV_door rv z).mp h))
    have e : (if tD (A 0) z = 0 then (if vBake (A 0) z.toNat then (1 : Int) else 0) else 0) = 0 := if_neg (by rw [T]; decide)
    refine ⟨3, 1, 6, 3, Pex M n 1, ⟨by decide, by decide, by decide, by decide⟩, l_isBaking z hx (by decide) (x_isBakingX hx hH hr z hz hd) nN_rt (fun E M' n' ⟨h1, h2, h3⟩ => by cases h1; exact ⟨rfl, rfl, h3, h2⟩), fun k M' n' hP => ?_⟩
    obtain ⟨rfl, rfl, rfl⟩ := hP
    have hm := m_isBaking (r0 := r0) (Γ := Γ) (n := n') hX vk z hz
    rw [e, T] at hm
    exact ⟨by decide, fin_q hm hB hZ0 (by decide) rfl (fun e => absurd e (by decide)) ⟨rfl, rfl, rfl, rfl, rfl, rfl, rfl⟩ ⟨rfl, rfl, rfl, rfl, rfl⟩⟩
theorem s_dial (hB : 20 ≤ B ∧ B + 2400 ≤ 10000000) (hZ : LZ B M n q A) (z : Int) (hz : i32 z) (y : Int) (hy : i32 y) : StK r0 Γ B M n i32 mL_dial mX8_dial [vR 100, vI z, vI y, vR 382] [vR 373, vI z, vI y] := by
  have hZ0 := hZ
  obtain ⟨hn, σ, τ, ρ, r, f, c5, sv, ep, fp, v, cap, l, t, nm, pl, s, ⟨hx, hH, hT, hS, hY, hSM, hBT, hv9⟩, hbb, hV, hX, ⟨g0, hg0⟩, hgd⟩ := hZ
  have hr := hbb.2.1.1
  have hi := hbb.2.1.2
  have rv := hV.1
  have b9 := hbb.1
  have q9 := hr.2.1
  have vk := RV_Vok rv hr (by omega)
  by_cases hd : hDoor σ z
  · have hd9 := hd
    by_cases h2 : 0 ≤ y ∧ y ≤ 2
    · have h29 := h2
      have row := RV_row rv z.toNat (by omega)
      have kr := hr.2.2.2.2 z.toNat (by omega)
      have kc := kr.2.1
      have T : tDD (A 0) z y = 0 := if_pos ⟨(RV_door rv z).mpr hd, h2⟩
      have e : (if tDD (A 0) z y = 0 then A 0 (7 + 9 * z.toNat + (0 + y.toNat)) else 0) = (σ.lk z.toNat).dl y.toNat := (if_pos T).trans (by rw [Nat.zero_add]; exact (row.1 y.toNat (by omega)).1)
      have hw : i32 ((σ.lk z.toNat).dl y.toNat) := by have k3 := kr.2.2 y.toNat (by omega); exact ⟨by omega, by omega⟩
      refine ⟨3, 0, 0, 2, Pok M n ((σ.lk z.toNat).dl y.toNat), ⟨by decide, by decide, by decide, by decide⟩, l_dial z y hx (by decide) (x_dial hx hH hr z hz y hy hd h2) (hN_rt hw hg0) nE_rt, fun k M' n' hP => ?_⟩
      obtain ⟨rfl, rfl, g, hM⟩ := hP
      have hZ1 := LZ_out hZ0 hM
      have hm := m_dialQ (r0 := r0) (Γ := Γ) (n := n') (LZ_mm hZ1) vk z y hz hy
      rw [e, T] at hm
      exact ⟨by decide, fin_q hm hB hZ1 hw rfl (fun _ => ⟨_, by rw [hM, va_up_self], va_up_self _ _ _⟩) ⟨rfl, rfl, rfl, rfl, rfl, rfl, rfl⟩ ⟨rfl, rfl, rfl, rfl, rfl⟩⟩
    · skip
      have T : tDD (A 0) z y = 1 := if_neg (fun h => h2 h.2)
      have e : (if tDD (A 0) z y = 0 then A 0 (7 + 9 * z.toNat + (0 + y.toNat)) else 0) = 0 := if_neg (by rw [T]; decide)
      refine ⟨3, 1, 6, 2, Pex M n 1, ⟨by decide, by decide, by decide, by decide⟩, l_dial z y hx (by decide) (x_dialY hx hH hr z hz y hy hd h2) nN_rt (fun E M' n' ⟨h1, h2, h3⟩ => by cases h1; exact ⟨rfl, rfl, h3, h2⟩), fun k M' n' hP => ?_⟩
      obtain ⟨rfl, rfl, rfl⟩ := hP
      have hm := m_dialQ (r0 := r0) (Γ := Γ) (n := n') hX vk z y hz hy
      rw [e, T] at hm
      exact ⟨by decide, fin_q hm hB hZ0 (by decide) rfl (fun e => absurd e (by decide)) ⟨rfl, rfl, rfl, rfl, rfl, rfl, rfl⟩ ⟨rfl, rfl, rfl, rfl, rfl⟩⟩
  · skip
    have T : tDD (A 0) z y = 1 := if_neg (fun h => hd ((RV_door rv z).mp h.1))
    have e : (if tDD (A 0) z y = 0 then A 0 (7 + 9 * z.toNat + (0 + y.toNat)) else 0) = 0 := if_neg (by rw [T]; decide)
    refine ⟨3, 1, 6, 2, Pex M n 1, ⟨by decide, by decide, by decide, by decide⟩, l_dial z y hx (by decide) (x_dialX hx hH hr z hz y hy hd) nN_rt (fun E M' n' ⟨h1, h2, h3⟩ => by cases h1; exact ⟨rfl, rfl, h3, h2⟩), fun k M' n' hP => ?_⟩
    obtain ⟨rfl, rfl, rfl⟩ := hP
    have hm := m_dialQ (r0 := r0) (Γ := Γ) (n := n') hX vk z y hz hy
    rw [e, T] at hm
    exact ⟨by decide, fin_q hm hB hZ0 (by decide) rfl (fun e => absurd e (by decide)) ⟨rfl, rfl, rfl, rfl, rfl, rfl, rfl⟩ ⟨rfl, rfl, rfl, rfl, rfl⟩⟩
theorem s_combination (hB : 20 ≤ B ∧ B + 2400 ≤ 10000000) (hZ : LZ B M n q A) (z : Int) (hz : i32 z) (y : Int) (hy : i32 y) : StK r0 Γ B M n i32 mL_combination mX8_combination [vR 100, vI z, vI y, vR 382] [vR 373, vI z, vI y] := by
  have hZ0 := hZ
  obtain ⟨hn, σ, τ, ρ, r, f, c5, sv, ep, fp, v, cap, l, t, nm, pl, s, ⟨hx, hH, hT, hS, hY, hSM, hBT, hv9⟩, hbb, hV, hX, ⟨g0, hg0⟩, hgd⟩ := hZ
  have hr := hbb.2.1.1
  have hi := hbb.2.1.2
  have rv := hV.1
  have b9 := hbb.1
  have q9 := hr.2.1
  have vk := RV_Vok rv hr (by omega)
  by_cases hd : hDoor σ z
  · have hd9 := hd
    by_cases h2 : 0 ≤ y ∧ y ≤ 2
    · have h29 := h2
      have row := RV_row rv z.toNat (by omega)
      have kr := hr.2.2.2.2 z.toNat (by omega)
      have kc := kr.2.1
      have T : tDD (A 0) z y = 0 := if_pos ⟨(RV_door rv z).mpr hd, h2⟩
      have e : (if tDD (A 0) z y = 0 then A 0 (7 + 9 * z.toNat + (3 + y.toNat)) else 0) = (σ.lk z.toNat).cb y.toNat := (if_pos T).trans (row.1 y.toNat (by omega)).2
      have hw : i32 ((σ.lk z.toNat).cb y.toNat) := by have k3 := kr.2.2 y.toNat (by omega); exact ⟨by omega, by omega⟩
      refine ⟨3, 0, 0, 2, Pok M n ((σ.lk z.toNat).cb y.toNat), ⟨by decide, by decide, by decide, by decide⟩, l_combination z y hx (by decide) (x_combination hx hH hr z hz y hy hd h2) (hN_rt hw hg0) nE_rt, fun k M' n' hP => ?_⟩
      obtain ⟨rfl, rfl, g, hM⟩ := hP
      have hZ1 := LZ_out hZ0 hM
      have hm := m_combinationQ (r0 := r0) (Γ := Γ) (n := n') (LZ_mm hZ1) vk z y hz hy
      rw [e, T] at hm
      exact ⟨by decide, fin_q hm hB hZ1 hw rfl (fun _ => ⟨_, by rw [hM, va_up_self], va_up_self _ _ _⟩) ⟨rfl, rfl, rfl, rfl, rfl, rfl, rfl⟩ ⟨rfl, rfl, rfl, rfl, rfl⟩⟩
    · skip
      have T : tDD (A 0) z y = 1 := if_neg (fun h => h2 h.2)
      have e : (if tDD (A 0) z y = 0 then A 0 (7 + 9 * z.toNat + (3 + y.toNat)) else 0) = 0 := if_neg (by rw [T]; decide)
      refine ⟨3, 1, 6, 2, Pex M n 1, ⟨by decide, by decide, by decide, by decide⟩, l_combination z y hx (by decide) (x_combinationY hx hH hr z hz y hy hd h2) nN_rt (fun E M' n' ⟨h1, h2, h3⟩ => by cases h1; exact ⟨rfl, rfl, h3, h2⟩), fun k M' n' hP => ?_⟩
      obtain ⟨rfl, rfl, rfl⟩ := hP
      have hm := m_combinationQ (r0 := r0) (Γ := Γ) (n := n') hX vk z y hz hy
      rw [e, T] at hm
      exact ⟨by decide, fin_q hm hB hZ0 (by decide) rfl (fun e => absurd e (by decide)) ⟨rfl, rfl, rfl, rfl, rfl, rfl, rfl⟩ ⟨rfl, rfl, rfl, rfl, rfl⟩⟩
  · skip
    have T : tDD (A 0) z y = 1 := if_neg (fun h => hd ((RV_door rv z).mp h.1))
    have e : (if tDD (A 0) z y = 0 then A 0 (7 + 9 * z.toNat + (3 + y.toNat)) else 0) = 0 := if_neg (by rw [T]; decide)
    refine ⟨3, 1, 6, 2, Pex M n 1, ⟨by decide, by decide, by decide, by decide⟩, l_combination z y hx (by decide) (x_combinationX hx hH hr z hz y hy hd) nN_rt (fun E M' n' ⟨h1, h2, h3⟩ => by cases h1; exact ⟨rfl, rfl, h3, h2⟩), fun k M' n' hP => ?_⟩
    obtain ⟨rfl, rfl, rfl⟩ := hP
    have hm := m_combinationQ (r0 := r0) (Γ := Γ) (n := n') hX vk z y hz hy
    rw [e, T] at hm
    exact ⟨by decide, fin_q hm hB hZ0 (by decide) rfl (fun e => absurd e (by decide)) ⟨rfl, rfl, rfl, rfl, rfl, rfl, rfl⟩ ⟨rfl, rfl, rfl, rfl, rfl⟩⟩
theorem s_bakingHours (hB : 20 ≤ B ∧ B + 2400 ≤ 10000000) (hZ : LZ B M n q A) (o : Int) (ho : i32 o) : StK r0 Γ B M n i32 mL_bakingHours mX8_bakingHours [vR 100, vI o, vR 382] [vR 373, vI o] := by
  have hZ0 := hZ
  obtain ⟨hn, σ, τ, ρ, r, f, c5, sv, ep, fp, v, cap, l, t, nm, pl, s, ⟨hx, hH, hT, hS, hY, hSM, hBT, hv9⟩, hbb, hV, hX, ⟨g0, hg0⟩, hgd⟩ := hZ
  have hr := hbb.2.1.1
  have hi := hbb.2.1.2
  have rv := hV.1
  have b9 := hbb.1
  have q9 := hr.2.1
  have vk := RV_Vok rv hr (by omega)
  by_cases h2 : 0 ≤ o ∧ o ≤ 1
  · have h29 := h2
    have ro := hr.2.2.1 o.toNat (by omega)
    have vo := rv.2.2.1 o.toNat (by omega)
    have T : tO o = 0 := if_pos h2
    have e : (if tO o = 0 then A 0 (61 + 2 * o.toNat + 1) else 0) = σ.oh o.toNat := (if_pos T).trans vo.2
    have hw : i32 (σ.oh o.toNat) := ⟨by omega, by omega⟩
    refine ⟨3, 0, 0, 2, Pok M n (σ.oh o.toNat), ⟨by decide, by decide, by decide, by decide⟩, l_bakingHours o hx (by decide) (x_bakingHours hx hH hr o ho h2) (hN_rt hw hg0) nE_rt, fun k M' n' hP => ?_⟩
    obtain ⟨rfl, rfl, g, hM⟩ := hP
    have hZ1 := LZ_out hZ0 hM
    have hm := m_bakingHours (r0 := r0) (Γ := Γ) (n := n') (LZ_mm hZ1) vk o ho
    rw [e, T] at hm
    exact ⟨by decide, fin_q hm hB hZ1 hw rfl (fun _ => ⟨_, by rw [hM, va_up_self], va_up_self _ _ _⟩) ⟨rfl, rfl, rfl, rfl, rfl, rfl, rfl⟩ ⟨rfl, rfl, rfl, rfl, rfl⟩⟩
  · skip
    have T : tO o = 1 := if_neg h2
    have e : (if tO o = 0 then A 0 (61 + 2 * o.toNat + 1) else 0) = 0 := if_neg (by rw [T]; decide)
    refine ⟨3, 1, 6, 2, Pex M n 1, ⟨by decide, by decide, by decide, by decide⟩, l_bakingHours o hx (by decide) (x_bakingHoursX hx hH hr o ho h2) nN_rt (fun E M' n' ⟨h1, h2, h3⟩ => by cases h1; exact ⟨rfl, rfl, h3, h2⟩), fun k M' n' hP => ?_⟩
    obtain ⟨rfl, rfl, rfl⟩ := hP
    have hm := m_bakingHours (r0 := r0) (Γ := Γ) (n := n') hX vk o ho
    rw [e, T] at hm
    exact ⟨by decide, fin_q hm hB hZ0 (by decide) rfl (fun e => absurd e (by decide)) ⟨rfl, rfl, rfl, rfl, rfl, rfl, rfl⟩ ⟨rfl, rfl, rfl, rfl, rfl⟩⟩
theorem s_bakedDoor (hB : 20 ≤ B ∧ B + 2400 ≤ 10000000) (hZ : LZ B M n q A) (o : Int) (ho : i32 o) : StK r0 Γ B M n i32 mL_bakedDoor mX8_bakedDoor [vR 100, vI o, vR 382] [vR 373, vI o] := by
  have hZ0 := hZ
  obtain ⟨hn, σ, τ, ρ, r, f, c5, sv, ep, fp, v, cap, l, t, nm, pl, s, ⟨hx, hH, hT, hS, hY, hSM, hBT, hv9⟩, hbb, hV, hX, ⟨g0, hg0⟩, hgd⟩ := hZ
  have hr := hbb.2.1.1
  have hi := hbb.2.1.2
  have rv := hV.1
  have b9 := hbb.1
  have q9 := hr.2.1
  have vk := RV_Vok rv hr (by omega)
  by_cases h2 : 0 ≤ o ∧ o ≤ 1
  · have h29 := h2
    have ro := hr.2.2.1 o.toNat (by omega)
    have vo := rv.2.2.1 o.toNat (by omega)
    by_cases h3 : σ.od o.toNat = -1
    · skip
      have T : tOB (A 0) o = 2 := (if_pos h2).trans (if_pos (by omega))
      have e : (if tOB (A 0) o = 0 then A 0 (61 + 2 * o.toNat + 0) - 1 else 0) = 0 := if_neg (by rw [T]; decide)
      refine ⟨3, 1, 6, 2, Pex M n 2, ⟨by decide, by decide, by decide, by decide⟩, l_bakedDoor o hx (by decide) (x_bakedDoorY hx hH hr o ho h2 h3) nN_rt (fun E M' n' ⟨h1, h2, h3⟩ => by cases h1; exact Or.inr ⟨rfl, rfl, h3, h2⟩), fun k M' n' hP => ?_⟩
      obtain ⟨rfl, rfl, rfl⟩ := hP
      have hm := m_bakedDoor (r0 := r0) (Γ := Γ) (n := n') hX vk o ho
      rw [e, T] at hm
      exact ⟨by decide, fin_q hm hB hZ0 (by decide) rfl (fun e => absurd e (by decide)) ⟨rfl, rfl, rfl, rfl, rfl, rfl, rfl⟩ ⟨rfl, rfl, rfl, rfl, rfl⟩⟩
    · skip
      have T : tOB (A 0) o = 0 := (if_pos h2).trans (if_neg (by omega))
      have e : (if tOB (A 0) o = 0 then A 0 (61 + 2 * o.toNat + 0) - 1 else 0) = σ.od o.toNat := (if_pos T).trans (by omega)
      have hw : i32 (σ.od o.toNat) := ⟨by omega, by omega⟩
      refine ⟨3, 0, 0, 2, Pok M n (σ.od o.toNat), ⟨by decide, by decide, by decide, by decide⟩, l_bakedDoor o hx (by decide) (x_bakedDoor hx hH hr o ho h2 h3) (hN_rt hw hg0) nE_rt, fun k M' n' hP => ?_⟩
      obtain ⟨rfl, rfl, g, hM⟩ := hP
      have hZ1 := LZ_out hZ0 hM
      have hm := m_bakedDoor (r0 := r0) (Γ := Γ) (n := n') (LZ_mm hZ1) vk o ho
      rw [e, T] at hm
      exact ⟨by decide, fin_q hm hB hZ1 hw rfl (fun _ => ⟨_, by rw [hM, va_up_self], va_up_self _ _ _⟩) ⟨rfl, rfl, rfl, rfl, rfl, rfl, rfl⟩ ⟨rfl, rfl, rfl, rfl, rfl⟩⟩
  · skip
    have T : tOB (A 0) o = 1 := if_neg h2
    have e : (if tOB (A 0) o = 0 then A 0 (61 + 2 * o.toNat + 0) - 1 else 0) = 0 := if_neg (by rw [T]; decide)
    refine ⟨3, 1, 6, 2, Pex M n 1, ⟨by decide, by decide, by decide, by decide⟩, l_bakedDoor o hx (by decide) (x_bakedDoorX hx hH hr o ho h2) nN_rt (fun E M' n' ⟨h1, h2, h3⟩ => by cases h1; exact Or.inl ⟨rfl, rfl, h3, h2⟩), fun k M' n' hP => ?_⟩
    obtain ⟨rfl, rfl, rfl⟩ := hP
    have hm := m_bakedDoor (r0 := r0) (Γ := Γ) (n := n') hX vk o ho
    rw [e, T] at hm
    exact ⟨by decide, fin_q hm hB hZ0 (by decide) rfl (fun e => absurd e (by decide)) ⟨rfl, rfl, rfl, rfl, rfl, rfl, rfl⟩ ⟨rfl, rfl, rfl, rfl, rfl⟩⟩
theorem s_triedDoor (hB : 20 ≤ B ∧ B + 2400 ≤ 10000000) (hZ : LZ B M n q A) (o : Int) (ho : i32 o) : StK r0 Γ B M n i32 mL_triedDoor mX8_triedDoor [vR 100, vI o, vR 382] [vR 373, vI o] := by
  have hZ0 := hZ
  obtain ⟨hn, σ, τ, ρ, r, f, c5, sv, ep, fp, v, cap, l, t, nm, pl, s, ⟨hx, hH, hT, hS, hY, hSM, hBT, hv9⟩, hbb, hV, hX, ⟨g0, hg0⟩, hgd⟩ := hZ
  have hr := hbb.2.1.1
  have hi := hbb.2.1.2
  have rv := hV.1
  have b9 := hbb.1
  have q9 := hr.2.1
  have vk := RV_Vok rv hr (by omega)
  have a6 := rv.1.2.2.2.2.2.2
  by_cases h2 : 0 ≤ o ∧ o < (if 10 < σ.sc 3 then 10 else σ.sc 3)
  · have o10 : o < 10 := by have h3 := h2.2; split at h3 <;> omega
    have h20 := h2.1
    have kt := hr.2.2.2.1 o.toNat (by omega)
    have T : tR (A 0) o = 0 := if_pos ⟨h2.1, by rw [a6]; have h3 := h2.2; omega⟩
    have e : (if tR (A 0) o = 0 then A 0 (65 + 2 * o.toNat + 0) else 0) = σ.td o.toNat := (if_pos T).trans (rv.2.2.2 o.toNat (by omega)).1
    have hw : i32 (σ.td o.toNat) := ⟨by omega, by omega⟩
    refine ⟨3, 0, 0, 3, Pok M n (σ.td o.toNat), ⟨by decide, by decide, by decide, by decide⟩, l_triedDoor o hx (by decide) (x_triedDoor hx hH hr (by omega) o ho h2) (hN_rt hw hg0) nE_rt, fun k M' n' hP => ?_⟩
    obtain ⟨rfl, rfl, g, hM⟩ := hP
    have hZ1 := LZ_out hZ0 hM
    have hm := m_triedDoor (r0 := r0) (Γ := Γ) (n := n') (LZ_mm hZ1) vk o ho
    rw [e, T] at hm
    exact ⟨by decide, fin_q hm hB hZ1 hw rfl (fun _ => ⟨_, by rw [hM, va_up_self], va_up_self _ _ _⟩) ⟨rfl, rfl, rfl, rfl, rfl, rfl, rfl⟩ ⟨rfl, rfl, rfl, rfl, rfl⟩⟩
  · skip
    have T : tR (A 0) o = 1 := if_neg (fun h => h2 ⟨h.1, by have h3 := h.2; rw [a6] at h3; omega⟩)
    have e : (if tR (A 0) o = 0 then A 0 (65 + 2 * o.toNat + 0) else 0) = 0 := if_neg (by rw [T]; decide)
    refine ⟨3, 1, 6, 3, Pex M n 1, ⟨by decide, by decide, by decide, by decide⟩, l_triedDoor o hx (by decide) (x_triedDoorX hx hH hr (by omega) o ho h2) nN_rt (fun E M' n' ⟨h1, h2, h3⟩ => by cases h1; exact ⟨rfl, rfl, h3, h2⟩), fun k M' n' hP => ?_⟩
    obtain ⟨rfl, rfl, rfl⟩ := hP
    have hm := m_triedDoor (r0 := r0) (Γ := Γ) (n := n') hX vk o ho
    rw [e, T] at hm
    exact ⟨by decide, fin_q hm hB hZ0 (by decide) rfl (fun e => absurd e (by decide)) ⟨rfl, rfl, rfl, rfl, rfl, rfl, rfl⟩ ⟨rfl, rfl, rfl, rfl, rfl⟩⟩
theorem s_didOpen (hB : 20 ≤ B ∧ B + 2400 ≤ 10000000) (hZ : LZ B M n q A) (o : Int) (ho : i32 o) : StK r0 Γ B M n b01 mL_didOpen mX8_didOpen [vR 100, vI o, vR 382] [vR 373, vI o] := by
  have hZ0 := hZ
  obtain ⟨hn, σ, τ, ρ, r, f, c5, sv, ep, fp, v, cap, l, t, nm, pl, s, ⟨hx, hH, hT, hS, hY, hSM, hBT, hv9⟩, hbb, hV, hX, ⟨g0, hg0⟩, hgd⟩ := hZ
  have hr := hbb.2.1.1
  have hi := hbb.2.1.2
  have rv := hV.1
  have b9 := hbb.1
  have q9 := hr.2.1
  have vk := RV_Vok rv hr (by omega)
  have a6 := rv.1.2.2.2.2.2.2
  by_cases h2 : 0 ≤ o ∧ o < (if 10 < σ.sc 3 then 10 else σ.sc 3)
  · have o10 : o < 10 := by have h3 := h2.2; split at h3 <;> omega
    have h20 := h2.1
    have kt := hr.2.2.2.1 o.toNat (by omega)
    have T : tR (A 0) o = 0 := if_pos ⟨h2.1, by rw [a6]; have h3 := h2.2; omega⟩
    have e : (if (if tR (A 0) o = 0 then A 0 (65 + 2 * o.toNat + 1) else 0) = 1 then (1 : Int) else 0) = σ.ty o.toNat := by rw [if_pos T, (rv.2.2.2 o.toNat (by omega)).2]; (repeat' split) <;> omega
    have hw : (σ.ty o.toNat = 0 ∨ σ.ty o.toNat = 1) := kt.2.2
    refine ⟨3, 0, 0, 3, Pok M n (σ.ty o.toNat), ⟨by decide, by decide, by decide, by decide⟩, l_didOpen o hx (by decide) (x_didOpen hx hH hr (by omega) o ho h2) (hN_rtB hw hg0) nE_rt, fun k M' n' hP => ?_⟩
    obtain ⟨rfl, rfl, g, hM⟩ := hP
    have hZ1 := LZ_out hZ0 hM
    have hm := m_didOpen (r0 := r0) (Γ := Γ) (n := n') (LZ_mm hZ1) vk o ho
    rw [e, T] at hm
    exact ⟨by decide, fin_q hm hB hZ1 hw rfl (fun _ => ⟨_, by rw [hM, va_up_self], va_up_self _ _ _⟩) ⟨rfl, rfl, rfl, rfl, rfl, rfl, rfl⟩ ⟨rfl, rfl, rfl, rfl, rfl⟩⟩
  · skip
    have T : tR (A 0) o = 1 := if_neg (fun h => h2 ⟨h.1, by have h3 := h.2; rw [a6] at h3; omega⟩)
    have e : (if (if tR (A 0) o = 0 then A 0 (65 + 2 * o.toNat + 1) else 0) = 1 then (1 : Int) else 0) = 0 := by rw [if_neg (show ¬ tR (A 0) o = 0 by rw [T]; decide)]; decide
    refine ⟨3, 1, 6, 3, Pex M n 1, ⟨by decide, by decide, by decide, by decide⟩, l_didOpen o hx (by decide) (x_didOpenX hx hH hr (by omega) o ho h2) nN_rt (fun E M' n' ⟨h1, h2, h3⟩ => by cases h1; exact ⟨rfl, rfl, h3, h2⟩), fun k M' n' hP => ?_⟩
    obtain ⟨rfl, rfl, rfl⟩ := hP
    have hm := m_didOpen (r0 := r0) (Γ := Γ) (n := n') hX vk o ho
    rw [e, T] at hm
    exact ⟨by decide, fin_q hm hB hZ0 (by decide) rfl (fun e => absurd e (by decide)) ⟨rfl, rfl, rfl, rfl, rfl, rfl, rfl⟩ ⟨rfl, rfl, rfl, rfl, rfl⟩⟩
theorem s_errorPosition (hB : 20 ≤ B ∧ B + 2400 ≤ 10000000) (hZ : LZ B M n q A)  : StK r0 Γ B M n i32 mL_errorPosition mX8_errorPosition [vR 100, vR 382] [vR 373] := by
  have hZ0 := hZ
  obtain ⟨hn, σ, τ, ρ, r, f, c5, sv, ep, fp, v, cap, l, t, nm, pl, s, ⟨hx, hH, hT, hS, hY, hSM, hBT, hv9⟩, hbb, hV, hX, ⟨g0, hg0⟩, hgd⟩ := hZ
  have hr := hbb.2.1.1
  have hi := hbb.2.1.2
  have rv := hV.1
  have b9 := hbb.1
  have q9 := hr.2.1
  have vk := RV_Vok rv hr (by omega)
  have qe := hV.2.2.2.1.2.2.1
  have rg := hV.2.2.2.2.1.2.1
  by_cases h2 : ep = -1
  · skip
    have T : (if q 7 < 0 then (1 : Int) else 0) = 1 := if_pos (by omega)
    have e : (if (if q 7 < 0 then (1 : Int) else 0) = 0 then q 7 else 0) = 0 := if_neg (by rw [T]; decide)
    refine ⟨1, 1, 6, 1, Pex M n 1, ⟨by decide, by decide, by decide, by decide⟩, l_errorPosition  hx (by decide) (x_errorPositionX hx hH hr ⟨by omega, by omega⟩ h2) nN_rt (fun E M' n' ⟨h1, h2, h3⟩ => by cases h1; exact ⟨rfl, rfl, h3, h2⟩), fun k M' n' hP => ?_⟩
    obtain ⟨rfl, rfl, rfl⟩ := hP
    have hm := m_errorPosition (r0 := r0) (Γ := Γ) (n := n') hX vk ⟨by omega, by omega⟩
    rw [e, T] at hm
    exact ⟨by decide, fin_q hm hB hZ0 (by decide) rfl (fun e => absurd e (by decide)) ⟨rfl, rfl, rfl, rfl, rfl, rfl, rfl⟩ ⟨rfl, rfl, rfl, rfl, rfl⟩⟩
  · skip
    have T : (if q 7 < 0 then (1 : Int) else 0) = 0 := if_neg (by omega)
    have e : (if (if q 7 < 0 then (1 : Int) else 0) = 0 then q 7 else 0) = ep := (if_pos T).trans qe
    have hw : i32 (ep) := ⟨by omega, by omega⟩
    refine ⟨1, 0, 0, 1, Pok M n (ep), ⟨by decide, by decide, by decide, by decide⟩, l_errorPosition  hx (by decide) (x_errorPosition hx hH hr ⟨by omega, by omega⟩ h2) (hN_rt hw hg0) nE_rt, fun k M' n' hP => ?_⟩
    obtain ⟨rfl, rfl, g, hM⟩ := hP
    have hZ1 := LZ_out hZ0 hM
    have hm := m_errorPosition (r0 := r0) (Γ := Γ) (n := n') (LZ_mm hZ1) vk ⟨by omega, by omega⟩
    rw [e, T] at hm
    exact ⟨by decide, fin_q hm hB hZ1 hw rfl (fun _ => ⟨_, by rw [hM, va_up_self], va_up_self _ _ _⟩) ⟨rfl, rfl, rfl, rfl, rfl, rfl, rfl⟩ ⟨rfl, rfl, rfl, rfl, rfl⟩⟩
theorem s_failedCommand (hB : 20 ≤ B ∧ B + 2400 ≤ 10000000) (hZ : LZ B M n q A)  : StK r0 Γ B M n i32 mL_failedCommand mX8_failedCommand [vR 100, vR 382] [vR 373] := by
  have hZ0 := hZ
  obtain ⟨hn, σ, τ, ρ, r, f, c5, sv, ep, fp, v, cap, l, t, nm, pl, s, ⟨hx, hH, hT, hS, hY, hSM, hBT, hv9⟩, hbb, hV, hX, ⟨g0, hg0⟩, hgd⟩ := hZ
  have hr := hbb.2.1.1
  have hi := hbb.2.1.2
  have rv := hV.1
  have b9 := hbb.1
  have q9 := hr.2.1
  have vk := RV_Vok rv hr (by omega)
  have qe := hV.2.2.2.1.2.2.2.1
  have rg := hV.2.2.2.2.1.2.2
  by_cases h2 : fp = -1
  · skip
    have T : (if q 8 < 0 then (1 : Int) else 0) = 1 := if_pos (by omega)
    have e : (if (if q 8 < 0 then (1 : Int) else 0) = 0 then q 8 else 0) = 0 := if_neg (by rw [T]; decide)
    refine ⟨1, 1, 6, 1, Pex M n 1, ⟨by decide, by decide, by decide, by decide⟩, l_failedCommand  hx (by decide) (x_failedCommandX hx hH hr ⟨by omega, by omega⟩ h2) nN_rt (fun E M' n' ⟨h1, h2, h3⟩ => by cases h1; exact ⟨rfl, rfl, h3, h2⟩), fun k M' n' hP => ?_⟩
    obtain ⟨rfl, rfl, rfl⟩ := hP
    have hm := m_failedCommand (r0 := r0) (Γ := Γ) (n := n') hX vk ⟨by omega, by omega⟩
    rw [e, T] at hm
    exact ⟨by decide, fin_q hm hB hZ0 (by decide) rfl (fun e => absurd e (by decide)) ⟨rfl, rfl, rfl, rfl, rfl, rfl, rfl⟩ ⟨rfl, rfl, rfl, rfl, rfl⟩⟩
  · skip
    have T : (if q 8 < 0 then (1 : Int) else 0) = 0 := if_neg (by omega)
    have e : (if (if q 8 < 0 then (1 : Int) else 0) = 0 then q 8 else 0) = fp := (if_pos T).trans qe
    have hw : i32 (fp) := ⟨by omega, by omega⟩
    refine ⟨1, 0, 0, 1, Pok M n (fp), ⟨by decide, by decide, by decide, by decide⟩, l_failedCommand  hx (by decide) (x_failedCommand hx hH hr ⟨by omega, by omega⟩ h2) (hN_rt hw hg0) nE_rt, fun k M' n' hP => ?_⟩
    obtain ⟨rfl, rfl, g, hM⟩ := hP
    have hZ1 := LZ_out hZ0 hM
    have hm := m_failedCommand (r0 := r0) (Γ := Γ) (n := n') (LZ_mm hZ1) vk ⟨by omega, by omega⟩
    rw [e, T] at hm
    exact ⟨by decide, fin_q hm hB hZ1 hw rfl (fun _ => ⟨_, by rw [hM, va_up_self], va_up_self _ _ _⟩) ⟨rfl, rfl, rfl, rfl, rfl, rfl, rfl⟩ ⟨rfl, rfl, rfl, rfl, rfl⟩⟩
theorem s_outputAt (hB : 20 ≤ B ∧ B + 2400 ≤ 10000000) (hZ : LZ B M n q A) (z : Int) (hz : i32 z) : StK r0 Γ B M n i32 mL_outputAt mX8_outputAt [vR 100, vI z, vR 382] [vR 373, vI z] := by
  have hZ0 := hZ
  obtain ⟨hn, σ, τ, ρ, r, f, c5, sv, ep, fp, v, cap, l, t, nm, pl, s, ⟨hx, hH, hT, hS, hY, hSM, hBT, hv9⟩, hbb, hV, hX, ⟨g0, hg0⟩, hgd⟩ := hZ
  have hr := hbb.2.1.1
  have hi := hbb.2.1.2
  have rv := hV.1
  have b9 := hbb.1
  have q9 := hr.2.1
  have vk := RV_Vok rv hr (by omega)
  have tx := hV.2.2.2.2.2.2
  have qf := hBT.2.2.2.2.2.2.2
  have qs := hBT.2.2.2.2.1
  by_cases h2 : 0 ≤ z ∧ z < s.1
  · have h29 := h2
    have qz := qf z.toNat
    have T : tOut s.1 z = 0 := if_pos ⟨h2.1, by omega⟩
    have e : (if tOut s.1 z = 0 then A 5 z.toNat else 0) = s.2 z.toNat := (if_pos T).trans (tx.2 z.toNat (by omega)).symm
    have hw : i32 (s.2 z.toNat) := ⟨by omega, by omega⟩
    refine ⟨5, 0, 0, 1, Pok M n (s.2 z.toNat), ⟨by decide, by decide, by decide, by decide⟩, l_outputAt z hx (by decide) (x_outputAt hx hBT z hz h2) (hN_rt hw hg0) nE_rt, fun k M' n' hP => ?_⟩
    obtain ⟨rfl, rfl, g, hM⟩ := hP
    have hZ1 := LZ_out hZ0 hM
    have hm := m_outputAt (r0 := r0) (Γ := Γ) (n := n') (LZ_mm hZ1) s.1 tx.1 (by omega) (fun j hj => by rw [← tx.2 j hj]; exact qf j) z hz
    rw [e, T] at hm
    exact ⟨by decide, fin_q hm hB hZ1 hw rfl (fun _ => ⟨_, by rw [hM, va_up_self], va_up_self _ _ _⟩) ⟨rfl, rfl, rfl, rfl, rfl, rfl, rfl⟩ ⟨rfl, rfl, rfl, rfl, rfl⟩⟩
  · skip
    have T : tOut s.1 z = 1 := if_neg (fun h => h2 ⟨h.1, by have := h.2; omega⟩)
    have e : (if tOut s.1 z = 0 then A 5 z.toNat else 0) = 0 := if_neg (by rw [T]; decide)
    refine ⟨5, 1, 6, 1, Pex M n 1, ⟨by decide, by decide, by decide, by decide⟩, l_outputAt z hx (by decide) (x_outputAtX hx hBT z hz h2) nN_rt (fun E M' n' ⟨h1, h2, h3⟩ => by cases h1; exact ⟨rfl, rfl, h3, h2⟩), fun k M' n' hP => ?_⟩
    obtain ⟨rfl, rfl, rfl⟩ := hP
    have hm := m_outputAt (r0 := r0) (Γ := Γ) (n := n') hX s.1 tx.1 (by omega) (fun j hj => by rw [← tx.2 j hj]; exact qf j) z hz
    rw [e, T] at hm
    exact ⟨by decide, fin_q hm hB hZ0 (by decide) rfl (fun e => absurd e (by decide)) ⟨rfl, rfl, rfl, rfl, rfl, rfl, rfl⟩ ⟨rfl, rfl, rfl, rfl, rfl⟩⟩
end ST
