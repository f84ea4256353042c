/-! the law's calls that change the house (wip/whole/gen/c_sc.py prints this part) -/
theorem runV_i32 {B : Int} {σ : HS} (hr : Hok B σ) (hB : B ≤ 10000000) (j : Nat) (hj : j < 10) (a b x y : Int) (h0 : rf σ j a b x y = 0) : i32 (runV σ j a b x y) := by
  have q2 := hr.2.1
  have q0 := hr.1 0 (by decide)
  have q1 := hr.1 1 (by decide)
  have q8 := hr.1 8 (by decide)
  have hh : ∀ a : Int, rfHours a = 0 → i32 ((doHrs σ a.toNat).sc 8 - σ.sc 8) := fun a g => by
    have k := rfHours_0 g
    have m := (Hok_hrs hr a.toNat).1 8 (by decide)
    exact ⟨by omega, by omega⟩
  match j, hj with
  | 0, _ => exact ⟨by show _ ≤ σ.sc 0; omega, by show σ.sc 0 ≤ _; omega⟩
  | 1, _ => exact ⟨by show _ ≤ p_turn _ x; unfold p_turn; omega, by show p_turn _ x ≤ _; unfold p_turn; omega⟩
  | 2, _ => exact rv_try σ a
  | 3, _ =>
    have k := nShut_rng (doShut σ a).lk (σ.sc 0).toNat
    exact ⟨by show _ ≤ nShut (doShut σ a).lk (σ.sc 0).toNat; omega, by show nShut (doShut σ a).lk (σ.sc 0).toNat ≤ _; omega⟩
  | 4, _ => exact ⟨by show _ ≤ σ.sc 1; omega, by show σ.sc 1 ≤ _; omega⟩
  | 5, _ =>
    have h1 := (rfBake_0 h0).1
    have k := (hr.2.2.2.2 a.toNat (by omega)).2.1
    exact ⟨by show _ ≤ 1 + (σ.lk a.toNat).cr / 4; omega, by show 1 + (σ.lk a.toNat).cr / 4 ≤ _; omega⟩
  | 6, _ => exact hh a h0
  | 7, _ => exact hh a h0
  | 8, _ => exact hh a h0
  | 9, _ =>
    have k : 0 ≤ lDiff (σ.lk a.toNat) b x y ∧ lDiff (σ.lk a.toNat) b x y ≤ 3 := by
      unfold lDiff
      (repeat' split) <;> omega
    exact ⟨by show _ ≤ lDiff (σ.lk a.toNat) b x y; omega, by show lDiff (σ.lk a.toNat) b x y ≤ _; omega⟩
section SC
variable {r0 : Option Nat} {Γ : Cx} {B : Int} {M M1 M' M'' : Mem} {n : Nat} {q q' : Nat → Int} {A A' : Nat → Nat → Int} {σ τ ρ σ' : HS} {r : Nat → HS} {f c5 : Nat} {sv ep fp : Int} {v cap l : Nat} {t nm : Nat → Int} {pl : Int} {s : TS}
theorem LZ_chg {g : Nat → Int64} (hn : 384 ≤ n) (hT : HM M 125 τ) (hS : HM M 149 ρ) (hSM : SM M 367 v cap l t nm pl) (hBT : BT M 371 372 16 s) (hv9 : v = 369 ∨ (384 ≤ v ∧ v < n)) (hgd : ∃ g, M 383 = cD 4 1 g) (k1 : XO M1 100 sv ep fp) (k2 : HM M1 101 σ') (k3 : YM M1 173 (yF f c5) (yC c5) (yR f c5 r σ)) (k4 : e_fh 100 M M1) (hM : M' = va_up M1 382 (cL 3 1 g)) (hf2 : e_fr 373 (373 + 9) M' M'') (hm2 : MM M'' 373 q' A') (hb : LB B σ ρ r f c5 l nm) (hV : LV q A σ ρ r f c5 sv ep fp l t s) (hB : B + 2400 ≤ 10000000) (hr' : Hok (B + 2400) σ') (hi' : HI σ') (hrv : RV σ' (A' 0)) (hA : A' 3 = A 3 ∧ A' 4 = ePast (A 4) (A 0) c5 ∧ A' 5 = A 5 ∧ A' 6 = A 6) (hq : q' 5 = (yC c5 : Int) ∧ q' 10 = q 10 ∧ q' 7 = q 7 ∧ q' 8 = q 8 ∧ q' 15 = q 15 ∧ q' 12 = q 12) : LZ (B + 2400) M'' n q' A' := by
  have f1 : ∀ k, (k < 373 ∨ 382 ≤ k) → k ≠ 382 → M'' k = M1 k := fun k a b => (hf2 k (by omega)).trans (by rw [hM, va_up_ne _ _ b])
  have f2 : ∀ k, (125 ≤ k ∧ k < 173) ∨ (367 ≤ k ∧ k < 373) ∨ 383 ≤ k → M'' k = M k := fun k a => (f1 k (by omega) (by omega)).trans (k4 k (by omega) (by omega))
  have yc : yC c5 ≤ 8 := by have := hb.2.2.2.2.2.1; unfold yC; split <;> omega
  have yf : yF f c5 < 8 := by have := hb.2.2.2.2.1; unfold yF; split <;> omega
  have b1 := hb.1
  obtain ⟨v1, v2, v3, v4, v5, v6, v7⟩ := hV
  refine ⟨hn, σ', τ, ρ, yR f c5 r σ, yF f c5, yC c5, sv, ep, fp, v, cap, l, t, nm, pl, s, ⟨(f1 _ (by omega) (by omega)).trans k1, HM_e (fun k h1 h2 => f1 k (by omega) (by omega)) k2, HM_e (fun k h1 h2 => f2 k (by omega)) hT, HM_e (fun k h1 h2 => f2 k (by omega)) hS, YM_e (fun k h1 h2 => f1 k (by omega) (by omega)) k3, SM_fr hSM (fun k hk => f2 k (by omega)), BM_fr hBT (f2 _ (by omega)) (f2 _ (by omega)), hv9⟩, ?_, ?_, hm2, ⟨g, ?_⟩, ?_⟩
  · refine ⟨⟨by omega, hB⟩, ⟨hr', hi'⟩, ⟨Hok_mono hb.2.2.1.1 (by omega), hb.2.2.1.2⟩, fun j hj => ?_, yf, yc, hb.2.2.2.2.2.2⟩
    unfold yR
    by_cases e : j = (yF f c5 + (yC c5 - 1)) % 8
    · rw [e, va_up_self]; exact ⟨Hok_mono hb.2.1.1 (by omega), hb.2.1.2⟩
    · rw [va_up_ne _ _ e]; exact ⟨Hok_mono (hb.2.2.2.1 j hj).1 (by omega), (hb.2.2.2.1 j hj).2⟩
  · refine ⟨hrv, ?_, ?_, ⟨hq.1, hq.2.1.trans v4.2.1, hq.2.2.1.trans v4.2.2.1, hq.2.2.2.1.trans v4.2.2.2.1, hq.2.2.2.2.1.trans v4.2.2.2.2⟩, v5, ?_, hq.2.2.2.2.2.trans v7.1, ?_⟩
    · rw [hA.1]; exact v2
    · rw [hA.2.1]; exact HRel_push v3 v1 hb.2.2.2.2.1 hb.2.2.2.2.2.1
    · rw [hA.2.2.2]; exact v6
    · rw [hA.2.2.1]; exact v7.2
  · rw [hf2 382 (by omega), hM, va_up_self]
  · rw [f2 383 (by omega)]; exact hgd
theorem hN_wr {w : Int} {R : Mem → Prop} {g0 : Nat → Int64} (h : ∀ M', R M' → M' 382 = cL 3 1 g0) (p : Prop) (hp : p) (S : Int → Prop) (hS : S w) : ∀ r1 M' n', e_wr (some (vI w)) n R (.inl r1) M' n' → ∃ (z : Int) (g : Nat → Int64), r1 = some (vI z) ∧ S z ∧ M' 382 = cL 3 1 g ∧ ∀ M'', M'' = va_up M' 382 (cL 3 1 (va_up g 0 (Int64.ofInt z))) → ((0 : Int) = 0 ∧ n' = n ∧ ∃ (M1 : Mem) (g : Nat → Int64), R M1 ∧ M'' = va_up M1 382 (cL 3 1 (va_up g 0 (Int64.ofInt w)))) := by
  rintro r1 M' n' ⟨h1, rfl, h3⟩
  cases h1
  exact ⟨w, g0, rfl, hS, h _ h3, fun M'' e => ⟨rfl, rfl, M', g0, h3, e⟩⟩
theorem nE_wr {v : Option aV} {R : Mem → Prop} {S : String → Mem → Nat → Prop} : ∀ E M' n', e_wr v n R (.inr E) M' n' → S E M' n' := by
  rintro E M' n' ⟨h1, -, -⟩
  cases h1
theorem mm_chg {M1 M' : Mem} {x9 : aE} (h : MM M 373 q A) (k4 : e_fh 100 M M1) (hM : M' = va_up M1 382 x9) : MM M' 373 q A := MM_fr (a := 382) (b := 383) (M := M1) (fun k hk => by rw [hM, va_up_ne _ _ (by omega)]) (by omega) (MM_fr (a := 101) (b := 367) (M := M) (fun k hk => k4 k (by omega) (by omega)) (by omega) h)
theorem s_addDoor (hK : KM Γ) (hB : 20 ≤ B ∧ B + 2400 ≤ 10000000) (hZ : LZ B M n q A) (a : Int) (ha : i32 a) (b : Int) (hb : i32 b) (u : Int) (hu : i32 u) : StK r0 Γ B M n i32 mL_addDoor mX8_addDoor [vR 100, vI a, vI b, vI u, vR 382] [vR 373, vI a, vI b, vI u] := by
  have hZ0 := hZ
  obtain ⟨hn, σ, τ, ρ, r, f, c5, sv, ep, fp, v, cap, l, t, nm, pl, s, ⟨hx, hH, hT, hS, hY, hSM, hBT, hv9⟩, hbb, hV, hX, ⟨g0, hg0⟩, hgd⟩ := hZ
  have hr := hbb.2.1.1
  have hi := hbb.2.1.2
  have rv := hV.1
  have b9 := hbb.1
  have q9 := hr.2.1
  have vk := RV_Vok rv hr (by omega)
  have hth : tDoor (A 0) a b u = kX 0 (rf σ 0 a b u 0) := RV_thrown rv hr 0 (by decide) a b u 0
  have hq5 := hV.2.2.2.1.1
  have hf8 := hbb.2.2.2.2.1
  have hc8 := hbb.2.2.2.2.2.1
  have hrf : rf σ 0 a b u 0 = 0 ∨ rf σ 0 a b u 0 = 2 ∨ rf σ 0 a b u 0 = 3 := by
    show rfDoor σ a b u = 0 ∨ rfDoor σ a b u = 2 ∨ rfDoor σ a b u = 3
    unfold rfDoor
    (repeat' split) <;> omega
  rcases hrf with h0 | h0 | h0
  · have T : tDoor (A 0) a b u = 0 := hth.trans (by rw [h0]; rfl)
    have e : (if tDoor (A 0) a b u = 0 then A 0 2 else 0) = runV σ 0 a b u 0 := (if_pos T).trans (RV_val rv hr hi 0 (by decide) a b u 0 h0).symm
    have hw : i32 (runV σ 0 a b u 0) := runV_i32 hr (by omega) 0 (by decide) a b u 0 h0
    refine ⟨7, 0, 0, 6, fun k M' n' => k = 0 ∧ n' = n ∧ ∃ (M1 : Mem) (g : Nat → Int64), (fun M1 : Mem => XO M1 100 sv ep fp ∧ HM M1 101 (run σ 0 a b u 0) ∧ YM M1 173 (yF f c5) (yC c5) (yR f c5 r σ) ∧ e_fh 100 M M1) M1 ∧ M' = va_up M1 382 (cL 3 1 (va_up g 0 (Int64.ofInt (runV σ 0 a b u 0)))), ⟨by decide, by decide, by decide, by decide⟩, l_addDoor a b u hx (by decide) (x_addDoor hK hx hH hr (by omega) hY hf8 hc8 a ha b hb u hu h0) (hN_wr (R := (fun M1 : Mem => XO M1 100 sv ep fp ∧ HM M1 101 (run σ 0 a b u 0) ∧ YM M1 173 (yF f c5) (yC c5) (yR f c5 r σ) ∧ e_fh 100 M M1)) (fun M' h => (h.2.2.2 382 (by omega) (by omega)).trans hg0) True trivial (fun z => i32 z) hw) nE_wr, fun k M' n' hP => ?_⟩
    obtain ⟨rfl, rfl, M1, g, ⟨k1, k2, k3, k4⟩, hM⟩ := hP
    have hm := m_addDoor (r0 := r0) (Γ := Γ) (n := n') (mm_chg hX k4 hM) vk a b u ha hb hu c5 hq5 hc8
    rw [e, if_pos T, if_pos T] at hm
    refine ⟨by decide, ⟨_, (mm_chg hX k4 hM).2.1⟩, _, hm, ?_⟩
    rintro r' M'' n'' ⟨e1, e2, hm2, hf2⟩
    exact ⟨e2, _, hw, e1, fun _ => ⟨_, (hf2 382 (by omega)).trans (by rw [hM, va_up_self]), va_up_self _ _ _⟩, _, _, rfl, e2 ▸ LZ_chg hn hT hS hSM hBT hv9 hgd k1 k2 k3 k4 hM hf2 hm2 hbb hV (by omega) (Hok_mono (Hok_run hr 0 a b u 0 h0) (by omega)) (HI_run hi hr 0 a b u 0 h0) (RV_run rv hr hi 0 (by decide) a b u 0 h0) ⟨rfl, rfl, rfl, rfl⟩ ⟨rfl, rfl, rfl, rfl, rfl, rfl⟩⟩
  · have T : tDoor (A 0) a b u = 1 := hth.trans (by rw [h0]; rfl)
    have e : (if tDoor (A 0) a b u = 0 then A 0 2 else 0) = 0 := if_neg (by rw [T]; decide)
    have hC := x_addDoorX (r0 := r0) (n := n) hK hx hH hr (by omega) hY hf8 hc8 a ha b hb u hu (by rw [h0]; decide)
    rw [h0] at hC
    refine ⟨7, 1, 6, 6, Pex M n 1, ⟨by decide, by decide, by decide, by decide⟩, l_addDoor a b u hx (by decide) hC nN_rt (fun E M' n' ⟨h1, h2, h3⟩ => by cases h1; exact Or.inl ⟨rfl, rfl, h3, h2⟩), fun k M' n' hP => ?_⟩
    obtain ⟨rfl, rfl, rfl⟩ := hP
    have hm := m_addDoor (r0 := r0) (Γ := Γ) (n := n') hX vk a b u ha hb hu c5 hq5 hc8
    rw [e, if_neg (show ¬ tDoor (A 0) a b u = 0 by rw [T]; decide), if_neg (show ¬ tDoor (A 0) a b u = 0 by rw [T]; decide), T] at hm
    exact ⟨by decide, fin_q hm hB hZ0 (by decide) rfl (fun e => absurd e (by decide)) ⟨rfl, rfl, rfl, rfl, rfl, rfl, rfl⟩ ⟨rfl, rfl, rfl, rfl, rfl⟩⟩
  · have T : tDoor (A 0) a b u = 2 := hth.trans (by rw [h0]; rfl)
    have e : (if tDoor (A 0) a b u = 0 then A 0 2 else 0) = 0 := if_neg (by rw [T]; decide)
    have hC := x_addDoorX (r0 := r0) (n := n) hK hx hH hr (by omega) hY hf8 hc8 a ha b hb u hu (by rw [h0]; decide)
    rw [h0] at hC
    refine ⟨7, 1, 6, 6, Pex M n 2, ⟨by decide, by decide, by decide, by decide⟩, l_addDoor a b u hx (by decide) hC nN_rt (fun E M' n' ⟨h1, h2, h3⟩ => by cases h1; exact Or.inr ⟨rfl, rfl, h3, h2⟩), fun k M' n' hP => ?_⟩
    obtain ⟨rfl, rfl, rfl⟩ := hP
    have hm := m_addDoor (r0 := r0) (Γ := Γ) (n := n') hX vk a b u ha hb hu c5 hq5 hc8
    rw [e, if_neg (show ¬ tDoor (A 0) a b u = 0 by rw [T]; decide), if_neg (show ¬ tDoor (A 0) a b u = 0 by rw [T]; decide), T] at hm
    exact ⟨by decide, fin_q hm hB hZ0 (by decide) rfl (fun e => absurd e (by decide)) ⟨rfl, rfl, rfl, rfl, rfl, rfl, rfl⟩ ⟨rfl, rfl, rfl, rfl, rfl⟩⟩
theorem s_turn (hK : KM Γ) (hB : 20 ≤ B ∧ B + 2400 ≤ 10000000) (hZ : LZ B M n q A) (a : Int) (ha : i32 a) (b : Int) (hb : i32 b) (u : Int) (hu : i32 u) : StK r0 Γ B M n i32 mL_turn mX8_turn [vR 100, vI a, vI b, vI u, vR 382] [vR 373, vI a, vI b, vI u] := by
  have hZ0 := hZ
  obtain ⟨hn, σ, τ, ρ, r, f, c5, sv, ep, fp, v, cap, l, t, nm, pl, s, ⟨hx, hH, hT, hS, hY, hSM, hBT, hv9⟩, hbb, hV, hX, ⟨g0, hg0⟩, hgd⟩ := hZ
  have hr := hbb.2.1.1
  have hi := hbb.2.1.2
  have rv := hV.1
  have b9 := hbb.1
  have q9 := hr.2.1
  have vk := RV_Vok rv hr (by omega)
  have hth : tTurn (A 0) a b u = kX 1 (rf σ 1 a b u 0) := RV_thrown rv hr 1 (by decide) a b u 0
  have hq5 := hV.2.2.2.1.1
  have hf8 := hbb.2.2.2.2.1
  have hc8 := hbb.2.2.2.2.2.1
  have hrf : rf σ 1 a b u 0 = 0 ∨ rf σ 1 a b u 0 = 1 ∨ rf σ 1 a b u 0 = 2 ∨ rf σ 1 a b u 0 = 3 := by
    show rfTurn σ a b u = 0 ∨ rfTurn σ a b u = 1 ∨ rfTurn σ a b u = 2 ∨ rfTurn σ a b u = 3
    unfold rfTurn
    (repeat' split) <;> omega
  rcases hrf with h0 | h0 | h0 | h0
  · have T : tTurn (A 0) a b u = 0 := hth.trans (by rw [h0]; rfl)
    have e : (if tTurn (A 0) a b u = 0 then p_turn (A 0 (7 + 9 * a.toNat + b.toNat)) u else 0) = runV σ 1 a b u 0 := (if_pos T).trans (RV_val rv hr hi 1 (by decide) a b u 0 h0).symm
    have hw : i32 (runV σ 1 a b u 0) := runV_i32 hr (by omega) 1 (by decide) a b u 0 h0
    refine ⟨7, 0, 0, 6, fun k M' n' => k = 0 ∧ n' = n ∧ ∃ (M1 : Mem) (g : Nat → Int64), (fun M1 : Mem => XO M1 100 sv ep fp ∧ HM M1 101 (run σ 1 a b u 0) ∧ YM M1 173 (yF f c5) (yC c5) (yR f c5 r σ) ∧ e_fh 100 M M1) M1 ∧ M' = va_up M1 382 (cL 3 1 (va_up g 0 (Int64.ofInt (runV σ 1 a b u 0)))), ⟨by decide, by decide, by decide, by decide⟩, l_turn a b u hx (by decide) (x_turn hK hx hH hr (by omega) hY hf8 hc8 a ha b hb u hu h0) (hN_wr (R := (fun M1 : Mem => XO M1 100 sv ep fp ∧ HM M1 101 (run σ 1 a b u 0) ∧ YM M1 173 (yF f c5) (yC c5) (yR f c5 r σ) ∧ e_fh 100 M M1)) (fun M' h => (h.2.2.2 382 (by omega) (by omega)).trans hg0) True trivial (fun z => i32 z) hw) nE_wr, fun k M' n' hP => ?_⟩
    obtain ⟨rfl, rfl, M1, g, ⟨k1, k2, k3, k4⟩, hM⟩ := hP
    have hm := m_turn (r0 := r0) (Γ := Γ) (n := n') (mm_chg hX k4 hM) vk a b u ha hb hu c5 hq5 hc8
    rw [e, if_pos T, if_pos T] at hm
    refine ⟨by decide, ⟨_, (mm_chg hX k4 hM).2.1⟩, _, hm, ?_⟩
    rintro r' M'' n'' ⟨e1, e2, hm2, hf2⟩
    exact ⟨e2, _, hw, e1, fun _ => ⟨_, (hf2 382 (by omega)).trans (by rw [hM, va_up_self]), va_up_self _ _ _⟩, _, _, rfl, e2 ▸ LZ_chg hn hT hS hSM hBT hv9 hgd k1 k2 k3 k4 hM hf2 hm2 hbb hV (by omega) (Hok_mono (Hok_run hr 1 a b u 0 h0) (by omega)) (HI_run hi hr 1 a b u 0 h0) (RV_run rv hr hi 1 (by decide) a b u 0 h0) ⟨rfl, rfl, rfl, rfl⟩ ⟨rfl, rfl, rfl, rfl, rfl, rfl⟩⟩
  · have T : tTurn (A 0) a b u = 1 := hth.trans (by rw [h0]; rfl)
    have e : (if tTurn (A 0) a b u = 0 then p_turn (A 0 (7 + 9 * a.toNat + b.toNat)) u else 0) = 0 := if_neg (by rw [T]; decide)
    have hC := x_turnX (r0 := r0) (n := n) hK hx hH hr (by omega) hY hf8 hc8 a ha b hb u hu (by rw [h0]; decide)
    rw [h0] at hC
    refine ⟨7, 1, 6, 6, Pex M n 1, ⟨by decide, by decide, by decide, by decide⟩, l_turn a b u hx (by decide) hC nN_rt (fun E M' n' ⟨h1, h2, h3⟩ => by cases h1; exact Or.inl ⟨rfl, rfl, h3, h2⟩), fun k M' n' hP => ?_⟩
    obtain ⟨rfl, rfl, rfl⟩ := hP
    have hm := m_turn (r0 := r0) (Γ := Γ) (n := n') hX vk a b u ha hb hu c5 hq5 hc8
    rw [e, if_neg (show ¬ tTurn (A 0) a b u = 0 by rw [T]; decide), if_neg (show ¬ tTurn (A 0) a b u = 0 by rw [T]; decide), T] at hm
    exact ⟨by decide, fin_q hm hB hZ0 (by decide) rfl (fun e => absurd e (by decide)) ⟨rfl, rfl, rfl, rfl, rfl, rfl, rfl⟩ ⟨rfl, rfl, rfl, rfl, rfl⟩⟩
  · have T : tTurn (A 0) a b u = 2 := hth.trans (by rw [h0]; rfl)
    have e : (if tTurn (A 0) a b u = 0 then p_turn (A 0 (7 + 9 * a.toNat + b.toNat)) u else 0) = 0 := if_neg (by rw [T]; decide)
    have hC := x_turnX (r0 := r0) (n := n) hK hx hH hr (by omega) hY hf8 hc8 a ha b hb u hu (by rw [h0]; decide)
    rw [h0] at hC
    refine ⟨7, 1, 6, 6, Pex M n 2, ⟨by decide, by decide, by decide, by decide⟩, l_turn a b u hx (by decide) hC nN_rt (fun E M' n' ⟨h1, h2, h3⟩ => by cases h1; exact Or.inr (Or.inl ⟨rfl, rfl, h3, h2⟩)), fun k M' n' hP => ?_⟩
    obtain ⟨rfl, rfl, rfl⟩ := hP
    have hm := m_turn (r0 := r0) (Γ := Γ) (n := n') hX vk a b u ha hb hu c5 hq5 hc8
    rw [e, if_neg (show ¬ tTurn (A 0) a b u = 0 by rw [T]; decide), if_neg (show ¬ tTurn (A 0) a b u = 0 by rw [T]; decide), T] at hm
    exact ⟨by decide, fin_q hm hB hZ0 (by decide) rfl (fun e => absurd e (by decide)) ⟨rfl, rfl, rfl, rfl, rfl, rfl, rfl⟩ ⟨rfl, rfl, rfl, rfl, rfl⟩⟩
  · have T : tTurn (A 0) a b u = 3 := hth.trans (by rw [h0]; rfl)
    have e : (if tTurn (A 0) a b u = 0 then p_turn (A 0 (7 + 9 * a.toNat + b.toNat)) u else 0) = 0 := if_neg (by rw [T]; decide)
    have hC := x_turnX (r0 := r0) (n := n) hK hx hH hr (by omega) hY hf8 hc8 a ha b hb u hu (by rw [h0]; decide)
    rw [h0] at hC
    refine ⟨7, 1, 6, 6, Pex M n 3, ⟨by decide, by decide, by decide, by decide⟩, l_turn a b u hx (by decide) hC nN_rt (fun E M' n' ⟨h1, h2, h3⟩ => by cases h1; exact Or.inr (Or.inr ⟨rfl, rfl, h3, h2⟩)), fun k M' n' hP => ?_⟩
    obtain ⟨rfl, rfl, rfl⟩ := hP
    have hm := m_turn (r0 := r0) (Γ := Γ) (n := n') hX vk a b u ha hb hu c5 hq5 hc8
    rw [e, if_neg (show ¬ tTurn (A 0) a b u = 0 by rw [T]; decide), if_neg (show ¬ tTurn (A 0) a b u = 0 by rw [T]; decide), T] at hm
    exact ⟨by decide, fin_q hm hB hZ0 (by decide) rfl (fun e => absurd e (by decide)) ⟨rfl, rfl, rfl, rfl, rfl, rfl, rfl⟩ ⟨rfl, rfl, rfl, rfl, rfl⟩⟩
theorem s_tryLock (hK : KM Γ) (hB : 20 ≤ B ∧ B + 2400 ≤ 10000000) (hZ : LZ B M n q A) (a : Int) (ha : i32 a) : StK r0 Γ B M n b01 mL_tryLock mX8_tryLock [vR 100, vI a, vR 382] [vR 373, vI a] := by
  have hZ0 := hZ
  obtain ⟨hn, σ, τ, ρ, r, f, c5, sv, ep, fp, v, cap, l, t, nm, pl, s, ⟨hx, hH, hT, hS, hY, hSM, hBT, hv9⟩, hbb, hV, hX, ⟨g0, hg0⟩, hgd⟩ := hZ
  have hr := hbb.2.1.1
  have hi := hbb.2.1.2
  have rv := hV.1
  have b9 := hbb.1
  have q9 := hr.2.1
  have vk := RV_Vok rv hr (by omega)
  have hth : tTry (A 0) a = kX 2 (rf σ 2 a 0 0 0) := RV_thrown rv hr 2 (by decide) a 0 0 0
  have hq5 := hV.2.2.2.1.1
  have hf8 := hbb.2.2.2.2.1
  have hc8 := hbb.2.2.2.2.2.1
  have hrf : rf σ 2 a 0 0 0 = 0 ∨ rf σ 2 a 0 0 0 = 1 ∨ rf σ 2 a 0 0 0 = 3 := by
    show rfTry σ a = 0 ∨ rfTry σ a = 1 ∨ rfTry σ a = 3
    unfold rfTry
    (repeat' split) <;> omega
  rcases hrf with h0 | h0 | h0
  · have T : tTry (A 0) a = 0 := hth.trans (by rw [h0]; rfl)
    have e : (if (if tTry (A 0) a = 0 then (if vMany (A 0) a.toNat = 0 then (1 : Int) else 0) else 0) = 1 then (1 : Int) else 0) = (if runV σ 2 a 0 0 0 = 1 then (1 : Int) else 0) := by rw [if_pos T]; exact congrArg (fun z : Int => if z = 1 then (1 : Int) else 0) (RV_val rv hr hi 2 (by decide) a 0 0 0 h0).symm
    have hw : ((if runV σ 2 a 0 0 0 = 1 then (1 : Int) else 0) = 0 ∨ (if runV σ 2 a 0 0 0 = 1 then (1 : Int) else 0) = 1) := b_01
    refine ⟨7, 0, 0, 6, fun k M' n' => k = 0 ∧ n' = n ∧ ∃ (M1 : Mem) (g : Nat → Int64), (fun M1 : Mem => XO M1 100 sv ep fp ∧ HM M1 101 (run σ 2 a 0 0 0) ∧ YM M1 173 (yF f c5) (yC c5) (yR f c5 r σ) ∧ e_fh 100 M M1) M1 ∧ M' = va_up M1 382 (cL 3 1 (va_up g 0 (Int64.ofInt ((if runV σ 2 a 0 0 0 = 1 then (1 : Int) else 0))))), ⟨by decide, by decide, by decide, by decide⟩, l_tryLock a hx (by decide) (x_tryLock hK hx hH hr (by omega) hY hf8 hc8 a ha h0) (hN_wr (R := (fun M1 : Mem => XO M1 100 sv ep fp ∧ HM M1 101 (run σ 2 a 0 0 0) ∧ YM M1 173 (yF f c5) (yC c5) (yR f c5 r σ) ∧ e_fh 100 M M1)) (fun M' h => (h.2.2.2 382 (by omega) (by omega)).trans hg0) True trivial (fun z => z = 0 ∨ z = 1) hw) nE_wr, fun k M' n' hP => ?_⟩
    obtain ⟨rfl, rfl, M1, g, ⟨k1, k2, k3, k4⟩, hM⟩ := hP
    have hm := m_tryLock (r0 := r0) (Γ := Γ) (n := n') (mm_chg hX k4 hM) vk (by omega) a ha c5 hq5 hc8
    rw [e, if_pos T, if_pos T] at hm
    refine ⟨by decide, ⟨_, (mm_chg hX k4 hM).2.1⟩, _, hm, ?_⟩
    rintro r' M'' n'' ⟨e1, e2, hm2, hf2⟩
    exact ⟨e2, _, hw, e1, fun _ => ⟨_, (hf2 382 (by omega)).trans (by rw [hM, va_up_self]), va_up_self _ _ _⟩, _, _, rfl, e2 ▸ LZ_chg hn hT hS hSM hBT hv9 hgd k1 k2 k3 k4 hM hf2 hm2 hbb hV (by omega) (Hok_mono (Hok_run hr 2 a 0 0 0 h0) (by omega)) (HI_run hi hr 2 a 0 0 0 h0) (RV_run rv hr hi 2 (by decide) a 0 0 0 h0) ⟨rfl, rfl, rfl, rfl⟩ ⟨rfl, rfl, rfl, rfl, rfl, rfl⟩⟩
  · have T : tTry (A 0) a = 1 := hth.trans (by rw [h0]; rfl)
    have e : (if (if tTry (A 0) a = 0 then (if vMany (A 0) a.toNat = 0 then (1 : Int) else 0) else 0) = 1 then (1 : Int) else 0) = 0 := by rw [if_neg (show ¬ tTry (A 0) a = 0 by rw [T]; decide)]; decide
    have hC := x_tryLockX (r0 := r0) (n := n) hK hx hH hr (by omega) hY hf8 hc8 a ha (by rw [h0]; decide)
    rw [h0] at hC
    refine ⟨7, 1, 6, 6, Pex M n 1, ⟨by decide, by decide, by decide, by decide⟩, l_tryLock a hx (by decide) hC nN_rt (fun E M' n' ⟨h1, h2, h3⟩ => by cases h1; exact Or.inl ⟨rfl, rfl, h3, h2⟩), fun k M' n' hP => ?_⟩
    obtain ⟨rfl, rfl, rfl⟩ := hP
    have hm := m_tryLock (r0 := r0) (Γ := Γ) (n := n') hX vk (by omega) a ha c5 hq5 hc8
    rw [e, if_neg (show ¬ tTry (A 0) a = 0 by rw [T]; decide), if_neg (show ¬ tTry (A 0) a = 0 by rw [T]; decide), T] at hm
    exact ⟨by decide, fin_q hm hB hZ0 (by decide) rfl (fun e => absurd e (by decide)) ⟨rfl, rfl, rfl, rfl, rfl, rfl, rfl⟩ ⟨rfl, rfl, rfl, rfl, rfl⟩⟩
  · have T : tTry (A 0) a = 2 := hth.trans (by rw [h0]; rfl)
    have e : (if (if tTry (A 0) a = 0 then (if vMany (A 0) a.toNat = 0 then (1 : Int) else 0) else 0) = 1 then (1 : Int) else 0) = 0 := by rw [if_neg (show ¬ tTry (A 0) a = 0 by rw [T]; decide)]; decide
    have hC := x_tryLockX (r0 := r0) (n := n) hK hx hH hr (by omega) hY hf8 hc8 a ha (by rw [h0]; decide)
    rw [h0] at hC
    refine ⟨7, 1, 6, 6, Pex M n 2, ⟨by decide, by decide, by decide, by decide⟩, l_tryLock a hx (by decide) hC nN_rt (fun E M' n' ⟨h1, h2, h3⟩ => by cases h1; exact Or.inr ⟨rfl, rfl, h3, h2⟩), fun k M' n' hP => ?_⟩
    obtain ⟨rfl, rfl, rfl⟩ := hP
    have hm := m_tryLock (r0 := r0) (Γ := Γ) (n := n') hX vk (by omega) a ha c5 hq5 hc8
    rw [e, if_neg (show ¬ tTry (A 0) a = 0 by rw [T]; decide), if_neg (show ¬ tTry (A 0) a = 0 by rw [T]; decide), T] at hm
    exact ⟨by decide, fin_q hm hB hZ0 (by decide) rfl (fun e => absurd e (by decide)) ⟨rfl, rfl, rfl, rfl, rfl, rfl, rfl⟩ ⟨rfl, rfl, rfl, rfl, rfl⟩⟩
theorem s_shut (hK : KM Γ) (hB : 20 ≤ B ∧ B + 2400 ≤ 10000000) (hZ : LZ B M n q A) (a : Int) (ha : i32 a) : StK r0 Γ B M n i32 mL_shut mX8_shut [vR 100, vI a, vR 382] [vR 373, vI a] := by
  have hZ0 := hZ
  obtain ⟨hn, σ, τ, ρ, r, f, c5, sv, ep, fp, v, cap, l, t, nm, pl, s, ⟨hx, hH, hT, hS, hY, hSM, hBT, hv9⟩, hbb, hV, hX, ⟨g0, hg0⟩, hgd⟩ := hZ
  have hr := hbb.2.1.1
  have hi := hbb.2.1.2
  have rv := hV.1
  have b9 := hbb.1
  have q9 := hr.2.1
  have vk := RV_Vok rv hr (by omega)
  have hth : tShut (A 0) a = kX 3 (rf σ 3 a 0 0 0) := RV_thrown rv hr 3 (by decide) a 0 0 0
  have hq5 := hV.2.2.2.1.1
  have hf8 := hbb.2.2.2.2.1
  have hc8 := hbb.2.2.2.2.2.1
  have hrf : rf σ 3 a 0 0 0 = 0 ∨ rf σ 3 a 0 0 0 = 1 ∨ rf σ 3 a 0 0 0 = 3 ∨ rf σ 3 a 0 0 0 = 4 := by
    show rfShut σ a = 0 ∨ rfShut σ a = 1 ∨ rfShut σ a = 3 ∨ rfShut σ a = 4
    unfold rfShut
    (repeat' split) <;> omega
  rcases hrf with h0 | h0 | h0 | h0
  · have T : tShut (A 0) a = 0 := hth.trans (by rw [h0]; rfl)
    have e : (if tShut (A 0) a = 0 then vShut (mShut (A 0) a) (A 0 2).toNat else 0) = runV σ 3 a 0 0 0 := (if_pos T).trans (RV_val rv hr hi 3 (by decide) a 0 0 0 h0).symm
    have hw : i32 (runV σ 3 a 0 0 0) := runV_i32 hr (by omega) 3 (by decide) a 0 0 0 h0
    refine ⟨7, 0, 0, 6, fun k M' n' => k = 0 ∧ n' = n ∧ ∃ (M1 : Mem) (g : Nat → Int64), (fun M1 : Mem => XO M1 100 sv ep fp ∧ HM M1 101 (run σ 3 a 0 0 0) ∧ YM M1 173 (yF f c5) (yC c5) (yR f c5 r σ) ∧ e_fh 100 M M1) M1 ∧ M' = va_up M1 382 (cL 3 1 (va_up g 0 (Int64.ofInt (runV σ 3 a 0 0 0)))), ⟨by decide, by decide, by decide, by decide⟩, l_shut a hx (by decide) (x_shut hK hx hH hr (by omega) hY hf8 hc8 a ha h0) (hN_wr (R := (fun M1 : Mem => XO M1 100 sv ep fp ∧ HM M1 101 (run σ 3 a 0 0 0) ∧ YM M1 173 (yF f c5) (yC c5) (yR f c5 r σ) ∧ e_fh 100 M M1)) (fun M' h => (h.2.2.2 382 (by omega) (by omega)).trans hg0) True trivial (fun z => i32 z) hw) nE_wr, fun k M' n' hP => ?_⟩
    obtain ⟨rfl, rfl, M1, g, ⟨k1, k2, k3, k4⟩, hM⟩ := hP
    have hm := m_shut (r0 := r0) (Γ := Γ) (n := n') (mm_chg hX k4 hM) vk a ha c5 hq5 hc8
    rw [e, if_pos T, if_pos T] at hm
    refine ⟨by decide, ⟨_, (mm_chg hX k4 hM).2.1⟩, _, hm, ?_⟩
    rintro r' M'' n'' ⟨e1, e2, hm2, hf2⟩
    exact ⟨e2, _, hw, e1, fun _ => ⟨_, (hf2 382 (by omega)).trans (by rw [hM, va_up_self]), va_up_self _ _ _⟩, _, _, rfl, e2 ▸ LZ_chg hn hT hS hSM hBT hv9 hgd k1 k2 k3 k4 hM hf2 hm2 hbb hV (by omega) (Hok_mono (Hok_run hr 3 a 0 0 0 h0) (by omega)) (HI_run hi hr 3 a 0 0 0 h0) (RV_run rv hr hi 3 (by decide) a 0 0 0 h0) ⟨rfl, rfl, rfl, rfl⟩ ⟨rfl, rfl, rfl, rfl, rfl, rfl⟩⟩
  · have T : tShut (A 0) a = 1 := hth.trans (by rw [h0]; rfl)
    have e : (if tShut (A 0) a = 0 then vShut (mShut (A 0) a) (A 0 2).toNat else 0) = 0 := if_neg (by rw [T]; decide)
    have hC := x_shutX (r0 := r0) (n := n) hK hx hH hr (by omega) hY hf8 hc8 a ha (by rw [h0]; decide)
    rw [h0] at hC
    refine ⟨7, 1, 6, 6, Pex M n 1, ⟨by decide, by decide, by decide, by decide⟩, l_shut a hx (by decide) hC nN_rt (fun E M' n' ⟨h1, h2, h3⟩ => by cases h1; exact Or.inl ⟨rfl, rfl, h3, h2⟩), fun k M' n' hP => ?_⟩
    obtain ⟨rfl, rfl, rfl⟩ := hP
    have hm := m_shut (r0 := r0) (Γ := Γ) (n := n') hX vk a ha c5 hq5 hc8
    rw [e, if_neg (show ¬ tShut (A 0) a = 0 by rw [T]; decide), if_neg (show ¬ tShut (A 0) a = 0 by rw [T]; decide), T] at hm
    exact ⟨by decide, fin_q hm hB hZ0 (by decide) rfl (fun e => absurd e (by decide)) ⟨rfl, rfl, rfl, rfl, rfl, rfl, rfl⟩ ⟨rfl, rfl, rfl, rfl, rfl⟩⟩
  · have T : tShut (A 0) a = 2 := hth.trans (by rw [h0]; rfl)
    have e : (if tShut (A 0) a = 0 then vShut (mShut (A 0) a) (A 0 2).toNat else 0) = 0 := if_neg (by rw [T]; decide)
    have hC := x_shutX (r0 := r0) (n := n) hK hx hH hr (by omega) hY hf8 hc8 a ha (by rw [h0]; decide)
    rw [h0] at hC
    refine ⟨7, 1, 6, 6, Pex M n 2, ⟨by decide, by decide, by decide, by decide⟩, l_shut a hx (by decide) hC nN_rt (fun E M' n' ⟨h1, h2, h3⟩ => by cases h1; exact Or.inr (Or.inl ⟨rfl, rfl, h3, h2⟩)), fun k M' n' hP => ?_⟩
    obtain ⟨rfl, rfl, rfl⟩ := hP
    have hm := m_shut (r0 := r0) (Γ := Γ) (n := n') hX vk a ha c5 hq5 hc8
    rw [e, if_neg (show ¬ tShut (A 0) a = 0 by rw [T]; decide), if_neg (show ¬ tShut (A 0) a = 0 by rw [T]; decide), T] at hm
    exact ⟨by decide, fin_q hm hB hZ0 (by decide) rfl (fun e => absurd e (by decide)) ⟨rfl, rfl, rfl, rfl, rfl, rfl, rfl⟩ ⟨rfl, rfl, rfl, rfl, rfl⟩⟩
  · have T : tShut (A 0) a = 3 := hth.trans (by rw [h0]; rfl)
    have e : (if tShut (A 0) a = 0 then vShut (mShut (A 0) a) (A 0 2).toNat else 0) = 0 := if_neg (by rw [T]; decide)
    have hC := x_shutX (r0 := r0) (n := n) hK hx hH hr (by omega) hY hf8 hc8 a ha (by rw [h0]; decide)
    rw [h0] at hC
    refine ⟨7, 1, 6, 6, Pex M n 3, ⟨by decide, by decide, by decide, by decide⟩, l_shut a hx (by decide) hC nN_rt (fun E M' n' ⟨h1, h2, h3⟩ => by cases h1; exact Or.inr (Or.inr ⟨rfl, rfl, h3, h2⟩)), fun k M' n' hP => ?_⟩
    obtain ⟨rfl, rfl, rfl⟩ := hP
    have hm := m_shut (r0 := r0) (Γ := Γ) (n := n') hX vk a ha c5 hq5 hc8
    rw [e, if_neg (show ¬ tShut (A 0) a = 0 by rw [T]; decide), if_neg (show ¬ tShut (A 0) a = 0 by rw [T]; decide), T] at hm
    exact ⟨by decide, fin_q hm hB hZ0 (by decide) rfl (fun e => absurd e (by decide)) ⟨rfl, rfl, rfl, rfl, rfl, rfl, rfl⟩ ⟨rfl, rfl, rfl, rfl, rfl⟩⟩
theorem s_setCombination (hK : KM Γ) (hB : 20 ≤ B ∧ B + 2400 ≤ 10000000) (hZ : LZ B M n q A) (a : Int) (ha : i32 a) (b : Int) (hb : i32 b) (u : Int) (hu : i32 u) (y : Int) (hy : i32 y) : StK r0 Γ B M n i32 mL_setCombination mX8_setCombination [vR 100, vI a, vI b, vI u, vI y, vR 382] [vR 373, vI a, vI b, vI u, vI y] := by
  have hZ0 := hZ
  obtain ⟨hn, σ, τ, ρ, r, f, c5, sv, ep, fp, v, cap, l, t, nm, pl, s, ⟨hx, hH, hT, hS, hY, hSM, hBT, hv9⟩, hbb, hV, hX, ⟨g0, hg0⟩, hgd⟩ := hZ
  have hr := hbb.2.1.1
  have hi := hbb.2.1.2
  have rv := hV.1
  have b9 := hbb.1
  have q9 := hr.2.1
  have vk := RV_Vok rv hr (by omega)
  have hth : tSet (A 0) a b u y = kX 9 (rf σ 9 a b u y) := RV_thrown rv hr 9 (by decide) a b u y
  have hq5 := hV.2.2.2.1.1
  have hf8 := hbb.2.2.2.2.1
  have hc8 := hbb.2.2.2.2.2.1
  have hrf : rf σ 9 a b u y = 0 ∨ rf σ 9 a b u y = 1 ∨ rf σ 9 a b u y = 2 ∨ rf σ 9 a b u y = 3 := by
    show rfSet σ a b u y = 0 ∨ rfSet σ a b u y = 1 ∨ rfSet σ a b u y = 2 ∨ rfSet σ a b u y = 3
    unfold rfSet
    (repeat' split) <;> omega
  rcases hrf with h0 | h0 | h0 | h0
  · have T : tSet (A 0) a b u y = 0 := hth.trans (by rw [h0]; rfl)
    have e : (if tSet (A 0) a b u y = 0 then rSet (A 0) a.toNat b u y else 0) = runV σ 9 a b u y := (if_pos T).trans (RV_val rv hr hi 9 (by decide) a b u y h0).symm
    have hw : i32 (runV σ 9 a b u y) := runV_i32 hr (by omega) 9 (by decide) a b u y h0
    refine ⟨7, 0, 0, 6, fun k M' n' => k = 0 ∧ n' = n ∧ ∃ (M1 : Mem) (g : Nat → Int64), (fun M1 : Mem => XO M1 100 sv ep fp ∧ HM M1 101 (run σ 9 a b u y) ∧ YM M1 173 (yF f c5) (yC c5) (yR f c5 r σ) ∧ e_fh 100 M M1) M1 ∧ M' = va_up M1 382 (cL 3 1 (va_up g 0 (Int64.ofInt (runV σ 9 a b u y)))), ⟨by decide, by decide, by decide, by decide⟩, l_setCombination a b u y hx (by decide) (x_setCombination hK hx hH hr (by omega) hY hf8 hc8 a ha b hb u hu y hy h0) (hN_wr (R := (fun M1 : Mem => XO M1 100 sv ep fp ∧ HM M1 101 (run σ 9 a b u y) ∧ YM M1 173 (yF f c5) (yC c5) (yR f c5 r σ) ∧ e_fh 100 M M1)) (fun M' h => (h.2.2.2 382 (by omega) (by omega)).trans hg0) True trivial (fun z => i32 z) hw) nE_wr, fun k M' n' hP => ?_⟩
    obtain ⟨rfl, rfl, M1, g, ⟨k1, k2, k3, k4⟩, hM⟩ := hP
    have hm := m_setCombination (r0 := r0) (Γ := Γ) (n := n') (mm_chg hX k4 hM) vk a b u y ha hb hu hy c5 hq5 hc8
    rw [e, if_pos T, if_pos T] at hm
    refine ⟨by decide, ⟨_, (mm_chg hX k4 hM).2.1⟩, _, hm, ?_⟩
    rintro r' M'' n'' ⟨e1, e2, hm2, hf2⟩
    exact ⟨e2, _, hw, e1, fun _ => ⟨_, (hf2 382 (by omega)).trans (by rw [hM, va_up_self]), va_up_self _ _ _⟩, _, _, rfl, e2 ▸ LZ_chg hn hT hS hSM hBT hv9 hgd k1 k2 k3 k4 hM hf2 hm2 hbb hV (by omega) (Hok_mono (Hok_run hr 9 a b u y h0) (by omega)) (HI_run hi hr 9 a b u y h0) (RV_run rv hr hi 9 (by decide) a b u y h0) ⟨rfl, rfl, rfl, rfl⟩ ⟨rfl, rfl, rfl, rfl, rfl, rfl⟩⟩
  · have T : tSet (A 0) a b u y = 1 := hth.trans (by rw [h0]; rfl)
    have e : (if tSet (A 0) a b u y = 0 then rSet (A 0) a.toNat b u y else 0) = 0 := if_neg (by rw [T]; decide)
    have hC := x_setCombinationX (r0 := r0) (n := n) hK hx hH hr (by omega) hY hf8 hc8 a ha b hb u hu y hy (by rw [h0]; decide)
    rw [h0] at hC
    refine ⟨7, 1, 6, 6, Pex M n 1, ⟨by decide, by decide, by decide, by decide⟩, l_setCombination a b u y hx (by decide) hC nN_rt (fun E M' n' ⟨h1, h2, h3⟩ => by cases h1; exact Or.inl ⟨rfl, rfl, h3, h2⟩), fun k M' n' hP => ?_⟩
    obtain ⟨rfl, rfl, rfl⟩ := hP
    have hm := m_setCombination (r0 := r0) (Γ := Γ) (n := n') hX vk a b u y ha hb hu hy c5 hq5 hc8
    rw [e, if_neg (show ¬ tSet (A 0) a b u y = 0 by rw [T]; decide), if_neg (show ¬ tSet (A 0) a b u y = 0 by rw [T]; decide), T] at hm
    exact ⟨by decide, fin_q hm hB hZ0 (by decide) rfl (fun e => absurd e (by decide)) ⟨rfl, rfl, rfl, rfl, rfl, rfl, rfl⟩ ⟨rfl, rfl, rfl, rfl, rfl⟩⟩
  · have T : tSet (A 0) a b u y = 2 := hth.trans (by rw [h0]; rfl)
    have e : (if tSet (A 0) a b u y = 0 then rSet (A 0) a.toNat b u y else 0) = 0 := if_neg (by rw [T]; decide)
    have hC := x_setCombinationX (r0 := r0) (n := n) hK hx hH hr (by omega) hY hf8 hc8 a ha b hb u hu y hy (by rw [h0]; decide)
    rw [h0] at hC
    refine ⟨7, 1, 6, 6, Pex M n 2, ⟨by decide, by decide, by decide, by decide⟩, l_setCombination a b u y hx (by decide) hC nN_rt (fun E M' n' ⟨h1, h2, h3⟩ => by cases h1; exact Or.inr (Or.inl ⟨rfl, rfl, h3, h2⟩)), fun k M' n' hP => ?_⟩
    obtain ⟨rfl, rfl, rfl⟩ := hP
    have hm := m_setCombination (r0 := r0) (Γ := Γ) (n := n') hX vk a b u y ha hb hu hy c5 hq5 hc8
    rw [e, if_neg (show ¬ tSet (A 0) a b u y = 0 by rw [T]; decide), if_neg (show ¬ tSet (A 0) a b u y = 0 by rw [T]; decide), T] at hm
    exact ⟨by decide, fin_q hm hB hZ0 (by decide) rfl (fun e => absurd e (by decide)) ⟨rfl, rfl, rfl, rfl, rfl, rfl, rfl⟩ ⟨rfl, rfl, rfl, rfl, rfl⟩⟩
  · have T : tSet (A 0) a b u y = 3 := hth.trans (by rw [h0]; rfl)
    have e : (if tSet (A 0) a b u y = 0 then rSet (A 0) a.toNat b u y else 0) = 0 := if_neg (by rw [T]; decide)
    have hC := x_setCombinationX (r0 := r0) (n := n) hK hx hH hr (by omega) hY hf8 hc8 a ha b hb u hu y hy (by rw [h0]; decide)
    rw [h0] at hC
    refine ⟨7, 1, 6, 6, Pex M n 3, ⟨by decide, by decide, by decide, by decide⟩, l_setCombination a b u y hx (by decide) hC nN_rt (fun E M' n' ⟨h1, h2, h3⟩ => by cases h1; exact Or.inr (Or.inr ⟨rfl, rfl, h3, h2⟩)), fun k M' n' hP => ?_⟩
    obtain ⟨rfl, rfl, rfl⟩ := hP
    have hm := m_setCombination (r0 := r0) (Γ := Γ) (n := n') hX vk a b u y ha hb hu hy c5 hq5 hc8
    rw [e, if_neg (show ¬ tSet (A 0) a b u y = 0 by rw [T]; decide), if_neg (show ¬ tSet (A 0) a b u y = 0 by rw [T]; decide), T] at hm
    exact ⟨by decide, fin_q hm hB hZ0 (by decide) rfl (fun e => absurd e (by decide)) ⟨rfl, rfl, rfl, rfl, rfl, rfl, rfl⟩ ⟨rfl, rfl, rfl, rfl, rfl⟩⟩
theorem s_setDamp (hK : KM Γ) (hB : 20 ≤ B ∧ B + 2400 ≤ 10000000) (hZ : LZ B M n q A) (a : Int) (ha : i32 a) : StK r0 Γ B M n i32 mL_setDamp mX8_setDamp [vR 100, vI a, vR 382] [vR 373, vI a] := by
  have hZ0 := hZ
  obtain ⟨hn, σ, τ, ρ, r, f, c5, sv, ep, fp, v, cap, l, t, nm, pl, s, ⟨hx, hH, hT, hS, hY, hSM, hBT, hv9⟩, hbb, hV, hX, ⟨g0, hg0⟩, hgd⟩ := hZ
  have hr := hbb.2.1.1
  have hi := hbb.2.1.2
  have rv := hV.1
  have b9 := hbb.1
  have q9 := hr.2.1
  have vk := RV_Vok rv hr (by omega)
  have hth : tDamp a = kX 4 (rf σ 4 a 0 0 0) := RV_thrown rv hr 4 (by decide) a 0 0 0
  have hq5 := hV.2.2.2.1.1
  have hf8 := hbb.2.2.2.2.1
  have hc8 := hbb.2.2.2.2.2.1
  have hrf : rf σ 4 a 0 0 0 = 0 ∨ rf σ 4 a 0 0 0 = 2 := by
    show rfDamp a = 0 ∨ rfDamp a = 2
    unfold rfDamp
    (repeat' split) <;> omega
  rcases hrf with h0 | h0
  · have T : tDamp a = 0 := hth.trans (by rw [h0]; rfl)
    have e : (if tDamp a = 0 then A 0 1 else 0) = runV σ 4 a 0 0 0 := (if_pos T).trans (RV_val rv hr hi 4 (by decide) a 0 0 0 h0).symm
    have hw : i32 (runV σ 4 a 0 0 0) := runV_i32 hr (by omega) 4 (by decide) a 0 0 0 h0
    refine ⟨7, 0, 0, 6, fun k M' n' => k = 0 ∧ n' = n ∧ ∃ (M1 : Mem) (g : Nat → Int64), (fun M1 : Mem => XO M1 100 sv ep fp ∧ HM M1 101 (run σ 4 a 0 0 0) ∧ YM M1 173 (yF f c5) (yC c5) (yR f c5 r σ) ∧ e_fh 100 M M1) M1 ∧ M' = va_up M1 382 (cL 3 1 (va_up g 0 (Int64.ofInt (runV σ 4 a 0 0 0)))), ⟨by decide, by decide, by decide, by decide⟩, l_setDamp a hx (by decide) (x_setDamp hK hx hH hr (by omega) hY hf8 hc8 a ha h0) (hN_wr (R := (fun M1 : Mem => XO M1 100 sv ep fp ∧ HM M1 101 (run σ 4 a 0 0 0) ∧ YM M1 173 (yF f c5) (yC c5) (yR f c5 r σ) ∧ e_fh 100 M M1)) (fun M' h => (h.2.2.2 382 (by omega) (by omega)).trans hg0) True trivial (fun z => i32 z) hw) nE_wr, fun k M' n' hP => ?_⟩
    obtain ⟨rfl, rfl, M1, g, ⟨k1, k2, k3, k4⟩, hM⟩ := hP
    have hm := m_setDamp (r0 := r0) (Γ := Γ) (n := n') (mm_chg hX k4 hM) vk a ha c5 hq5 hc8
    rw [e, if_pos T, if_pos T] at hm
    refine ⟨by decide, ⟨_, (mm_chg hX k4 hM).2.1⟩, _, hm, ?_⟩
    rintro r' M'' n'' ⟨e1, e2, hm2, hf2⟩
    exact ⟨e2, _, hw, e1, fun _ => ⟨_, (hf2 382 (by omega)).trans (by rw [hM, va_up_self]), va_up_self _ _ _⟩, _, _, rfl, e2 ▸ LZ_chg hn hT hS hSM hBT hv9 hgd k1 k2 k3 k4 hM hf2 hm2 hbb hV (by omega) (Hok_mono (Hok_run hr 4 a 0 0 0 h0) (by omega)) (HI_run hi hr 4 a 0 0 0 h0) (RV_run rv hr hi 4 (by decide) a 0 0 0 h0) ⟨rfl, rfl, rfl, rfl⟩ ⟨rfl, rfl, rfl, rfl, rfl, rfl⟩⟩
  · have T : tDamp a = 1 := hth.trans (by rw [h0]; rfl)
    have e : (if tDamp a = 0 then A 0 1 else 0) = 0 := if_neg (by rw [T]; decide)
    have hC := x_setDampX (r0 := r0) (n := n) hK hx hH hr (by omega) hY hf8 hc8 a ha (by rw [h0]; decide)
    rw [h0] at hC
    refine ⟨7, 1, 6, 6, Pex M n 1, ⟨by decide, by decide, by decide, by decide⟩, l_setDamp a hx (by decide) hC nN_rt (fun E M' n' ⟨h1, h2, h3⟩ => by cases h1; exact ⟨rfl, rfl, h3, h2⟩), fun k M' n' hP => ?_⟩
    obtain ⟨rfl, rfl, rfl⟩ := hP
    have hm := m_setDamp (r0 := r0) (Γ := Γ) (n := n') hX vk a ha c5 hq5 hc8
    rw [e, if_neg (show ¬ tDamp a = 0 by rw [T]; decide), if_neg (show ¬ tDamp a = 0 by rw [T]; decide), T] at hm
    exact ⟨by decide, fin_q hm hB hZ0 (by decide) rfl (fun e => absurd e (by decide)) ⟨rfl, rfl, rfl, rfl, rfl, rfl, rfl⟩ ⟨rfl, rfl, rfl, rfl, rfl⟩⟩
theorem s_bake (hK : KM Γ) (hB : 20 ≤ B ∧ B + 2400 ≤ 10000000) (hZ : LZ B M n q A) (a : Int) (ha : i32 a) (b : Int) (hb : i32 b) : StK r0 Γ B M n i32 mL_bake mX8_bake [vR 100, vI a, vI b, vR 382] [vR 373, vI a, vI b] := by
  have hZ0 := hZ
  obtain ⟨hn, σ, τ, ρ, r, f, c5, sv, ep, fp, v, cap, l, t, nm, pl, s, ⟨hx, hH, hT, hS, hY, hSM, hBT, hv9⟩, hbb, hV, hX, ⟨g0, hg0⟩, hgd⟩ := hZ
  have hr := hbb.2.1.1
  have hi := hbb.2.1.2
  have rv := hV.1
  have b9 := hbb.1
  have q9 := hr.2.1
  have vk := RV_Vok rv hr (by omega)
  have hth : tBake (A 0) a b = kX 5 (rf σ 5 a b 0 0) := RV_thrown rv hr 5 (by decide) a b 0 0
  have hq5 := hV.2.2.2.1.1
  have hf8 := hbb.2.2.2.2.1
  have hc8 := hbb.2.2.2.2.2.1
  have hrf : rf σ 5 a b 0 0 = 0 ∨ rf σ 5 a b 0 0 = 1 ∨ rf σ 5 a b 0 0 = 3 ∨ rf σ 5 a b 0 0 = 4 := by
    show rfBake σ a b = 0 ∨ rfBake σ a b = 1 ∨ rfBake σ a b = 3 ∨ rfBake σ a b = 4
    unfold rfBake
    (repeat' split) <;> omega
  rcases hrf with h0 | h0 | h0 | h0
  · have T : tBake (A 0) a b = 0 := hth.trans (by rw [h0]; rfl)
    have e : (if tBake (A 0) a b = 0 then 1 + A 0 (7 + 9 * a.toNat + 7) / 4 else 0) = runV σ 5 a b 0 0 := (if_pos T).trans (RV_val rv hr hi 5 (by decide) a b 0 0 h0).symm
    have hw : i32 (runV σ 5 a b 0 0) := runV_i32 hr (by omega) 5 (by decide) a b 0 0 h0
    refine ⟨7, 0, 0, 6, fun k M' n' => k = 0 ∧ n' = n ∧ ∃ (M1 : Mem) (g : Nat → Int64), (fun M1 : Mem => XO M1 100 sv ep fp ∧ HM M1 101 (run σ 5 a b 0 0) ∧ YM M1 173 (yF f c5) (yC c5) (yR f c5 r σ) ∧ e_fh 100 M M1) M1 ∧ M' = va_up M1 382 (cL 3 1 (va_up g 0 (Int64.ofInt (runV σ 5 a b 0 0)))), ⟨by decide, by decide, by decide, by decide⟩, l_bake a b hx (by decide) (x_bake hK hx hH hr (by omega) hY hf8 hc8 a ha b hb h0) (hN_wr (R := (fun M1 : Mem => XO M1 100 sv ep fp ∧ HM M1 101 (run σ 5 a b 0 0) ∧ YM M1 173 (yF f c5) (yC c5) (yR f c5 r σ) ∧ e_fh 100 M M1)) (fun M' h => (h.2.2.2 382 (by omega) (by omega)).trans hg0) True trivial (fun z => i32 z) hw) nE_wr, fun k M' n' hP => ?_⟩
    obtain ⟨rfl, rfl, M1, g, ⟨k1, k2, k3, k4⟩, hM⟩ := hP
    have hm := m_bake (r0 := r0) (Γ := Γ) (n := n') (mm_chg hX k4 hM) vk a b ha hb c5 hq5 hc8
    rw [e, if_pos T, if_pos T] at hm
    refine ⟨by decide, ⟨_, (mm_chg hX k4 hM).2.1⟩, _, hm, ?_⟩
    rintro r' M'' n'' ⟨e1, e2, hm2, hf2⟩
    exact ⟨e2, _, hw, e1, fun _ => ⟨_, (hf2 382 (by omega)).trans (by rw [hM, va_up_self]), va_up_self _ _ _⟩, _, _, rfl, e2 ▸ LZ_chg hn hT hS hSM hBT hv9 hgd k1 k2 k3 k4 hM hf2 hm2 hbb hV (by omega) (Hok_mono (Hok_run hr 5 a b 0 0 h0) (by omega)) (HI_run hi hr 5 a b 0 0 h0) (RV_run rv hr hi 5 (by decide) a b 0 0 h0) ⟨rfl, rfl, rfl, rfl⟩ ⟨rfl, rfl, rfl, rfl, rfl, rfl⟩⟩
  · have T : tBake (A 0) a b = 1 := hth.trans (by rw [h0]; rfl)
    have e : (if tBake (A 0) a b = 0 then 1 + A 0 (7 + 9 * a.toNat + 7) / 4 else 0) = 0 := if_neg (by rw [T]; decide)
    have hC := x_bakeX (r0 := r0) (n := n) hK hx hH hr (by omega) hY hf8 hc8 a ha b hb (by rw [h0]; decide)
    rw [h0] at hC
    refine ⟨7, 1, 6, 6, Pex M n 1, ⟨by decide, by decide, by decide, by decide⟩, l_bake a b hx (by decide) hC nN_rt (fun E M' n' ⟨h1, h2, h3⟩ => by cases h1; exact Or.inl ⟨rfl, rfl, h3, h2⟩), fun k M' n' hP => ?_⟩
    obtain ⟨rfl, rfl, rfl⟩ := hP
    have hm := m_bake (r0 := r0) (Γ := Γ) (n := n') hX vk a b ha hb c5 hq5 hc8
    rw [e, if_neg (show ¬ tBake (A 0) a b = 0 by rw [T]; decide), if_neg (show ¬ tBake (A 0) a b = 0 by rw [T]; decide), T] at hm
    exact ⟨by decide, fin_q hm hB hZ0 (by decide) rfl (fun e => absurd e (by decide)) ⟨rfl, rfl, rfl, rfl, rfl, rfl, rfl⟩ ⟨rfl, rfl, rfl, rfl, rfl⟩⟩
  · have T : tBake (A 0) a b = 2 := hth.trans (by rw [h0]; rfl)
    have e : (if tBake (A 0) a b = 0 then 1 + A 0 (7 + 9 * a.toNat + 7) / 4 else 0) = 0 := if_neg (by rw [T]; decide)
    have hC := x_bakeX (r0 := r0) (n := n) hK hx hH hr (by omega) hY hf8 hc8 a ha b hb (by rw [h0]; decide)
    rw [h0] at hC
    refine ⟨7, 1, 6, 6, Pex M n 2, ⟨by decide, by decide, by decide, by decide⟩, l_bake a b hx (by decide) hC nN_rt (fun E M' n' ⟨h1, h2, h3⟩ => by cases h1; exact Or.inr (Or.inl ⟨rfl, rfl, h3, h2⟩)), fun k M' n' hP => ?_⟩
    obtain ⟨rfl, rfl, rfl⟩ := hP
    have hm := m_bake (r0 := r0) (Γ := Γ) (n := n') hX vk a b ha hb c5 hq5 hc8
    rw [e, if_neg (show ¬ tBake (A 0) a b = 0 by rw [T]; decide), if_neg (show ¬ tBake (A 0) a b = 0 by rw [T]; decide), T] at hm
    exact ⟨by decide, fin_q hm hB hZ0 (by decide) rfl (fun e => absurd e (by decide)) ⟨rfl, rfl, rfl, rfl, rfl, rfl, rfl⟩ ⟨rfl, rfl, rfl, rfl, rfl⟩⟩
  · have T : tBake (A 0) a b = 3 := hth.trans (by rw [h0]; rfl)
    have e : (if tBake (A 0) a b = 0 then 1 + A 0 (7 + 9 * a.toNat + 7) / 4 else 0) = 0 := if_neg (by rw [T]; decide)
    have hC := x_bakeX (r0 := r0) (n := n) hK hx hH hr (by omega) hY hf8 hc8 a ha b hb (by rw [h0]; decide)
    rw [h0] at hC
    refine ⟨7, 1, 6, 6, Pex M n 3, ⟨by decide, by decide, by decide, by decide⟩, l_bake a b hx (by decide) hC nN_rt (fun E M' n' ⟨h1, h2, h3⟩ => by cases h1; exact Or.inr (Or.inr ⟨rfl, rfl, h3, h2⟩)), fun k M' n' hP => ?_⟩
    obtain ⟨rfl, rfl, rfl⟩ := hP
    have hm := m_bake (r0 := r0) (Γ := Γ) (n := n') hX vk a b ha hb c5 hq5 hc8
    rw [e, if_neg (show ¬ tBake (A 0) a b = 0 by rw [T]; decide), if_neg (show ¬ tBake (A 0) a b = 0 by rw [T]; decide), T] at hm
    exact ⟨by decide, fin_q hm hB hZ0 (by decide) rfl (fun e => absurd e (by decide)) ⟨rfl, rfl, rfl, rfl, rfl, rfl, rfl⟩ ⟨rfl, rfl, rfl, rfl, rfl⟩⟩
theorem s_passHours (hK : KM Γ) (hB : 20 ≤ B ∧ B + 2400 ≤ 10000000) (hZ : LZ B M n q A) (a : Int) (ha : i32 a) : StK r0 Γ B M n i32 mL_passHours mX8_passHours [vR 100, vI a, vR 382] [vR 373, vI a] := by
  have hZ0 := hZ
  obtain ⟨hn, σ, τ, ρ, r, f, c5, sv, ep, fp, v, cap, l, t, nm, pl, s, ⟨hx, hH, hT, hS, hY, hSM, hBT, hv9⟩, hbb, hV, hX, ⟨g0, hg0⟩, hgd⟩ := hZ
  have hr := hbb.2.1.1
  have hi := hbb.2.1.2
  have rv := hV.1
  have b9 := hbb.1
  have q9 := hr.2.1
  have vk := RV_Vok rv hr (by omega)
  have hth : tHours a = kX 7 (rf σ 7 a 0 0 0) := RV_thrown rv hr 7 (by decide) a 0 0 0
  have hq5 := hV.2.2.2.1.1
  have hf8 := hbb.2.2.2.2.1
  have hc8 := hbb.2.2.2.2.2.1
  have hrf : rf σ 7 a 0 0 0 = 0 ∨ rf σ 7 a 0 0 0 = 2 := by
    show rfHours a = 0 ∨ rfHours a = 2
    unfold rfHours
    (repeat' split) <;> omega
  rcases hrf with h0 | h0
  · have T : tHours a = 0 := hth.trans (by rw [h0]; rfl)
    have e : (if tHours a = 0 then mHrs (A 0) a.toNat 5 - A 0 5 else 0) = runV σ 7 a 0 0 0 := (if_pos T).trans (RV_val rv hr hi 7 (by decide) a 0 0 0 h0).symm
    have hw : i32 (runV σ 7 a 0 0 0) := runV_i32 hr (by omega) 7 (by decide) a 0 0 0 h0
    refine ⟨7, 0, 0, 6, fun k M' n' => k = 0 ∧ n' = n ∧ ∃ (M1 : Mem) (g : Nat → Int64), (fun M1 : Mem => XO M1 100 sv ep fp ∧ HM M1 101 (run σ 7 a 0 0 0) ∧ YM M1 173 (yF f c5) (yC c5) (yR f c5 r σ) ∧ e_fh 100 M M1) M1 ∧ M' = va_up M1 382 (cL 3 1 (va_up g 0 (Int64.ofInt (runV σ 7 a 0 0 0)))), ⟨by decide, by decide, by decide, by decide⟩, l_passHours a hx (by decide) (x_passHours hK hx hH hr (by omega) hY hf8 hc8 a ha h0) (hN_wr (R := (fun M1 : Mem => XO M1 100 sv ep fp ∧ HM M1 101 (run σ 7 a 0 0 0) ∧ YM M1 173 (yF f c5) (yC c5) (yR f c5 r σ) ∧ e_fh 100 M M1)) (fun M' h => (h.2.2.2 382 (by omega) (by omega)).trans hg0) True trivial (fun z => i32 z) hw) nE_wr, fun k M' n' hP => ?_⟩
    obtain ⟨rfl, rfl, M1, g, ⟨k1, k2, k3, k4⟩, hM⟩ := hP
    have hm := m_passHours (r0 := r0) (Γ := Γ) (n := n') (mm_chg hX k4 hM) vk (RV_Vh rv hr (by omega)) (by omega) a ha c5 hq5 hc8
    rw [e, if_pos T, if_pos T] at hm
    refine ⟨by decide, ⟨_, (mm_chg hX k4 hM).2.1⟩, _, hm, ?_⟩
    rintro r' M'' n'' ⟨e1, e2, hm2, hf2⟩
    exact ⟨e2, _, hw, e1, fun _ => ⟨_, (hf2 382 (by omega)).trans (by rw [hM, va_up_self]), va_up_self _ _ _⟩, _, _, rfl, e2 ▸ LZ_chg hn hT hS hSM hBT hv9 hgd k1 k2 k3 k4 hM hf2 hm2 hbb hV (by omega) (Hok_mono (Hok_run hr 7 a 0 0 0 h0) (by omega)) (HI_run hi hr 7 a 0 0 0 h0) (RV_run rv hr hi 7 (by decide) a 0 0 0 h0) ⟨rfl, rfl, rfl, rfl⟩ ⟨rfl, rfl, rfl, rfl, rfl, rfl⟩⟩
  · have T : tHours a = 1 := hth.trans (by rw [h0]; rfl)
    have e : (if tHours a = 0 then mHrs (A 0) a.toNat 5 - A 0 5 else 0) = 0 := if_neg (by rw [T]; decide)
    have hC := x_passHoursX (r0 := r0) (n := n) hK hx hH hr (by omega) hY hf8 hc8 a ha (by rw [h0]; decide)
    rw [h0] at hC
    refine ⟨7, 1, 6, 6, Pex M n 1, ⟨by decide, by decide, by decide, by decide⟩, l_passHours a hx (by decide) hC nN_rt (fun E M' n' ⟨h1, h2, h3⟩ => by cases h1; exact ⟨rfl, rfl, h3, h2⟩), fun k M' n' hP => ?_⟩
    obtain ⟨rfl, rfl, rfl⟩ := hP
    have hm := m_passHours (r0 := r0) (Γ := Γ) (n := n') hX vk (RV_Vh rv hr (by omega)) (by omega) a ha c5 hq5 hc8
    rw [e, if_neg (show ¬ tHours a = 0 by rw [T]; decide), if_neg (show ¬ tHours a = 0 by rw [T]; decide), T] at hm
    exact ⟨by decide, fin_q hm hB hZ0 (by decide) rfl (fun e => absurd e (by decide)) ⟨rfl, rfl, rfl, rfl, rfl, rfl, rfl⟩ ⟨rfl, rfl, rfl, rfl, rfl⟩⟩
end SC
