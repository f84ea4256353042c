/-! typing, scripts, undo, the snapshot: the law's calls (wip/whole/gen/c_sf.py prints this part) -/
def QRun (M : Mem) (n : Nat) (v cap l : Nat) (t : Nat → Int) (σ τ : HS) (sv ep fp : Int) (f c5 : Nat) (r : Nat → HS) : Rv → Mem → Nat → Prop := fun r' M' n' => n' = n ∧ e_rx 100 v M M' ∧ ∃ k : Nat, (∀ j, j < k → sGo t l j) ∧ ¬ sGo t l k ∧ (∃ nm' pl', NB nm' ∧ SM M' 367 v cap 0 t nm' pl') ∧ ((¬ (rOK t l (sT t l k) ∧ sE t l k = l) ∧ r' = .inr "java/lang/IllegalArgumentException" ∧ XO M' 100 sv ((sE t l k : Nat) : Int) fp ∧ HM M' 101 σ ∧ HM M' 125 τ ∧ YM M' 173 f c5 r) ∨ ((rOK t l (sT t l k) ∧ sE t l k = l) ∧ (∀ j, j < k + 1 → rS t l σ j = 0) ∧ r' = .inl (some (vI ((k : Int) + 1))) ∧ XO M' 100 sv ep fp ∧ HM M' 101 (hSq t l σ (k + 1)) ∧ HM M' 125 σ ∧ YM M' 173 (yF f c5) (yC c5) (yR f c5 r σ)) ∨ ((rOK t l (sT t l k) ∧ sE t l k = l) ∧ ∃ c : Nat, c ≤ k ∧ (∀ j, j < c → rS t l σ j = 0) ∧ rS t l σ c ≠ 0 ∧ r' = .inr "java/lang/IllegalStateException" ∧ XO M' 100 sv ep (c : Int) ∧ HM M' 101 σ ∧ HM M' 125 σ ∧ YM M' 173 f c5 r))
section SF
variable {r0 : Option Nat} {Γ : Cx} {B : Int} {M M1 M' M'' : Mem} {n : Nat} {q q' : Nat → Int} {A A' : Nat → Nat → Int}
theorem sGo_uniq {t : Nat → Int} {l k k2 : Nat} (a : ∀ j, j < k → sGo t l j) (b : ¬ sGo t l k) (c : ∀ j, j < k2 → sGo t l j) (d : ¬ sGo t l k2) : k2 = k := by
  by_cases g : k < k2
  · exact absurd (c k g) b
  · by_cases g2 : k2 < k
    · exact absurd (a k2 g2) d
    · omega
theorem tS_rS {t : Nat → Int} {l : Nat} {σ : HS} {v : Nat → Int} (h : RV σ v) (hr : Hok B σ) (hi : HI σ) : ∀ c : Nat, (∀ j, j < c → rOK t l (sT t l j) ∧ tS t l v j = 0) → ∀ j, j < c → rOK t l (sT t l j) ∧ rS t l σ j = 0
  | 0, _, j, hj => by omega
  | c + 1, hk, j, hj => by
    have k := tS_rS h hr hi c (fun i hi => hk i (by omega))
    by_cases e : j = c
    · subst e
      exact ⟨(hk j hj).1, (seq_t h hr hi j k (hk j hj).1).mp (hk j hj).2⟩
    · exact k j (by omega)
theorem s_undo (hB : 20 ≤ B ∧ B + 2400 ≤ 10000000) (hZ : LZ B M n q A) : StK r0 Γ B M n i32 mL_undo mX8_undo [vR 100, vR 382] [vR 373] := by
  have hZ0 := hZ
  obtain ⟨hn, σ, τ, ρ, r, f, c5, sv, ep, fp, v, cap, l, t, nm, pl, s, ⟨hx, hH, hT, hS, hY, hSM, hBT, hv9⟩, hbb, hV, hX, ⟨g0, hg0⟩, hgd⟩ := hZ
  have hr := hbb.2.1.1
  have hi := hbb.2.1.2
  have rv := hV.1
  have b9 := hbb.1
  have q9 := hr.2.1
  have vk := RV_Vok rv hr (by omega)
  have hq5 := hV.2.2.2.1.1
  have hf8 := hbb.2.2.2.2.1
  have hc8 := hbb.2.2.2.2.2.1
  have hrr : ∀ j, j < 8 → Hok B (r j) := fun j hj => (hbb.2.2.2.1 j hj).1
  by_cases h0 : c5 = 0
  · refine ⟨4, 1, 6, 1, Pex M n 1, ⟨by decide, by decide, by decide, by decide⟩, l_undo hx (by decide) (x_undoX hx hH hY hrr hf8 hc8 h0) nN_rt (fun E M' n' ⟨h1, h2, h3⟩ => by cases h1; exact ⟨rfl, rfl, h3, h2⟩), fun k M' n' hP => ?_⟩
    obtain ⟨rfl, rfl, rfl⟩ := hP
    have hm := m_undo (r0 := r0) (Γ := Γ) (n := n') hX c5 hq5 hc8
    rw [if_pos h0, if_pos h0, if_pos h0] at hm
    exact ⟨by decide, fin_q hm hB hZ0 (by decide) rfl (fun e => absurd e (by decide)) ⟨rfl, rfl, rfl, rfl, rfl, rfl, rfl⟩ ⟨rfl, rfl, rfl, rfl, rfl⟩⟩
  · have hw : i32 ((c5 : Int) - 1) := ⟨by omega, by omega⟩
    refine ⟨4, 0, 0, 1, fun k M' n' => k = 0 ∧ n' = n ∧ ∃ (M1 : Mem) (g : Nat → Int64), (XO M1 100 sv ep fp ∧ HM M1 101 (r ((f + (c5 - 1)) % 8)) ∧ YM M1 173 f (c5 - 1) r ∧ e_fh 100 M M1) ∧ M' = va_up M1 382 (cL 3 1 (va_up g 0 (Int64.ofInt ((c5 : Int) - 1)))), ⟨by decide, by decide, by decide, by decide⟩, l_undo hx (by decide) (x_undo hx hH hY hrr hf8 hc8 (by omega)) (hN_wr (R := fun M1 => XO M1 100 sv ep fp ∧ HM M1 101 (r ((f + (c5 - 1)) % 8)) ∧ YM M1 173 f (c5 - 1) r ∧ e_fh 100 M M1) (fun M' h => (h.2.2.2 382 (by omega) (by omega)).trans hg0) True trivial (fun z => i32 z) hw) nE_wr, fun k M' n' hP => ?_⟩
    obtain ⟨rfl, rfl, M1, g, ⟨k1, k2, k3, k4⟩, hM⟩ := hP
    have hm := m_undo (r0 := r0) (Γ := Γ) (n := n') (mm_chg hX k4 hM) c5 hq5 hc8
    rw [if_neg h0, if_neg h0, if_neg h0] at hm
    refine ⟨by decide, ⟨_, (mm_chg hX k4 hM).2.1⟩, _, hm, ?_⟩
    rintro r' M'' n'' ⟨e1, e2, hm2, hf2⟩
    have f1 : ∀ k, (125 ≤ k ∧ k < 173) ∨ (367 ≤ k) → M1 k = M k := fun k a => k4 k (by omega) (by omega)
    refine ⟨e2, _, hw, e1, fun _ => ⟨_, (hf2 382 (by omega)).trans (by rw [hM, va_up_self]), va_up_self _ _ _⟩, _, _, rfl, e2 ▸ LZ_in hn (σ := r ((f + (c5 - 1)) % 8)) (τ := τ) (ρ := ρ) (r := r) (f := f) (c5 := c5 - 1) (sv := sv) (ep := ep) (fp := fp) (v := v) (cap := cap) (l := l) (t := t) (nm := nm) (pl := pl) (s := s) ⟨k1, k2, HM_e (fun k h1 h2 => f1 k (by omega)) hT, HM_e (fun k h1 h2 => f1 k (by omega)) hS, k3, SM_fr hSM (fun k hk => f1 k (by omega)), BM_fr hBT (f1 _ (by omega)) (f1 _ (by omega)), hv9⟩ (fun k hk => by rw [hM, va_up_ne _ _ hk]) ⟨_, by rw [hM, va_up_self]⟩ (by rw [f1 383 (by omega)]; exact hgd) hf2 hm2 ?_ ?_⟩
    · have b2 := LB_up (B' := B + 2400) hbb (by omega) hB.2
      exact ⟨b2.1, b2.2.2.2.1 _ (by omega), b2.2.2.1, b2.2.2.2.1, b2.2.2.2.2.1, by omega, b2.2.2.2.2.2.2⟩
    · refine ⟨hV.2.2.1 (c5 - 1) (by omega), hV.2.1, fun i hi => hV.2.2.1 i (by omega), ⟨?_, hV.2.2.2.1.2⟩, hV.2.2.2.2⟩
      show (c5 : Int) - 1 = ((c5 - 1 : Nat) : Int)
      omega
theorem s_save (hB : 20 ≤ B ∧ B + 2400 ≤ 10000000) (hZ : LZ B M n q A) : StN r0 Γ B M n mX7_save mX8_save := by
  have hZ0 := hZ
  obtain ⟨hn, σ, τ, ρ, r, f, c5, sv, ep, fp, v, cap, l, t, nm, pl, s, ⟨hx, hH, hT, hS, hY, hSM, hBT, hv9⟩, hbb, hV, hX, ⟨g0, hg0⟩, hgd⟩ := hZ
  have hr := hbb.2.1.1
  have hi := hbb.2.1.2
  have rv := hV.1
  have b9 := hbb.1
  have q9 := hr.2.1
  have vk := RV_Vok rv hr (by omega)
  have q0 := hr.1 0 (by decide)
  refine ⟨2, 0, 0, 1, σ.sc 0, fun M' n' => n' = n ∧ XO M' 100 1 ep fp ∧ HM M' 149 σ ∧ e_fr2 149 173 100 M M', ⟨by decide, by decide, by decide, by decide⟩, ⟨by omega, by omega⟩, ⟨_, x_save hx hH hr hS, fun r' M' n' h => h⟩, fun M' n' hP => ?_⟩
  obtain ⟨rfl, k1, k2, k3⟩ := hP
  have hm := m_save (r0 := r0) (Γ := Γ) (n := n') (MM_fr (a := 100) (b := 173) (M := M) (fun k hk => k3 k (by omega) (by omega)) (by omega) hX)
  rw [rv.1.2.2.1] at hm
  refine ⟨⟨_, (MM_fr (a := 100) (b := 173) (M := M) (fun k hk => k3 k (by omega) (by omega)) (by omega) hX).2.1⟩, _, hm, ?_⟩
  rintro r' M'' n'' ⟨e1, e2, hm2, hf2⟩
  refine ⟨e2, e1, _, _, e2 ▸ LZ_in hn (σ := σ) (τ := τ) (ρ := σ) (r := r) (f := f) (c5 := c5) (sv := 1) (ep := ep) (fp := fp) (v := v) (cap := cap) (l := l) (t := t) (nm := nm) (pl := pl) (s := s) ⟨k1, HM_e (fun k h1 h2 => k3 k (by omega) (by omega)) hH, HM_e (fun k h1 h2 => k3 k (by omega) (by omega)) hT, k2, YM_e (fun k h1 h2 => k3 k (by omega) (by omega)) hY, SM_fr hSM (fun k hk => k3 k (by omega) (by omega)), BM_fr hBT (k3 _ (by omega) (by omega)) (k3 _ (by omega) (by omega)), hv9⟩ (fun k _ => rfl) ⟨g0, by rw [k3 382 (by omega) (by omega)]; exact hg0⟩ (by rw [k3 383 (by omega) (by omega)]; exact hgd) hf2 hm2 ?_ ?_⟩
  · have b2 := LB_up (B' := B + 2400) hbb (by omega) hB.2
    exact ⟨b2.1, b2.2.1, b2.2.1, b2.2.2.2⟩
  · exact ⟨hV.1, hV.1, hV.2.2.1, ⟨hV.2.2.2.1.1, rfl, hV.2.2.2.1.2.2⟩, ⟨Or.inr rfl, hV.2.2.2.2.1.2⟩, hV.2.2.2.2.2⟩
theorem s_restore (hB : 20 ≤ B ∧ B + 2400 ≤ 10000000) (hZ : LZ B M n q A) : StK r0 Γ B M n i32 mL_restore mX8_restore [vR 100, vR 382] [vR 373] := by
  have hZ0 := hZ
  obtain ⟨hn, σ, τ, ρ, r, f, c5, sv, ep, fp, v, cap, l, t, nm, pl, s, ⟨hx, hH, hT, hS, hY, hSM, hBT, hv9⟩, hbb, hV, hX, ⟨g0, hg0⟩, hgd⟩ := hZ
  have hr := hbb.2.1.1
  have hi := hbb.2.1.2
  have rv := hV.1
  have b9 := hbb.1
  have q9 := hr.2.1
  have vk := RV_Vok rv hr (by omega)
  have hq10 := hV.2.2.2.1.2.1
  have hsv := hV.2.2.2.2.1.1
  have hrr := hbb.2.2.1.1
  have q0 := hrr.1 0 (by decide)
  have q2 := hrr.2.1
  by_cases h0 : sv = 0
  · refine ⟨3, 1, 6, 1, Pex M n 1, ⟨by decide, by decide, by decide, by decide⟩, l_restore hx (by decide) (x_restoreX hx hH hS hrr hY h0) nN_rt (fun E M' n' ⟨h1, h2, h3⟩ => by cases h1; exact ⟨rfl, rfl, h3, h2⟩), fun k M' n' hP => ?_⟩
    obtain ⟨rfl, rfl, rfl⟩ := hP
    have hm := m_restore (r0 := r0) (Γ := Γ) (n := n') hX (by omega)
    rw [if_pos (c := q 10 = 0) (by omega), if_pos (c := q 10 = 0) (by omega), if_pos (c := q 10 = 0) (by omega)] at hm
    exact ⟨by decide, fin_q hm hB hZ0 (by decide) rfl (fun e => absurd e (by decide)) ⟨rfl, rfl, rfl, rfl, rfl, rfl, rfl⟩ ⟨rfl, rfl, rfl, rfl, rfl⟩⟩
  · have hw : i32 (ρ.sc 0) := ⟨by omega, by omega⟩
    refine ⟨3, 0, 0, 1, fun k M' n' => k = 0 ∧ n' = n ∧ ∃ (M1 : Mem) (g : Nat → Int64), (XO M1 100 sv ep fp ∧ HM M1 101 ρ ∧ YM M1 173 f 0 r ∧ e_fh 100 M M1) ∧ M' = va_up M1 382 (cL 3 1 (va_up g 0 (Int64.ofInt (ρ.sc 0)))), ⟨by decide, by decide, by decide, by decide⟩, l_restore hx (by decide) (x_restore hx hH hS hrr hY (by omega)) (hN_wr (R := fun M1 => XO M1 100 sv ep fp ∧ HM M1 101 ρ ∧ YM M1 173 f 0 r ∧ e_fh 100 M M1) (fun M' h => (h.2.2.2 382 (by omega) (by omega)).trans hg0) True trivial (fun z => i32 z) hw) nE_wr, fun k M' n' hP => ?_⟩
    obtain ⟨rfl, rfl, M1, g, ⟨k1, k2, k3, k4⟩, hM⟩ := hP
    have hm := m_restore (r0 := r0) (Γ := Γ) (n := n') (mm_chg hX k4 hM) (by omega)
    rw [if_neg (c := q 10 = 0) (by omega), if_neg (c := q 10 = 0) (by omega), if_neg (c := q 10 = 0) (by omega), hV.2.1.1.2.2.1] at hm
    refine ⟨by decide, ⟨_, (mm_chg hX k4 hM).2.1⟩, _, hm, ?_⟩
    rintro r' M'' n'' ⟨e1, e2, hm2, hf2⟩
    have f1 : ∀ k, (125 ≤ k ∧ k < 173) ∨ (367 ≤ k) → M1 k = M k := fun k a => k4 k (by omega) (by omega)
    refine ⟨e2, _, hw, e1, fun _ => ⟨_, (hf2 382 (by omega)).trans (by rw [hM, va_up_self]), va_up_self _ _ _⟩, _, _, rfl, e2 ▸ LZ_in hn (σ := ρ) (τ := τ) (ρ := ρ) (r := r) (f := f) (c5 := 0) (sv := sv) (ep := ep) (fp := fp) (v := v) (cap := cap) (l := l) (t := t) (nm := nm) (pl := pl) (s := s) ⟨k1, k2, HM_e (fun k h1 h2 => f1 k (by omega)) hT, HM_e (fun k h1 h2 => f1 k (by omega)) hS, k3, SM_fr hSM (fun k hk => f1 k (by omega)), BM_fr hBT (f1 _ (by omega)) (f1 _ (by omega)), hv9⟩ (fun k hk => by rw [hM, va_up_ne _ _ hk]) ⟨_, by rw [hM, va_up_self]⟩ (by rw [f1 383 (by omega)]; exact hgd) hf2 hm2 ?_ ?_⟩
    · have b2 := LB_up (B' := B + 2400) hbb (by omega) hB.2
      exact ⟨b2.1, b2.2.2.1, b2.2.2.1, b2.2.2.2.1, b2.2.2.2.2.1, by omega, b2.2.2.2.2.2.2⟩
    · exact ⟨hV.2.1, hV.2.1, fun i hi => absurd hi (by omega), ⟨rfl, hV.2.2.2.1.2⟩, hV.2.2.2.2⟩
theorem s_type (hP9 : PV Γ) (hB : 20 ≤ B ∧ B + 2400 ≤ 10000000) (hZ : LZ B M n q A) (z : Int) (hz : 0 ≤ z ∧ z ≤ 65535) : StK r0 Γ B M n i32 mL_type mX8_type [vR 100, vI z, vR 382] [vR 373, vI z] := by
  have hZ0 := hZ
  obtain ⟨hn, σ, τ, ρ, r, f, c5, sv, ep, fp, v, cap, l, t, nm, pl, s, ⟨hx, hH, hT, hS, hY, hSM, hBT, hv9⟩, hbb, hV, hX, ⟨g0, hg0⟩, hgd⟩ := hZ
  have hr := hbb.2.1.1
  have hi := hbb.2.1.2
  have rv := hV.1
  have b9 := hbb.1
  have q9 := hr.2.1
  have vk := RV_Vok rv hr (by omega)
  have hql := hV.2.2.2.1.2.2.2.2
  have hl60 := hbb.2.2.2.2.2.2.1
  have hv8 : v = 100 + 269 ∨ 100 + 273 ≤ v := by omega
  have qk := hSM.2.2.1.2.2.2.2.1
  by_cases h1 : 32 ≤ z ∧ z ≤ 126
  · have h19 := h1
    by_cases h2 : 60 ≤ l
    · have T : tType q z = 2 := (if_pos h1).trans (if_pos (by omega))
      refine ⟨8, 1, 6, 1, Pex M n 2, ⟨by decide, by decide, by decide, by decide⟩, l_type z hx (by decide) (x_typeX2 hx hSM hv8 z h1 h2) nN_rt (fun E M' n' ⟨h1, h2, h3⟩ => by cases h1; exact Or.inr ⟨rfl, rfl, h3, h2⟩), fun k M' n' hP => ?_⟩
      obtain ⟨rfl, rfl, rfl⟩ := hP
      have hm := m_type (r0 := r0) (Γ := Γ) (n := n') hX z ⟨by omega, by omega⟩ l hql hl60
      rw [if_neg (show ¬ tType q z = 0 by rw [T]; decide), if_neg (show ¬ tType q z = 0 by rw [T]; decide), if_neg (show ¬ tType q z = 0 by rw [T]; decide), T] at hm
      exact ⟨by decide, fin_q hm hB hZ0 (by decide) rfl (fun e => absurd e (by decide)) ⟨rfl, rfl, rfl, rfl, rfl, rfl, rfl⟩ ⟨rfl, rfl, rfl, rfl, rfl⟩⟩
    · have T : tType q z = 0 := (if_pos h1).trans (if_neg (by omega))
      have hw : i32 ((l : Int) + 1) := ⟨by omega, by omega⟩
      have key : ∀ (n1 v1 cap1 : Nat) (t1 : Nat → Int) (M1 M' : Mem) (g : Nat → Int64), n ≤ n1 → (v1 = 369 ∨ (384 ≤ v1 ∧ v1 < n1)) → SM M1 367 v1 cap1 (l + 1) t1 nm pl → (∀ k, k ≠ 368 → k ≠ v1 → M1 k = M k) → (∀ j, j < l → t1 j = t j) → t1 l = z → M' = va_up M1 382 (cL 3 1 (va_up g 0 (Int64.ofInt ((l : Int) + 1)))) → i32 0 ∧ (∃ fs : List aV, M' 373 = cO 9 fs) ∧ Cw r0 Γ mX8_type 1 0 0 [vR 373, vI z] M' n1 (fun r' M'' n'' => n'' = n1 ∧ ∃ b : Int, i32 b ∧ r' = .inl (some (vI b)) ∧ ((0 : Int) = 0 → ∃ g, M'' 382 = cL 3 1 g ∧ g 0 = Int64.ofInt b) ∧ ∃ q A, q 6 = 0 ∧ LZ (B + 2400) M'' n'' q A) := fun n1 v1 cap1 t1 M1 M' g hn1 hv1 hS1 hf1 ht1 htl hM => by
        have hM9 : ∀ k, k ≠ 382 → M' k = M1 k := fun k hk => by rw [hM, va_up_ne _ _ hk]
        have hmm : MM M' 373 q A := ⟨by decide, (hM9 _ (by omega)).trans ((hf1 _ (by omega) (by omega)).trans hX.2.1), (hM9 _ (by omega)).trans ((hf1 _ (by omega) (by omega)).trans hX.2.2.1), (hM9 _ (by omega)).trans ((hf1 _ (by omega) (by omega)).trans hX.2.2.2.1), (hM9 _ (by omega)).trans ((hf1 _ (by omega) (by omega)).trans hX.2.2.2.2.1), (hM9 _ (by omega)).trans ((hf1 _ (by omega) (by omega)).trans hX.2.2.2.2.2.1), (hM9 _ (by omega)).trans ((hf1 _ (by omega) (by omega)).trans hX.2.2.2.2.2.2.1), (hM9 _ (by omega)).trans ((hf1 _ (by omega) (by omega)).trans hX.2.2.2.2.2.2.2.1), (hM9 _ (by omega)).trans ((hf1 _ (by omega) (by omega)).trans hX.2.2.2.2.2.2.2.2.1), (hM9 _ (by omega)).trans ((hf1 _ (by omega) (by omega)).trans hX.2.2.2.2.2.2.2.2.2)⟩
        have hm := m_type (r0 := r0) (Γ := Γ) (n := n1) hmm z ⟨by omega, by omega⟩ l hql hl60
        rw [if_pos T, if_pos T, if_pos T] at hm
        refine ⟨by decide, ⟨_, hmm.2.1⟩, _, hm, ?_⟩
        rintro r' M'' n'' ⟨e1, e2, hm2, hf2⟩
        refine ⟨e2, _, hw, e1, fun _ => ⟨_, (hf2 382 (by omega)).trans (by rw [hM, va_up_self]), va_up_self _ _ _⟩, _, _, rfl, e2 ▸ LZ_in (by omega) (σ := σ) (τ := τ) (ρ := ρ) (r := r) (f := f) (c5 := c5) (sv := sv) (ep := ep) (fp := fp) (v := v1) (cap := cap1) (l := l + 1) (t := t1) (nm := nm) (pl := pl) (s := s) ⟨(hf1 _ (by omega) (by omega)).trans hx, HM_e (fun k h1 h2 => hf1 k (by omega) (by omega)) hH, HM_e (fun k h1 h2 => hf1 k (by omega) (by omega)) hT, HM_e (fun k h1 h2 => hf1 k (by omega) (by omega)) hS, YM_e (fun k h1 h2 => hf1 k (by omega) (by omega)) hY, hS1, BM_fr hBT (hf1 _ (by omega) (by omega)) (hf1 _ (by omega) (by omega)), hv1⟩ hM9 ⟨_, by rw [hM, va_up_self]⟩ (by rw [hf1 383 (by omega) (by omega)]; exact hgd) hf2 hm2 ?_ ?_⟩
        · have b2 := LB_up (B' := B + 2400) hbb (by omega) hB.2
          exact ⟨b2.1, b2.2.1, b2.2.2.1, b2.2.2.2.1, b2.2.2.2.2.1, b2.2.2.2.2.2.1, by omega, b2.2.2.2.2.2.2.2⟩
        · refine ⟨hV.1, hV.2.1, hV.2.2.1, ⟨hV.2.2.2.1.1, hV.2.2.2.1.2.1, hV.2.2.2.1.2.2.1, hV.2.2.2.1.2.2.2.1, rfl⟩, hV.2.2.2.2.1, fun j hj => ?_, hV.2.2.2.2.2.2⟩
          show t1 j = va_up (A 6) l z j ∧ 32 ≤ va_up (A 6) l z j ∧ va_up (A 6) l z j ≤ 126
          by_cases g9 : j = l
          · subst g9; rw [va_up_self]; exact ⟨htl, h1⟩
          · rw [va_up_ne _ _ g9, ht1 j (by omega)]; exact hV.2.2.2.2.2.1 j (by omega)
      by_cases h3 : l < cap
      · refine ⟨8, 0, 0, 1, fun k M' n' => k = 0 ∧ n' = n ∧ ∃ (M1 : Mem) (g : Nat → Int64), (SM M1 367 v cap (l + 1) (va_up t l z) nm pl ∧ e_f2 368 v M M1) ∧ M' = va_up M1 382 (cL 3 1 (va_up g 0 (Int64.ofInt ((l : Int) + 1)))), ⟨by decide, by decide, by decide, by decide⟩, l_type z hx (by decide) (x_type hP9 hx hSM hv8 z h1 (by omega) h3) (hN_wr (R := fun M1 => SM M1 367 v cap (l + 1) (va_up t l z) nm pl ∧ e_f2 368 v M M1) (fun M' h => (h.2 382 (by omega) (by omega)).trans hg0) True trivial (fun z => i32 z) hw) nE_wr, fun k M' n' hP => ?_⟩
        obtain ⟨rfl, rfl, M1, g, ⟨k1, k2⟩, hM⟩ := hP
        exact key n' v cap _ M1 M' g (Nat.le_refl _) hv9 k1 k2 (fun j hj => va_up_ne _ _ (by omega)) (va_up_self _ _ _) hM
      · refine ⟨8, 1, l + 2 + l, 1, fun k M' n' => k = 0 ∧ n' = n + 1 ∧ ∃ (M1 : Mem) (g : Nat → Int64), (SM M1 367 n (l + 2 + l) (l + 1) (va_up (va_cpy t (fun _ => 0) 0 0 l) l z) nm pl ∧ e_f2 368 n M M1) ∧ M' = va_up M1 382 (cL 3 1 (va_up g 0 (Int64.ofInt ((l : Int) + 1)))), ⟨by decide, by decide, by omega, by decide⟩, l_type z hx (by decide) (x_typeG hP9 hx hSM hv8 z h1 (by omega) (by omega) (by omega) (by omega)) (hN_wr (R := fun M1 => SM M1 367 n (l + 2 + l) (l + 1) (va_up (va_cpy t (fun _ => 0) 0 0 l) l z) nm pl ∧ e_f2 368 n M M1) (fun M' h => (h.2 382 (by omega) (by omega)).trans hg0) True trivial (fun z => i32 z) hw) nE_wr, fun k M' n' hP => ?_⟩
        obtain ⟨rfl, rfl, M1, g, ⟨k1, k2⟩, hM⟩ := hP
        refine key (n + 1) n _ _ M1 M' g (by omega) (by omega) k1 k2 (fun j hj => ?_) (va_up_self _ _ _) hM
        rw [va_up_ne _ _ (by omega)]
        show (if 0 ≤ j ∧ j < 0 + l then t (0 + (j - 0)) else 0) = t j
        rw [if_pos (by omega), show 0 + (j - 0) = j from by omega]
  · have T : tType q z = 1 := if_neg h1
    refine ⟨8, 1, 6, 1, Pex M n 1, ⟨by decide, by decide, by decide, by decide⟩, l_type z hx (by decide) (x_typeX1 hx hSM hv8 z hz h1) nN_rt (fun E M' n' ⟨h1, h2, h3⟩ => by cases h1; exact Or.inl ⟨rfl, rfl, h3, h2⟩), fun k M' n' hP => ?_⟩
    obtain ⟨rfl, rfl, rfl⟩ := hP
    have hm := m_type (r0 := r0) (Γ := Γ) (n := n') hX z ⟨by omega, by omega⟩ l hql hl60
    rw [if_neg (show ¬ tType q z = 0 by rw [T]; decide), if_neg (show ¬ tType q z = 0 by rw [T]; decide), if_neg (show ¬ tType q z = 0 by rw [T]; decide), T] at hm
    exact ⟨by decide, fin_q hm hB hZ0 (by decide) rfl (fun e => absurd e (by decide)) ⟨rfl, rfl, rfl, rfl, rfl, rfl, rfl⟩ ⟨rfl, rfl, rfl, rfl, rfl⟩⟩
theorem s_runScript (hK : KM Γ) (hP9 : PV Γ) (hB : 20 ≤ B ∧ B + 2400 ≤ 10000000) (hZ : LZ B M n q A) : StK r0 Γ B M n i32 mL_runScript mX8_runScript [vR 100, vR 382] [vR 373] := by
  have hZ0 := hZ
  obtain ⟨hn, σ, τ, ρ, r, f, c5, sv, ep, fp, v, cap, l, t, nm, pl, s, ⟨hx, hH, hT, hS, hY, hSM, hBT, hv9⟩, hbb, hV, hX, ⟨g0, hg0⟩, hgd⟩ := hZ
  have hr := hbb.2.1.1
  have hi := hbb.2.1.2
  have rv := hV.1
  have b9 := hbb.1
  have q9 := hr.2.1
  have vk := RV_Vok rv hr (by omega)
  have hq5 := hV.2.2.2.1.1
  have hf8 := hbb.2.2.2.2.1
  have hc8 := hbb.2.2.2.2.2.1
  have hl60 := hbb.2.2.2.2.2.2.1
  have hnb := hbb.2.2.2.2.2.2.2
  have ag9 : ag t (A 6) l := fun j hj => (hV.2.2.2.2.2.1 j hj).1
  have hR : RH q A l := ⟨hV.2.2.2.1.2.2.2.2, hl60, fun j hj => (hV.2.2.2.2.2.1 j hj).2⟩
  have ht9 : ∀ j, j < l → 32 ≤ t j ∧ t j ≤ 126 := fun j hj => by rw [ag9 j hj]; exact (hV.2.2.2.2.2.1 j hj).2
  have hv8 : v = 100 + 269 ∨ 100 + 273 ≤ v := by omega
  have hV13 : ∀ c, c ≤ 13 → (∀ j, j < c → rOK (A 6) l (sT (A 6) l j) ∧ tS (A 6) l (A 0) j = 0) → Vh (B + 2400) (vS (A 6) l (A 0) c) := fun c hc h => by
    have k := tS_rS rv hr hi c h
    exact RV_Vh (seq_RV rv hr hi c k).1 (Hok_mono (hSq_ok hr c (fun j hj => (k j hj).2)) (by omega)) (by omega)
  have hC : Ct (e_L r0) Γ mX7_runScript 7 1 6 [vR 100] M n (QRun M n v cap l t σ τ sv ep fp f c5 r) := x_runScript hK hP9 hx hSM hv8 hH hr (by omega) hl60 ht9 hnb hT hY hf8 hc8
  have hrx : ∀ M1 : Mem, e_rx 100 v M M1 → ∀ k, (149 ≤ k ∧ k < 173) ∨ (371 ≤ k ∧ k < 384) → M1 k = M k := fun M1 h k hk => h k (by omega) (by omega)
  have hmm : ∀ M1 M' : Mem, e_rx 100 v M M1 → (∀ k, k ≠ 382 → M' k = M1 k) → MM M' 373 q A := fun M1 M' h1 h2 => by
    have h9 : ∀ k, 373 ≤ k → k < 382 → M' k = M k := fun k a b => (h2 k (by omega)).trans (hrx M1 h1 k (by omega))
    exact ⟨by decide, (h9 _ (by omega) (by omega)).trans hX.2.1, (h9 _ (by omega) (by omega)).trans hX.2.2.1, (h9 _ (by omega) (by omega)).trans hX.2.2.2.1, (h9 _ (by omega) (by omega)).trans hX.2.2.2.2.1, (h9 _ (by omega) (by omega)).trans hX.2.2.2.2.2.1, (h9 _ (by omega) (by omega)).trans hX.2.2.2.2.2.2.1, (h9 _ (by omega) (by omega)).trans hX.2.2.2.2.2.2.2.1, (h9 _ (by omega) (by omega)).trans hX.2.2.2.2.2.2.2.2.1, (h9 _ (by omega) (by omega)).trans hX.2.2.2.2.2.2.2.2.2⟩
  -- both sides read one script
  have kk : ∀ k : Nat, (∀ j, j < k → sGo t l j) → ¬ sGo t l k → ∀ k2 : Nat, (∀ j, j < k2 → sGo (A 6) l j) → ¬ sGo (A 6) l k2 → k2 = k := fun k a b k2 c d => sGo_uniq a b (fun j hj => (sGo_ag ag9 j).mpr (c j hj)) (fun h => d ((sGo_ag ag9 k2).mp h))
  have cce : ∀ k : Nat, (rOK t l (sT t l k) ∧ sE t l k = l) ↔ (rOK (A 6) l (sT (A 6) l k) ∧ sE (A 6) l k = l) := fun k => by rw [rOK_ag ag9, sT_ag ag9, sE_ag ag9]
  have okj : ∀ k : Nat, (∀ j, j < k → sGo t l j) → (rOK t l (sT t l k) ∧ sE t l k = l) → ∀ j, j < k + 1 → sT t l j ≤ l ∧ rOK t l (sT t l j) := fun k a b j hj => by
    refine ⟨(sT_rng j (fun i hi => a i (by omega))).2, ?_⟩
    by_cases e : j = k
    · exact e ▸ b.1
    · exact (a j (by omega)).1
  have oka : ∀ j, rOK t l (sT t l j) → rOK (A 6) l (sT (A 6) l j) := fun j h => by rw [← sT_ag ag9]; exact (rOK_ag ag9 _).mp h
  have ts : ∀ k : Nat, (∀ j, j < k → sGo t l j) → (rOK t l (sT t l k) ∧ sE t l k = l) → ∀ c, c < k + 1 → (∀ j, j < c → rS t l σ j = 0) → (tS (A 6) l (A 0) c = 0 ↔ rS t l σ c = 0) := fun k a b c hc h => by
    have o := okj k a b
    rw [rS_ag ag9 σ c (fun j hj => o j (by omega))]
    exact seq_t rv hr hi c (fun j hj => ⟨oka j (o j (by omega)).2, by rw [← rS_ag ag9 σ j (fun i hi => o i (by omega))]; exact h j hj⟩) (oka c (o c hc).2)
  refine ⟨8, 1, 6, 9, fun k M' n' => (k = 0 ∧ ∃ (M1 : Mem) (g : Nat → Int64) (w : Int), QRun M n v cap l t σ τ sv ep fp f c5 r (.inl (some (vI w))) M1 n' ∧ i32 w ∧ M' = va_up M1 382 (cL 3 1 (va_up g 0 (Int64.ofInt w)))) ∨ (k = 1 ∧ QRun M n v cap l t σ τ sv ep fp f c5 r (.inr "java/lang/IllegalArgumentException") M' n') ∨ (k = 2 ∧ QRun M n v cap l t σ τ sv ep fp f c5 r (.inr "java/lang/IllegalStateException") M' n'), ⟨by decide, by decide, by decide, by decide⟩, l_runScript hx (by decide) hC ?_ ?_, fun k M' n' hP => ?_⟩
  · intro r1 M' n' h9
    have h8 := h9
    obtain ⟨rfl, hfx, k, hgo, hng, hs9, h9⟩ := h9
    rcases h9 with ⟨-, h3, -⟩ | ⟨cc, hz, h3, -⟩ | ⟨-, c, -, -, -, h3, -⟩
    · cases h3
    · cases h3
      have sr := sT_rng k hgo
      exact ⟨_, g0, rfl, ⟨by omega, by omega⟩, (hrx M' hfx 382 (by omega)).trans hg0, fun M'' e => Or.inl ⟨rfl, M', g0, _, h8, ⟨by omega, by omega⟩, e⟩⟩
    · cases h3
  · intro E M' n' h9
    have h8 := h9
    obtain ⟨rfl, hfx, k, hgo, hng, hs9, h9⟩ := h9
    rcases h9 with ⟨-, h3, -⟩ | ⟨cc, hz, h3, -⟩ | ⟨-, c, -, -, -, h3, -⟩
    · cases h3
      exact Or.inl ⟨rfl, Or.inr (Or.inl ⟨rfl, h8⟩)⟩
    · cases h3
    · cases h3
      exact Or.inr ⟨rfl, Or.inr (Or.inr ⟨rfl, h8⟩)⟩
  · have b2 := LB_up (B' := B + 2400) hbb (by omega) hB.2
    have sepl : ∀ k : Nat, sT t l k ≤ l → sE t l k ≤ 60 := fun k h => by
      have := rN_l (t := t) (l := l) h
      show sT t l k + rN t l (sT t l k) ≤ 60
      omega
    rcases hP with ⟨rfl, M1, g, w, h9, hw, hM⟩ | ⟨rfl, h9⟩ | ⟨rfl, h9⟩
    · obtain ⟨rfl, hfx, k, hgo, hng, ⟨nm1, pl1, nb1, hS1⟩, h9⟩ := h9
      rcases h9 with ⟨-, h3, -⟩ | ⟨cc, hz, h3, k1, k2, k3, k4⟩ | ⟨-, c, -, -, -, h3, -⟩
      · cases h3
      · cases h3
        have hM9 : ∀ k, k ≠ 382 → M' k = M1 k := fun k hk => by rw [hM, va_up_ne _ _ hk]
        refine ⟨by decide, ⟨_, (hmm M1 M' hfx hM9).2.1⟩, _, m_runScript hK hR (hmm M1 M' hfx hM9) c5 hq5 hc8 (by omega) hV13, ?_⟩
        rintro r' M'' n'' ⟨e2, hf2, q', A', hm2, hq15, hq10, hq12, hA3, hA5, j2, hgo2, hng2, hRS⟩
        obtain rfl := kk k hgo hng j2 hgo2 hng2
        rcases hRS with ⟨nc, -⟩ | ⟨-, -, e1, h6, h7, h8, h5, hA0, hA4⟩ | ⟨-, c, hc, hz2, hnz, -⟩
        · exact absurd ((cce j2).mp cc) nc
        · have o := okj j2 hgo cc
          have sq := seq_RV rv hr hi (j2 + 1) (t := A 6) (l := l) (fun j hj => ⟨oka j (o j hj).2, by rw [← rS_ag ag9 σ j (fun i hi => o i (by omega))]; exact hz j hj⟩)
          rw [← hSq_ag ag9 σ (j2 + 1) o] at sq
          have sr := sT_rng j2 hgo
          have hok := Hok_mono (B' := B + 2400) (hSq_ok hr (j2 + 1) hz) (by omega)
          have yc : yC c5 ≤ 8 := by unfold yC; split <;> omega
          have yf : yF f c5 < 8 := by unfold yF; split <;> omega
          refine ⟨e2, _, hw, e1, fun _ => ⟨_, (hf2 382 (by omega)).trans (by rw [hM, va_up_self]), va_up_self _ _ _⟩, _, _, h6, e2 ▸ LZ_in hn (σ := hSq t l σ (j2 + 1)) (τ := σ) (ρ := ρ) (r := yR f c5 r σ) (f := yF f c5) (c5 := yC c5) (sv := sv) (ep := ep) (fp := fp) (v := v) (cap := cap) (l := 0) (t := t) (nm := nm1) (pl := pl1) (s := s) ⟨k1, k2, k3, HM_e (fun k h1 h2 => hrx M1 hfx k (by omega)) hS, k4, hS1, BM_fr hBT (hrx M1 hfx _ (by omega)) (hrx M1 hfx _ (by omega)), hv9⟩ hM9 ⟨_, by rw [hM, va_up_self]⟩ (by rw [hrx M1 hfx 383 (by omega)]; exact hgd) hf2 hm2 ?_ ?_⟩
          · refine ⟨b2.1, ⟨hok, sq.2⟩, b2.2.2.1, fun j hj => ?_, yf, yc, by omega, nb1⟩
            unfold yR
            by_cases e : j = (yF f c5 + (yC c5 - 1)) % 8
            · rw [e, va_up_self]; exact b2.2.1
            · rw [va_up_ne _ _ e]; exact b2.2.2.2.1 j hj
          · refine ⟨by rw [hA0]; exact sq.1, by rw [hA3]; exact hV.2.1, by rw [hA4]; exact HRel_push hV.2.2.1 rv hf8 hc8, ⟨h5, hq10.trans hV.2.2.2.1.2.1, h7.trans hV.2.2.2.1.2.2.1, h8.trans hV.2.2.2.1.2.2.2.1, hq15⟩, hV.2.2.2.2.1, fun j hj => absurd hj (Nat.not_lt_zero j), hq12.trans hV.2.2.2.2.2.2.1, by rw [hA5]; exact hV.2.2.2.2.2.2.2⟩
        · exact absurd ((ts j2 hgo cc c (by omega) (fun j hj => hz j (by omega))).mpr (hz c (by omega))) hnz
      · cases h3
    · obtain ⟨rfl, hfx, k, hgo, hng, ⟨nm1, pl1, nb1, hS1⟩, h9⟩ := h9
      rcases h9 with ⟨nc, h3, k1, k2, k3, k4⟩ | ⟨cc, hz, h3, -⟩ | ⟨-, c, -, -, -, h3, -⟩
      · refine ⟨by decide, ⟨_, (hmm M' M' hfx (fun _ _ => rfl)).2.1⟩, _, m_runScript hK hR (hmm M' M' hfx (fun _ _ => rfl)) c5 hq5 hc8 (by omega) hV13, ?_⟩
        rintro r' M'' n'' ⟨e2, hf2, q', A', hm2, hq15, hq10, hq12, hA3, hA5, j2, hgo2, hng2, hRS⟩
        obtain rfl := kk k hgo hng j2 hgo2 hng2
        have se := sepl j2 (sT_rng j2 hgo).2
        rcases hRS with ⟨-, e1, h6, h7, h8, h5, hA0, hA4⟩ | ⟨c2, -⟩ | ⟨c2, -⟩
        · refine ⟨e2, _, by decide, e1, fun e => absurd e (by decide), _, _, h6, e2 ▸ LZ_in hn (σ := σ) (τ := τ) (ρ := ρ) (r := r) (f := f) (c5 := c5) (sv := sv) (ep := ((sE t l j2 : Nat) : Int)) (fp := fp) (v := v) (cap := cap) (l := 0) (t := t) (nm := nm1) (pl := pl1) (s := s) ⟨k1, k2, k3, HM_e (fun k h1 h2 => hrx M' hfx k (by omega)) hS, k4, hS1, BM_fr hBT (hrx M' hfx _ (by omega)) (hrx M' hfx _ (by omega)), hv9⟩ (fun _ _ => rfl) ⟨g0, by rw [hrx M' hfx 382 (by omega)]; exact hg0⟩ (by rw [hrx M' hfx 383 (by omega)]; exact hgd) hf2 hm2 ?_ ?_⟩
          · exact ⟨b2.1, b2.2.1, b2.2.2.1, b2.2.2.2.1, b2.2.2.2.2.1, b2.2.2.2.2.2.1, by omega, nb1⟩
          · refine ⟨by rw [hA0]; exact rv, by rw [hA3]; exact hV.2.1, by rw [hA4]; exact hV.2.2.1, ⟨h5.trans hq5, hq10.trans hV.2.2.2.1.2.1, by rw [h7, sE_ag ag9], h8.trans hV.2.2.2.1.2.2.2.1, hq15⟩, ⟨hV.2.2.2.2.1.1, ⟨by omega, by omega⟩, hV.2.2.2.2.1.2.2⟩, fun j hj => absurd hj (Nat.not_lt_zero j), hq12.trans hV.2.2.2.2.2.2.1, by rw [hA5]; exact hV.2.2.2.2.2.2.2⟩
        · exact absurd ((cce j2).mpr c2) nc
        · exact absurd ((cce j2).mpr c2) nc
      · cases h3
      · exact absurd (Sum.inr.inj h3) (by decide)
    · obtain ⟨rfl, hfx, k, hgo, hng, ⟨nm1, pl1, nb1, hS1⟩, h9⟩ := h9
      rcases h9 with ⟨-, h3, -⟩ | ⟨-, -, h3, -⟩ | ⟨cc, c, hc, hz, hnz, h3, k1, k2, k3, k4⟩
      · exact absurd (Sum.inr.inj h3) (by decide)
      · cases h3
      · refine ⟨by decide, ⟨_, (hmm M' M' hfx (fun _ _ => rfl)).2.1⟩, _, m_runScript hK hR (hmm M' M' hfx (fun _ _ => rfl)) c5 hq5 hc8 (by omega) hV13, ?_⟩
        rintro r' M'' n'' ⟨e2, hf2, q', A', hm2, hq15, hq10, hq12, hA3, hA5, j2, hgo2, hng2, hRS⟩
        obtain rfl := kk k hgo hng j2 hgo2 hng2
        have sr := sT_rng j2 hgo
        have tsc := ts j2 hgo cc
        rcases hRS with ⟨nc, -⟩ | ⟨-, hz2, -⟩ | ⟨-, c2, hc2, hz2, hnz2, e1, h6, h7, h8, h5, hA0, hA4⟩
        · exact absurd ((cce j2).mp cc) nc
        · exact absurd ((tsc c (by omega) hz).mp (hz2 c (by omega))) hnz
        · have ec : c2 = c := by
            by_cases g1 : c < c2
            · exact absurd ((tsc c (by omega) hz).mp (hz2 c g1)) hnz
            · by_cases g2 : c2 < c
              · exact absurd ((tsc c2 (by omega) (fun j hj => hz j (by omega))).mpr (hz c2 g2)) hnz2
              · omega
          subst ec
          refine ⟨e2, _, by decide, e1, fun e => absurd e (by decide), _, _, h6, e2 ▸ LZ_in hn (σ := σ) (τ := σ) (ρ := ρ) (r := r) (f := f) (c5 := c5) (sv := sv) (ep := ep) (fp := (c2 : Int)) (v := v) (cap := cap) (l := 0) (t := t) (nm := nm1) (pl := pl1) (s := s) ⟨k1, k2, k3, HM_e (fun k h1 h2 => hrx M' hfx k (by omega)) hS, k4, hS1, BM_fr hBT (hrx M' hfx _ (by omega)) (hrx M' hfx _ (by omega)), hv9⟩ (fun _ _ => rfl) ⟨g0, by rw [hrx M' hfx 382 (by omega)]; exact hg0⟩ (by rw [hrx M' hfx 383 (by omega)]; exact hgd) hf2 hm2 ?_ ?_⟩
          · exact ⟨b2.1, b2.2.1, b2.2.2.1, b2.2.2.2.1, b2.2.2.2.2.1, b2.2.2.2.2.2.1, by omega, nb1⟩
          · refine ⟨by rw [hA0]; exact rv, by rw [hA3]; exact hV.2.1, by rw [hA4]; exact hV.2.2.1, ⟨h5.trans hq5, hq10.trans hV.2.2.2.1.2.1, h7.trans hV.2.2.2.1.2.2.1, h8, hq15⟩, ⟨hV.2.2.2.2.1.1, hV.2.2.2.2.1.2.1, ⟨by omega, by omega⟩⟩, fun j hj => absurd hj (Nat.not_lt_zero j), hq12.trans hV.2.2.2.2.2.2.1, by rw [hA5]; exact hV.2.2.2.2.2.2.2⟩
end SF
