/-! typing, scripts, undo, the snapshot: the law's calls (wip/whole/gen/c_sf.py prints this part) -/
def QRun (M : Mem) (n : Nat) (v cap l : Nat) (t : Nat → Int) (σ τ : HS) (sv ep fp : Int) (f c5 : Nat) (r : Nat → HS) : Rv → Mem → Nat → Prop := fun r' M' n' => n' = n ∧ e_rx 100 v M M' ∧ ∃ k : Nat, (∀ j, j < k → sGo t l j) ∧ ¬ sGo t l k ∧ (∃ nm' pl', NB nm' ∧ SM M' 367 v cap 0 t nm' pl') ∧ ((¬ (rOK t l (sT t l k) ∧ sE t l k = l) ∧ r' = .inr "java/lang/IllegalArgumentException" ∧ XO M' 100 sv ((sE t l k : Nat) : Int) fp ∧ HM M' 101 σ ∧ HM M' 125 τ ∧ YM M' 173 f c5 r) ∨ ((rOK t l (sT t l k) ∧ sE t l k = l) ∧ (∀ j, j < k + 1 → rS t l σ j = 0) ∧ r' = .inl (some (vI ((k : Int) + 1))) ∧ XO M' 100 sv ep fp ∧ HM M' 101 (hSq t l σ (k + 1)) ∧ HM M' 125 σ ∧ YM M' 173 (yF f c5) (yC c5) (yR f c5 r σ)) ∨ ((rOK t l (sT t l k) ∧ sE t l k = l) ∧ ∃ c : Nat, c ≤ k ∧ (∀ j, j < c → rS t l σ j = 0) ∧ rS t l σ c ≠ 0 ∧ r' = .inr "java/lang/IllegalStateException" ∧ XO M' 100 sv ep (c : Int) ∧ HM M' 101 σ ∧ HM M' 125 σ ∧ YM M' 173 f c5 r))
section SF
variable {r0 : Option Nat} {Γ : Cx} {B : Int} {M M1 M' M'' : Mem} {n : Nat} {q q' : Nat → Int} {A A' : Nat → Nat → Int}
theorem sGo_uniq {t : Nat → Int} {l k k2 : Nat} (a : ∀ j, j < k → sGo t l j) (b : ¬ sGo t l k) (c : ∀ j, j < k2 → sGo t l j) (d : ¬ sGo t l k2) : k2 = k := by
  by_cases g : k < k2
  · exact absurd (c k g) b
  · by_cases g2 : k2 < k
    · exact absurd (a k2 g2) d
    · omega
theorem tS_rS {t : Nat → Int} {l : Nat} {σ : HS} {v : Nat → Int} (h : RV σ v) (hr : Hok B σ) (hi : HI σ) : ∀ c : Nat, (∀ j, j < c → rOK t l (sT t l j) ∧ tS t l v j = 0) → ∀ j, j < c → rOK t l (sT t l j) ∧ rS t l σ j = 0
  | 0, _, j, hj => by omega
  | c + 1, hk, j, hj => by
    have k := tS_rS h hr hi c (fun i hi => hk i (by omega))
    by_cases e : j = c
    · subst e
      exact ⟨(hk j hj).1, (seq_t h hr hi j k (hk j hj).1).mp (hk j hj).2⟩
    · exact k j (by omega)
theorem s_undo (hB : 20 ≤ B ∧ B + 2400 ≤ 10000000) (hZ : LZ B M n q A) : StK r0 Γ B M n mL_undo mX8_undo [vR 100, vR 382] [vR 373] := by
  have hZ0 := hZ
  obtain ⟨hn, σ, τ, ρ, r, f, c5, sv, ep, fp, v, cap, l, t, nm, pl, s, ⟨hx, hH, hT, hS, hY, hSM, hBT, hv9⟩, hbb, hV, hX, ⟨g0, hg0⟩, hgd⟩ := hZ
  have hr := hbb.2.1.1
  have hi := hbb.2.1.2
  have rv := hV.1
  have b9 := hbb.1
  have q9 := hr.2.1
  have vk := RV_Vok rv hr (by omega)
  have hq5 := hV.2.2.2.1.1
  have hf8 := hbb.2.2.2.2.1
  have hc8 := hbb.2.2.2.2.2.1
  have hrr : ∀ j, j < 8 → Hok B (r j) := fun j hj => (hbb.2.2.2.1 j hj).1
  by_cases h0 : c5 = 0
  · refine ⟨4, 1, 6, 1, Pex M n 1, ⟨by decide, by decide, by decide, by decide⟩, l_undo hx (by decide) (x_undoX hx hH hY hrr hf8 hc8 h0) nN_rt (fun E M' n' ⟨h1, h2, h3⟩ => by cases h1; exact ⟨rfl, rfl, h3, h2⟩), fun k M' n' hP => ?_⟩
    obtain ⟨rfl, rfl, rfl⟩ := hP
    have hm := m_undo (r0 := r0) (Γ := Γ) (n := n') hX c5 hq5 hc8
    rw [if_pos h0, if_pos h0, if_pos h0] at hm
    exact ⟨by decide, fin_q hm hB hZ0 (by decide) rfl (fun e => absurd e (by decide)) ⟨rfl, rfl, rfl, rfl, rfl, rfl, rfl⟩ ⟨rfl, rfl, rfl, rfl, rfl⟩⟩
  · have hw : i32 ((c5 : Int) - 1) := ⟨by omega, by omega⟩
    refine ⟨4, 0, 0, 1, fun k M' n' => k = 0 ∧ n' = n ∧ ∃ (M1 : Mem) (g : Nat → Int64), (XO M1 100 sv ep fp ∧ HM M1 101 (r ((f + (c5 - 1)) % 8)) ∧ YM M1 173 f (c5 - 1) r ∧ e_fh 100 M M1) ∧ M' = va_up M1 382 (cL 3 1 (va_up g 0 (Int64.ofInt ((c5 : Int) - 1)))), ⟨by decide, by decide, by decide, by decide⟩, l_undo hx (by decide) (x_undo hx hH hY hrr hf8 hc8 (by omega)) (hN_wr (R := fun M1 => XO M1 100 sv ep fp ∧ HM M1 101 (r ((f + (c5 - 1)) % 8)) ∧ YM M1 173 f (c5 - 1) r ∧ e_fh 100 M M1) (fun M' h => (h.2.2.2 382 (by omega) (by omega)).trans hg0) True trivial (fun z => i32 z) hw) nE_wr, fun k M' n' hP => ?_⟩
    obtain ⟨rfl, rfl, M1, g, ⟨k1, k2, k3, k4⟩, hM⟩ := hP
    have hm := m_undo (r0 := r0) (Γ := Γ) (n := n') (mm_chg hX k4 hM) c5 hq5 hc8
    rw [if_neg h0, if_neg h0, if_neg h0] at hm
    refine ⟨by decide, _, hm, ?_⟩
    rintro r' M'' n'' ⟨e1, e2, hm2, hf2⟩
    have f1 : ∀ k, (125 ≤ k ∧ k < 173) ∨ (367 ≤ k) → M1 k = M k := fun k a => k4 k (by omega) (by omega)
    refine ⟨e2, _, hw, e1, fun _ => ⟨_, (hf2 382 (by omega)).trans (by rw [hM, va_up_self]), va_up_self _ _ _⟩, _, _, rfl, e2 ▸ LZ_in hn (σ := r ((f + (c5 - 1)) % 8)) (τ := τ) (ρ := ρ) (r := r) (f := f) (c5 := c5 - 1) (sv := sv) (ep := ep) (fp := fp) (v := v) (cap := cap) (l := l) (t := t) (nm := nm) (pl := pl) (s := s) ⟨k1, k2, HM_e (fun k h1 h2 => f1 k (by omega)) hT, HM_e (fun k h1 h2 => f1 k (by omega)) hS, k3, SM_fr hSM (fun k hk => f1 k (by omega)), BM_fr hBT (f1 _ (by omega)) (f1 _ (by omega)), hv9⟩ (fun k hk => by rw [hM, va_up_ne _ _ hk]) ⟨_, by rw [hM, va_up_self]⟩ (by rw [f1 383 (by omega)]; exact hgd) hf2 hm2 ?_ ?_⟩
    · have b2 := LB_up (B' := B + 2400) hbb (by omega) hB.2
      exact ⟨b2.1, b2.2.2.2.1 _ (by omega), b2.2.2.1, b2.2.2.2.1, b2.2.2.2.2.1, by omega, b2.2.2.2.2.2.2⟩
    · refine ⟨hV.2.2.1 (c5 - 1) (by omega), hV.2.1, fun i hi => hV.2.2.1 i (by omega), ⟨?_, hV.2.2.2.1.2⟩, hV.2.2.2.2⟩
      show (c5 : Int) - 1 = ((c5 - 1 : Nat) : Int)
      omega
theorem s_save (hB : 20 ≤ B ∧ B + 2400 ≤ 10000000) (hZ : LZ B M n q A) : StN r0 Γ B M n mX7_save mX8_save := by
  have hZ0 := hZ
  obtain ⟨hn, σ, τ, ρ, r, f, c5, sv, ep, fp, v, cap, l, t, nm, pl, s, ⟨hx, hH, hT, hS, hY, hSM, hBT, hv9⟩, hbb, hV, hX, ⟨g0, hg0⟩, hgd⟩ := hZ
  have hr := hbb.2.1.1
  have hi := hbb.2.1.2
  have rv := hV.1
  have b9 := hbb.1
  have q9 := hr.2.1
  have vk := RV_Vok rv hr (by omega)
  have q0 := hr.1 0 (by decide)
  refine ⟨2, 0, 0, 1, σ.sc 0, fun M' n' => n' = n ∧ XO M' 100 1 ep fp ∧ HM M' 149 σ ∧ e_fr2 149 173 100 M M', ⟨by decide, by decide, by decide, by decide⟩, ⟨by omega, by omega⟩, ⟨_, x_save hx hH hr hS, fun r' M' n' h => h⟩, fun M' n' hP => ?_⟩
  obtain ⟨rfl, k1, k2, k3⟩ := hP
  have hm := m_save (r0 := r0) (Γ := Γ) (n := n') (MM_fr (a := 100) (b := 173) (M := M) (fun k hk => k3 k (by omega) (by omega)) (by omega) hX)
  rw [rv.1.2.2.1] at hm
  refine ⟨_, hm, ?_⟩
  rintro r' M'' n'' ⟨e1, e2, hm2, hf2⟩
  refine ⟨e2, e1, _, _, e2 ▸ LZ_in hn (σ := σ) (τ := τ) (ρ := σ) (r := r) (f := f) (c5 := c5) (sv := 1) (ep := ep) (fp := fp) (v := v) (cap := cap) (l := l) (t := t) (nm := nm) (pl := pl) (s := s) ⟨k1, HM_e (fun k h1 h2 => k3 k (by omega) (by omega)) hH, HM_e (fun k h1 h2 => k3 k (by omega) (by omega)) hT, k2, YM_e (fun k h1 h2 => k3 k (by omega) (by omega)) hY, SM_fr hSM (fun k hk => k3 k (by omega) (by omega)), BM_fr hBT (k3 _ (by omega) (by omega)) (k3 _ (by omega) (by omega)), hv9⟩ (fun k _ => rfl) ⟨g0, by rw [k3 382 (by omega) (by omega)]; exact hg0⟩ (by rw [k3 383 (by omega) (by omega)]; exact hgd) hf2 hm2 ?_ ?_⟩
  · have b2 := LB_up (B' := B + 2400) hbb (by omega) hB.2
    exact ⟨b2.1, b2.2.1, b2.2.1, b2.2.2.2⟩
  · exact ⟨hV.1, hV.1, hV.2.2.1, ⟨hV.2.2.2.1.1, rfl, hV.2.2.2.1.2.2⟩, ⟨Or.inr rfl, hV.2.2.2.2.1.2⟩, hV.2.2.2.2.2⟩
theorem s_restore (hB : 20 ≤ B ∧ B + 2400 ≤ 10000000) (hZ : LZ B M n q A) : StK r0 Γ B M n mL_restore mX8_restore [vR 100, vR 382] [vR 373] := by
  have hZ0 := hZ
  obtain ⟨hn, σ, τ, ρ, r, f, c5, sv, ep, fp, v, cap, l, t, nm, pl, s, ⟨hx, hH, hT, hS, hY, hSM, hBT, hv9⟩, hbb, hV, hX, ⟨g0, hg0⟩, hgd⟩ := hZ
  have hr := hbb.2.1.1
  have hi := hbb.2.1.2
  have rv := hV.1
  have b9 := hbb.1
  have q9 := hr.2.1
  have vk := RV_Vok rv hr (by omega)
  have hq10 := hV.2.2.2.1.2.1
  have hsv := hV.2.2.2.2.1.1
  have hrr := hbb.2.2.1.1
  have q0 := hrr.1 0 (by decide)
  have q2 := hrr.2.1
  by_cases h0 : sv = 0
  · refine ⟨3, 1, 6, 1, Pex M n 1, ⟨by decide, by decide, by decide, by decide⟩, l_restore hx (by decide) (x_restoreX hx hH hS hrr hY h0) nN_rt (fun E M' n' ⟨h1, h2, h3⟩ => by cases h1; exact ⟨rfl, rfl, h3, h2⟩), fun k M' n' hP => ?_⟩
    obtain ⟨rfl, rfl, rfl⟩ := hP
    have hm := m_restore (r0 := r0) (Γ := Γ) (n := n') hX (by omega)
    rw [if_pos (c := q 10 = 0) (by omega), if_pos (c := q 10 = 0) (by omega), if_pos (c := q 10 = 0) (by omega)] at hm
    exact ⟨by decide, fin_q hm hB hZ0 (by decide) rfl (fun e => absurd e (by decide)) ⟨rfl, rfl, rfl, rfl, rfl, rfl, rfl⟩ ⟨rfl, rfl, rfl, rfl, rfl⟩⟩
  · have hw : i32 (ρ.sc 0) := ⟨by omega, by omega⟩
    refine ⟨3, 0, 0, 1, fun k M' n' => k = 0 ∧ n' = n ∧ ∃ (M1 : Mem) (g : Nat → Int64), (XO M1 100 sv ep fp ∧ HM M1 101 ρ ∧ YM M1 173 f 0 r ∧ e_fh 100 M M1) ∧ M' = va_up M1 382 (cL 3 1 (va_up g 0 (Int64.ofInt (ρ.sc 0)))), ⟨by decide, by decide, by decide, by decide⟩, l_restore hx (by decide) (x_restore hx hH hS hrr hY (by omega)) (hN_wr (R := fun M1 => XO M1 100 sv ep fp ∧ HM M1 101 ρ ∧ YM M1 173 f 0 r ∧ e_fh 100 M M1) (fun M' h => (h.2.2.2 382 (by omega) (by omega)).trans hg0) True trivial (fun z => i32 z) hw) nE_wr, fun k M' n' hP => ?_⟩
    obtain ⟨rfl, rfl, M1, g, ⟨k1, k2, k3, k4⟩, hM⟩ := hP
    have hm := m_restore (r0 := r0) (Γ := Γ) (n := n') (mm_chg hX k4 hM) (by omega)
    rw [if_neg (c := q 10 = 0) (by omega), if_neg (c := q 10 = 0) (by omega), if_neg (c := q 10 = 0) (by omega), hV.2.1.1.2.2.1] at hm
    refine ⟨by decide, _, hm, ?_⟩
    rintro r' M'' n'' ⟨e1, e2, hm2, hf2⟩
    have f1 : ∀ k, (125 ≤ k ∧ k < 173) ∨ (367 ≤ k) → M1 k = M k := fun k a => k4 k (by omega) (by omega)
    refine ⟨e2, _, hw, e1, fun _ => ⟨_, (hf2 382 (by omega)).trans (by rw [hM, va_up_self]), va_up_self _ _ _⟩, _, _, rfl, e2 ▸ LZ_in hn (σ := ρ) (τ := τ) (ρ := ρ) (r := r) (f := f) (c5 := 0) (sv := sv) (ep := ep) (fp := fp) (v := v) (cap := cap) (l := l) (t := t) (nm := nm) (pl := pl) (s := s) ⟨k1, k2, HM_e (fun k h1 h2 => f1 k (by omega)) hT, HM_e (fun k h1 h2 => f1 k (by omega)) hS, k3, SM_fr hSM (fun k hk => f1 k (by omega)), BM_fr hBT (f1 _ (by omega)) (f1 _ (by omega)), hv9⟩ (fun k hk => by rw [hM, va_up_ne _ _ hk]) ⟨_, by rw [hM, va_up_self]⟩ (by rw [f1 383 (by omega)]; exact hgd) hf2 hm2 ?_ ?_⟩
    · have b2 := LB_up (B' := B + 2400) hbb (by omega) hB.2
      exact ⟨b2.1, b2.2.2.1, b2.2.2.1, b2.2.2.2.1, b2.2.2.2.2.1, by omega, b2.2.2.2.2.2.2⟩
    · exact ⟨hV.2.1, hV.2.1, fun i hi => absurd hi (by omega), ⟨rfl, hV.2.2.2.1.2⟩, hV.2.2.2.2⟩
theorem s_type (hP9 : PV Γ) (hB : 20 ≤ B ∧ B + 2400 ≤ 10000000) (hZ : LZ B M n q A) (z : Int) (hz : 0 ≤ z ∧ z ≤ 65535) : StK r0 Γ B M n mL_type mX8_type [vR 100, vI z, vR 382] [vR 373, vI z] := by
  have hZ0 := hZ
  obtain ⟨hn, σ, τ, ρ, r, f, c5, sv, ep, fp, v, cap, l, t, nm, pl, s, ⟨hx, hH, hT, hS, hY, hSM, hBT, hv9⟩, hbb, hV, hX, ⟨g0, hg0⟩, hgd⟩ := hZ
  have hr := hbb.2.1.1
  have hi := hbb.2.1.2
  have rv := hV.1
  have b9 := hbb.1
  have q9 := hr.2.1
  have vk := RV_Vok rv hr (by omega)
  have hql := hV.2.2.2.1.2.2.2.2
  have hl60 := hbb.2.2.2.2.2.2.1
  have hv8 : v = 100 + 269 ∨ 100 + 273 ≤ v := by omega
  have qk := hSM.2.2.1.2.2.2.2.1
  by_cases h1 : 32 ≤ z ∧ z ≤ 126
  · have h19 := h1
    by_cases h2 : 60 ≤ l
    · have T : tType q z = 2 := (if_pos h1).trans (if_pos (by omega))
      refine ⟨8, 1, 6, 1, Pex M n 2, ⟨by decide, by decide, by decide, by decide⟩, l_type z hx (by decide) (x_typeX2 hx hSM hv8 z h1 h2) nN_rt (fun E M' n' ⟨h1, h2, h3⟩ => by cases h1; exact Or.inr ⟨rfl, rfl, h3, h2⟩), fun k M' n' hP => ?_⟩
      obtain ⟨rfl, rfl, rfl⟩ := hP
      have hm := m_type (r0 := r0) (Γ := Γ) (n := n') hX z ⟨by omega, by omega⟩ l hql hl60
      rw [if_neg (show ¬ tType q z = 0 by rw [T]; decide), if_neg (show ¬ tType q z = 0 by rw [T]; decide), if_neg (show ¬ tType q z = 0 by rw [T]; decide), T] at hm
      exact ⟨by decide, fin_q hm hB hZ0 (by decide) rfl (fun e => absurd e (by decide)) ⟨rfl, rfl, rfl, rfl, rfl, rfl, rfl⟩ ⟨rfl, rfl, rfl, rfl, rfl⟩⟩
    · have T : tType q z = 0 := (if_pos h1).trans (if_neg (by omega))
      have hw : i32 ((l : Int) + 1) := ⟨by omega, by omega⟩
      have key : ∀ (n1 v1 cap1 : Nat) (t1 : Nat → Int) (M1 M' : Mem) (g : Nat → Int64), n ≤ n1 → (v1 = 369 ∨ (384 ≤ v1 ∧ v1 < n1)) → SM M1 367 v1 cap1 (l + 1) t1 nm pl → (∀ k, k ≠ 368 → k ≠ v1 → M1 k = M k) → (∀ j, j < l → t1 j = t j) → t1 l = z → M' = va_up M1 382 (cL 3 1 (va_up g 0 (Int64.ofInt ((l : Int) + 1)))) → i32 0 ∧ Cw r0 Γ mX8_type 1 0 0 [vR 373, vI z] M' n1 (fun r' M'' n'' => n'' = n1 ∧ ∃ b : Int, i32 b ∧ r' = .inl (some (vI b)) ∧ ((0 : Int) = 0 → ∃ g, M'' 382 = cL 3 1 g ∧ g 0 = Int64.ofInt b) ∧ ∃ q A, q 6 = 0 ∧ LZ (B + 2400) M'' n'' q A) := fun n1 v1 cap1 t1 M1 M' g hn1 hv1 hS1 hf1 ht1 htl hM => by
        have hM9 : ∀ k, k ≠ 382 → M' k = M1 k := fun k hk => by rw [hM, va_up_ne _ _ hk]
        have hmm : MM M' 373 q A := ⟨by decide, (hM9 _ (by omega)).trans ((hf1 _ (by omega) (by omega)).trans hX.2.1), (hM9 _ (by omega)).trans ((hf1 _ (by omega) (by omega)).trans hX.2.2.1), (hM9 _ (by omega)).trans ((hf1 _ (by omega) (by omega)).trans hX.2.2.2.1), (hM9 _ (by omega)).trans ((hf1 _ (by omega) (by omega)).trans hX.2.2.2.2.1), (hM9 _ (by omega)).trans ((hf1 _ (by omega) (by omega)).trans hX.2.2.2.2.2.1), (hM9 _ (by omega)).trans ((hf1 _ (by omega) (by omega)).trans hX.2.2.2.2.2.2.1), (hM9 _ (by omega)).trans ((hf1 _ (by omega) (by omega)).trans hX.2.2.2.2.2.2.2.1), (hM9 _ (by omega)).trans ((hf1 _ (by omega) (by omega)).trans hX.2.2.2.2.2.2.2.2.1), (hM9 _ (by omega)).trans ((hf1 _ (by omega) (by omega)).trans hX.2.2.2.2.2.2.2.2.2)⟩
        have hm := m_type (r0 := r0) (Γ := Γ) (n := n1) hmm z ⟨by omega, by omega⟩ l hql hl60
        rw [if_pos T, if_pos T, if_pos T] at hm
        refine ⟨by decide, _, hm, ?_⟩
        rintro r' M'' n'' ⟨e1, e2, hm2, hf2⟩
        refine ⟨e2, _, hw, e1, fun _ => ⟨_, (hf2 382 (by omega)).trans (by rw [hM, va_up_self]), va_up_self _ _ _⟩, _, _, rfl, e2 ▸ LZ_in (by omega) (σ := σ) (τ := τ) (ρ := ρ) (r := r) (f := f) (c5 := c5) (sv := sv) (ep := ep) (fp := fp) (v := v1) (cap := cap1) (l := l + 1) (t := t1) (nm := nm) (pl := pl) (s := s) ⟨(hf1 _ (by omega) (by omega)).trans hx, HM_e (fun k h1 h2 => hf1 k (by omega) (by omega)) hH, HM_e (fun k h1 h2 => hf1 k (by omega) (by omega)) hT, HM_e (fun k h1 h2 => hf1 k (by omega) (by omega)) hS, YM_e (fun k h1 h2 => hf1 k (by omega) (by omega)) hY, hS1, BM_fr hBT (hf1 _ (by omega) (by omega)) (hf1 _ (by omega) (by omega)), hv1⟩ hM9 ⟨_, by rw [hM, va_up_self]⟩ (by rw [hf1 383 (by omega) (by omega)]; exact hgd) hf2 hm2 ?_ ?_⟩
        · have b2 := LB_up (B' := B + 2400) hbb (by omega) hB.2
          exact ⟨b2.1, b2.2.1, b2.2.2.1, b2.2.2.2.1, b2.2.2.2.2.1, b2.2.2.2.2.2.1, by omega, b2.2.2.2.2.2.2.2⟩
        · refine ⟨hV.1, hV.2.1, hV.2.2.1, ⟨hV.2.2.2.1.1, hV.2.2.2.1.2.1, hV.2.2.2.1.2.2.1, hV.2.2.2.1.2.2.2.1, rfl⟩, hV.2.2.2.2.1, fun j hj => ?_, hV.2.2.2.2.2.2⟩
          show t1 j = va_up (A 6) l z j ∧ 32 ≤ va_up (A 6) l z j ∧ va_up (A 6) l z j ≤ 126
          by_cases g9 : j = l
          · subst g9; rw [va_up_self]; exact ⟨htl, h1⟩
          · rw [va_up_ne _ _ g9, ht1 j (by omega)]; exact hV.2.2.2.2.2.1 j (by omega)
      by_cases h3 : l < cap
      · refine ⟨8, 0, 0, 1, fun k M' n' => k = 0 ∧ n' = n ∧ ∃ (M1 : Mem) (g : Nat → Int64), (SM M1 367 v cap (l + 1) (va_up t l z) nm pl ∧ e_f2 368 v M M1) ∧ M' = va_up M1 382 (cL 3 1 (va_up g 0 (Int64.ofInt ((l : Int) + 1)))), ⟨by decide, by decide, by decide, by decide⟩, l_type z hx (by decide) (x_type hP9 hx hSM hv8 z h1 (by omega) h3) (hN_wr (R := fun M1 => SM M1 367 v cap (l + 1) (va_up t l z) nm pl ∧ e_f2 368 v M M1) (fun M' h => (h.2 382 (by omega) (by omega)).trans hg0) True trivial (fun z => i32 z) hw) nE_wr, fun k M' n' hP => ?_⟩
        obtain ⟨rfl, rfl, M1, g, ⟨k1, k2⟩, hM⟩ := hP
        exact key n' v cap _ M1 M' g (Nat.le_refl _) hv9 k1 k2 (fun j hj => va_up_ne _ _ (by omega)) (va_up_self _ _ _) hM
      · refine ⟨8, 1, l + 2 + l, 1, fun k M' n' => k = 0 ∧ n' = n + 1 ∧ ∃ (M1 : Mem) (g : Nat → Int64), (SM M1 367 n (l + 2 + l) (l + 1) (va_up (va_cpy t (fun _ => 0) 0 0 l) l z) nm pl ∧ e_f2 368 n M M1) ∧ M' = va_up M1 382 (cL 3 1 (va_up g 0 (Int64.ofInt ((l : Int) + 1)))), ⟨by decide, by decide, by omega, by decide⟩, l_type z hx (by decide) (x_typeG hP9 hx hSM hv8 z h1 (by omega) (by omega) (by omega) (by omega)) (hN_wr (R := fun M1 => SM M1 367 n (l + 2 + l) (l + 1) (va_up (va_cpy t (fun _ => 0) 0 0 l) l z) nm pl ∧ e_f2 368 n M M1) (fun M' h => (h.2 382 (by omega) (by omega)).trans hg0) True trivial (fun z => i32 z) hw) nE_wr, fun k M' n' hP => ?_⟩
        obtain ⟨rfl, rfl, M1, g, ⟨k1, k2⟩, hM⟩ := hP
        refine key (n + 1) n _ _ M1 M' g (by omega) (by omega) k1 k2 (fun j hj => ?_) (va_up_self _ _ _) hM
        rw [va_up_ne _ _ (by omega)]
        show (if 0 ≤ j ∧ j < 0 + l then t (0 + (j - 0)) else 0) = t j
        rw [if_pos (by omega), show 0 + (j - 0) = j from by omega]
  · have T : tType q z = 1 := if_neg h1
    refine ⟨8, 1, 6, 1, Pex M n 1, ⟨by decide, by decide, by decide, by decide⟩, l_type z hx (by decide) (x_typeX1 hx hSM hv8 z hz h1) nN_rt (fun E M' n' ⟨h1, h2, h3⟩ => by cases h1; exact Or.inl ⟨rfl, rfl, h3, h2⟩), fun k M' n' hP => ?_⟩
    obtain ⟨rfl, rfl, rfl⟩ := hP
    have hm := m_type (r0 := r0) (Γ := Γ) (n := n') hX z ⟨by omega, by omega⟩ l hql hl60
    rw [if_neg (show ¬ tType q z = 0 by rw [T]; decide), if_neg (show ¬ tType q z = 0 by rw [T]; decide), if_neg (show ¬ tType q z = 0 by rw [T]; decide), T] at hm
    exact ⟨by decide, fin_q hm hB hZ0 (by decide) rfl (fun e => absurd e (by decide)) ⟨rfl, rfl, rfl, rfl, rfl, rfl, rfl⟩ ⟨rfl, rfl, rfl, rfl, rfl⟩⟩
end SF
