/-! what holds between two calls of the law (by hand): the object at 100, the reference at 373, the two rows at 382 and 383 -/
def HRel (f c5 : Nat) (r : Nat → HS) (p : Nat → Int) : Prop := ∀ i, i < c5 → RV (r ((f + i) % 8)) (fun j => p (85 * i + j))
theorem RV_congr {σ : HS} {v v' : Nat → Int} (h : ∀ i, i < 85 → v' i = v i) (q : RV σ v) : RV σ v' := by
  obtain ⟨a, b, c, d⟩ := q
  refine ⟨?_, fun e he => RwL_congr (fun k hk => h _ (by omega)) (b e he), fun o ho => ?_, fun k hk => ?_⟩
  · rw [h 0 (by decide), h 1 (by decide), h 2 (by decide), h 3 (by decide), h 4 (by decide), h 5 (by decide), h 6 (by decide)]
    exact a
  · rw [h _ (by omega), h _ (by omega)]; exact c o ho
  · rw [h _ (by omega), h _ (by omega)]; exact d k hk
theorem HRel_push {f c5 : Nat} {r : Nat → HS} {p was : Nat → Int} {σ : HS} (h : HRel f c5 r p) (hw : RV σ was) (hf : f < 8) (hc : c5 ≤ 8) : HRel (yF f c5) (yC c5) (yR f c5 r σ) (ePast p was c5) := by
  intro i hi
  unfold yR
  by_cases e : c5 = 8
  · subst e
    have e1 : yF f 8 = (f + 1) % 8 := if_pos rfl
    have e2 : yC 8 = 8 := if_pos rfl
    rw [e1, e2]
    rw [e2] at hi
    have e3 : ePast p was 8 = va_cpy was (shN p 7) 0 595 85 := if_pos rfl
    rw [e3]
    by_cases g : i = 7
    · subst g
      rw [show ((f + 1) % 8 + 7) % 8 = ((f + 1) % 8 + (8 - 1)) % 8 from rfl, va_up_self]
      refine RV_congr (fun j hj => ?_) hw
      show (if 595 ≤ 85 * 7 + j ∧ 85 * 7 + j < 595 + 85 then was (0 + (85 * 7 + j - 595)) else _) = was j
      rw [if_pos (by omega), show 0 + (85 * 7 + j - 595) = j from by omega]
    · rw [va_up_ne _ _ (by omega)]
      have q := h (i + 1) (by omega)
      rw [show ((f + 1) % 8 + i) % 8 = (f + (i + 1)) % 8 from by omega]
      refine RV_congr (fun j hj => ?_) q
      show (if 595 ≤ 85 * i + j ∧ 85 * i + j < 595 + 85 then was (0 + (85 * i + j - 595)) else (if 85 * i + j < 85 * 7 then p (85 * i + j + 85) else p (85 * i + j))) = p (85 * (i + 1) + j)
      rw [if_neg (by omega), if_pos (by omega), show 85 * i + j + 85 = 85 * (i + 1) + j from by omega]
  · have e1 : yF f c5 = f := if_neg e
    have e2 : yC c5 = c5 + 1 := if_neg e
    rw [e1, e2]
    rw [e2] at hi
    have e3 : ePast p was c5 = va_cpy was p 0 (85 * c5) 85 := if_neg e
    rw [e3]
    by_cases g : i = c5
    · subst g
      rw [show i + 1 - 1 = i from by omega, va_up_self]
      refine RV_congr (fun j hj => ?_) hw
      show (if 85 * i ≤ 85 * i + j ∧ 85 * i + j < 85 * i + 85 then was (0 + (85 * i + j - 85 * i)) else _) = was j
      rw [if_pos (by omega), show 0 + (85 * i + j - 85 * i) = j from by omega]
    · rw [va_up_ne _ _ (by omega)]
      refine RV_congr (fun j hj => ?_) (h i (by omega))
      show (if 85 * c5 ≤ 85 * i + j ∧ 85 * i + j < 85 * c5 + 85 then was (0 + (85 * i + j - 85 * c5)) else p (85 * i + j)) = p (85 * i + j)
      rw [if_neg (by omega)]
def LC (M : Mem) (n : Nat) (σ τ ρ : HS) (r : Nat → HS) (f c5 : Nat) (sv ep fp : Int) (v cap l : Nat) (t nm : Nat → Int) (pl : Int) (s : TS) : Prop := XO M 100 sv ep fp ∧ HM M 101 σ ∧ HM M 125 τ ∧ HM M 149 ρ ∧ YM M 173 f c5 r ∧ SM M 367 v cap l t nm pl ∧ BT M 371 372 16 s ∧ (v = 369 ∨ (384 ≤ v ∧ v < n))
def LB (B : Int) (σ ρ : HS) (r : Nat → HS) (f c5 l : Nat) (nm : Nat → Int) : Prop := (20 ≤ B ∧ B ≤ 10000000) ∧ (Hok B σ ∧ HI σ) ∧ (Hok B ρ ∧ HI ρ) ∧ (∀ j, j < 8 → Hok B (r j) ∧ HI (r j)) ∧ f < 8 ∧ c5 ≤ 8 ∧ l ≤ 60 ∧ NB nm
def LV (q : Nat → Int) (A : Nat → Nat → Int) (σ ρ : HS) (r : Nat → HS) (f c5 : Nat) (sv ep fp : Int) (l : Nat) (t : Nat → Int) (s : TS) : Prop := RV σ (A 0) ∧ RV ρ (A 3) ∧ HRel f c5 r (A 4) ∧ (q 5 = (c5 : Int) ∧ q 10 = sv ∧ q 7 = ep ∧ q 8 = fp ∧ q 15 = (l : Int)) ∧ ((sv = 0 ∨ sv = 1) ∧ (-1 ≤ ep ∧ ep ≤ 100) ∧ (-1 ≤ fp ∧ fp ≤ 100)) ∧ (∀ j, j < l → t j = A 6 j ∧ 32 ≤ A 6 j ∧ A 6 j ≤ 126) ∧ (q 12 = (s.1 : Int) ∧ ∀ j, j < s.1 → s.2 j = A 5 j)
def LX (M : Mem) (q : Nat → Int) (A : Nat → Nat → Int) : Prop := MM M 373 q A ∧ (∃ g, M 382 = cL 3 1 g) ∧ ∃ g, M 383 = cD 4 1 g
def LZ (B : Int) (M : Mem) (n : Nat) (q : Nat → Int) (A : Nat → Nat → Int) : Prop := 384 ≤ n ∧ ∃ (σ τ ρ : HS) (r : Nat → HS) (f c5 : Nat) (sv ep fp : Int) (v cap l : Nat) (t nm : Nat → Int) (pl : Int) (s : TS), LC M n σ τ ρ r f c5 sv ep fp v cap l t nm pl s ∧ LB B σ ρ r f c5 l nm ∧ LV q A σ ρ r f c5 sv ep fp l t s ∧ LX M q A
section LS
variable {B : Int} {M M' : Mem} {n n' : Nat} {q q' : Nat → Int} {A A' : Nat → Nat → Int}
theorem LC_e {σ τ ρ : HS} {r : Nat → HS} {f c5 : Nat} {sv ep fp : Int} {v cap l : Nat} {t nm : Nat → Int} {pl : Int} {s : TS} (h : LC M n σ τ ρ r f c5 sv ep fp v cap l t nm pl s) (hf : ∀ k, (100 ≤ k ∧ k < 373) ∨ k = v → M' k = M k) (hn : n ≤ n') : LC M' n' σ τ ρ r f c5 sv ep fp v cap l t nm pl s := by
  obtain ⟨a1, a2, a3, a4, a5, a6, a7, a8⟩ := h
  exact ⟨(hf _ (by omega)).trans a1, HM_e (fun k h1 h2 => hf k (by omega)) a2, HM_e (fun k h1 h2 => hf k (by omega)) a3, HM_e (fun k h1 h2 => hf k (by omega)) a4, YM_e (fun k h1 h2 => hf k (by omega)) a5, SM_fr a6 (fun k hk => hf k (by omega)), BM_fr a7 (hf _ (by omega)) (hf _ (by omega)), by omega⟩
theorem LB_up {σ ρ : HS} {r : Nat → HS} {f c5 l : Nat} {nm : Nat → Int} {B' : Int} (h : LB B σ ρ r f c5 l nm) (h1 : B ≤ B') (h2 : B' ≤ 10000000) : LB B' σ ρ r f c5 l nm := ⟨⟨by have := h.1; omega, h2⟩, ⟨Hok_mono h.2.1.1 h1, h.2.1.2⟩, ⟨Hok_mono h.2.2.1.1 h1, h.2.2.1.2⟩, fun j hj => ⟨Hok_mono (h.2.2.2.1 j hj).1 h1, (h.2.2.2.1 j hj).2⟩, h.2.2.2.2⟩
/-- the reference has been asked: its row is as before, its fields of the relation too -/
theorem LZ_q {B' : Int} (h : LZ B M n q A) (hf : e_fr 373 382 M M') (hm : MM M' 373 q' A') (hq : q' 5 = q 5 ∧ q' 10 = q 10 ∧ q' 7 = q 7 ∧ q' 8 = q 8 ∧ q' 15 = q 15 ∧ q' 12 = q 12) (hA : A' 0 = A 0 ∧ A' 3 = A 3 ∧ A' 4 = A 4 ∧ A' 5 = A 5 ∧ A' 6 = A 6) (h1 : B ≤ B') (h2 : B' ≤ 10000000) : LZ B' M' n q' A' := by
  obtain ⟨hn, σ, τ, ρ, r, f, c5, sv, ep, fp, v, cap, l, t, nm, pl, s, hC, hB, hV, hX⟩ := h
  have hv := hC.2.2.2.2.2.2.2
  refine ⟨hn, σ, τ, ρ, r, f, c5, sv, ep, fp, v, cap, l, t, nm, pl, s, LC_e hC (fun k hk => hf k (by omega)) (Nat.le_refl _), LB_up hB h1 h2, ?_, hm, ?_, ?_⟩
  · unfold LV
    rw [hA.1, hA.2.1, hA.2.2.1, hA.2.2.2.1, hA.2.2.2.2, hq.1, hq.2.1, hq.2.2.1, hq.2.2.2.1, hq.2.2.2.2.1, hq.2.2.2.2.2]
    exact hV
  · rw [hf 382 (by omega)]; exact hX.2.1
  · rw [hf 383 (by omega)]; exact hX.2.2
theorem LZ_out (h : LZ B M n q A) {g : Nat → Int64} (hM : M' = va_up M 382 (cL 3 1 g)) : LZ B M' n q A := by
  obtain ⟨hn, σ, τ, ρ, r, f, c5, sv, ep, fp, v, cap, l, t, nm, pl, s, hC, hB, hV, hX⟩ := h
  have hv := hC.2.2.2.2.2.2.2
  have hf : ∀ k, k ≠ 382 → M' k = M k := fun k hk => by rw [hM, va_up_ne _ _ hk]
  refine ⟨hn, σ, τ, ρ, r, f, c5, sv, ep, fp, v, cap, l, t, nm, pl, s, LC_e hC (fun k hk => hf k (by omega)) (Nat.le_refl _), hB, hV, MM_fr (a := 382) (b := 383) (fun k hk => hf k (by omega)) (by omega) hX.1, ⟨g, by rw [hM, va_up_self]⟩, ?_⟩
  rw [hf 383 (by omega)]; exact hX.2.2
theorem LZ_outD (h : LZ B M n q A) {g : Nat → UInt64} (hM : M' = va_up M 383 (cD 4 1 g)) : LZ B M' n q A := by
  obtain ⟨hn, σ, τ, ρ, r, f, c5, sv, ep, fp, v, cap, l, t, nm, pl, s, hC, hB, hV, hX⟩ := h
  have hv := hC.2.2.2.2.2.2.2
  have hf : ∀ k, k ≠ 383 → M' k = M k := fun k hk => by rw [hM, va_up_ne _ _ hk]
  refine ⟨hn, σ, τ, ρ, r, f, c5, sv, ep, fp, v, cap, l, t, nm, pl, s, LC_e hC (fun k hk => hf k (by omega)) (Nat.le_refl _), hB, hV, MM_fr (a := 383) (b := 384) (fun k hk => hf k (by omega)) (by omega) hX.1, ?_, ⟨g, by rw [hM, va_up_self]⟩⟩
  rw [hf 382 (by omega)]; exact hX.2.1
end LS
/-- a contract under a weaker end -/
def Cw (r0 : Option Nat) (Γ : Cx) (X : MD) (d mc ms : Nat) (as : List aV) (M : Mem) (n : Nat) (R : Rv → Mem → Nat → Prop) : Prop := ∃ Q : Rv → Mem → Nat → Prop, Ct (e_L r0) Γ X d mc ms as M n Q ∧ ∀ r' M' n', Q r' M' n' → R r' M' n'
abbrev b01 (b : Int) : Prop := b = 0 ∨ b = 1
/-- a call of the law: first the class, by a helper of the law, then the reference -/
def StK (r0 : Option Nat) (Γ : Cx) (B : Int) (M : Mem) (n : Nat) (S : Int → Prop) (X Y : MD) (as bs : List aV) : Prop := ∃ (d mc ms d2 : Nat) (P : Int → Mem → Nat → Prop), (d ≤ 10 ∧ mc ≤ 2 ∧ ms ≤ 200 ∧ d2 ≤ 10) ∧ Ct (e_L r0) Γ X d mc ms as M n (fun r' M' n' => ∃ k : Int, r' = .inl (some (vI k)) ∧ P k M' n') ∧ ∀ k M' n', P k M' n' → i32 k ∧ (∃ fs : List aV, M' 373 = cO 9 fs) ∧ Cw r0 Γ Y d2 0 0 bs M' n' (fun r' M'' n'' => n'' = n' ∧ ∃ b : Int, S b ∧ r' = .inl (some (vI b)) ∧ (k = 0 → ∃ g, M'' 382 = cL 3 1 g ∧ g 0 = Int64.ofInt b) ∧ ∃ q A, q 6 = k ∧ LZ (B + 2400) M'' n'' q A)
/-- a call of the law without a helper -/
def StN (r0 : Option Nat) (Γ : Cx) (B : Int) (M : Mem) (n : Nat) (X Y : MD) : Prop := ∃ (d mc ms d2 : Nat) (w : Int) (P : Mem → Nat → Prop), (d ≤ 10 ∧ mc ≤ 2 ∧ ms ≤ 200 ∧ d2 ≤ 10) ∧ i32 w ∧ Cw r0 Γ X d mc ms [vR 100] M n (fun r' M' n' => r' = .inl (some (vI w)) ∧ P M' n') ∧ ∀ M' n', P M' n' → (∃ fs : List aV, M' 373 = cO 9 fs) ∧ Cw r0 Γ Y d2 0 0 [vR 373] M' n' (fun r' M'' n'' => n'' = n' ∧ r' = .inl (some (vI w)) ∧ ∃ q A, LZ (B + 2400) M'' n'' q A)
theorem LZ_mm {B : Int} {M : Mem} {n : Nat} {q : Nat → Int} {A : Nat → Nat → Int} (h : LZ B M n q A) : MM M 373 q A := by
  obtain ⟨-, σ, τ, ρ, r, f, c5, sv, ep, fp, v, cap, l, t, nm, pl, s, -, -, -, hX⟩ := h
  exact hX.1
section GL
variable {r0 : Option Nat} {Γ : Cx} {B : Int} {M : Mem} {n : Nat} {q : Nat → Int} {A : Nat → Nat → Int}
/-- the class gave w and changed nothing -/
abbrev Pok (M : Mem) (n : Nat) (w : Int) : Int → Mem → Nat → Prop := fun k M' n' => k = 0 ∧ n' = n ∧ ∃ g : Nat → Int64, M' = va_up M 382 (cL 3 1 (va_up g 0 (Int64.ofInt w)))
/-- the class threw and changed nothing -/
abbrev Pex (M : Mem) (n : Nat) (i : Int) : Int → Mem → Nat → Prop := fun k M' n' => k = i ∧ n' = n ∧ M' = M
theorem hN_rt {w : Int} (hw : i32 w) {g0 : Nat → Int64} (h : M 382 = cL 3 1 g0) : ∀ r1 M' n', e_rt (.inl (some (vI w))) M n (.inl r1) M' n' → ∃ (z : Int) (g : Nat → Int64), r1 = some (vI z) ∧ i32 z ∧ M' 382 = cL 3 1 g ∧ ∀ M'', M'' = va_up M' 382 (cL 3 1 (va_up g 0 (Int64.ofInt z))) → Pok M n w 0 M'' n' := by
  rintro r1 M' n' ⟨h1, rfl, rfl⟩
  cases h1
  exact ⟨w, g0, rfl, hw, h, fun M'' e => ⟨rfl, rfl, g0, e⟩⟩
theorem hN_rtB {w : Int} (hw : w = 0 ∨ w = 1) {g0 : Nat → Int64} (h : M 382 = cL 3 1 g0) : ∀ r1 M' n', e_rt (.inl (some (vI w))) M n (.inl r1) M' n' → ∃ (z : Int) (g : Nat → Int64), r1 = some (vI z) ∧ (z = 0 ∨ z = 1) ∧ M' 382 = cL 3 1 g ∧ ∀ M'', M'' = va_up M' 382 (cL 3 1 (va_up g 0 (Int64.ofInt z))) → Pok M n w 0 M'' n' := by
  rintro r1 M' n' ⟨h1, rfl, rfl⟩
  cases h1
  exact ⟨w, g0, rfl, hw, h, fun M'' e => ⟨rfl, rfl, g0, e⟩⟩
theorem nE_rt {v : Option aV} {R : String → Mem → Nat → Prop} : ∀ E M' n', e_rt (.inl v) M n (.inr E) M' n' → R E M' n' := by
  rintro E M' n' ⟨h1, -, -⟩
  cases h1
theorem nN_rt {E : String} {R : Option aV → Mem → Nat → Prop} : ∀ r1 M' n', e_rt (.inr E) M n (.inl r1) M' n' → R r1 M' n' := by
  rintro r1 M' n' ⟨h1, -, -⟩
  cases h1
/-- the reference's answer behind a class that changed nothing -/
theorem fin_q {S : Int → Prop} {Y : MD} {bs : List aV} {d : Nat} {T b : Int} {q' : Nat → Int} {A' : Nat → Nat → Int} {M1 : Mem} {n1 : Nat} {k : Int} (h : Ct (e_L r0) Γ Y d 0 0 bs M1 n1 (e_wr (some (vI b)) n1 fun M' => MM M' 373 q' A' ∧ e_fr 373 (373 + 9) M1 M')) (hB : 20 ≤ B ∧ B + 2400 ≤ 10000000) (hZ : LZ B M1 n1 q A) (hb : S b) (hk : k = T) (hg : k = 0 → ∃ g, M1 382 = cL 3 1 g ∧ g 0 = Int64.ofInt b) (hq : q' 6 = T ∧ q' 5 = q 5 ∧ q' 10 = q 10 ∧ q' 7 = q 7 ∧ q' 8 = q 8 ∧ q' 15 = q 15 ∧ q' 12 = q 12) (hA : A' 0 = A 0 ∧ A' 3 = A 3 ∧ A' 4 = A 4 ∧ A' 5 = A 5 ∧ A' 6 = A 6) : (∃ fs : List aV, M1 373 = cO 9 fs) ∧ Cw r0 Γ Y d 0 0 bs M1 n1 (fun r' M'' n'' => n'' = n1 ∧ ∃ b : Int, S b ∧ r' = .inl (some (vI b)) ∧ (k = 0 → ∃ g, M'' 382 = cL 3 1 g ∧ g 0 = Int64.ofInt b) ∧ ∃ q A, q 6 = k ∧ LZ (B + 2400) M'' n'' q A) := by
  refine ⟨⟨_, (LZ_mm hZ).2.1⟩, _, h, fun r' M' n' hh => ?_⟩
  obtain ⟨e1, e2, hm, hf⟩ := hh
  subst e2
  refine ⟨rfl, b, hb, e1, fun e => ?_, q', A', hq.1.trans hk.symm, LZ_q hZ hf hm hq.2 hA (by omega) hB.2⟩
  rw [hf 382 (by omega)]
  exact hg e
end GL
