/-! contracts: words that all of them use -/
/-- the method ends with r, the memory as it was -/
def e_rt (r : Rv) (M : Mem) (n : Nat) : Rv → Mem → Nat → Prop := fun r' M' n' => r' = r ∧ M' = M ∧ n' = n
/-- the method returns v, no cell comes, the memory behind it is as P says -/
def e_wr (v : Option aV) (n : Nat) (P : Mem → Prop) : Rv → Mem → Nat → Prop := fun r' M' n' => r' = .inl v ∧ n' = n ∧ P M'
section BS
variable {Λ : Ls} {Γ : Cx} {X : MD} {d mc ms : Nat} {Q : Rv → Mem → Nat → Prop} {pc : Nat} {ls : List (Option aV)} {st : List aV} {M : Mem} {n kc ks : Nat}
theorem e_kr {v : Option aV} (kk : G Λ Γ X d mc ms Q pc ls (v.toList ++ st) M n kc ks) : ∀ v' M' n', e_rt (.inl v) M n (.inl v') M' n' → n ≤ n' → G Λ Γ X d mc ms Q pc ls (v'.toList ++ st) M' n' (kc + 0) (ks + 0) := by
  rintro v' M' n' ⟨h1, rfl, rfl⟩ -
  cases h1
  exact kk
theorem e_kx {v : Option aV} : ∀ E M' n', e_rt (.inl v) M n (.inr E) M' n' → n ≤ n' → GX Λ Γ X d mc ms Q E pc ls M' n' (kc + 0) (ks + 0) := by
  rintro E M' n' ⟨h1, -, -⟩
  cases h1
theorem e_kw {v : Option aV} {P : Mem → Prop} {mc' ms' n0 : Nat} (kk : ∀ M', P M' → G Λ Γ X d mc ms Q pc ls (v.toList ++ st) M' n (kc + mc') (ks + ms')) : ∀ v' M' n', e_wr v n P (.inl v') M' n' → n0 ≤ n' → G Λ Γ X d mc ms Q pc ls (v'.toList ++ st) M' n' (kc + mc') (ks + ms') := by
  rintro v' M' n' ⟨h1, rfl, h2⟩ -
  cases h1
  exact kk M' h2
theorem e_kwx {v : Option aV} {P : Mem → Prop} {mc' ms' n0 : Nat} : ∀ E M' n', e_wr v n P (.inr E) M' n' → n0 ≤ n' → GX Λ Γ X d mc ms Q E pc ls M' n' (kc + mc') (ks + ms') := by
  rintro E M' n' ⟨h1, -, -⟩
  cases h1
end BS
theorem e_down {P : Nat → Prop} (N : Nat) (h : ∀ k, k ≤ N → (k < N → P (k + 1)) → P k) : ∀ k, k ≤ N → P k := by
  have H : ∀ t k, k + t = N → P k := by
    intro t
    induction t with
    | zero => intro k hk; exact h k (by omega) (fun h9 => absurd h9 (by omega))
    | succ t ih => intro k hk; exact h k (by omega) (fun _ => ih (k + 1) (by omega))
  intro k hk
  exact H (N - k) k (by omega)
theorem e_mem {α : Type} {l : List α} {a : α} (i : Nat) (h : l[i]? = some a) : a ∈ l := List.mem_of_getElem? h
/-! cells that agree on their length are the same cell -/
theorem e_arr {cI : ClassId} {N : Nat} {f g : Nat → Value} (h : ∀ j, j < N → f j = g j) : arrV cI N f = arrV cI N g := by
  unfold arrV
  have e : (fun j : Fin N => f j.val) = fun j : Fin N => g j.val := funext fun j => h j.val j.isLt
  rw [e]
theorem e_Wx {Γ : Cx} {ad : Nat → Nat} {M : Mem} {n k : Nat} {H : Heap} {c c' : aE} (hW : e_Wp Γ ad M n H) (hk : e_NC ≤ k) (hM : M k = c) (hat : ∀ a : Nat, va_at Γ.D vwCl (a, e_ce Γ.tys ad c) H → va_at Γ.D vwCl (a, e_ce Γ.tys ad c') H) (hwf : e_wfE n c → e_wfE n c') : e_Wp Γ ad (va_up M k c') n H := by
  by_cases hkn : k < n
  · have hp := e_ws_get (tys := Γ.tys) (ad := ad) (M := M) hk hkn
    rw [hM] at hp
    refine ⟨hW.1, fun j hj => ?_, fun j h1 h2 => ?_, ?_, ?_, hW.2.2.2.2.2⟩
    · rw [va_up_ne _ _ (by omega)]; exact hW.2.1 j hj
    · by_cases e : j = k
      · subst e
        rw [va_up_self]
        exact hwf (hM ▸ hW.2.2.1 j h1 h2)
      · rw [va_up_ne _ _ e]; exact hW.2.2.1 j h1 h2
    · rw [← e_ws_set hk hkn]
      exact hW.2.2.2.1.set hW.2.2.2.2.1 hp (hat _ (hW.2.2.2.1 _ _ hp)) (fun q _ => rfl)
    · rw [← e_ws_set hk hkn]
      exact hW.2.2.2.2.1.set hp
  · have e0 : e_ws Γ.tys ad (va_up M k c') n = e_ws Γ.tys ad M n := by
      unfold e_ws
      refine List.map_congr_left fun j hj => ?_
      have hj2 := List.mem_range.mp hj
      rw [va_up_ne _ _ (by omega)]
    refine ⟨hW.1, fun j hj => ?_, fun j h1 h2 => ?_, ?_, ?_, hW.2.2.2.2.2⟩
    · rw [va_up_ne _ _ (by omega)]; exact hW.2.1 j hj
    · rw [va_up_ne _ _ (by omega)]; exact hW.2.2.1 j h1 h2
    · rw [e0]; exact hW.2.2.2.1
    · rw [e0]; exact hW.2.2.2.2.1
section NX
variable {Λ : Ls} {Γ : Cx} {X : MD} {d mc ms : Nat} {Q : Rv → Mem → Nat → Prop} {pc : Nat} {ls : List (Option aV)} {st : List aV} {M : Mem} {n kc ks : Nat}
theorem g_nI {k kd len : Nat} {f : Nat → Int} (g : Nat → Int) (hk : 100 ≤ k) (hM : M k = cI kd len f) (hfg : ∀ j, j < len → f j = g j) (kk : ∀ M', M' = va_up M k (cI kd len g) → G Λ Γ X d mc ms Q pc ls st M' n kc ks) : G Λ Γ X d mc ms Q pc ls st M n kc ks := by
  intro hE p e R s m args below meth c H locs ad ad0 n0 lsA hF h1 h2 hX hW hS hL hs
  refine kk _ rfl hE p e R s m args below meth c H locs ad ad0 n0 lsA hF h1 h2 hX (e_Wx hW hk hM (fun a h0 => ?_) (fun h => h)) hS hL hs
  have h3 : H[a]? = some (vp_cell (Γ.tys.getD kd (0, .int)).1 (len, .inl fun j => iI (f j))) := h0
  show H[a]? = some (vp_cell (Γ.tys.getD kd (0, .int)).1 (len, .inl fun j => iI (g j)))
  exact h3.trans (congrArg some (e_arr (f := fun j => Value.int (iI (f j))) (g := fun j => Value.int (iI (g j))) fun j hj => congrArg (fun z => Value.int (iI z)) (hfg j hj)))
theorem g_nR {k kd len : Nat} {f : Nat → Option Nat} (g : Nat → Option Nat) (hk : 100 ≤ k) (hM : M k = cR kd len f) (hfg : ∀ j, j < len → f j = g j) (hg : ∀ j, len ≤ j → g j = none) (kk : ∀ M', M' = va_up M k (cR kd len g) → G Λ Γ X d mc ms Q pc ls st M' n kc ks) : G Λ Γ X d mc ms Q pc ls st M n kc ks := by
  intro hE p e R s m args below meth c H locs ad ad0 n0 lsA hF h1 h2 hX hW hS hL hs
  refine kk _ rfl hE p e R s m args below meth c H locs ad ad0 n0 lsA hF h1 h2 hX (e_Wx hW hk hM (fun a h0 => ?_) (fun h => ⟨h.1, fun j r hj => ?_⟩)) hS hL hs
  · have h3 : H[a]? = some (vp_cell (Γ.tys.getD kd (0, .int)).1 (len, .inr (.inr (.inr (.inr fun j => (f j).map ad))))) := h0
    show H[a]? = some (vp_cell (Γ.tys.getD kd (0, .int)).1 (len, .inr (.inr (.inr (.inr fun j => (g j).map ad)))))
    exact h3.trans (congrArg some (e_arr (f := fun j => va_rf ((f j).map ad)) (g := fun j => va_rf ((g j).map ad)) fun j hj => congrArg (fun z => va_rf (Option.map ad z)) (hfg j hj)))
  · by_cases hj2 : j < len
    · exact h.2 j r ((hfg j hj2).trans hj)
    · rw [hg j (by omega)] at hj; cases hj
end NX
/-- outside the cells a .. b-1 nothing changed -/
def e_fr (a b : Nat) (M M' : Mem) : Prop := ∀ k, (k < a ∨ b ≤ k) → M' k = M k
theorem e_fr_refl {a b : Nat} {M : Mem} : e_fr a b M M := fun _ _ => rfl
theorem e_fr_tr {a b : Nat} {M M1 M2 : Mem} (h1 : e_fr a b M M1) (h2 : e_fr a b M1 M2) : e_fr a b M M2 := fun k h => (h2 k h).trans (h1 k h)
theorem e_fr_w {a b c d : Nat} {M M1 : Mem} (h1 : e_fr a b M M1) (h : c ≤ a ∧ b ≤ d) : e_fr c d M M1 := fun k h2 => h1 k (by omega)
theorem e_fr_up {a b k : Nat} {M M' : Mem} {v : aE} (h : M' = va_up M k v) (h1 : a ≤ k ∧ k < b) : e_fr a b M M' := fun j hj => by rw [h, va_up_ne _ _ (by omega)]
theorem e_cpy0 {f g : Nat → Int} {len j : Nat} (hj : j < len) : va_cpy f g 0 0 len j = f j := by
  unfold va_cpy
  rw [if_pos ⟨by omega, by omega⟩, Nat.zero_add, Nat.sub_zero]
theorem b_r {p : Prop} [Decidable p] : -2147483648 ≤ (if p then (1 : Int) else 0) ∧ (if p then (1 : Int) else 0) ≤ 2147483647 := by split <;> omega
theorem b_0 {p : Prop} [Decidable p] : (if p then (1 : Int) else 0) = 0 ↔ ¬ p := by
  split
  · exact ⟨fun h => absurd h (by decide), fun h => absurd ‹p› h⟩
  · exact ⟨fun _ => ‹¬ p›, fun _ => rfl⟩
theorem b_1 {p : Prop} [Decidable p] : ¬ (if p then (1 : Int) else 0) = 0 ↔ p := by
  rw [b_0]; exact Decidable.not_not
theorem b_01 {p : Prop} [Decidable p] : (if p then (1 : Int) else 0) = 0 ∨ (if p then (1 : Int) else 0) = 1 := by
  split
  · exact Or.inr rfl
  · exact Or.inl rfl
section LW
variable {Λ : Ls} {Γ : Cx} {X : MD} {d mc ms : Nat} {Q : Rv → Mem → Nat → Prop} {pc : Nat} {ls : List (Option aV)} {st : List aV} {M : Mem} {n kc ks : Nat}
/-- the constants are as they were at the start -/
theorem g_low (kk : (∀ k, k < 100 → M k = Γ.cM k) → G Λ Γ X d mc ms Q pc ls st M n kc ks) : G Λ Γ X d mc ms Q pc ls st M n kc ks := by
  intro hE p e R s m args below meth c H locs ad ad0 n0 lsA hF h1 h2 hX hW hS hL hs
  exact kk (fun k hk => (hW.2.1 k hk).1) hE p e R s m args below meth c H locs ad ad0 n0 lsA hF h1 h2 hX hW hS hL hs
end LW
