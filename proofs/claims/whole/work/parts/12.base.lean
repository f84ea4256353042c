/-! contracts: words that all of them use -/
/-- the method ends with r, the memory as it was -/
def e_rt (r : Rv) (M : Mem) (n : Nat) : Rv → Mem → Nat → Prop := fun r' M' n' => r' = r ∧ M' = M ∧ n' = n
/-- the method returns v, no cell comes, the memory behind it is as P says -/
def e_wr (v : Option aV) (n : Nat) (P : Mem → Prop) : Rv → Mem → Nat → Prop := fun r' M' n' => r' = .inl v ∧ n' = n ∧ P M'
/-- outside S nothing changed -/
def e_fr (S : Nat → Prop) (M M' : Mem) : Prop := ∀ k, ¬ S k → M' k = M k
section BS
variable {Λ : Ls} {Γ : Cx} {X : MD} {d mc ms : Nat} {Q : Rv → Mem → Nat → Prop} {pc : Nat} {ls : List (Option aV)} {st : List aV} {M : Mem} {n kc ks : Nat}
theorem e_kr {v : Option aV} (kk : G Λ Γ X d mc ms Q pc ls (v.toList ++ st) M n kc ks) : ∀ v' M' n', e_rt (.inl v) M n (.inl v') M' n' → n ≤ n' → G Λ Γ X d mc ms Q pc ls (v'.toList ++ st) M' n' (kc + 0) (ks + 0) := by
  rintro v' M' n' ⟨h1, rfl, rfl⟩ -
  cases h1
  exact kk
theorem e_kx {v : Option aV} : ∀ E M' n', e_rt (.inl v) M n (.inr E) M' n' → n ≤ n' → GX Λ Γ X d mc ms Q E pc ls M' n' (kc + 0) (ks + 0) := by
  rintro E M' n' ⟨h1, -, -⟩
  cases h1
theorem e_kw {v : Option aV} {P : Mem → Prop} {mc' ms' : Nat} (kk : ∀ M', P M' → G Λ Γ X d mc ms Q pc ls (v.toList ++ st) M' n (kc + mc') (ks + ms')) : ∀ v' M' n', e_wr v n P (.inl v') M' n' → n ≤ n' → G Λ Γ X d mc ms Q pc ls (v'.toList ++ st) M' n' (kc + mc') (ks + ms') := by
  rintro v' M' n' ⟨h1, rfl, h2⟩ -
  cases h1
  exact kk M' h2
theorem e_kwx {v : Option aV} {P : Mem → Prop} {mc' ms' : Nat} : ∀ E M' n', e_wr v n P (.inr E) M' n' → n ≤ n' → GX Λ Γ X d mc ms Q E pc ls M' n' (kc + mc') (ks + ms') := by
  rintro E M' n' ⟨h1, -, -⟩
  cases h1
end BS
theorem e_down {P : Nat → Prop} (N : Nat) (h : ∀ k, k ≤ N → (k < N → P (k + 1)) → P k) : ∀ k, k ≤ N → P k := by
  have H : ∀ t k, k + t = N → P k := by
    intro t
    induction t with
    | zero => intro k hk; exact h k (by omega) (fun h9 => absurd h9 (by omega))
    | succ t ih => intro k hk; exact h k (by omega) (fun _ => ih (k + 1) (by omega))
  intro k hk
  exact H (N - k) k (by omega)
theorem e_mem {α : Type} {l : List α} {a : α} (i : Nat) (h : l[i]? = some a) : a ∈ l := List.mem_of_getElem? h
