/-! the law's entry: terms and addresses (by hand) -/
def adr (A : Array Value) (s : State) (t : Term) : Nat := match t.eval A s none [] s with
  | some (.ref a) => a
  | _ => 0
section AD
variable {A : Array Value} {s : State} {t u : Term}
theorem adr_of {a : Nat} (h : t.eval A s none [] s = some (.ref a)) : adr A s t = a := by
  unfold adr
  rw [h]
theorem adr_ev {nm : String} (h : (Cond.exactly t nm).before A s = true) : t.eval A s none [] s = some (.ref (adr A s t)) := by
  obtain ⟨a, c, cA, kA, q1, -⟩ := Cond.exactly_spec (args := A) (first := s) (o := none) (s := s) (idx := []) (t := t) (cls := nm) h
  rw [adr_of q1]
  exact q1
theorem eq_int {z : Int32} (h : (Cond.eq t (.int z)).before A s = true) : t.eval A s none [] s = some (.int z) := by
  cases hv : t.eval A s none [] s with
  | none => simp [Cond.before, Cond.holds, Cond.value, hv] at h
  | some w =>
    have hz : (Term.int z).eval A s none [] s = some (.int z) := rfl
    simp only [Cond.before, Cond.holds, Cond.value, hv, hz] at h
    cases w <;> simp_all
theorem eq_ref {a : Nat} (h : (Cond.eq t u).before A s = true) (hu : u.eval A s none [] s = some (.ref a)) : t.eval A s none [] s = some (.ref a) := by
  cases hv : t.eval A s none [] s with
  | none => simp [Cond.before, Cond.holds, Cond.value, hv] at h
  | some w =>
    simp only [Cond.before, Cond.holds, Cond.value, hv, hu] at h
    cases w <;> simp_all
end AD
section AE
variable {A : Array Value} {s : State}
theorem fr_ok : ∀ a : Nat, a < s.heap.size → ¬ (fun q : Nat => s.heap.size ≤ q) a := fun a h g => Nat.not_le_of_lt h g
abbrev tVal (t : Term) : Term := .field t "java/lang/String" "value" "[B"
/-- a constant text: its object, its bytes -/
theorem en_str {t : Term} {N : Nat} {f : Nat → Int} (hN : N < 2 ^ 31) (h1 : (Cond.exactly t "java/lang/String").before A s = true) (h2 : (Cond.eq (.field t "java/lang/String" "coder" "B") (.int 0)).before A s = true) (h3 : (Cond.exactly (tVal t) "[B").before A s = true) (h4 : (Cond.arrayOf (tVal t) .byte).before A s = true) (h5 : (Cond.eq (.length (tVal t)) (.int (Int32.ofNat N))).before A s = true) (h6 : ∀ j : Nat, j < N → (Cond.eq (.elem (tVal t) (.int (Int32.ofNat j))) (.int (iI (f j)))).before A s = true) :
    va_O "java/lang/String" (adr A s t) (fun q => s.heap.size ≤ q) s s.heap ∧ va_OF "java/lang/String" "value" "[B" (.ref (adr A s (tVal t))) (adr A s t) (fun q => s.heap.size ≤ q) s s.heap ∧ va_OF "java/lang/String" "coder" "B" (.int (iI 0)) (adr A s t) (fun q => s.heap.size ≤ q) s s.heap ∧ va_T .byte (adr A s (tVal t)) N (fun j => .int (iI (f j))) (fun q => s.heap.size ≤ q) s s.heap := by
  have e1 := adr_ev h1
  have e3 := adr_ev h3
  refine ⟨va_Oof h1 e1 fr_ok, vk_OFof e1 e3 fr_ok, vk_OFof e1 (eq_int h2) fr_ok, ?_⟩
  obtain ⟨a, ha, hT⟩ := va_Tof (A := fun q => s.heap.size ≤ q) hN h4 (eq_int h5) (fun j hj => eq_int (h6 j hj)) fr_ok
  rw [adr_of ha]
  exact hT
/-- an array of numbers behind a static -/
theorem en_arr {t : Term} {ty : FieldType} {N : Nat} {f : Nat → Int} (hN : N < 2 ^ 31) (h4 : (Cond.arrayOf t ty).before A s = true) (h5 : (Cond.eq (.length t) (.int (Int32.ofNat N))).before A s = true) (h6 : ∀ j : Nat, j < N → (Cond.eq (.elem t (.int (Int32.ofNat j))) (.int (iI (f j)))).before A s = true) : t.eval A s none [] s = some (.ref (adr A s t)) ∧ va_T ty (adr A s t) N (fun j => .int (iI (f j))) (fun q => s.heap.size ≤ q) s s.heap := by
  obtain ⟨a, ha, hT⟩ := va_Tof (A := fun q => s.heap.size ≤ q) hN h4 (eq_int h5) (fun j hj => eq_int (h6 j hj)) fr_ok
  rw [adr_of ha]
  exact ⟨ha, hT⟩
/-- an array of objects behind a static -/
theorem en_arrR {t : Term} {E : String} {N : Nat} {g : Nat → Term} (hN : N < 2 ^ 31) (h4 : (Cond.arrayOf t (.object E)).before A s = true) (h5 : (Cond.eq (.length t) (.int (Int32.ofNat N))).before A s = true) (h6 : ∀ j : Nat, j < N → (Cond.eq (.elem t (.int (Int32.ofNat j))) (g j)).before A s = true) (h7 : ∀ j : Nat, j < N → (g j).eval A s none [] s = some (.ref (adr A s (g j)))) : t.eval A s none [] s = some (.ref (adr A s t)) ∧ va_T (.object E) (adr A s t) N (fun j => .ref (adr A s (g j))) (fun q => s.heap.size ≤ q) s s.heap := by
  obtain ⟨a, ha, hT⟩ := va_Tof (A := fun q => s.heap.size ≤ q) hN h4 (eq_int h5) (fun j hj => eq_ref (h6 j hj) (h7 j hj)) fr_ok
  rw [adr_of ha]
  exact ⟨ha, hT⟩
/-- two constants that are not one -/
theorem ne_adr {t u : Term} (h : (Cond.not (.eq t u)).before A s = true) (ht : t.eval A s none [] s = some (.ref (adr A s t))) (hu : u.eval A s none [] s = some (.ref (adr A s u))) : adr A s t ≠ adr A s u := by
  intro e
  rw [e] at ht
  simp [Cond.before, Cond.holds, Cond.value, ht, hu] at h
end AE
