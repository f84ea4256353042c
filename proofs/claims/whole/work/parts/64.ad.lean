/-! the law's entry: terms and addresses (by hand) -/
def adr (A : Array Value) (s : State) (t : Term) : Nat := match t.eval A s none [] s with
  | some (.ref a) => a
  | _ => 0
section AD
variable {A : Array Value} {s : State} {t u : Term}
theorem adr_of {a : Nat} (h : t.eval A s none [] s = some (.ref a)) : adr A s t = a := by
  unfold adr
  rw [h]
theorem adr_ev {nm : String} (h : (Cond.exactly t nm).before A s = true) : t.eval A s none [] s = some (.ref (adr A s t)) := by
  obtain ⟨a, c, cA, kA, q1, -⟩ := Cond.exactly_spec (args := A) (first := s) (o := none) (s := s) (idx := []) (t := t) (cls := nm) h
  rw [adr_of q1]
  exact q1
theorem eq_int {z : Int32} (h : (Cond.eq t (.int z)).before A s = true) : t.eval A s none [] s = some (.int z) := by
  cases hv : t.eval A s none [] s with
  | none => simp [Cond.before, Cond.holds, Cond.value, hv] at h
  | some w =>
    have hz : (Term.int z).eval A s none [] s = some (.int z) := rfl
    simp only [Cond.before, Cond.holds, Cond.value, hv, hz] at h
    cases w <;> simp_all
theorem eq_ref {a : Nat} (h : (Cond.eq t u).before A s = true) (hu : u.eval A s none [] s = some (.ref a)) : t.eval A s none [] s = some (.ref a) := by
  cases hv : t.eval A s none [] s with
  | none => simp [Cond.before, Cond.holds, Cond.value, hv] at h
  | some w =>
    simp only [Cond.before, Cond.holds, Cond.value, hv, hu] at h
    cases w <;> simp_all
end AD
