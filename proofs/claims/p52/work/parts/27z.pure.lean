/-! pure rows (wip/p52/gen/pure.py) -/
theorem up_up {α : Type} {f : Nat → α} {k : Nat} {x y : α} : va_up (va_up f k x) k y = va_up f k y := by
  funext j
  by_cases e : j = k
  · subst e; rw [va_up_self, va_up_self]
  · rw [va_up_ne _ _ e, va_up_ne _ _ e, va_up_ne _ _ e]
theorem up_cm {α : Type} {f : Nat → α} {j k : Nat} {x y : α} (h : j ≠ k) : va_up (va_up f j x) k y = va_up (va_up f k y) j x := by
  funext z
  by_cases e1 : z = k
  · subst e1; rw [va_up_self, va_up_ne _ _ (fun e => h e.symm), va_up_self]
  · by_cases e2 : z = j
    · subst e2; rw [va_up_ne _ _ e1, va_up_self, va_up_self]
    · rw [va_up_ne _ _ e1, va_up_ne _ _ e2, va_up_ne _ _ e2, va_up_ne _ _ e1]
abbrev TS : Type := Nat × (Nat → Int)
def pP (s : TS) (c : Int) : TS := (s.1 + 1, va_up s.2 s.1 c)
def pN (s : TS) (v : Int) : TS := if v < 10 then pP s (48 + v) else pP (pP s (48 + v / 10)) (48 + v % 10)
theorem pN_len (s : TS) (v : Int) : s.1 < (pN s v).1 ∧ (pN s v).1 ≤ s.1 + 2 := by
  unfold pN
  split
  · show s.1 < s.1 + 1 ∧ s.1 + 1 ≤ s.1 + 2; omega
  · show s.1 < s.1 + 1 + 1 ∧ s.1 + 1 + 1 ≤ s.1 + 2; omega
