/-! pure rows (wip/p52/gen/pure.py) -/
theorem pP_len (s : TS) (c : Int) : (pP s c).1 = s.1 + 1 := rfl
theorem ws_drop {ws : List Int} {k : Nat} (h : k < ws.length) : ws.drop k = ws.getD k 0 :: ws.drop (k + 1) := by
  rw [List.drop_eq_getElem_cons h]
  simp [List.getD_eq_getElem?_getD, h]
theorem rA_rng {t : Nat → Int} {l i : Nat} (h : rOK t l i) (hi : i ≤ l) (ht : ∀ j, j < l → 32 ≤ t j ∧ t j ≤ 126) (p : Nat) (hp : p < rAr (rJ t l i)) : -200 ≤ rA t i (rJ t l i) p ∧ rA t i (rJ t l i) p ≤ 2000 := by
  have hl := rN_l (t := t) hi
  have h1 := h.1
  rw [h.2] at hl
  generalize rJ t l i = j at hl h1 hp ⊢
  match j, h1 with
  | 0, _ =>
    replace hl : i + 8 ≤ l := hl
    replace hp : p < 3 := hp
    have := ht (i + 5 + p) (by omega)
    show -200 ≤ t (i + 5 + p) - 48 ∧ t (i + 5 + p) - 48 ≤ 2000
    omega
  | 1, _ =>
    replace hl : i + 9 ≤ l := hl
    replace hp : p < 3 := hp
    have := ht (i + 5 + p) (by omega)
    have := ht (i + 8) (by omega)
    show -200 ≤ (if p = 2 then (if t (i + 7) = 45 then -(t (i + 8) - 48) else t (i + 8) - 48) else t (i + 5 + p) - 48) ∧ (if p = 2 then (if t (i + 7) = 45 then -(t (i + 8) - 48) else t (i + 8) - 48) else t (i + 5 + p) - 48) ≤ 2000
    (repeat' split) <;> omega
  | 2, _ =>
    replace hl : i + 5 ≤ l := hl
    have := ht (i + 4) (by omega)
    show -200 ≤ t (i + 4) - 48 ∧ t (i + 4) - 48 ≤ 2000
    omega
  | 3, _ =>
    replace hl : i + 6 ≤ l := hl
    have := ht (i + 5) (by omega)
    show -200 ≤ t (i + 5) - 48 ∧ t (i + 5) - 48 ≤ 2000
    omega
  | 4, _ =>
    replace hl : i + 6 ≤ l := hl
    have := ht (i + 5) (by omega)
    show -200 ≤ t (i + 5) - 48 ∧ t (i + 5) - 48 ≤ 2000
    omega
  | 5, _ =>
    replace hl : i + 8 ≤ l := hl
    replace hp : p < 2 := hp
    have := ht (i + 5 + 2 * p) (by omega)
    show -200 ≤ t (i + 5 + 2 * p) - 48 ∧ t (i + 5 + 2 * p) - 48 ≤ 2000
    omega
  | 6, _ =>
    show -200 ≤ (1 : Int) ∧ (1 : Int) ≤ 2000
    omega
  | 7, _ =>
    replace hl : i + 6 ≤ l := hl
    have := ht (i + 5) (by omega)
    show -200 ≤ t (i + 5) - 48 ∧ t (i + 5) - 48 ≤ 2000
    omega
  | 8, _ =>
    replace hl : i + 7 ≤ l := hl
    have := ht (i + 5) (by omega)
    have := ht (i + 6) (by omega)
    show -200 ≤ 10 * (t (i + 5) - 48) + (t (i + 6) - 48) ∧ 10 * (t (i + 5) - 48) + (t (i + 6) - 48) ≤ 2000
    omega
  | 9, _ =>
    replace hl : i + 9 ≤ l := hl
    replace hp : p < 4 := hp
    have := ht (i + 4) (by omega)
    have := ht (i + 5 + p) (by omega)
    show -200 ≤ (if p = 0 then t (i + 4) - 48 else t (i + 5 + p) - 48) ∧ (if p = 0 then t (i + 4) - 48 else t (i + 5 + p) - 48) ≤ 2000
    split <;> omega
abbrev cJ (t : Nat → Int) (l c : Nat) : Nat := rJ t l (sT t l c)
abbrev cA (t : Nat → Int) (l c p : Nat) : Int := rA t (sT t l c) (cJ t l c) p
