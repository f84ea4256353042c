/-! the script's form, as both sides read it: pure. t the characters, l their number, i a place -/
def isF (c x : Int) : Bool := if c = 35 ∨ c = 38 then decide (48 ≤ x ∧ x ≤ 57) else if c = 126 then decide (x = 43 ∨ x = 45) else decide (x = c)
/-- how many characters of a form match from i on -/
def pm : List Int → (Nat → Int) → Nat → Nat → Nat
  | [], _, _, _ => 0
  | c :: r, t, l, i => if i < l ∧ isF c (t i) = true then pm r t l (i + 1) + 1 else 0
theorem pm_cons (c : Int) (r : List Int) (t : Nat → Int) (l i : Nat) : pm (c :: r) t l i = if i < l ∧ isF c (t i) = true then pm r t l (i + 1) + 1 else 0 := rfl
theorem pm_le (t : Nat → Int) (l : Nat) : ∀ (f : List Int) (i : Nat), pm f t l i ≤ f.length
  | [], i => Nat.le_refl _
  | c :: r, i => by
    have := pm_le t l r (i + 1)
    unfold pm
    split <;> simp only [List.length_cons] <;> omega
theorem pm_l (t : Nat → Int) (l : Nat) : ∀ (f : List Int) (i : Nat), i ≤ l → i + pm f t l i ≤ l
  | [], i, h => h
  | c :: r, i, h => by
    unfold pm
    split
    · next e => have := pm_l t l r (i + 1) e.1; omega
    · omega
theorem pm_app (t : Nat → Int) (l : Nat) : ∀ (f g : List Int) (i : Nat), pm (f ++ g) t l i = if pm f t l i = f.length then f.length + pm g t l (i + f.length) else pm f t l i
  | [], g, i => by simp [pm]
  | c :: r, g, i => by
    have h := pm_app t l r g (i + 1)
    show pm (c :: (r ++ g)) t l i = _
    rw [pm_cons, pm_cons]
    by_cases e : i < l ∧ isF c (t i) = true
    · rw [if_pos e, if_pos e, h]
      simp only [List.length_cons]
      by_cases e2 : pm r t l (i + 1) = r.length
      · rw [if_pos e2, if_pos (by omega), show i + 1 + r.length = i + (r.length + 1) by omega]; omega
      · rw [if_neg e2, if_neg (by omega)]
    · rw [if_neg e, if_neg e, if_neg (by simp)]
abbrev atC (t : Nat → Int) (l i : Nat) (c : Int) : Prop := i < l ∧ t i = c
abbrev dg (x : Int) : Prop := 48 ≤ x ∧ x ≤ 57
theorem pm_c {t : Nat → Int} {l i : Nat} {c : Int} {r : List Int} (hc : c ≠ 35 ∧ c ≠ 38 ∧ c ≠ 126) : pm (c :: r) t l i = if atC t l i c then pm r t l (i + 1) + 1 else 0 := by
  have e : (isF c (t i) = true) = (t i = c) := by
    unfold isF
    rw [if_neg (by omega), if_neg (by omega)]
    simp
  show (if i < l ∧ isF c (t i) = true then _ else _) = _
  simp only [e]
theorem pm_d {t : Nat → Int} {l i : Nat} {c : Int} {r : List Int} (hc : c = 35 ∨ c = 38) : pm (c :: r) t l i = if i < l ∧ dg (t i) then pm r t l (i + 1) + 1 else 0 := by
  have e : (isF c (t i) = true) = (dg (t i)) := by
    unfold isF
    rw [if_pos hc]
    simp
  show (if i < l ∧ isF c (t i) = true then _ else _) = _
  simp only [e]
theorem pm_s {t : Nat → Int} {l i : Nat} {r : List Int} : pm (126 :: r) t l i = if i < l ∧ (t i = 43 ∨ t i = 45) then pm r t l (i + 1) + 1 else 0 := by
  have e : (isF 126 (t i) = true) = (t i = 43 ∨ t i = 45) := by
    unfold isF
    rw [if_neg (by omega), if_pos rfl]
    simp
  show (if i < l ∧ isF 126 (t i) = true then _ else _) = _
  simp only [e]
/-- the forms -/
abbrev FM (j : Nat) : List Int := e_forms.getD j []
/-- the form that the first characters choose; 10: none -/
def rJ (t : Nat → Int) (l i : Nat) : Nat :=
  if atC t l i 100 then (if atC t l (i + 1) 111 then 0 else 4)
  else if atC t l i 116 then (if atC t l (i + 1) 117 then 1 else 2)
  else if atC t l i 115 then (if atC t l (i + 1) 104 then 3 else 9)
  else if atC t l i 98 then 5
  else if atC t l i 104 then (if 5 ≤ pm (FM 7) t l i then (if pm (FM 8) t l i = 7 then 8 else 7) else 6)
  else 10
def rN (t : Nat → Int) (l i : Nat) : Nat := pm (FM (rJ t l i)) t l i
abbrev rOK (t : Nat → Int) (l i : Nat) : Prop := rJ t l i < 10 ∧ rN t l i = (FM (rJ t l i)).length
/-- a command may end here -/
abbrev canEnd (t : Nat → Int) (l i : Nat) : Prop := l ≤ i ∨ t i = 59
/-- its numbers -/
def rA (t : Nat → Int) (i j p : Nat) : Int := match j with
  | 0 => t (i + 5 + p) - 48
  | 1 => if p = 2 then (if t (i + 7) = 45 then -(t (i + 8) - 48) else t (i + 8) - 48) else t (i + 5 + p) - 48
  | 2 => t (i + 4) - 48
  | 3 => t (i + 5) - 48
  | 4 => t (i + 5) - 48
  | 5 => t (i + 5 + 2 * p) - 48
  | 6 => 1
  | 7 => t (i + 5) - 48
  | 8 => 10 * (t (i + 5) - 48) + (t (i + 6) - 48)
  | _ => if p = 0 then t (i + 4) - 48 else t (i + 5 + p) - 48
def rAr (j : Nat) : Nat := [3, 3, 1, 1, 1, 2, 1, 1, 1, 4].getD j 0
def rKd (j : Nat) : Int := [100, 116, 114, 115, 97, 98, 104, 104, 104, 101].getD j 0
theorem rN_len {t : Nat → Int} {l i : Nat} (h : rOK t l i) : 4 ≤ rN t l i := by
  rw [h.2]
  have : ∀ j, j < 10 → 4 ≤ (FM j).length := by decide
  exact this _ h.1
theorem rN_l {t : Nat → Int} {l i : Nat} (h : i ≤ l) : i + rN t l i ≤ l := pm_l t l _ i h
theorem pm_0 {t : Nat → Int} {l i : Nat} {c : Int} {r : List Int} (hc : c ≠ 35 ∧ c ≠ 38 ∧ c ≠ 126) (h : ¬ atC t l i c) : pm (c :: r) t l i = 0 := by rw [pm_c hc, if_neg h]
theorem pm_1 {t : Nat → Int} {l i : Nat} {c : Int} {r : List Int} (hc : c ≠ 35 ∧ c ≠ 38 ∧ c ≠ 126) (h : atC t l i c) : pm (c :: r) t l i = pm r t l (i + 1) + 1 := by rw [pm_c hc, if_pos h]
/-- the forms by their first two characters -/
theorem FM_0 : FM 0 = 100 :: 111 :: [111, 114, 32, 35, 35, 35] := rfl
theorem FM_1 : FM 1 = 116 :: 117 :: [114, 110, 32, 35, 35, 126, 35] := rfl
theorem FM_2 : FM 2 = 116 :: 114 :: [121, 32, 35] := rfl
theorem FM_3 : FM 3 = 115 :: 104 :: [117, 116, 32, 35] := rfl
theorem FM_4 : FM 4 = 100 :: 97 :: [109, 112, 32, 35] := rfl
theorem FM_5 : FM 5 = 98 :: 97 :: [107, 101, 32, 35, 32, 35] := rfl
theorem FM_6 : FM 6 = 104 :: 111 :: [117, 114] := rfl
theorem FM_7 : FM 7 = 104 :: 111 :: [117, 114, 32, 35] := rfl
theorem FM_8 : FM 8 = 104 :: 111 :: [117, 114, 32, 35, 38] := rfl
theorem FM_9 : FM 9 = 115 :: 101 :: [116, 32, 35, 32, 35, 35, 35] := rfl
theorem FM_10 : FM 10 = [] := rfl
theorem pm_78 (t : Nat → Int) (l i : Nat) : pm (FM 8) t l i = if pm (FM 7) t l i = 6 then 6 + pm [38] t l (i + 6) else pm (FM 7) t l i := pm_app t l (FM 7) [38] i
theorem pm_67 (t : Nat → Int) (l i : Nat) : pm (FM 7) t l i = if pm (FM 6) t l i = 4 then 4 + pm [32, 35] t l (i + 4) else pm (FM 6) t l i := pm_app t l (FM 6) [32, 35] i
section PL
variable {t : Nat → Int} {l i : Nat}
theorem pm_two {c d : Int} {r : List Int} (hc : c ≠ 35 ∧ c ≠ 38 ∧ c ≠ 126) (hd : d ≠ 35 ∧ d ≠ 38 ∧ d ≠ 126) : (¬ atC t l i c ∧ pm (c :: d :: r) t l i = 0) ∨ (atC t l i c ∧ ¬ atC t l (i + 1) d ∧ pm (c :: d :: r) t l i = 1) ∨ (atC t l i c ∧ atC t l (i + 1) d ∧ 2 ≤ pm (c :: d :: r) t l i) := by
  by_cases h : atC t l i c
  · by_cases h2 : atC t l (i + 1) d
    · exact Or.inr (Or.inr ⟨h, h2, by rw [pm_1 hc h, pm_1 hd h2]; omega⟩)
    · exact Or.inr (Or.inl ⟨h, h2, by rw [pm_1 hc h, pm_0 hd h2]⟩)
  · exact Or.inl ⟨h, pm_0 hc h⟩
theorem pm_all : ((¬ atC t l i 100 ∧ pm (FM 0) t l i = 0) ∨ (atC t l i 100 ∧ ¬ atC t l (i + 1) 111 ∧ pm (FM 0) t l i = 1) ∨ (atC t l i 100 ∧ atC t l (i + 1) 111 ∧ 2 ≤ pm (FM 0) t l i)) ∧
    ((¬ atC t l i 116 ∧ pm (FM 1) t l i = 0) ∨ (atC t l i 116 ∧ ¬ atC t l (i + 1) 117 ∧ pm (FM 1) t l i = 1) ∨ (atC t l i 116 ∧ atC t l (i + 1) 117 ∧ 2 ≤ pm (FM 1) t l i)) ∧
    ((¬ atC t l i 116 ∧ pm (FM 2) t l i = 0) ∨ (atC t l i 116 ∧ ¬ atC t l (i + 1) 114 ∧ pm (FM 2) t l i = 1) ∨ (atC t l i 116 ∧ atC t l (i + 1) 114 ∧ 2 ≤ pm (FM 2) t l i)) ∧
    ((¬ atC t l i 115 ∧ pm (FM 3) t l i = 0) ∨ (atC t l i 115 ∧ ¬ atC t l (i + 1) 104 ∧ pm (FM 3) t l i = 1) ∨ (atC t l i 115 ∧ atC t l (i + 1) 104 ∧ 2 ≤ pm (FM 3) t l i)) ∧
    ((¬ atC t l i 100 ∧ pm (FM 4) t l i = 0) ∨ (atC t l i 100 ∧ ¬ atC t l (i + 1) 97 ∧ pm (FM 4) t l i = 1) ∨ (atC t l i 100 ∧ atC t l (i + 1) 97 ∧ 2 ≤ pm (FM 4) t l i)) ∧
    ((¬ atC t l i 98 ∧ pm (FM 5) t l i = 0) ∨ (atC t l i 98 ∧ ¬ atC t l (i + 1) 97 ∧ pm (FM 5) t l i = 1) ∨ (atC t l i 98 ∧ atC t l (i + 1) 97 ∧ 2 ≤ pm (FM 5) t l i)) ∧
    ((¬ atC t l i 104 ∧ pm (FM 6) t l i = 0) ∨ (atC t l i 104 ∧ ¬ atC t l (i + 1) 111 ∧ pm (FM 6) t l i = 1) ∨ (atC t l i 104 ∧ atC t l (i + 1) 111 ∧ 2 ≤ pm (FM 6) t l i)) ∧
    ((¬ atC t l i 115 ∧ pm (FM 9) t l i = 0) ∨ (atC t l i 115 ∧ ¬ atC t l (i + 1) 101 ∧ pm (FM 9) t l i = 1) ∨ (atC t l i 115 ∧ atC t l (i + 1) 101 ∧ 2 ≤ pm (FM 9) t l i)) :=
  ⟨FM_0 ▸ pm_two (by decide) (by decide), FM_1 ▸ pm_two (by decide) (by decide), FM_2 ▸ pm_two (by decide) (by decide), FM_3 ▸ pm_two (by decide) (by decide), FM_4 ▸ pm_two (by decide) (by decide), FM_5 ▸ pm_two (by decide) (by decide), FM_6 ▸ pm_two (by decide) (by decide), FM_9 ▸ pm_two (by decide) (by decide)⟩
/-- no form matches more than the chosen one -/
theorem rN_max (j : Nat) (hj : j < 10) : pm (FM j) t l i ≤ rN t l i := by
  obtain ⟨a0, a1, a2, a3, a4, a5, a6, a9⟩ := pm_all (t := t) (l := l) (i := i)
  have b7 := pm_67 t l i
  have b8 := pm_78 t l i
  have l6 := pm_le t l (FM 6) i
  have l7 := pm_le t l (FM 7) i
  have l9 := pm_le t l [38] (i + 6)
  simp only [show (FM 6).length = 4 from rfl, show (FM 7).length = 6 from rfl, List.length_cons, List.length_nil] at l6 l7 l9
  unfold rN rJ
  match j, hj with
  | 0, _ => clear a1 a2 a3 a5 a6 a9 b7 b8; (repeat' split) <;> omega
  | 1, _ => clear a0 a4 a3 a5 a6 a9 b7 b8; (repeat' split) <;> omega
  | 2, _ => clear a0 a4 a3 a5 a6 a9 b7 b8; (repeat' split) <;> omega
  | 3, _ => clear a0 a1 a2 a4 a5 a6 b7 b8; (repeat' split) <;> omega
  | 4, _ => clear a1 a2 a3 a5 a6 a9 b7 b8; (repeat' split) <;> omega
  | 5, _ => clear a0 a1 a2 a3 a4 a6 a9 b7 b8; (repeat' split) <;> omega
  | 9, _ => clear a0 a1 a2 a4 a5 a6 b7 b8; (repeat' split) <;> omega
  | 6, _ =>
    clear a0 a1 a2 a3 a4 a5 a9
    by_cases e6 : pm (FM 6) t l i = 4
    · rw [if_pos e6] at b7; by_cases e7 : pm (FM 7) t l i = 6
      · rw [if_pos e7] at b8; (repeat' split) <;> omega
      · rw [if_neg e7] at b8; (repeat' split) <;> omega
    · rw [if_neg e6] at b7; rw [if_neg (by omega)] at b8; (repeat' split) <;> omega
  | 7, _ =>
    clear a0 a1 a2 a3 a4 a5 a9
    by_cases e6 : pm (FM 6) t l i = 4
    · rw [if_pos e6] at b7; by_cases e7 : pm (FM 7) t l i = 6
      · rw [if_pos e7] at b8; (repeat' split) <;> omega
      · rw [if_neg e7] at b8; (repeat' split) <;> omega
    · rw [if_neg e6] at b7; rw [if_neg (by omega)] at b8; (repeat' split) <;> omega
  | 8, _ =>
    clear a0 a1 a2 a3 a4 a5 a9
    by_cases e6 : pm (FM 6) t l i = 4
    · rw [if_pos e6] at b7; by_cases e7 : pm (FM 7) t l i = 6
      · rw [if_pos e7] at b8; (repeat' split) <;> omega
      · rw [if_neg e7] at b8; (repeat' split) <;> omega
    · rw [if_neg e6] at b7; rw [if_neg (by omega)] at b8; (repeat' split) <;> omega
/-- a form that matches whole and may end is the chosen one -/
theorem rJ_uniq (j : Nat) (hj : j < 10) (h : pm (FM j) t l i = (FM j).length) (he : canEnd t l (i + (FM j).length)) : rJ t l i = j := by
  obtain ⟨a0, a1, a2, a3, a4, a5, a6, a9⟩ := pm_all (t := t) (l := l) (i := i)
  have b7 := pm_67 t l i
  have b8 := pm_78 t l i
  have l6 := pm_le t l (FM 6) i
  have l7 := pm_le t l (FM 7) i
  simp only [show (FM 6).length = 4 from rfl, show (FM 7).length = 6 from rfl] at l6 l7
  match j, hj with
  | 0, _ => replace h : pm (FM 0) t l i = 8 := h; clear a1 a2 a3 a4 a5 a6 a9 b7 b8; unfold rJ; (repeat' split) <;> omega
  | 1, _ => replace h : pm (FM 1) t l i = 9 := h; clear a0 a4 a2 a3 a5 a6 a9 b7 b8; unfold rJ; (repeat' split) <;> omega
  | 2, _ => replace h : pm (FM 2) t l i = 5 := h; clear a0 a4 a1 a3 a5 a6 a9 b7 b8; unfold rJ; (repeat' split) <;> omega
  | 3, _ => replace h : pm (FM 3) t l i = 6 := h; clear a0 a1 a2 a4 a5 a6 a9 b7 b8; unfold rJ; (repeat' split) <;> omega
  | 4, _ => replace h : pm (FM 4) t l i = 6 := h; clear a1 a2 a3 a0 a5 a6 a9 b7 b8; unfold rJ; (repeat' split) <;> omega
  | 5, _ => replace h : pm (FM 5) t l i = 8 := h; clear a0 a1 a2 a3 a4 a6 a9 b7 b8; unfold rJ; (repeat' split) <;> omega
  | 9, _ => replace h : pm (FM 9) t l i = 9 := h; clear a0 a1 a2 a3 a4 a5 a6 b7 b8; unfold rJ; (repeat' split) <;> omega
  | 6, _ =>
    replace h : pm (FM 6) t l i = 4 := h
    replace he : canEnd t l (i + 4) := he
    clear a0 a1 a2 a3 a4 a5 a9 b8
    rw [if_pos h, pm_0 (by decide) (by omega)] at b7
    unfold rJ; (repeat' split) <;> omega
  | 7, _ =>
    replace h : pm (FM 7) t l i = 6 := h
    replace he : canEnd t l (i + 6) := he
    clear a0 a1 a2 a3 a4 a5 a9
    rw [if_pos h, pm_d (Or.inr rfl), if_neg (by omega)] at b8
    by_cases e6 : pm (FM 6) t l i = 4
    · unfold rJ; (repeat' split) <;> omega
    · rw [if_neg e6] at b7; omega
  | 8, _ =>
    replace h : pm (FM 8) t l i = 7 := h
    clear a0 a1 a2 a3 a4 a5 a9
    by_cases e7 : pm (FM 7) t l i = 6
    · by_cases e6 : pm (FM 6) t l i = 4
      · unfold rJ; (repeat' split) <;> omega
      · rw [if_neg e6] at b7; omega
    · rw [if_neg e7] at b8; omega
end PL
/-- where the commands begin -/
def sT (t : Nat → Int) (l : Nat) : Nat → Nat
  | 0 => 0
  | k + 1 => sT t l k + rN t l (sT t l k) + 1
abbrev sE (t : Nat → Int) (l k : Nat) : Nat := sT t l k + rN t l (sT t l k)
/-- a further command follows the command k -/
abbrev sGo (t : Nat → Int) (l k : Nat) : Prop := rOK t l (sT t l k) ∧ atC t l (sE t l k) 59
theorem sT_rng {t : Nat → Int} {l : Nat} : ∀ k, (∀ j, j < k → sGo t l j) → 5 * k ≤ sT t l k ∧ sT t l k ≤ l
  | 0, _ => ⟨Nat.le_refl _, Nat.zero_le _⟩
  | k + 1, h => by
    have h1 := sT_rng k (fun j hj => h j (by omega))
    have h2 := h k (by omega)
    have h3 := rN_len h2.1
    have h4 := h2.2.1
    show 5 * (k + 1) ≤ sT t l k + rN t l (sT t l k) + 1 ∧ sT t l k + rN t l (sT t l k) + 1 ≤ l
    exact ⟨by omega, h4⟩
