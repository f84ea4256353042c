/-! the reference's class: shape and small methods (wip/whole/gen/c_model.py prints this part) -/
/-- the model at m: q its numbers by the fields' places, A its arrays: s, was, tried, saved, past, line, tape, commands -/
def MM (M : Mem) (m : Nat) (q : Nat → Int) (A : Nat → Nat → Int) : Prop := 100 ≤ m ∧ M m = cO 9 [vR (m + 1), vR (m + 2), vR (m + 3), vR (m + 4), vR (m + 5), vI (q 5), vI (q 6), vI (q 7), vI (q 8), vI (q 9), vI (q 10), vR (m + 6), vI (q 12), vR (m + 7), vR (m + 8), vI (q 15), vI (q 16), vI (q 17)] ∧ M (m + 1) = cI 0 85 (A 0) ∧ M (m + 2) = cI 0 85 (A 1) ∧ M (m + 3) = cI 0 85 (A 2) ∧ M (m + 4) = cI 0 85 (A 3) ∧ M (m + 5) = cI 0 680 (A 4) ∧ M (m + 6) = cI 0 30 (A 5) ∧ M (m + 7) = cI 0 60 (A 6) ∧ M (m + 8) = cI 0 155 (A 7)
theorem MM_fr {a b m : Nat} {M M' : Mem} {q : Nat → Int} {A : Nat → Nat → Int} (hf : e_fr a b M M') (hx : m + 9 ≤ a ∨ b ≤ m) (h : MM M m q A) : MM M' m q A := ⟨h.1, (hf _ (by omega)).trans h.2.1, (hf _ (by omega)).trans h.2.2.1, (hf _ (by omega)).trans h.2.2.2.1, (hf _ (by omega)).trans h.2.2.2.2.1, (hf _ (by omega)).trans h.2.2.2.2.2.1, (hf _ (by omega)).trans h.2.2.2.2.2.2.1, (hf _ (by omega)).trans h.2.2.2.2.2.2.2.1, (hf _ (by omega)).trans h.2.2.2.2.2.2.2.2.1, (hf _ (by omega)).trans h.2.2.2.2.2.2.2.2.2⟩
theorem MM_q5 {m : Nat} {M M' : Mem} {q : Nat → Int} {A : Nat → Nat → Int} {x : Int} (H : MM M m q A) (h : M' = va_up M m (cO 9 [vR (m + 1), vR (m + 2), vR (m + 3), vR (m + 4), vR (m + 5), vI x, vI (q 6), vI (q 7), vI (q 8), vI (q 9), vI (q 10), vR (m + 6), vI (q 12), vR (m + 7), vR (m + 8), vI (q 15), vI (q 16), vI (q 17)])) : MM M' m (va_up q 5 x) A := ⟨H.1, (congrFun h m).trans (va_up_self _ _ _), (congrFun h (m + 1)).trans ((va_up_ne _ _ (by omega)).trans H.2.2.1), (congrFun h (m + 2)).trans ((va_up_ne _ _ (by omega)).trans H.2.2.2.1), (congrFun h (m + 3)).trans ((va_up_ne _ _ (by omega)).trans H.2.2.2.2.1), (congrFun h (m + 4)).trans ((va_up_ne _ _ (by omega)).trans H.2.2.2.2.2.1), (congrFun h (m + 5)).trans ((va_up_ne _ _ (by omega)).trans H.2.2.2.2.2.2.1), (congrFun h (m + 6)).trans ((va_up_ne _ _ (by omega)).trans H.2.2.2.2.2.2.2.1), (congrFun h (m + 7)).trans ((va_up_ne _ _ (by omega)).trans H.2.2.2.2.2.2.2.2.1), (congrFun h (m + 8)).trans ((va_up_ne _ _ (by omega)).trans H.2.2.2.2.2.2.2.2.2)⟩
theorem MM_q6 {m : Nat} {M M' : Mem} {q : Nat → Int} {A : Nat → Nat → Int} {x : Int} (H : MM M m q A) (h : M' = va_up M m (cO 9 [vR (m + 1), vR (m + 2), vR (m + 3), vR (m + 4), vR (m + 5), vI (q 5), vI x, vI (q 7), vI (q 8), vI (q 9), vI (q 10), vR (m + 6), vI (q 12), vR (m + 7), vR (m + 8), vI (q 15), vI (q 16), vI (q 17)])) : MM M' m (va_up q 6 x) A := ⟨H.1, (congrFun h m).trans (va_up_self _ _ _), (congrFun h (m + 1)).trans ((va_up_ne _ _ (by omega)).trans H.2.2.1), (congrFun h (m + 2)).trans ((va_up_ne _ _ (by omega)).trans H.2.2.2.1), (congrFun h (m + 3)).trans ((va_up_ne _ _ (by omega)).trans H.2.2.2.2.1), (congrFun h (m + 4)).trans ((va_up_ne _ _ (by omega)).trans H.2.2.2.2.2.1), (congrFun h (m + 5)).trans ((va_up_ne _ _ (by omega)).trans H.2.2.2.2.2.2.1), (congrFun h (m + 6)).trans ((va_up_ne _ _ (by omega)).trans H.2.2.2.2.2.2.2.1), (congrFun h (m + 7)).trans ((va_up_ne _ _ (by omega)).trans H.2.2.2.2.2.2.2.2.1), (congrFun h (m + 8)).trans ((va_up_ne _ _ (by omega)).trans H.2.2.2.2.2.2.2.2.2)⟩
theorem MM_q7 {m : Nat} {M M' : Mem} {q : Nat → Int} {A : Nat → Nat → Int} {x : Int} (H : MM M m q A) (h : M' = va_up M m (cO 9 [vR (m + 1), vR (m + 2), vR (m + 3), vR (m + 4), vR (m + 5), vI (q 5), vI (q 6), vI x, vI (q 8), vI (q 9), vI (q 10), vR (m + 6), vI (q 12), vR (m + 7), vR (m + 8), vI (q 15), vI (q 16), vI (q 17)])) : MM M' m (va_up q 7 x) A := ⟨H.1, (congrFun h m).trans (va_up_self _ _ _), (congrFun h (m + 1)).trans ((va_up_ne _ _ (by omega)).trans H.2.2.1), (congrFun h (m + 2)).trans ((va_up_ne _ _ (by omega)).trans H.2.2.2.1), (congrFun h (m + 3)).trans ((va_up_ne _ _ (by omega)).trans H.2.2.2.2.1), (congrFun h (m + 4)).trans ((va_up_ne _ _ (by omega)).trans H.2.2.2.2.2.1), (congrFun h (m + 5)).trans ((va_up_ne _ _ (by omega)).trans H.2.2.2.2.2.2.1), (congrFun h (m + 6)).trans ((va_up_ne _ _ (by omega)).trans H.2.2.2.2.2.2.2.1), (congrFun h (m + 7)).trans ((va_up_ne _ _ (by omega)).trans H.2.2.2.2.2.2.2.2.1), (congrFun h (m + 8)).trans ((va_up_ne _ _ (by omega)).trans H.2.2.2.2.2.2.2.2.2)⟩
theorem MM_q8 {m : Nat} {M M' : Mem} {q : Nat → Int} {A : Nat → Nat → Int} {x : Int} (H : MM M m q A) (h : M' = va_up M m (cO 9 [vR (m + 1), vR (m + 2), vR (m + 3), vR (m + 4), vR (m + 5), vI (q 5), vI (q 6), vI (q 7), vI x, vI (q 9), vI (q 10), vR (m + 6), vI (q 12), vR (m + 7), vR (m + 8), vI (q 15), vI (q 16), vI (q 17)])) : MM M' m (va_up q 8 x) A := ⟨H.1, (congrFun h m).trans (va_up_self _ _ _), (congrFun h (m + 1)).trans ((va_up_ne _ _ (by omega)).trans H.2.2.1), (congrFun h (m + 2)).trans ((va_up_ne _ _ (by omega)).trans H.2.2.2.1), (congrFun h (m + 3)).trans ((va_up_ne _ _ (by omega)).trans H.2.2.2.2.1), (congrFun h (m + 4)).trans ((va_up_ne _ _ (by omega)).trans H.2.2.2.2.2.1), (congrFun h (m + 5)).trans ((va_up_ne _ _ (by omega)).trans H.2.2.2.2.2.2.1), (congrFun h (m + 6)).trans ((va_up_ne _ _ (by omega)).trans H.2.2.2.2.2.2.2.1), (congrFun h (m + 7)).trans ((va_up_ne _ _ (by omega)).trans H.2.2.2.2.2.2.2.2.1), (congrFun h (m + 8)).trans ((va_up_ne _ _ (by omega)).trans H.2.2.2.2.2.2.2.2.2)⟩
theorem MM_q9 {m : Nat} {M M' : Mem} {q : Nat → Int} {A : Nat → Nat → Int} {x : Int} (H : MM M m q A) (h : M' = va_up M m (cO 9 [vR (m + 1), vR (m + 2), vR (m + 3), vR (m + 4), vR (m + 5), vI (q 5), vI (q 6), vI (q 7), vI (q 8), vI x, vI (q 10), vR (m + 6), vI (q 12), vR (m + 7), vR (m + 8), vI (q 15), vI (q 16), vI (q 17)])) : MM M' m (va_up q 9 x) A := ⟨H.1, (congrFun h m).trans (va_up_self _ _ _), (congrFun h (m + 1)).trans ((va_up_ne _ _ (by omega)).trans H.2.2.1), (congrFun h (m + 2)).trans ((va_up_ne _ _ (by omega)).trans H.2.2.2.1), (congrFun h (m + 3)).trans ((va_up_ne _ _ (by omega)).trans H.2.2.2.2.1), (congrFun h (m + 4)).trans ((va_up_ne _ _ (by omega)).trans H.2.2.2.2.2.1), (congrFun h (m + 5)).trans ((va_up_ne _ _ (by omega)).trans H.2.2.2.2.2.2.1), (congrFun h (m + 6)).trans ((va_up_ne _ _ (by omega)).trans H.2.2.2.2.2.2.2.1), (congrFun h (m + 7)).trans ((va_up_ne _ _ (by omega)).trans H.2.2.2.2.2.2.2.2.1), (congrFun h (m + 8)).trans ((va_up_ne _ _ (by omega)).trans H.2.2.2.2.2.2.2.2.2)⟩
theorem MM_q10 {m : Nat} {M M' : Mem} {q : Nat → Int} {A : Nat → Nat → Int} {x : Int} (H : MM M m q A) (h : M' = va_up M m (cO 9 [vR (m + 1), vR (m + 2), vR (m + 3), vR (m + 4), vR (m + 5), vI (q 5), vI (q 6), vI (q 7), vI (q 8), vI (q 9), vI x, vR (m + 6), vI (q 12), vR (m + 7), vR (m + 8), vI (q 15), vI (q 16), vI (q 17)])) : MM M' m (va_up q 10 x) A := ⟨H.1, (congrFun h m).trans (va_up_self _ _ _), (congrFun h (m + 1)).trans ((va_up_ne _ _ (by omega)).trans H.2.2.1), (congrFun h (m + 2)).trans ((va_up_ne _ _ (by omega)).trans H.2.2.2.1), (congrFun h (m + 3)).trans ((va_up_ne _ _ (by omega)).trans H.2.2.2.2.1), (congrFun h (m + 4)).trans ((va_up_ne _ _ (by omega)).trans H.2.2.2.2.2.1), (congrFun h (m + 5)).trans ((va_up_ne _ _ (by omega)).trans H.2.2.2.2.2.2.1), (congrFun h (m + 6)).trans ((va_up_ne _ _ (by omega)).trans H.2.2.2.2.2.2.2.1), (congrFun h (m + 7)).trans ((va_up_ne _ _ (by omega)).trans H.2.2.2.2.2.2.2.2.1), (congrFun h (m + 8)).trans ((va_up_ne _ _ (by omega)).trans H.2.2.2.2.2.2.2.2.2)⟩
theorem MM_q12 {m : Nat} {M M' : Mem} {q : Nat → Int} {A : Nat → Nat → Int} {x : Int} (H : MM M m q A) (h : M' = va_up M m (cO 9 [vR (m + 1), vR (m + 2), vR (m + 3), vR (m + 4), vR (m + 5), vI (q 5), vI (q 6), vI (q 7), vI (q 8), vI (q 9), vI (q 10), vR (m + 6), vI x, vR (m + 7), vR (m + 8), vI (q 15), vI (q 16), vI (q 17)])) : MM M' m (va_up q 12 x) A := ⟨H.1, (congrFun h m).trans (va_up_self _ _ _), (congrFun h (m + 1)).trans ((va_up_ne _ _ (by omega)).trans H.2.2.1), (congrFun h (m + 2)).trans ((va_up_ne _ _ (by omega)).trans H.2.2.2.1), (congrFun h (m + 3)).trans ((va_up_ne _ _ (by omega)).trans H.2.2.2.2.1), (congrFun h (m + 4)).trans ((va_up_ne _ _ (by omega)).trans H.2.2.2.2.2.1), (congrFun h (m + 5)).trans ((va_up_ne _ _ (by omega)).trans H.2.2.2.2.2.2.1), (congrFun h (m + 6)).trans ((va_up_ne _ _ (by omega)).trans H.2.2.2.2.2.2.2.1), (congrFun h (m + 7)).trans ((va_up_ne _ _ (by omega)).trans H.2.2.2.2.2.2.2.2.1), (congrFun h (m + 8)).trans ((va_up_ne _ _ (by omega)).trans H.2.2.2.2.2.2.2.2.2)⟩
theorem MM_q15 {m : Nat} {M M' : Mem} {q : Nat → Int} {A : Nat → Nat → Int} {x : Int} (H : MM M m q A) (h : M' = va_up M m (cO 9 [vR (m + 1), vR (m + 2), vR (m + 3), vR (m + 4), vR (m + 5), vI (q 5), vI (q 6), vI (q 7), vI (q 8), vI (q 9), vI (q 10), vR (m + 6), vI (q 12), vR (m + 7), vR (m + 8), vI x, vI (q 16), vI (q 17)])) : MM M' m (va_up q 15 x) A := ⟨H.1, (congrFun h m).trans (va_up_self _ _ _), (congrFun h (m + 1)).trans ((va_up_ne _ _ (by omega)).trans H.2.2.1), (congrFun h (m + 2)).trans ((va_up_ne _ _ (by omega)).trans H.2.2.2.1), (congrFun h (m + 3)).trans ((va_up_ne _ _ (by omega)).trans H.2.2.2.2.1), (congrFun h (m + 4)).trans ((va_up_ne _ _ (by omega)).trans H.2.2.2.2.2.1), (congrFun h (m + 5)).trans ((va_up_ne _ _ (by omega)).trans H.2.2.2.2.2.2.1), (congrFun h (m + 6)).trans ((va_up_ne _ _ (by omega)).trans H.2.2.2.2.2.2.2.1), (congrFun h (m + 7)).trans ((va_up_ne _ _ (by omega)).trans H.2.2.2.2.2.2.2.2.1), (congrFun h (m + 8)).trans ((va_up_ne _ _ (by omega)).trans H.2.2.2.2.2.2.2.2.2)⟩
theorem MM_q16 {m : Nat} {M M' : Mem} {q : Nat → Int} {A : Nat → Nat → Int} {x : Int} (H : MM M m q A) (h : M' = va_up M m (cO 9 [vR (m + 1), vR (m + 2), vR (m + 3), vR (m + 4), vR (m + 5), vI (q 5), vI (q 6), vI (q 7), vI (q 8), vI (q 9), vI (q 10), vR (m + 6), vI (q 12), vR (m + 7), vR (m + 8), vI (q 15), vI x, vI (q 17)])) : MM M' m (va_up q 16 x) A := ⟨H.1, (congrFun h m).trans (va_up_self _ _ _), (congrFun h (m + 1)).trans ((va_up_ne _ _ (by omega)).trans H.2.2.1), (congrFun h (m + 2)).trans ((va_up_ne _ _ (by omega)).trans H.2.2.2.1), (congrFun h (m + 3)).trans ((va_up_ne _ _ (by omega)).trans H.2.2.2.2.1), (congrFun h (m + 4)).trans ((va_up_ne _ _ (by omega)).trans H.2.2.2.2.2.1), (congrFun h (m + 5)).trans ((va_up_ne _ _ (by omega)).trans H.2.2.2.2.2.2.1), (congrFun h (m + 6)).trans ((va_up_ne _ _ (by omega)).trans H.2.2.2.2.2.2.2.1), (congrFun h (m + 7)).trans ((va_up_ne _ _ (by omega)).trans H.2.2.2.2.2.2.2.2.1), (congrFun h (m + 8)).trans ((va_up_ne _ _ (by omega)).trans H.2.2.2.2.2.2.2.2.2)⟩
theorem MM_q17 {m : Nat} {M M' : Mem} {q : Nat → Int} {A : Nat → Nat → Int} {x : Int} (H : MM M m q A) (h : M' = va_up M m (cO 9 [vR (m + 1), vR (m + 2), vR (m + 3), vR (m + 4), vR (m + 5), vI (q 5), vI (q 6), vI (q 7), vI (q 8), vI (q 9), vI (q 10), vR (m + 6), vI (q 12), vR (m + 7), vR (m + 8), vI (q 15), vI (q 16), vI x])) : MM M' m (va_up q 17 x) A := ⟨H.1, (congrFun h m).trans (va_up_self _ _ _), (congrFun h (m + 1)).trans ((va_up_ne _ _ (by omega)).trans H.2.2.1), (congrFun h (m + 2)).trans ((va_up_ne _ _ (by omega)).trans H.2.2.2.1), (congrFun h (m + 3)).trans ((va_up_ne _ _ (by omega)).trans H.2.2.2.2.1), (congrFun h (m + 4)).trans ((va_up_ne _ _ (by omega)).trans H.2.2.2.2.2.1), (congrFun h (m + 5)).trans ((va_up_ne _ _ (by omega)).trans H.2.2.2.2.2.2.1), (congrFun h (m + 6)).trans ((va_up_ne _ _ (by omega)).trans H.2.2.2.2.2.2.2.1), (congrFun h (m + 7)).trans ((va_up_ne _ _ (by omega)).trans H.2.2.2.2.2.2.2.2.1), (congrFun h (m + 8)).trans ((va_up_ne _ _ (by omega)).trans H.2.2.2.2.2.2.2.2.2)⟩
theorem MM_A0 {m : Nat} {M M' : Mem} {q : Nat → Int} {A : Nat → Nat → Int} {f : Nat → Int} (H : MM M m q A) (h : M' = va_up M (m + 1) (cI 0 85 f)) : MM M' m q (va_up A 0 f) := ⟨H.1, (congrFun h m).trans ((va_up_ne _ _ (by omega)).trans H.2.1), (congrFun h (m + 1)).trans (va_up_self _ _ _), (congrFun h (m + 2)).trans ((va_up_ne _ _ (by omega)).trans H.2.2.2.1), (congrFun h (m + 3)).trans ((va_up_ne _ _ (by omega)).trans H.2.2.2.2.1), (congrFun h (m + 4)).trans ((va_up_ne _ _ (by omega)).trans H.2.2.2.2.2.1), (congrFun h (m + 5)).trans ((va_up_ne _ _ (by omega)).trans H.2.2.2.2.2.2.1), (congrFun h (m + 6)).trans ((va_up_ne _ _ (by omega)).trans H.2.2.2.2.2.2.2.1), (congrFun h (m + 7)).trans ((va_up_ne _ _ (by omega)).trans H.2.2.2.2.2.2.2.2.1), (congrFun h (m + 8)).trans ((va_up_ne _ _ (by omega)).trans H.2.2.2.2.2.2.2.2.2)⟩
theorem MM_A1 {m : Nat} {M M' : Mem} {q : Nat → Int} {A : Nat → Nat → Int} {f : Nat → Int} (H : MM M m q A) (h : M' = va_up M (m + 2) (cI 0 85 f)) : MM M' m q (va_up A 1 f) := ⟨H.1, (congrFun h m).trans ((va_up_ne _ _ (by omega)).trans H.2.1), (congrFun h (m + 1)).trans ((va_up_ne _ _ (by omega)).trans H.2.2.1), (congrFun h (m + 2)).trans (va_up_self _ _ _), (congrFun h (m + 3)).trans ((va_up_ne _ _ (by omega)).trans H.2.2.2.2.1), (congrFun h (m + 4)).trans ((va_up_ne _ _ (by omega)).trans H.2.2.2.2.2.1), (congrFun h (m + 5)).trans ((va_up_ne _ _ (by omega)).trans H.2.2.2.2.2.2.1), (congrFun h (m + 6)).trans ((va_up_ne _ _ (by omega)).trans H.2.2.2.2.2.2.2.1), (congrFun h (m + 7)).trans ((va_up_ne _ _ (by omega)).trans H.2.2.2.2.2.2.2.2.1), (congrFun h (m + 8)).trans ((va_up_ne _ _ (by omega)).trans H.2.2.2.2.2.2.2.2.2)⟩
theorem MM_A2 {m : Nat} {M M' : Mem} {q : Nat → Int} {A : Nat → Nat → Int} {f : Nat → Int} (H : MM M m q A) (h : M' = va_up M (m + 3) (cI 0 85 f)) : MM M' m q (va_up A 2 f) := ⟨H.1, (congrFun h m).trans ((va_up_ne _ _ (by omega)).trans H.2.1), (congrFun h (m + 1)).trans ((va_up_ne _ _ (by omega)).trans H.2.2.1), (congrFun h (m + 2)).trans ((va_up_ne _ _ (by omega)).trans H.2.2.2.1), (congrFun h (m + 3)).trans (va_up_self _ _ _), (congrFun h (m + 4)).trans ((va_up_ne _ _ (by omega)).trans H.2.2.2.2.2.1), (congrFun h (m + 5)).trans ((va_up_ne _ _ (by omega)).trans H.2.2.2.2.2.2.1), (congrFun h (m + 6)).trans ((va_up_ne _ _ (by omega)).trans H.2.2.2.2.2.2.2.1), (congrFun h (m + 7)).trans ((va_up_ne _ _ (by omega)).trans H.2.2.2.2.2.2.2.2.1), (congrFun h (m + 8)).trans ((va_up_ne _ _ (by omega)).trans H.2.2.2.2.2.2.2.2.2)⟩
theorem MM_A3 {m : Nat} {M M' : Mem} {q : Nat → Int} {A : Nat → Nat → Int} {f : Nat → Int} (H : MM M m q A) (h : M' = va_up M (m + 4) (cI 0 85 f)) : MM M' m q (va_up A 3 f) := ⟨H.1, (congrFun h m).trans ((va_up_ne _ _ (by omega)).trans H.2.1), (congrFun h (m + 1)).trans ((va_up_ne _ _ (by omega)).trans H.2.2.1), (congrFun h (m + 2)).trans ((va_up_ne _ _ (by omega)).trans H.2.2.2.1), (congrFun h (m + 3)).trans ((va_up_ne _ _ (by omega)).trans H.2.2.2.2.1), (congrFun h (m + 4)).trans (va_up_self _ _ _), (congrFun h (m + 5)).trans ((va_up_ne _ _ (by omega)).trans H.2.2.2.2.2.2.1), (congrFun h (m + 6)).trans ((va_up_ne _ _ (by omega)).trans H.2.2.2.2.2.2.2.1), (congrFun h (m + 7)).trans ((va_up_ne _ _ (by omega)).trans H.2.2.2.2.2.2.2.2.1), (congrFun h (m + 8)).trans ((va_up_ne _ _ (by omega)).trans H.2.2.2.2.2.2.2.2.2)⟩
theorem MM_A4 {m : Nat} {M M' : Mem} {q : Nat → Int} {A : Nat → Nat → Int} {f : Nat → Int} (H : MM M m q A) (h : M' = va_up M (m + 5) (cI 0 680 f)) : MM M' m q (va_up A 4 f) := ⟨H.1, (congrFun h m).trans ((va_up_ne _ _ (by omega)).trans H.2.1), (congrFun h (m + 1)).trans ((va_up_ne _ _ (by omega)).trans H.2.2.1), (congrFun h (m + 2)).trans ((va_up_ne _ _ (by omega)).trans H.2.2.2.1), (congrFun h (m + 3)).trans ((va_up_ne _ _ (by omega)).trans H.2.2.2.2.1), (congrFun h (m + 4)).trans ((va_up_ne _ _ (by omega)).trans H.2.2.2.2.2.1), (congrFun h (m + 5)).trans (va_up_self _ _ _), (congrFun h (m + 6)).trans ((va_up_ne _ _ (by omega)).trans H.2.2.2.2.2.2.2.1), (congrFun h (m + 7)).trans ((va_up_ne _ _ (by omega)).trans H.2.2.2.2.2.2.2.2.1), (congrFun h (m + 8)).trans ((va_up_ne _ _ (by omega)).trans H.2.2.2.2.2.2.2.2.2)⟩
theorem MM_A5 {m : Nat} {M M' : Mem} {q : Nat → Int} {A : Nat → Nat → Int} {f : Nat → Int} (H : MM M m q A) (h : M' = va_up M (m + 6) (cI 0 30 f)) : MM M' m q (va_up A 5 f) := ⟨H.1, (congrFun h m).trans ((va_up_ne _ _ (by omega)).trans H.2.1), (congrFun h (m + 1)).trans ((va_up_ne _ _ (by omega)).trans H.2.2.1), (congrFun h (m + 2)).trans ((va_up_ne _ _ (by omega)).trans H.2.2.2.1), (congrFun h (m + 3)).trans ((va_up_ne _ _ (by omega)).trans H.2.2.2.2.1), (congrFun h (m + 4)).trans ((va_up_ne _ _ (by omega)).trans H.2.2.2.2.2.1), (congrFun h (m + 5)).trans ((va_up_ne _ _ (by omega)).trans H.2.2.2.2.2.2.1), (congrFun h (m + 6)).trans (va_up_self _ _ _), (congrFun h (m + 7)).trans ((va_up_ne _ _ (by omega)).trans H.2.2.2.2.2.2.2.2.1), (congrFun h (m + 8)).trans ((va_up_ne _ _ (by omega)).trans H.2.2.2.2.2.2.2.2.2)⟩
theorem MM_A6 {m : Nat} {M M' : Mem} {q : Nat → Int} {A : Nat → Nat → Int} {f : Nat → Int} (H : MM M m q A) (h : M' = va_up M (m + 7) (cI 0 60 f)) : MM M' m q (va_up A 6 f) := ⟨H.1, (congrFun h m).trans ((va_up_ne _ _ (by omega)).trans H.2.1), (congrFun h (m + 1)).trans ((va_up_ne _ _ (by omega)).trans H.2.2.1), (congrFun h (m + 2)).trans ((va_up_ne _ _ (by omega)).trans H.2.2.2.1), (congrFun h (m + 3)).trans ((va_up_ne _ _ (by omega)).trans H.2.2.2.2.1), (congrFun h (m + 4)).trans ((va_up_ne _ _ (by omega)).trans H.2.2.2.2.2.1), (congrFun h (m + 5)).trans ((va_up_ne _ _ (by omega)).trans H.2.2.2.2.2.2.1), (congrFun h (m + 6)).trans ((va_up_ne _ _ (by omega)).trans H.2.2.2.2.2.2.2.1), (congrFun h (m + 7)).trans (va_up_self _ _ _), (congrFun h (m + 8)).trans ((va_up_ne _ _ (by omega)).trans H.2.2.2.2.2.2.2.2.2)⟩
theorem MM_A7 {m : Nat} {M M' : Mem} {q : Nat → Int} {A : Nat → Nat → Int} {f : Nat → Int} (H : MM M m q A) (h : M' = va_up M (m + 8) (cI 0 155 f)) : MM M' m q (va_up A 7 f) := ⟨H.1, (congrFun h m).trans ((va_up_ne _ _ (by omega)).trans H.2.1), (congrFun h (m + 1)).trans ((va_up_ne _ _ (by omega)).trans H.2.2.1), (congrFun h (m + 2)).trans ((va_up_ne _ _ (by omega)).trans H.2.2.2.1), (congrFun h (m + 3)).trans ((va_up_ne _ _ (by omega)).trans H.2.2.2.2.1), (congrFun h (m + 4)).trans ((va_up_ne _ _ (by omega)).trans H.2.2.2.2.2.1), (congrFun h (m + 5)).trans ((va_up_ne _ _ (by omega)).trans H.2.2.2.2.2.2.1), (congrFun h (m + 6)).trans ((va_up_ne _ _ (by omega)).trans H.2.2.2.2.2.2.2.1), (congrFun h (m + 7)).trans ((va_up_ne _ _ (by omega)).trans H.2.2.2.2.2.2.2.2.1), (congrFun h (m + 8)).trans (va_up_self _ _ _)⟩
/-- the ranges of a row -/
def Vok (B : Int) (v : Nat → Int) : Prop := (∀ i, i < 85 → -1 ≤ v i ∧ v i ≤ B) ∧ (0 ≤ v 1 ∧ v 1 ≤ 9) ∧ (0 ≤ v 2 ∧ v 2 ≤ 6) ∧ (0 ≤ v 6 ∧ v 6 ≤ 10) ∧ (∀ d j, d < 6 → j < 6 → 0 ≤ v (7 + 9 * d + j) ∧ v (7 + 9 * d + j) ≤ 9) ∧ (∀ d, d < 6 → 0 ≤ v (7 + 9 * d + 6) ∧ v (7 + 9 * d + 6) ≤ 1) ∧ (∀ d, d < 6 → 0 ≤ v (7 + 9 * d + 7) ∧ v (7 + 9 * d + 7) ≤ 20) ∧ (∀ d, d < 6 → 0 ≤ v (7 + 9 * d + 8) ∧ v (7 + 9 * d + 8) ≤ 2) ∧ (∀ o, o < 2 → 0 ≤ v (61 + 2 * o) ∧ v (61 + 2 * o) ≤ 6 ∧ 0 ≤ v (61 + 2 * o + 1) ∧ v (61 + 2 * o + 1) ≤ 6) ∧ B ≤ 1000000000
abbrev vBake (v : Nat → Int) (d : Nat) : Prop := 0 < v (7 + 9 * d + 8)
abbrev vOpen (v : Nat → Int) (d : Nat) : Prop := v (7 + 9 * d + 6) = 1 ∨ 0 < v (7 + 9 * d + 8)
def vAbs (x : Int) : Int := if x < 0 then -x else x
def vAway (v : Nat → Int) (d j : Nat) : Int := if vAbs (v (7 + 9 * d + j) - v (7 + 9 * d + (3 + j))) ≤ 5 then vAbs (v (7 + 9 * d + j) - v (7 + 9 * d + (3 + j))) else 10 - vAbs (v (7 + 9 * d + j) - v (7 + 9 * d + (3 + j)))
def vMis (v : Nat → Int) (d : Nat) (pl : Int) : Nat → Int
  | 0 => 0
  | k + 1 => vMis v d pl k + (if pl < vAway v d k then 1 else 0)
theorem vMis_rng (v : Nat → Int) (d : Nat) (pl : Int) : ∀ k : Nat, 0 ≤ vMis v d pl k ∧ vMis v d pl k ≤ k
  | 0 => by simp [vMis]
  | k + 1 => by
    have := vMis_rng v d pl k
    unfold vMis
    split <;> omega
def vSteps (v : Nat → Int) (d : Nat) : Nat → Int
  | 0 => 0
  | k + 1 => vSteps v d k + (if 0 < vAway v d k - v (7 + 9 * d + 7) / 5 then vAway v d k - v (7 + 9 * d + 7) / 5 else 0)
theorem up_up {α : Type} {f : Nat → α} {k : Nat} {x y : α} : va_up (va_up f k x) k y = va_up f k y := by
  funext j
  by_cases e : j = k
  · subst e; rw [va_up_self, va_up_self]
  · rw [va_up_ne _ _ e, va_up_ne _ _ e, va_up_ne _ _ e]
theorem up_id {α : Type} {f : Nat → α} {k : Nat} : va_up f k (f k) = f := by
  funext j
  by_cases e : j = k
  · subst e; rw [va_up_self]
  · rw [va_up_ne _ _ e]
section MO
variable {r0 : Option Nat} {Γ : Cx} {M : Mem} {n m : Nat} {q : Nat → Int} {A : Nat → Nat → Int} {B : Int}
theorem m_thrown (H : MM M m q A)  : Ct (e_L r0) Γ mX8_thrown 0 0 0 [vR m] M n (e_rt (.inl (some (vI (q 6)))) M n) := by
  refine g_start ok_X8_thrown rfl rfl ?_
  refine g_run 0 1 rfl ?_
  refine g_get 1 rfl fl_RX8_41 H.2.1 rfl ?_
  exact g_iret 2 rfl rfl (by first | exact trivial | exact Or.inl rfl | exact Or.inr rfl | (show _ ∨ _; omega)) ⟨rfl, rfl, rfl⟩
theorem m_isIn (v a b : Int) (hv : i32 v) (ha : i32 a) (hb : i32 b) : Ct (e_L r0) Γ mX8_isIn 0 0 0 [vI v, vI a, vI b] M n (e_rt (.inl (some (vI (if a ≤ v ∧ v ≤ b then 1 else 0)))) M n) := by
  refine g_start ok_X8_isIn rfl rfl ?_
  refine g_run 0 2 rfl ?_
  refine g_icmp_lt 2 14 rfl rfl (by omega) (by omega) (fun c2 => ?_) (fun c2 => ?_)
  · rw [if_neg (by omega)]
    refine g_run 8 1 rfl ?_
    exact g_iret 9 rfl rfl (by first | exact trivial | exact Or.inl rfl | exact Or.inr rfl | (show _ ∨ _; omega)) ⟨rfl, rfl, rfl⟩
  · refine g_run 3 2 rfl ?_
    refine g_icmp_gt 5 14 rfl rfl (by omega) (by omega) (fun c7 => ?_) (fun c7 => ?_)
    · rw [if_neg (by omega)]
      refine g_run 8 1 rfl ?_
      exact g_iret 9 rfl rfl (by first | exact trivial | exact Or.inl rfl | exact Or.inr rfl | (show _ ∨ _; omega)) ⟨rfl, rfl, rfl⟩
    · rw [if_pos (by omega)]
      refine g_run 6 2 rfl ?_
      exact g_iret 9 rfl rfl (by first | exact trivial | exact Or.inl rfl | exact Or.inr rfl | (show _ ∨ _; omega)) ⟨rfl, rfl, rfl⟩
theorem m_of (H : MM M m q A) (z x : Int) (d e : Nat) (hz : z = d) (hx : x = e) (hde : 7 + 9 * d + e < 85) : Ct (e_L r0) Γ mX8_of 0 0 0 [vR m, vI z, vI x] M n (e_rt (.inl (some (vI (A 0 (7 + 9 * d + e))))) M n) := by
  refine g_start ok_X8_of rfl rfl ?_
  refine g_run 0 1 rfl ?_
  refine g_get 1 rfl fl_RX8_9 H.2.1 rfl ?_
  refine g_run 2 7 rfl ?_
  refine g_iald 9 (7 + 9 * d + e) rfl rfl H.2.2.1 (by first | rfl | omega) (by omega) (by decide) ?_
  exact g_iret 10 rfl rfl (by first | exact trivial | exact Or.inl rfl | exact Or.inr rfl | (show _ ∨ _; omega)) ⟨rfl, rfl, rfl⟩
theorem m_ofOven (H : MM M m q A) (z x : Int) (d e : Nat) (hz : z = d) (hx : x = e) (hde : 61 + 2 * d + e < 85) : Ct (e_L r0) Γ mX8_ofOven 0 0 0 [vR m, vI z, vI x] M n (e_rt (.inl (some (vI (A 0 (61 + 2 * d + e))))) M n) := by
  refine g_start ok_X8_ofOven rfl rfl ?_
  refine g_run 0 1 rfl ?_
  refine g_get 1 rfl fl_RX8_9 H.2.1 rfl ?_
  refine g_run 2 7 rfl ?_
  refine g_iald 9 (61 + 2 * d + e) rfl rfl H.2.2.1 (by first | rfl | omega) (by omega) (by decide) ?_
  exact g_iret 10 rfl rfl (by first | exact trivial | exact Or.inl rfl | exact Or.inr rfl | (show _ ∨ _; omega)) ⟨rfl, rfl, rfl⟩
theorem m_sets (H : MM M m q A) (z x y : Int) (d e : Nat) (hz : z = d) (hx : x = e) (hde : 7 + 9 * d + e < 85) : Ct (e_L r0) Γ mX8_sets 0 0 0 [vR m, vI z, vI x, vI y] M n (e_wr none n fun M' => MM M' m q (va_up A 0 (va_up (A 0) (7 + 9 * d + e) y)) ∧ e_fr m (m + 9) M M') := by
  have fr0 : e_fr m (m + 9) M M := e_fr_refl
  refine g_start ok_X8_sets rfl rfl ?_
  refine g_run 0 1 rfl ?_
  refine g_get 1 rfl fl_RX8_9 H.2.1 rfl ?_
  refine g_run 2 8 rfl ?_
  refine g_iast 10 (7 + 9 * d + e) rfl rfl (by decide) H.2.2.1 (by first | rfl | omega) (by omega) (by decide) (fun M14 hM14 => ?_)
  have H14 := MM_A0 H hM14
  have fr14 := e_fr_tr fr0 (e_fr_up hM14 (by omega))
  exact g_vret 11 rfl rfl ⟨rfl, rfl, H14, fr14⟩
theorem m_setsOven (H : MM M m q A) (z x y : Int) (d e : Nat) (hz : z = d) (hx : x = e) (hde : 61 + 2 * d + e < 85) : Ct (e_L r0) Γ mX8_setsOven 0 0 0 [vR m, vI z, vI x, vI y] M n (e_wr none n fun M' => MM M' m q (va_up A 0 (va_up (A 0) (61 + 2 * d + e) y)) ∧ e_fr m (m + 9) M M') := by
  have fr0 : e_fr m (m + 9) M M := e_fr_refl
  refine g_start ok_X8_setsOven rfl rfl ?_
  refine g_run 0 1 rfl ?_
  refine g_get 1 rfl fl_RX8_9 H.2.1 rfl ?_
  refine g_run 2 8 rfl ?_
  refine g_iast 10 (61 + 2 * d + e) rfl rfl (by decide) H.2.2.1 (by first | rfl | omega) (by omega) (by decide) (fun M13 hM13 => ?_)
  have H13 := MM_A0 H hM13
  have fr13 := e_fr_tr fr0 (e_fr_up hM13 (by omega))
  exact g_vret 11 rfl rfl ⟨rfl, rfl, H13, fr13⟩
theorem m_isDoor (H : MM M m q A) (hv : Vok B (A 0)) (z : Int) (hz : i32 z) : Ct (e_L r0) Γ mX8_isDoor 1 0 0 [vR m, vI z] M n (e_rt (.inl (some (vI (if 0 ≤ z ∧ z ≤ A 0 2 - 1 then 1 else 0)))) M n) := by
  refine g_start ok_X8_isDoor rfl rfl ?_
  refine g_run 0 3 rfl ?_
  refine g_get 3 rfl fl_RX8_9 H.2.1 rfl ?_
  refine g_run 4 1 rfl ?_
  refine g_iald 5 2 rfl rfl H.2.2.1 (by first | rfl | omega) (by omega) (by decide) ?_
  refine g_run 6 2 rfl ?_
  refine g_callS 8 rfl cs_RX8_51 (m_isIn z 0 (A 0 2 - 1) hz (by omega) (by have := hv.2.2.1; omega)) rfl rfl (by decide) (by omega) (by omega) (Nat.le_of_ble_eq_true rfl) (e_kr ?_) e_kx
  exact g_iret 9 rfl rfl b_01 ⟨rfl, rfl, rfl⟩
theorem m_isDial (z : Int) (hz : i32 z) : Ct (e_L r0) Γ mX8_isDial 1 0 0 [vI z] M n (e_rt (.inl (some (vI (if 0 ≤ z ∧ z ≤ 2 then 1 else 0)))) M n) := by
  refine g_start ok_X8_isDial rfl rfl ?_
  refine g_run 0 3 rfl ?_
  refine g_callS 3 rfl cs_RX8_51 (m_isIn z 0 2 hz (by omega) (by omega)) rfl rfl (by decide) (by omega) (by omega) (Nat.le_of_ble_eq_true rfl) (e_kr ?_) e_kx
  exact g_iret 4 rfl rfl b_01 ⟨rfl, rfl, rfl⟩
theorem m_isOven (z : Int) (hz : i32 z) : Ct (e_L r0) Γ mX8_isOven 1 0 0 [vI z] M n (e_rt (.inl (some (vI (if 0 ≤ z ∧ z ≤ 1 then 1 else 0)))) M n) := by
  refine g_start ok_X8_isOven rfl rfl ?_
  refine g_run 0 3 rfl ?_
  refine g_callS 3 rfl cs_RX8_51 (m_isIn z 0 1 hz (by omega) (by omega)) rfl rfl (by decide) (by omega) (by omega) (Nat.le_of_ble_eq_true rfl) (e_kr ?_) e_kx
  exact g_iret 4 rfl rfl b_01 ⟨rfl, rfl, rfl⟩
theorem m_isThrown (H : MM M m q A) (b k : Int) (hb : b = 0 ∨ b = 1) : Ct (e_L r0) Γ mX8_isThrown 0 0 0 [vR m, vI b, vI k] M n (e_wr (some (vI b)) n fun M' => MM M' m (va_up q 6 (if b = 0 then 0 else k)) A ∧ e_fr m (m + 9) M M') := by
  have fr0 : e_fr m (m + 9) M M := e_fr_refl
  refine g_start ok_X8_isThrown rfl rfl ?_
  refine g_run 0 2 rfl ?_
  refine g_if_eq 2 9 rfl rfl (by omega) (fun c2 => ?_) (fun c2 => ?_)
  · rw [if_pos c2]
    refine g_run 5 1 rfl ?_
    refine g_put 6 rfl fp_RX8_41 H.2.1 rfl trivial (fun M10 hM10 => ?_)
    have H10 := MM_q6 H hM10
    have fr10 := e_fr_tr fr0 (e_fr_up hM10 (by omega))
    refine g_run 7 1 rfl ?_
    exact g_iret 8 rfl rfl hb ⟨rfl, rfl, H10, fr10⟩
  · rw [if_neg c2]
    refine g_run 3 2 rfl ?_
    refine g_put 6 rfl fp_RX8_41 H.2.1 rfl trivial (fun M10 hM10 => ?_)
    have H10 := MM_q6 H hM10
    have fr10 := e_fr_tr fr0 (e_fr_up hM10 (by omega))
    refine g_run 7 1 rfl ?_
    exact g_iret 8 rfl rfl hb ⟨rfl, rfl, H10, fr10⟩
theorem m_isSetting (a b c : Int) (ha : i32 a) (hb : i32 b) (hc : i32 c) : Ct (e_L r0) Γ mX8_isSetting 1 0 0 [vI a, vI b, vI c] M n (e_rt (.inl (some (vI (if isPos a ∧ isPos b ∧ isPos c then 1 else 0)))) M n) := by
  refine g_start ok_X8_isSetting rfl rfl ?_
  refine g_run 0 3 rfl ?_
  refine g_callS 3 rfl cs_RX8_51 (m_isIn a 0 9 ha (by omega) (by omega)) rfl rfl (by decide) (by omega) (by omega) (Nat.le_of_ble_eq_true rfl) (e_kr ?_) e_kx
  refine g_if_eq 4 34 rfl rfl b_r (fun c7 => ?_) (fun c7 => ?_)
  · replace c7 := b_0.mp c7
    rw [if_neg (by omega)]
    refine g_run 17 1 rfl ?_
    exact g_iret 18 rfl rfl (by first | exact trivial | exact Or.inl rfl | exact Or.inr rfl | (show _ ∨ _; omega)) ⟨rfl, rfl, rfl⟩
  · replace c7 := b_1.mp c7
    refine g_run 5 3 rfl ?_
    refine g_callS 8 rfl cs_RX8_51 (m_isIn b 0 9 hb (by omega) (by omega)) rfl rfl (by decide) (by omega) (by omega) (Nat.le_of_ble_eq_true rfl) (e_kr ?_) e_kx
    refine g_if_eq 9 34 rfl rfl b_r (fun c17 => ?_) (fun c17 => ?_)
    · replace c17 := b_0.mp c17
      rw [if_neg (by omega)]
      refine g_run 17 1 rfl ?_
      exact g_iret 18 rfl rfl (by first | exact trivial | exact Or.inl rfl | exact Or.inr rfl | (show _ ∨ _; omega)) ⟨rfl, rfl, rfl⟩
    · replace c17 := b_1.mp c17
      refine g_run 10 3 rfl ?_
      refine g_callS 13 rfl cs_RX8_51 (m_isIn c 0 9 hc (by omega) (by omega)) rfl rfl (by decide) (by omega) (by omega) (Nat.le_of_ble_eq_true rfl) (e_kr ?_) e_kx
      refine g_if_eq 14 34 rfl rfl b_r (fun c27 => ?_) (fun c27 => ?_)
      · replace c27 := b_0.mp c27
        rw [if_neg (by omega)]
        refine g_run 17 1 rfl ?_
        exact g_iret 18 rfl rfl (by first | exact trivial | exact Or.inl rfl | exact Or.inr rfl | (show _ ∨ _; omega)) ⟨rfl, rfl, rfl⟩
      · replace c27 := b_1.mp c27
        rw [if_pos (by omega)]
        refine g_run 15 2 rfl ?_
        exact g_iret 18 rfl rfl (by first | exact trivial | exact Or.inl rfl | exact Or.inr rfl | (show _ ∨ _; omega)) ⟨rfl, rfl, rfl⟩
theorem m_bakes (H : MM M m q A) (hv : Vok B (A 0)) (z : Int) (d : Nat) (hz : z = d) (hd : d < 6) : Ct (e_L r0) Γ mX8_bakes 1 0 0 [vR m, vI z] M n (e_rt (.inl (some (vI (if vBake (A 0) d then 1 else 0)))) M n) := by
  refine g_start ok_X8_bakes rfl rfl ?_
  refine g_run 0 3 rfl ?_
  refine g_callV 3 rfl cv_RX8_55 H.2.1 (m_of H z 8 d 8 hz rfl (by omega)) rfl rfl (by decide) (by omega) (by omega) (Nat.le_of_ble_eq_true rfl) (e_kr ?_) e_kx
  have q8 := hv.2.2.2.2.2.2.2.1 d hd
  refine g_if_le 4 14 rfl rfl (by omega) (fun c7 => ?_) (fun c7 => ?_)
  · rw [if_neg (by omega)]
    refine g_run 7 1 rfl ?_
    exact g_iret 8 rfl rfl (by first | exact trivial | exact Or.inl rfl | exact Or.inr rfl | (show _ ∨ _; omega)) ⟨rfl, rfl, rfl⟩
  · rw [if_pos (by omega)]
    refine g_run 5 2 rfl ?_
    exact g_iret 8 rfl rfl (by first | exact trivial | exact Or.inl rfl | exact Or.inr rfl | (show _ ∨ _; omega)) ⟨rfl, rfl, rfl⟩
theorem m_open (H : MM M m q A) (hv : Vok B (A 0)) (z : Int) (d : Nat) (hz : z = d) (hd : d < 6) : Ct (e_L r0) Γ mX8_open 2 0 0 [vR m, vI z] M n (e_rt (.inl (some (vI (if vOpen (A 0) d then 1 else 0)))) M n) := by
  refine g_start ok_X8_open rfl rfl ?_
  refine g_run 0 3 rfl ?_
  refine g_callV 3 rfl cv_RX8_55 H.2.1 (m_of H z 6 d 6 hz rfl (by omega)) rfl rfl (by decide) (by omega) (by omega) (Nat.le_of_ble_eq_true rfl) (e_kr ?_) e_kx
  have q6 := hv.2.2.2.2.2.1 d hd
  refine g_run 4 1 rfl ?_
  refine g_icmp_eq 5 19 rfl rfl (by omega) (by omega) (fun c8 => ?_) (fun c8 => ?_)
  · rw [if_pos (Or.inl c8)]
    refine g_run 10 2 rfl ?_
    exact g_iret 13 rfl rfl (by first | exact trivial | exact Or.inl rfl | exact Or.inr rfl | (show _ ∨ _; omega)) ⟨rfl, rfl, rfl⟩
  · refine g_run 6 2 rfl ?_
    refine g_callV 8 rfl cv_RX8_59 H.2.1 (m_bakes H hv z d hz hd) rfl rfl (by decide) (by omega) (by omega) (Nat.le_of_ble_eq_true rfl) (e_kr ?_) e_kx
    refine g_if_eq 9 23 rfl rfl b_r (fun c16 => ?_) (fun c16 => ?_)
    · replace c16 := b_0.mp c16
      rw [if_neg (by omega)]
      refine g_run 12 1 rfl ?_
      exact g_iret 13 rfl rfl (by first | exact trivial | exact Or.inl rfl | exact Or.inr rfl | (show _ ∨ _; omega)) ⟨rfl, rfl, rfl⟩
    · replace c16 := b_1.mp c16
      rw [if_pos (Or.inr c16)]
      refine g_run 10 2 rfl ?_
      exact g_iret 13 rfl rfl (by first | exact trivial | exact Or.inl rfl | exact Or.inr rfl | (show _ ∨ _; omega)) ⟨rfl, rfl, rfl⟩
theorem m_playOf (H : MM M m q A) (hv : Vok B (A 0)) (z : Int) (d : Nat) (hz : z = d) (hd : d < 6) : Ct (e_L r0) Γ mX8_playOf 1 0 0 [vR m, vI z] M n (e_rt (.inl (some (vI (A 0 (7 + 9 * d + 7) / 5)))) M n) := by
  refine g_start ok_X8_playOf rfl rfl ?_
  refine g_run 0 3 rfl ?_
  refine g_callV 3 rfl cv_RX8_55 H.2.1 (m_of H z 7 d 7 hz rfl (by omega)) rfl rfl (by decide) (by omega) (by omega) (Nat.le_of_ble_eq_true rfl) (e_kr ?_) e_kx
  have q7 := hv.2.2.2.2.2.2.1 d hd
  refine g_run 4 1 rfl ?_
  refine g_idiv 5 rfl (by omega) (by omega) ?_
  exact g_iret 6 rfl rfl (by first | exact trivial | exact Or.inl rfl | exact Or.inr rfl | (show _ ∨ _; omega)) ⟨rfl, rfl, rfl⟩
end MO
