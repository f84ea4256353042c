/-! the reference's class: shape and small methods (wip/whole/gen/c_model.py prints this part) -/
/-- the model at m: q its numbers by the fields' places, A its arrays: s, was, tried, saved, past, line, tape, commands -/
def MM (M : Mem) (m : Nat) (q : Nat → Int) (A : Nat → Nat → Int) : Prop := 100 ≤ m ∧ M m = cO 9 [vR (m + 1), vR (m + 2), vR (m + 3), vR (m + 4), vR (m + 5), vI (q 5), vI (q 6), vI (q 7), vI (q 8), vI (q 9), vI (q 10), vR (m + 6), vI (q 12), vR (m + 7), vR (m + 8), vI (q 15), vI (q 16), vI (q 17)] ∧ M (m + 1) = cI 0 85 (A 0) ∧ M (m + 2) = cI 0 85 (A 1) ∧ M (m + 3) = cI 0 85 (A 2) ∧ M (m + 4) = cI 0 85 (A 3) ∧ M (m + 5) = cI 0 680 (A 4) ∧ M (m + 6) = cI 0 30 (A 5) ∧ M (m + 7) = cI 0 60 (A 6) ∧ M (m + 8) = cI 0 155 (A 7)
theorem MM_fr {a b m : Nat} {M M' : Mem} {q : Nat → Int} {A : Nat → Nat → Int} (hf : e_fr a b M M') (hx : m + 9 ≤ a ∨ b ≤ m) (h : MM M m q A) : MM M' m q A := ⟨h.1, (hf _ (by omega)).trans h.2.1, (hf _ (by omega)).trans h.2.2.1, (hf _ (by omega)).trans h.2.2.2.1, (hf _ (by omega)).trans h.2.2.2.2.1, (hf _ (by omega)).trans h.2.2.2.2.2.1, (hf _ (by omega)).trans h.2.2.2.2.2.2.1, (hf _ (by omega)).trans h.2.2.2.2.2.2.2.1, (hf _ (by omega)).trans h.2.2.2.2.2.2.2.2.1, (hf _ (by omega)).trans h.2.2.2.2.2.2.2.2.2⟩
theorem MM_q5 {m : Nat} {M M' : Mem} {q : Nat → Int} {A : Nat → Nat → Int} {x : Int} (H : MM M m q A) (h : M' = va_up M m (cO 9 [vR (m + 1), vR (m + 2), vR (m + 3), vR (m + 4), vR (m + 5), vI x, vI (q 6), vI (q 7), vI (q 8), vI (q 9), vI (q 10), vR (m + 6), vI (q 12), vR (m + 7), vR (m + 8), vI (q 15), vI (q 16), vI (q 17)])) : MM M' m (va_up q 5 x) A := ⟨H.1, (congrFun h m).trans (va_up_self _ _ _), (congrFun h (m + 1)).trans ((va_up_ne _ _ (by omega)).trans H.2.2.1), (congrFun h (m + 2)).trans ((va_up_ne _ _ (by omega)).trans H.2.2.2.1), (congrFun h (m + 3)).trans ((va_up_ne _ _ (by omega)).trans H.2.2.2.2.1), (congrFun h (m + 4)).trans ((va_up_ne _ _ (by omega)).trans H.2.2.2.2.2.1), (congrFun h (m + 5)).trans ((va_up_ne _ _ (by omega)).trans H.2.2.2.2.2.2.1), (congrFun h (m + 6)).trans ((va_up_ne _ _ (by omega)).trans H.2.2.2.2.2.2.2.1), (congrFun h (m + 7)).trans ((va_up_ne _ _ (by omega)).trans H.2.2.2.2.2.2.2.2.1), (congrFun h (m + 8)).trans ((va_up_ne _ _ (by omega)).trans H.2.2.2.2.2.2.2.2.2)⟩
theorem MM_q6 {m : Nat} {M M' : Mem} {q : Nat → Int} {A : Nat → Nat → Int} {x : Int} (H : MM M m q A) (h : M' = va_up M m (cO 9 [vR (m + 1), vR (m + 2), vR (m + 3), vR (m + 4), vR (m + 5), vI (q 5), vI x, vI (q 7), vI (q 8), vI (q 9), vI (q 10), vR (m + 6), vI (q 12), vR (m + 7), vR (m + 8), vI (q 15), vI (q 16), vI (q 17)])) : MM M' m (va_up q 6 x) A := ⟨H.1, (congrFun h m).trans (va_up_self _ _ _), (congrFun h (m + 1)).trans ((va_up_ne _ _ (by omega)).trans H.2.2.1), (congrFun h (m + 2)).trans ((va_up_ne _ _ (by omega)).trans H.2.2.2.1), (congrFun h (m + 3)).trans ((va_up_ne _ _ (by omega)).trans H.2.2.2.2.1), (congrFun h (m + 4)).trans ((va_up_ne _ _ (by omega)).trans H.2.2.2.2.2.1), (congrFun h (m + 5)).trans ((va_up_ne _ _ (by omega)).trans H.2.2.2.2.2.2.1), (congrFun h (m + 6)).trans ((va_up_ne _ _ (by omega)).trans H.2.2.2.2.2.2.2.1), (congrFun h (m + 7)).trans ((va_up_ne _ _ (by omega)).trans H.2.2.2.2.2.2.2.2.1), (congrFun h (m + 8)).trans ((va_up_ne _ _ (by omega)).trans H.2.2.2.2.2.2.2.2.2)⟩
theorem MM_q7 {m : Nat} {M M' : Mem} {q : Nat → Int} {A : Nat → Nat → Int} {x : Int} (H : MM M m q A) (h : M' = va_up M m (cO 9 [vR (m + 1), vR (m + 2), vR (m + 3), vR (m + 4), vR (m + 5), vI (q 5), vI (q 6), vI x, vI (q 8), vI (q 9), vI (q 10), vR (m + 6), vI (q 12), vR (m + 7), vR (m + 8), vI (q 15), vI (q 16), vI (q 17)])) : MM M' m (va_up q 7 x) A := ⟨H.1, (congrFun h m).trans (va_up_self _ _ _), (congrFun h (m + 1)).trans ((va_up_ne _ _ (by omega)).trans H.2.2.1), (congrFun h (m + 2)).trans ((va_up_ne _ _ (by omega)).trans H.2.2.2.1), (congrFun h (m + 3)).trans ((va_up_ne _ _ (by omega)).trans H.2.2.2.2.1), (congrFun h (m + 4)).trans ((va_up_ne _ _ (by omega)).trans H.2.2.2.2.2.1), (congrFun h (m + 5)).trans ((va_up_ne _ _ (by omega)).trans H.2.2.2.2.2.2.1), (congrFun h (m + 6)).trans ((va_up_ne _ _ (by omega)).trans H.2.2.2.2.2.2.2.1), (congrFun h (m + 7)).trans ((va_up_ne _ _ (by omega)).trans H.2.2.2.2.2.2.2.2.1), (congrFun h (m + 8)).trans ((va_up_ne _ _ (by omega)).trans H.2.2.2.2.2.2.2.2.2)⟩
theorem MM_q8 {m : Nat} {M M' : Mem} {q : Nat → Int} {A : Nat → Nat → Int} {x : Int} (H : MM M m q A) (h : M' = va_up M m (cO 9 [vR (m + 1), vR (m + 2), vR (m + 3), vR (m + 4), vR (m + 5), vI (q 5), vI (q 6), vI (q 7), vI x, vI (q 9), vI (q 10), vR (m + 6), vI (q 12), vR (m + 7), vR (m + 8), vI (q 15), vI (q 16), vI (q 17)])) : MM M' m (va_up q 8 x) A := ⟨H.1, (congrFun h m).trans (va_up_self _ _ _), (congrFun h (m + 1)).trans ((va_up_ne _ _ (by omega)).trans H.2.2.1), (congrFun h (m + 2)).trans ((va_up_ne _ _ (by omega)).trans H.2.2.2.1), (congrFun h (m + 3)).trans ((va_up_ne _ _ (by omega)).trans H.2.2.2.2.1), (congrFun h (m + 4)).trans ((va_up_ne _ _ (by omega)).trans H.2.2.2.2.2.1), (congrFun h (m + 5)).trans ((va_up_ne _ _ (by omega)).trans H.2.2.2.2.2.2.1), (congrFun h (m + 6)).trans ((va_up_ne _ _ (by omega)).trans H.2.2.2.2.2.2.2.1), (congrFun h (m + 7)).trans ((va_up_ne _ _ (by omega)).trans H.2.2.2.2.2.2.2.2.1), (congrFun h (m + 8)).trans ((va_up_ne _ _ (by omega)).trans H.2.2.2.2.2.2.2.2.2)⟩
theorem MM_q9 {m : Nat} {M M' : Mem} {q : Nat → Int} {A : Nat → Nat → Int} {x : Int} (H : MM M m q A) (h : M' = va_up M m (cO 9 [vR (m + 1), vR (m + 2), vR (m + 3), vR (m + 4), vR (m + 5), vI (q 5), vI (q 6), vI (q 7), vI (q 8), vI x, vI (q 10), vR (m + 6), vI (q 12), vR (m + 7), vR (m + 8), vI (q 15), vI (q 16), vI (q 17)])) : MM M' m (va_up q 9 x) A := ⟨H.1, (congrFun h m).trans (va_up_self _ _ _), (congrFun h (m + 1)).trans ((va_up_ne _ _ (by omega)).trans H.2.2.1), (congrFun h (m + 2)).trans ((va_up_ne _ _ (by omega)).trans H.2.2.2.1), (congrFun h (m + 3)).trans ((va_up_ne _ _ (by omega)).trans H.2.2.2.2.1), (congrFun h (m + 4)).trans ((va_up_ne _ _ (by omega)).trans H.2.2.2.2.2.1), (congrFun h (m + 5)).trans ((va_up_ne _ _ (by omega)).trans H.2.2.2.2.2.2.1), (congrFun h (m + 6)).trans ((va_up_ne _ _ (by omega)).trans H.2.2.2.2.2.2.2.1), (congrFun h (m + 7)).trans ((va_up_ne _ _ (by omega)).trans H.2.2.2.2.2.2.2.2.1), (congrFun h (m + 8)).trans ((va_up_ne _ _ (by omega)).trans H.2.2.2.2.2.2.2.2.2)⟩
theorem MM_q10 {m : Nat} {M M' : Mem} {q : Nat → Int} {A : Nat → Nat → Int} {x : Int} (H : MM M m q A) (h : M' = va_up M m (cO 9 [vR (m + 1), vR (m + 2), vR (m + 3), vR (m + 4), vR (m + 5), vI (q 5), vI (q 6), vI (q 7), vI (q 8), vI (q 9), vI x, vR (m + 6), vI (q 12), vR (m + 7), vR (m + 8), vI (q 15), vI (q 16), vI (q 17)])) : MM M' m (va_up q 10 x) A := ⟨H.1, (congrFun h m).trans (va_up_self _ _ _), (congrFun h (m + 1)).trans ((va_up_ne _ _ (by omega)).trans H.2.2.1), (congrFun h (m + 2)).trans ((va_up_ne _ _ (by omega)).trans H.2.2.2.1), (congrFun h (m + 3)).trans ((va_up_ne _ _ (by omega)).trans H.2.2.2.2.1), (congrFun h (m + 4)).trans ((va_up_ne _ _ (by omega)).trans H.2.2.2.2.2.1), (congrFun h (m + 5)).trans ((va_up_ne _ _ (by omega)).trans H.2.2.2.2.2.2.1), (congrFun h (m + 6)).trans ((va_up_ne _ _ (by omega)).trans H.2.2.2.2.2.2.2.1), (congrFun h (m + 7)).trans ((va_up_ne _ _ (by omega)).trans H.2.2.2.2.2.2.2.2.1), (congrFun h (m + 8)).trans ((va_up_ne _ _ (by omega)).trans H.2.2.2.2.2.2.2.2.2)⟩
theorem MM_q12 {m : Nat} {M M' : Mem} {q : Nat → Int} {A : Nat → Nat → Int} {x : Int} (H : MM M m q A) (h : M' = va_up M m (cO 9 [vR (m + 1), vR (m + 2), vR (m + 3), vR (m + 4), vR (m + 5), vI (q 5), vI (q 6), vI (q 7), vI (q 8), vI (q 9), vI (q 10), vR (m + 6), vI x, vR (m + 7), vR (m + 8), vI (q 15), vI (q 16), vI (q 17)])) : MM M' m (va_up q 12 x) A := ⟨H.1, (congrFun h m).trans (va_up_self _ _ _), (congrFun h (m + 1)).trans ((va_up_ne _ _ (by omega)).trans H.2.2.1), (congrFun h (m + 2)).trans ((va_up_ne _ _ (by omega)).trans H.2.2.2.1), (congrFun h (m + 3)).trans ((va_up_ne _ _ (by omega)).trans H.2.2.2.2.1), (congrFun h (m + 4)).trans ((va_up_ne _ _ (by omega)).trans H.2.2.2.2.2.1), (congrFun h (m + 5)).trans ((va_up_ne _ _ (by omega)).trans H.2.2.2.2.2.2.1), (congrFun h (m + 6)).trans ((va_up_ne _ _ (by omega)).trans H.2.2.2.2.2.2.2.1), (congrFun h (m + 7)).trans ((va_up_ne _ _ (by omega)).trans H.2.2.2.2.2.2.2.2.1), (congrFun h (m + 8)).trans ((va_up_ne _ _ (by omega)).trans H.2.2.2.2.2.2.2.2.2)⟩
theorem MM_q15 {m : Nat} {M M' : Mem} {q : Nat → Int} {A : Nat → Nat → Int} {x : Int} (H : MM M m q A) (h : M' = va_up M m (cO 9 [vR (m + 1), vR (m + 2), vR (m + 3), vR (m + 4), vR (m + 5), vI (q 5), vI (q 6), vI (q 7), vI (q 8), vI (q 9), vI (q 10), vR (m + 6), vI (q 12), vR (m + 7), vR (m + 8), vI x, vI (q 16), vI (q 17)])) : MM M' m (va_up q 15 x) A := ⟨H.1, (congrFun h m).trans (va_up_self _ _ _), (congrFun h (m + 1)).trans ((va_up_ne _ _ (by omega)).trans H.2.2.1), (congrFun h (m + 2)).trans ((va_up_ne _ _ (by omega)).trans H.2.2.2.1), (congrFun h (m + 3)).trans ((va_up_ne _ _ (by omega)).trans H.2.2.2.2.1), (congrFun h (m + 4)).trans ((va_up_ne _ _ (by omega)).trans H.2.2.2.2.2.1), (congrFun h (m + 5)).trans ((va_up_ne _ _ (by omega)).trans H.2.2.2.2.2.2.1), (congrFun h (m + 6)).trans ((va_up_ne _ _ (by omega)).trans H.2.2.2.2.2.2.2.1), (congrFun h (m + 7)).trans ((va_up_ne _ _ (by omega)).trans H.2.2.2.2.2.2.2.2.1), (congrFun h (m + 8)).trans ((va_up_ne _ _ (by omega)).trans H.2.2.2.2.2.2.2.2.2)⟩
theorem MM_q16 {m : Nat} {M M' : Mem} {q : Nat → Int} {A : Nat → Nat → Int} {x : Int} (H : MM M m q A) (h : M' = va_up M m (cO 9 [vR (m + 1), vR (m + 2), vR (m + 3), vR (m + 4), vR (m + 5), vI (q 5), vI (q 6), vI (q 7), vI (q 8), vI (q 9), vI (q 10), vR (m + 6), vI (q 12), vR (m + 7), vR (m + 8), vI (q 15), vI x, vI (q 17)])) : MM M' m (va_up q 16 x) A := ⟨H.1, (congrFun h m).trans (va_up_self _ _ _), (congrFun h (m + 1)).trans ((va_up_ne _ _ (by omega)).trans H.2.2.1), (congrFun h (m + 2)).trans ((va_up_ne _ _ (by omega)).trans H.2.2.2.1), (congrFun h (m + 3)).trans ((va_up_ne _ _ (by omega)).trans H.2.2.2.2.1), (congrFun h (m + 4)).trans ((va_up_ne _ _ (by omega)).trans H.2.2.2.2.2.1), (congrFun h (m + 5)).trans ((va_up_ne _ _ (by omega)).trans H.2.2.2.2.2.2.1), (congrFun h (m + 6)).trans ((va_up_ne _ _ (by omega)).trans H.2.2.2.2.2.2.2.1), (congrFun h (m + 7)).trans ((va_up_ne _ _ (by omega)).trans H.2.2.2.2.2.2.2.2.1), (congrFun h (m + 8)).trans ((va_up_ne _ _ (by omega)).trans H.2.2.2.2.2.2.2.2.2)⟩
theorem MM_q17 {m : Nat} {M M' : Mem} {q : Nat → Int} {A : Nat → Nat → Int} {x : Int} (H : MM M m q A) (h : M' = va_up M m (cO 9 [vR (m + 1), vR (m + 2), vR (m + 3), vR (m + 4), vR (m + 5), vI (q 5), vI (q 6), vI (q 7), vI (q 8), vI (q 9), vI (q 10), vR (m + 6), vI (q 12), vR (m + 7), vR (m + 8), vI (q 15), vI (q 16), vI x])) : MM M' m (va_up q 17 x) A := ⟨H.1, (congrFun h m).trans (va_up_self _ _ _), (congrFun h (m + 1)).trans ((va_up_ne _ _ (by omega)).trans H.2.2.1), (congrFun h (m + 2)).trans ((va_up_ne _ _ (by omega)).trans H.2.2.2.1), (congrFun h (m + 3)).trans ((va_up_ne _ _ (by omega)).trans H.2.2.2.2.1), (congrFun h (m + 4)).trans ((va_up_ne _ _ (by omega)).trans H.2.2.2.2.2.1), (congrFun h (m + 5)).trans ((va_up_ne _ _ (by omega)).trans H.2.2.2.2.2.2.1), (congrFun h (m + 6)).trans ((va_up_ne _ _ (by omega)).trans H.2.2.2.2.2.2.2.1), (congrFun h (m + 7)).trans ((va_up_ne _ _ (by omega)).trans H.2.2.2.2.2.2.2.2.1), (congrFun h (m + 8)).trans ((va_up_ne _ _ (by omega)).trans H.2.2.2.2.2.2.2.2.2)⟩
theorem MM_A0 {m : Nat} {M M' : Mem} {q : Nat → Int} {A : Nat → Nat → Int} {f : Nat → Int} (H : MM M m q A) (h : M' = va_up M (m + 1) (cI 0 85 f)) : MM M' m q (va_up A 0 f) := ⟨H.1, (congrFun h m).trans ((va_up_ne _ _ (by omega)).trans H.2.1), (congrFun h (m + 1)).trans (va_up_self _ _ _), (congrFun h (m + 2)).trans ((va_up_ne _ _ (by omega)).trans H.2.2.2.1), (congrFun h (m + 3)).trans ((va_up_ne _ _ (by omega)).trans H.2.2.2.2.1), (congrFun h (m + 4)).trans ((va_up_ne _ _ (by omega)).trans H.2.2.2.2.2.1), (congrFun h (m + 5)).trans ((va_up_ne _ _ (by omega)).trans H.2.2.2.2.2.2.1), (congrFun h (m + 6)).trans ((va_up_ne _ _ (by omega)).trans H.2.2.2.2.2.2.2.1), (congrFun h (m + 7)).trans ((va_up_ne _ _ (by omega)).trans H.2.2.2.2.2.2.2.2.1), (congrFun h (m + 8)).trans ((va_up_ne _ _ (by omega)).trans H.2.2.2.2.2.2.2.2.2)⟩
theorem MM_A1 {m : Nat} {M M' : Mem} {q : Nat → Int} {A : Nat → Nat → Int} {f : Nat → Int} (H : MM M m q A) (h : M' = va_up M (m + 2) (cI 0 85 f)) : MM M' m q (va_up A 1 f) := ⟨H.1, (congrFun h m).trans ((va_up_ne _ _ (by omega)).trans H.2.1), (congrFun h (m + 1)).trans ((va_up_ne _ _ (by omega)).trans H.2.2.1), (congrFun h (m + 2)).trans (va_up_self _ _ _), (congrFun h (m + 3)).trans ((va_up_ne _ _ (by omega)).trans H.2.2.2.2.1), (congrFun h (m + 4)).trans ((va_up_ne _ _ (by omega)).trans H.2.2.2.2.2.1), (congrFun h (m + 5)).trans ((va_up_ne _ _ (by omega)).trans H.2.2.2.2.2.2.1), (congrFun h (m + 6)).trans ((va_up_ne _ _ (by omega)).trans H.2.2.2.2.2.2.2.1), (congrFun h (m + 7)).trans ((va_up_ne _ _ (by omega)).trans H.2.2.2.2.2.2.2.2.1), (congrFun h (m + 8)).trans ((va_up_ne _ _ (by omega)).trans H.2.2.2.2.2.2.2.2.2)⟩
theorem MM_A2 {m : Nat} {M M' : Mem} {q : Nat → Int} {A : Nat → Nat → Int} {f : Nat → Int} (H : MM M m q A) (h : M' = va_up M (m + 3) (cI 0 85 f)) : MM M' m q (va_up A 2 f) := ⟨H.1, (congrFun h m).trans ((va_up_ne _ _ (by omega)).trans H.2.1), (congrFun h (m + 1)).trans ((va_up_ne _ _ (by omega)).trans H.2.2.1), (congrFun h (m + 2)).trans ((va_up_ne _ _ (by omega)).trans H.2.2.2.1), (congrFun h (m + 3)).trans (va_up_self _ _ _), (congrFun h (m + 4)).trans ((va_up_ne _ _ (by omega)).trans H.2.2.2.2.2.1), (congrFun h (m + 5)).trans ((va_up_ne _ _ (by omega)).trans H.2.2.2.2.2.2.1), (congrFun h (m + 6)).trans ((va_up_ne _ _ (by omega)).trans H.2.2.2.2.2.2.2.1), (congrFun h (m + 7)).trans ((va_up_ne _ _ (by omega)).trans H.2.2.2.2.2.2.2.2.1), (congrFun h (m + 8)).trans ((va_up_ne _ _ (by omega)).trans H.2.2.2.2.2.2.2.2.2)⟩
theorem MM_A3 {m : Nat} {M M' : Mem} {q : Nat → Int} {A : Nat → Nat → Int} {f : Nat → Int} (H : MM M m q A) (h : M' = va_up M (m + 4) (cI 0 85 f)) : MM M' m q (va_up A 3 f) := ⟨H.1, (congrFun h m).trans ((va_up_ne _ _ (by omega)).trans H.2.1), (congrFun h (m + 1)).trans ((va_up_ne _ _ (by omega)).trans H.2.2.1), (congrFun h (m + 2)).trans ((va_up_ne _ _ (by omega)).trans H.2.2.2.1), (congrFun h (m + 3)).trans ((va_up_ne _ _ (by omega)).trans H.2.2.2.2.1), (congrFun h (m + 4)).trans (va_up_self _ _ _), (congrFun h (m + 5)).trans ((va_up_ne _ _ (by omega)).trans H.2.2.2.2.2.2.1), (congrFun h (m + 6)).trans ((va_up_ne _ _ (by omega)).trans H.2.2.2.2.2.2.2.1), (congrFun h (m + 7)).trans ((va_up_ne _ _ (by omega)).trans H.2.2.2.2.2.2.2.2.1), (congrFun h (m + 8)).trans ((va_up_ne _ _ (by omega)).trans H.2.2.2.2.2.2.2.2.2)⟩
theorem MM_A4 {m : Nat} {M M' : Mem} {q : Nat → Int} {A : Nat → Nat → Int} {f : Nat → Int} (H : MM M m q A) (h : M' = va_up M (m + 5) (cI 0 680 f)) : MM M' m q (va_up A 4 f) := ⟨H.1, (congrFun h m).trans ((va_up_ne _ _ (by omega)).trans H.2.1), (congrFun h (m + 1)).trans ((va_up_ne _ _ (by omega)).trans H.2.2.1), (congrFun h (m + 2)).trans ((va_up_ne _ _ (by omega)).trans H.2.2.2.1), (congrFun h (m + 3)).trans ((va_up_ne _ _ (by omega)).trans H.2.2.2.2.1), (congrFun h (m + 4)).trans ((va_up_ne _ _ (by omega)).trans H.2.2.2.2.2.1), (congrFun h (m + 5)).trans (va_up_self _ _ _), (congrFun h (m + 6)).trans ((va_up_ne _ _ (by omega)).trans H.2.2.2.2.2.2.2.1), (congrFun h (m + 7)).trans ((va_up_ne _ _ (by omega)).trans H.2.2.2.2.2.2.2.2.1), (congrFun h (m + 8)).trans ((va_up_ne _ _ (by omega)).trans H.2.2.2.2.2.2.2.2.2)⟩
theorem MM_A5 {m : Nat} {M M' : Mem} {q : Nat → Int} {A : Nat → Nat → Int} {f : Nat → Int} (H : MM M m q A) (h : M' = va_up M (m + 6) (cI 0 30 f)) : MM M' m q (va_up A 5 f) := ⟨H.1, (congrFun h m).trans ((va_up_ne _ _ (by omega)).trans H.2.1), (congrFun h (m + 1)).trans ((va_up_ne _ _ (by omega)).trans H.2.2.1), (congrFun h (m + 2)).trans ((va_up_ne _ _ (by omega)).trans H.2.2.2.1), (congrFun h (m + 3)).trans ((va_up_ne _ _ (by omega)).trans H.2.2.2.2.1), (congrFun h (m + 4)).trans ((va_up_ne _ _ (by omega)).trans H.2.2.2.2.2.1), (congrFun h (m + 5)).trans ((va_up_ne _ _ (by omega)).trans H.2.2.2.2.2.2.1), (congrFun h (m + 6)).trans (va_up_self _ _ _), (congrFun h (m + 7)).trans ((va_up_ne _ _ (by omega)).trans H.2.2.2.2.2.2.2.2.1), (congrFun h (m + 8)).trans ((va_up_ne _ _ (by omega)).trans H.2.2.2.2.2.2.2.2.2)⟩
theorem MM_A6 {m : Nat} {M M' : Mem} {q : Nat → Int} {A : Nat → Nat → Int} {f : Nat → Int} (H : MM M m q A) (h : M' = va_up M (m + 7) (cI 0 60 f)) : MM M' m q (va_up A 6 f) := ⟨H.1, (congrFun h m).trans ((va_up_ne _ _ (by omega)).trans H.2.1), (congrFun h (m + 1)).trans ((va_up_ne _ _ (by omega)).trans H.2.2.1), (congrFun h (m + 2)).trans ((va_up_ne _ _ (by omega)).trans H.2.2.2.1), (congrFun h (m + 3)).trans ((va_up_ne _ _ (by omega)).trans H.2.2.2.2.1), (congrFun h (m + 4)).trans ((va_up_ne _ _ (by omega)).trans H.2.2.2.2.2.1), (congrFun h (m + 5)).trans ((va_up_ne _ _ (by omega)).trans H.2.2.2.2.2.2.1), (congrFun h (m + 6)).trans ((va_up_ne _ _ (by omega)).trans H.2.2.2.2.2.2.2.1), (congrFun h (m + 7)).trans (va_up_self _ _ _), (congrFun h (m + 8)).trans ((va_up_ne _ _ (by omega)).trans H.2.2.2.2.2.2.2.2.2)⟩
theorem MM_A7 {m : Nat} {M M' : Mem} {q : Nat → Int} {A : Nat → Nat → Int} {f : Nat → Int} (H : MM M m q A) (h : M' = va_up M (m + 8) (cI 0 155 f)) : MM M' m q (va_up A 7 f) := ⟨H.1, (congrFun h m).trans ((va_up_ne _ _ (by omega)).trans H.2.1), (congrFun h (m + 1)).trans ((va_up_ne _ _ (by omega)).trans H.2.2.1), (congrFun h (m + 2)).trans ((va_up_ne _ _ (by omega)).trans H.2.2.2.1), (congrFun h (m + 3)).trans ((va_up_ne _ _ (by omega)).trans H.2.2.2.2.1), (congrFun h (m + 4)).trans ((va_up_ne _ _ (by omega)).trans H.2.2.2.2.2.1), (congrFun h (m + 5)).trans ((va_up_ne _ _ (by omega)).trans H.2.2.2.2.2.2.1), (congrFun h (m + 6)).trans ((va_up_ne _ _ (by omega)).trans H.2.2.2.2.2.2.2.1), (congrFun h (m + 7)).trans ((va_up_ne _ _ (by omega)).trans H.2.2.2.2.2.2.2.2.1), (congrFun h (m + 8)).trans (va_up_self _ _ _)⟩
/-- the ranges of a row -/
def Vok (B : Int) (v : Nat → Int) : Prop := (∀ i, i < 85 → -1 ≤ v i ∧ v i ≤ B) ∧ (0 ≤ v 1 ∧ v 1 ≤ 9) ∧ (0 ≤ v 2 ∧ v 2 ≤ 6) ∧ (0 ≤ v 6 ∧ v 6 ≤ 10) ∧ (∀ d j, d < 6 → j < 6 → 0 ≤ v (7 + 9 * d + j) ∧ v (7 + 9 * d + j) ≤ 9) ∧ (∀ d, d < 6 → 0 ≤ v (7 + 9 * d + 6) ∧ v (7 + 9 * d + 6) ≤ 1) ∧ (∀ d, d < 6 → 0 ≤ v (7 + 9 * d + 7) ∧ v (7 + 9 * d + 7) ≤ 20) ∧ (∀ d, d < 6 → 0 ≤ v (7 + 9 * d + 8) ∧ v (7 + 9 * d + 8) ≤ 2) ∧ (∀ o, o < 2 → 0 ≤ v (61 + 2 * o) ∧ v (61 + 2 * o) ≤ 6 ∧ 0 ≤ v (61 + 2 * o + 1) ∧ v (61 + 2 * o + 1) ≤ 6) ∧ B ≤ 1000000000
abbrev vBake (v : Nat → Int) (d : Nat) : Prop := 0 < v (7 + 9 * d + 8)
abbrev vOpen (v : Nat → Int) (d : Nat) : Prop := v (7 + 9 * d + 6) = 1 ∨ 0 < v (7 + 9 * d + 8)
def vAbs (x : Int) : Int := if x < 0 then -x else x
def vAway (v : Nat → Int) (d j : Nat) : Int := if vAbs (v (7 + 9 * d + j) - v (7 + 9 * d + (3 + j))) ≤ 5 then vAbs (v (7 + 9 * d + j) - v (7 + 9 * d + (3 + j))) else 10 - vAbs (v (7 + 9 * d + j) - v (7 + 9 * d + (3 + j)))
def vMis (v : Nat → Int) (d : Nat) (pl : Int) : Nat → Int
  | 0 => 0
  | k + 1 => vMis v d pl k + (if pl < vAway v d k then 1 else 0)
theorem vMis_rng (v : Nat → Int) (d : Nat) (pl : Int) : ∀ k : Nat, 0 ≤ vMis v d pl k ∧ vMis v d pl k ≤ k
  | 0 => by simp [vMis]
  | k + 1 => by
    have := vMis_rng v d pl k
    unfold vMis
    split <;> omega
def vSteps (v : Nat → Int) (d : Nat) : Nat → Int
  | 0 => 0
  | k + 1 => vSteps v d k + (if 0 < vAway v d k - v (7 + 9 * d + 7) / 5 then vAway v d k - v (7 + 9 * d + 7) / 5 else 0)
theorem up_up {α : Type} {f : Nat → α} {k : Nat} {x y : α} : va_up (va_up f k x) k y = va_up f k y := by
  funext j
  by_cases e : j = k
  · subst e; rw [va_up_self, va_up_self]
  · rw [va_up_ne _ _ e, va_up_ne _ _ e, va_up_ne _ _ e]
theorem up_id {α : Type} {f : Nat → α} {k : Nat} : va_up f k (f k) = f := by
  funext j
  by_cases e : j = k
  · subst e; rw [va_up_self]
  · rw [va_up_ne _ _ e]
section MO
variable {r0 : Option Nat} {Γ : Cx} {M : Mem} {n m : Nat} {q : Nat → Int} {A : Nat → Nat → Int} {B : Int}
theorem m_thrown (H : MM M m q A)  : Ct (e_L r0) Γ mX8_thrown 0 0 0 [vR m] M n (e_rt (.inl (some (vI (q 6)))) M n) := by
  refine g_start ok_X8_thrown rfl rfl ?_
  refine g_run 0 1 rfl ?_
  refine g_get 1 rfl fl_RX8_41 H.2.1 rfl ?_
  exact g_iret 2 rfl rfl (by first | exact trivial | exact Or.inl rfl | exact Or.inr rfl | (show _ ∨ _; omega)) ⟨rfl, rfl, rfl⟩
theorem m_isIn (v a b : Int) (hv : i32 v) (ha : i32 a) (hb : i32 b) : Ct (e_L r0) Γ mX8_isIn 0 0 0 [vI v, vI a, vI b] M n (e_rt (.inl (some (vI (if a ≤ v ∧ v ≤ b then 1 else 0)))) M n) := by
  refine g_start ok_X8_isIn rfl rfl ?_
  refine g_run 0 2 rfl ?_
  refine g_icmp_lt 2 14 rfl rfl (by omega) (by omega) (fun c2 => ?_) (fun c2 => ?_)
  · rw [if_neg (by omega)]
    refine g_run 8 1 rfl ?_
    exact g_iret 9 rfl rfl (by first | exact trivial | exact Or.inl rfl | exact Or.inr rfl | (show _ ∨ _; omega)) ⟨rfl, rfl, rfl⟩
  · refine g_run 3 2 rfl ?_
    refine g_icmp_gt 5 14 rfl rfl (by omega) (by omega) (fun c7 => ?_) (fun c7 => ?_)
    · rw [if_neg (by omega)]
      refine g_run 8 1 rfl ?_
      exact g_iret 9 rfl rfl (by first | exact trivial | exact Or.inl rfl | exact Or.inr rfl | (show _ ∨ _; omega)) ⟨rfl, rfl, rfl⟩
    · rw [if_pos (by omega)]
      refine g_run 6 2 rfl ?_
      exact g_iret 9 rfl rfl (by first | exact trivial | exact Or.inl rfl | exact Or.inr rfl | (show _ ∨ _; omega)) ⟨rfl, rfl, rfl⟩
theorem m_of (H : MM M m q A) (z x : Int) (d e : Nat) (hz : z = d) (hx : x = e) (hde : 7 + 9 * d + e < 85) : Ct (e_L r0) Γ mX8_of 0 0 0 [vR m, vI z, vI x] M n (e_rt (.inl (some (vI (A 0 (7 + 9 * d + e))))) M n) := by
  refine g_start ok_X8_of rfl rfl ?_
  refine g_run 0 1 rfl ?_
  refine g_get 1 rfl fl_RX8_9 H.2.1 rfl ?_
  refine g_run 2 7 rfl ?_
  refine g_iald 9 (7 + 9 * d + e) rfl rfl H.2.2.1 (by first | rfl | omega) (by omega) (by decide) ?_
  exact g_iret 10 rfl rfl (by first | exact trivial | exact Or.inl rfl | exact Or.inr rfl | (show _ ∨ _; omega)) ⟨rfl, rfl, rfl⟩
theorem m_ofOven (H : MM M m q A) (z x : Int) (d e : Nat) (hz : z = d) (hx : x = e) (hde : 61 + 2 * d + e < 85) : Ct (e_L r0) Γ mX8_ofOven 0 0 0 [vR m, vI z, vI x] M n (e_rt (.inl (some (vI (A 0 (61 + 2 * d + e))))) M n) := by
  refine g_start ok_X8_ofOven rfl rfl ?_
  refine g_run 0 1 rfl ?_
  refine g_get 1 rfl fl_RX8_9 H.2.1 rfl ?_
  refine g_run 2 7 rfl ?_
  refine g_iald 9 (61 + 2 * d + e) rfl rfl H.2.2.1 (by first | rfl | omega) (by omega) (by decide) ?_
  exact g_iret 10 rfl rfl (by first | exact trivial | exact Or.inl rfl | exact Or.inr rfl | (show _ ∨ _; omega)) ⟨rfl, rfl, rfl⟩
theorem m_sets (H : MM M m q A) (z x y : Int) (d e : Nat) (hz : z = d) (hx : x = e) (hde : 7 + 9 * d + e < 85) : Ct (e_L r0) Γ mX8_sets 0 0 0 [vR m, vI z, vI x, vI y] M n (e_wr none n fun M' => MM M' m q (va_up A 0 (va_up (A 0) (7 + 9 * d + e) y)) ∧ e_fr m (m + 9) M M') := by
  have fr0 : e_fr m (m + 9) M M := e_fr_refl
  refine g_start ok_X8_sets rfl rfl ?_
  refine g_run 0 1 rfl ?_
  refine g_get 1 rfl fl_RX8_9 H.2.1 rfl ?_
  refine g_run 2 8 rfl ?_
  refine g_iast 10 (7 + 9 * d + e) rfl rfl (by decide) H.2.2.1 (by first | rfl | omega) (by omega) (by decide) (fun M14 hM14 => ?_)
  have H14 := MM_A0 H hM14
  have fr14 := e_fr_tr fr0 (e_fr_up hM14 (by omega))
  exact g_vret 11 rfl rfl ⟨rfl, rfl, H14, fr14⟩
theorem m_setsOven (H : MM M m q A) (z x y : Int) (d e : Nat) (hz : z = d) (hx : x = e) (hde : 61 + 2 * d + e < 85) : Ct (e_L r0) Γ mX8_setsOven 0 0 0 [vR m, vI z, vI x, vI y] M n (e_wr none n fun M' => MM M' m q (va_up A 0 (va_up (A 0) (61 + 2 * d + e) y)) ∧ e_fr m (m + 9) M M') := by
  have fr0 : e_fr m (m + 9) M M := e_fr_refl
  refine g_start ok_X8_setsOven rfl rfl ?_
  refine g_run 0 1 rfl ?_
  refine g_get 1 rfl fl_RX8_9 H.2.1 rfl ?_
  refine g_run 2 8 rfl ?_
  refine g_iast 10 (61 + 2 * d + e) rfl rfl (by decide) H.2.2.1 (by first | rfl | omega) (by omega) (by decide) (fun M13 hM13 => ?_)
  have H13 := MM_A0 H hM13
  have fr13 := e_fr_tr fr0 (e_fr_up hM13 (by omega))
  exact g_vret 11 rfl rfl ⟨rfl, rfl, H13, fr13⟩
theorem m_isDoor (H : MM M m q A) (hv : Vok B (A 0)) (z : Int) (hz : i32 z) : Ct (e_L r0) Γ mX8_isDoor 1 0 0 [vR m, vI z] M n (e_rt (.inl (some (vI (if 0 ≤ z ∧ z ≤ A 0 2 - 1 then 1 else 0)))) M n) := by
  refine g_start ok_X8_isDoor rfl rfl ?_
  refine g_run 0 3 rfl ?_
  refine g_get 3 rfl fl_RX8_9 H.2.1 rfl ?_
  refine g_run 4 1 rfl ?_
  refine g_iald 5 2 rfl rfl H.2.2.1 (by first | rfl | omega) (by omega) (by decide) ?_
  refine g_run 6 2 rfl ?_
  refine g_callS 8 rfl cs_RX8_51 (m_isIn z 0 (A 0 2 - 1) hz (by omega) (by have := hv.2.2.1; omega)) rfl rfl (by decide) (by omega) (by omega) (Nat.le_of_ble_eq_true rfl) (e_kr ?_) e_kx
  exact g_iret 9 rfl rfl b_01 ⟨rfl, rfl, rfl⟩
theorem m_isDial (z : Int) (hz : i32 z) : Ct (e_L r0) Γ mX8_isDial 1 0 0 [vI z] M n (e_rt (.inl (some (vI (if 0 ≤ z ∧ z ≤ 2 then 1 else 0)))) M n) := by
  refine g_start ok_X8_isDial rfl rfl ?_
  refine g_run 0 3 rfl ?_
  refine g_callS 3 rfl cs_RX8_51 (m_isIn z 0 2 hz (by omega) (by omega)) rfl rfl (by decide) (by omega) (by omega) (Nat.le_of_ble_eq_true rfl) (e_kr ?_) e_kx
  exact g_iret 4 rfl rfl b_01 ⟨rfl, rfl, rfl⟩
theorem m_isOven (z : Int) (hz : i32 z) : Ct (e_L r0) Γ mX8_isOven 1 0 0 [vI z] M n (e_rt (.inl (some (vI (if 0 ≤ z ∧ z ≤ 1 then 1 else 0)))) M n) := by
  refine g_start ok_X8_isOven rfl rfl ?_
  refine g_run 0 3 rfl ?_
  refine g_callS 3 rfl cs_RX8_51 (m_isIn z 0 1 hz (by omega) (by omega)) rfl rfl (by decide) (by omega) (by omega) (Nat.le_of_ble_eq_true rfl) (e_kr ?_) e_kx
  exact g_iret 4 rfl rfl b_01 ⟨rfl, rfl, rfl⟩
theorem m_isThrown (H : MM M m q A) (b k : Int) (hb : b = 0 ∨ b = 1) : Ct (e_L r0) Γ mX8_isThrown 0 0 0 [vR m, vI b, vI k] M n (e_wr (some (vI b)) n fun M' => MM M' m (va_up q 6 (if b = 0 then 0 else k)) A ∧ e_fr m (m + 9) M M') := by
  have fr0 : e_fr m (m + 9) M M := e_fr_refl
  refine g_start ok_X8_isThrown rfl rfl ?_
  refine g_run 0 2 rfl ?_
  refine g_if_eq 2 9 rfl rfl (by omega) (fun c2 => ?_) (fun c2 => ?_)
  · rw [if_pos c2]
    refine g_run 5 1 rfl ?_
    refine g_put 6 rfl fp_RX8_41 H.2.1 rfl trivial (fun M10 hM10 => ?_)
    have H10 := MM_q6 H hM10
    have fr10 := e_fr_tr fr0 (e_fr_up hM10 (by omega))
    refine g_run 7 1 rfl ?_
    exact g_iret 8 rfl rfl hb ⟨rfl, rfl, H10, fr10⟩
  · rw [if_neg c2]
    refine g_run 3 2 rfl ?_
    refine g_put 6 rfl fp_RX8_41 H.2.1 rfl trivial (fun M10 hM10 => ?_)
    have H10 := MM_q6 H hM10
    have fr10 := e_fr_tr fr0 (e_fr_up hM10 (by omega))
    refine g_run 7 1 rfl ?_
    exact g_iret 8 rfl rfl hb ⟨rfl, rfl, H10, fr10⟩
theorem m_isSetting (a b c : Int) (ha : i32 a) (hb : i32 b) (hc : i32 c) : Ct (e_L r0) Γ mX8_isSetting 1 0 0 [vI a, vI b, vI c] M n (e_rt (.inl (some (vI (if isPos a ∧ isPos b ∧ isPos c then 1 else 0)))) M n) := by
  refine g_start ok_X8_isSetting rfl rfl ?_
  refine g_run 0 3 rfl ?_
  refine g_callS 3 rfl cs_RX8_51 (m_isIn a 0 9 ha (by omega) (by omega)) rfl rfl (by decide) (by omega) (by omega) (Nat.le_of_ble_eq_true rfl) (e_kr ?_) e_kx
  refine g_if_eq 4 34 rfl rfl b_r (fun c7 => ?_) (fun c7 => ?_)
  · replace c7 := b_0.mp c7
    rw [if_neg (by omega)]
    refine g_run 17 1 rfl ?_
    exact g_iret 18 rfl rfl (by first | exact trivial | exact Or.inl rfl | exact Or.inr rfl | (show _ ∨ _; omega)) ⟨rfl, rfl, rfl⟩
  · replace c7 := b_1.mp c7
    refine g_run 5 3 rfl ?_
    refine g_callS 8 rfl cs_RX8_51 (m_isIn b 0 9 hb (by omega) (by omega)) rfl rfl (by decide) (by omega) (by omega) (Nat.le_of_ble_eq_true rfl) (e_kr ?_) e_kx
    refine g_if_eq 9 34 rfl rfl b_r (fun c17 => ?_) (fun c17 => ?_)
    · replace c17 := b_0.mp c17
      rw [if_neg (by omega)]
      refine g_run 17 1 rfl ?_
      exact g_iret 18 rfl rfl (by first | exact trivial | exact Or.inl rfl | exact Or.inr rfl | (show _ ∨ _; omega)) ⟨rfl, rfl, rfl⟩
    · replace c17 := b_1.mp c17
      refine g_run 10 3 rfl ?_
      refine g_callS 13 rfl cs_RX8_51 (m_isIn c 0 9 hc (by omega) (by omega)) rfl rfl (by decide) (by omega) (by omega) (Nat.le_of_ble_eq_true rfl) (e_kr ?_) e_kx
      refine g_if_eq 14 34 rfl rfl b_r (fun c27 => ?_) (fun c27 => ?_)
      · replace c27 := b_0.mp c27
        rw [if_neg (by omega)]
        refine g_run 17 1 rfl ?_
        exact g_iret 18 rfl rfl (by first | exact trivial | exact Or.inl rfl | exact Or.inr rfl | (show _ ∨ _; omega)) ⟨rfl, rfl, rfl⟩
      · replace c27 := b_1.mp c27
        rw [if_pos (by omega)]
        refine g_run 15 2 rfl ?_
        exact g_iret 18 rfl rfl (by first | exact trivial | exact Or.inl rfl | exact Or.inr rfl | (show _ ∨ _; omega)) ⟨rfl, rfl, rfl⟩
theorem m_bakes (H : MM M m q A) (hv : Vok B (A 0)) (z : Int) (d : Nat) (hz : z = d) (hd : d < 6) : Ct (e_L r0) Γ mX8_bakes 1 0 0 [vR m, vI z] M n (e_rt (.inl (some (vI (if vBake (A 0) d then 1 else 0)))) M n) := by
  refine g_start ok_X8_bakes rfl rfl ?_
  refine g_run 0 3 rfl ?_
  refine g_callV 3 rfl cv_RX8_55 H.2.1 (m_of H z 8 d 8 hz rfl (by omega)) rfl rfl (by decide) (by omega) (by omega) (Nat.le_of_ble_eq_true rfl) (e_kr ?_) e_kx
  have q8 := hv.2.2.2.2.2.2.2.1 d hd
  refine g_if_le 4 14 rfl rfl (by omega) (fun c7 => ?_) (fun c7 => ?_)
  · rw [if_neg (by omega)]
    refine g_run 7 1 rfl ?_
    exact g_iret 8 rfl rfl (by first | exact trivial | exact Or.inl rfl | exact Or.inr rfl | (show _ ∨ _; omega)) ⟨rfl, rfl, rfl⟩
  · rw [if_pos (by omega)]
    refine g_run 5 2 rfl ?_
    exact g_iret 8 rfl rfl (by first | exact trivial | exact Or.inl rfl | exact Or.inr rfl | (show _ ∨ _; omega)) ⟨rfl, rfl, rfl⟩
theorem m_open (H : MM M m q A) (hv : Vok B (A 0)) (z : Int) (d : Nat) (hz : z = d) (hd : d < 6) : Ct (e_L r0) Γ mX8_open 2 0 0 [vR m, vI z] M n (e_rt (.inl (some (vI (if vOpen (A 0) d then 1 else 0)))) M n) := by
  refine g_start ok_X8_open rfl rfl ?_
  refine g_run 0 3 rfl ?_
  refine g_callV 3 rfl cv_RX8_55 H.2.1 (m_of H z 6 d 6 hz rfl (by omega)) rfl rfl (by decide) (by omega) (by omega) (Nat.le_of_ble_eq_true rfl) (e_kr ?_) e_kx
  have q6 := hv.2.2.2.2.2.1 d hd
  refine g_run 4 1 rfl ?_
  refine g_icmp_eq 5 19 rfl rfl (by omega) (by omega) (fun c8 => ?_) (fun c8 => ?_)
  · rw [if_pos (Or.inl c8)]
    refine g_run 10 2 rfl ?_
    exact g_iret 13 rfl rfl (by first | exact trivial | exact Or.inl rfl | exact Or.inr rfl | (show _ ∨ _; omega)) ⟨rfl, rfl, rfl⟩
  · refine g_run 6 2 rfl ?_
    refine g_callV 8 rfl cv_RX8_59 H.2.1 (m_bakes H hv z d hz hd) rfl rfl (by decide) (by omega) (by omega) (Nat.le_of_ble_eq_true rfl) (e_kr ?_) e_kx
    refine g_if_eq 9 23 rfl rfl b_r (fun c16 => ?_) (fun c16 => ?_)
    · replace c16 := b_0.mp c16
      rw [if_neg (by omega)]
      refine g_run 12 1 rfl ?_
      exact g_iret 13 rfl rfl (by first | exact trivial | exact Or.inl rfl | exact Or.inr rfl | (show _ ∨ _; omega)) ⟨rfl, rfl, rfl⟩
    · replace c16 := b_1.mp c16
      rw [if_pos (Or.inr c16)]
      refine g_run 10 2 rfl ?_
      exact g_iret 13 rfl rfl (by first | exact trivial | exact Or.inl rfl | exact Or.inr rfl | (show _ ∨ _; omega)) ⟨rfl, rfl, rfl⟩
theorem m_playOf (H : MM M m q A) (hv : Vok B (A 0)) (z : Int) (d : Nat) (hz : z = d) (hd : d < 6) : Ct (e_L r0) Γ mX8_playOf 1 0 0 [vR m, vI z] M n (e_rt (.inl (some (vI (A 0 (7 + 9 * d + 7) / 5)))) M n) := by
  refine g_start ok_X8_playOf rfl rfl ?_
  refine g_run 0 3 rfl ?_
  refine g_callV 3 rfl cv_RX8_55 H.2.1 (m_of H z 7 d 7 hz rfl (by omega)) rfl rfl (by decide) (by omega) (by omega) (Nat.le_of_ble_eq_true rfl) (e_kr ?_) e_kx
  have q7 := hv.2.2.2.2.2.2.1 d hd
  refine g_run 4 1 rfl ?_
  refine g_idiv 5 rfl (by omega) (by omega) ?_
  exact g_iret 6 rfl rfl (by first | exact trivial | exact Or.inl rfl | exact Or.inr rfl | (show _ ∨ _; omega)) ⟨rfl, rfl, rfl⟩
theorem vAway_rng {v : Nat → Int} (hv : Vok B v) (d j : Nat) (hd : d < 6) (hj : j < 3) : 0 ≤ vAway v d j ∧ vAway v d j ≤ 10 := by
  have q1 := hv.2.2.2.2.1 d j hd (by omega)
  have q2 := hv.2.2.2.2.1 d (3 + j) hd (by omega)
  unfold vAway vAbs
  generalize hx : v (7 + 9 * d + j) - v (7 + 9 * d + (3 + j)) = x
  (repeat' split) <;> omega
theorem vSteps_rng {v : Nat → Int} (hv : Vok B v) (d : Nat) (hd : d < 6) : ∀ k : Nat, k ≤ 3 → 0 ≤ vSteps v d k ∧ vSteps v d k ≤ 10 * k
  | 0, _ => by simp [vSteps]
  | k + 1, hk => by
    have := vSteps_rng hv d hd k (by omega)
    have := vAway_rng hv d k hd (by omega)
    have := hv.2.2.2.2.2.2.1 d hd
    unfold vSteps
    split <;> omega
theorem m_away (H : MM M m q A) (hv : Vok B (A 0)) (z : Int) (d : Nat) (hz : z = d) (hd : d < 6) (x : Int) (j : Nat) (hx : x = j) (hj : j < 3) : Ct (e_L r0) Γ mX8_away 1 0 0 [vR m, vI z, vI x] M n (e_rt (.inl (some (vI (vAway (A 0) d j)))) M n) := by
  refine g_start ok_X8_away rfl rfl ?_
  refine g_run 0 5 rfl ?_
  refine g_callV 5 rfl cv_RX8_55 H.2.1 (m_of H z (0 + x) d j hz (by omega) (by omega)) rfl rfl (by decide) (by omega) (by omega) (Nat.le_of_ble_eq_true rfl) (e_kr ?_) e_kx
  refine g_run 6 5 rfl ?_
  refine g_callV 11 rfl cv_RX8_55 H.2.1 (m_of H z (3 + x) d (3 + j) hz (by omega) (by omega)) rfl rfl (by decide) (by omega) (by omega) (Nat.le_of_ble_eq_true rfl) (e_kr ?_) e_kx
  have q1 := hv.2.2.2.2.1 d j hd (by omega)
  have q2 := hv.2.2.2.2.1 d (3 + j) hd (by omega)
  refine g_run 12 3 rfl ?_
  refine g_if_ge 15 27 rfl rfl (by omega) (fun c19 => ?_) (fun c19 => ?_)
  · have ea : vAbs (A 0 (7 + 9 * d + j) - A 0 (7 + 9 * d + (3 + j))) = (A 0 (7 + 9 * d + j) - A 0 (7 + 9 * d + (3 + j))) := if_neg (by omega)
    refine g_run 19 4 rfl ?_
    refine g_icmp_le 23 41 rfl rfl (by omega) (by omega) (fun c31 => ?_) (fun c31 => ?_)
    · rw [show vAway (A 0) d j = _ from if_pos (by rw [ea]; omega), ea]
      refine g_run 28 1 rfl ?_
      exact g_iret 29 rfl rfl (by first | exact trivial | exact Or.inl rfl | exact Or.inr rfl | (show _ ∨ _; omega)) ⟨rfl, rfl, rfl⟩
    · rw [show vAway (A 0) d j = _ from if_neg (by rw [ea]; omega), ea]
      refine g_run 24 4 rfl ?_
      exact g_iret 29 rfl rfl (by first | exact trivial | exact Or.inl rfl | exact Or.inr rfl | (show _ ∨ _; omega)) ⟨rfl, rfl, rfl⟩
  · have ea : vAbs (A 0 (7 + 9 * d + j) - A 0 (7 + 9 * d + (3 + j))) = -(A 0 (7 + 9 * d + j) - A 0 (7 + 9 * d + (3 + j))) := if_pos (by omega)
    refine g_run 16 3 rfl ?_
    refine g_run 20 3 rfl ?_
    refine g_icmp_le 23 41 rfl rfl (by omega) (by omega) (fun c31 => ?_) (fun c31 => ?_)
    · rw [show vAway (A 0) d j = _ from if_pos (by rw [ea]; omega), ea]
      refine g_run 28 1 rfl ?_
      exact g_iret 29 rfl rfl (by first | exact trivial | exact Or.inl rfl | exact Or.inr rfl | (show _ ∨ _; omega)) ⟨rfl, rfl, rfl⟩
    · rw [show vAway (A 0) d j = _ from if_neg (by rw [ea]; omega), ea]
      refine g_run 24 4 rfl ?_
      exact g_iret 29 rfl rfl (by first | exact trivial | exact Or.inl rfl | exact Or.inr rfl | (show _ ∨ _; omega)) ⟨rfl, rfl, rfl⟩
theorem m_misfits (H : MM M m q A) (hv : Vok B (A 0)) (z : Int) (d : Nat) (hz : z = d) (hd : d < 6) (pl : Int) (hp : 0 ≤ pl ∧ pl ≤ 4) : Ct (e_L r0) Γ mX8_misfits 2 0 0 [vR m, vI z, vI pl] M n (e_rt (.inl (some (vI (vMis (A 0) d pl 3)))) M n) := by
  refine g_start ok_X8_misfits rfl rfl ?_
  refine g_run 0 4 rfl ?_
  refine e_down (P := fun k => G (e_L r0) Γ mX8_misfits 2 0 0 _ 5 [some (vR m), some (vI z), some (vI pl), some (vI (vMis (A 0) d pl k)), some (vI (k : Int))] [] M n 0 0) 3 ?_ 0 (by omega)
  intro k hk ih
  refine g_run 4 2 rfl ?_
  refine g_icmp_ge 6 36 rfl rfl (by omega) (by omega) (fun c8 => ?_) (fun c8 => ?_)
  · obtain rfl : k = 3 := by omega
    refine g_run 21 1 rfl ?_
    exact g_iret 22 rfl rfl (by first | exact trivial | exact Or.inl rfl | exact Or.inr rfl | (show _ ∨ _; omega)) ⟨rfl, rfl, rfl⟩
  · refine g_run 7 4 rfl ?_
    refine g_callV 11 rfl cv_RX8_63 H.2.1 (m_away H hv z d hz hd k k rfl (by omega)) rfl rfl (by decide) (by omega) (by omega) (Nat.le_of_ble_eq_true rfl) (e_kr ?_) e_kx
    have qa := vAway_rng hv d k hd (by omega)
    refine g_run 12 1 rfl ?_
    refine g_icmp_le 13 27 rfl rfl (by omega) (by omega) (fun c20 => ?_) (fun c20 => ?_)
    · have ih9 := ih (by omega)
      rw [show vMis (A 0) d pl (k + 1) = vMis (A 0) d pl k + 0 from by rw [vMis, if_neg (by omega)]] at ih9
      refine g_run 16 5 rfl ?_
      exact ih9
    · have ih9 := ih (by omega)
      rw [show vMis (A 0) d pl (k + 1) = vMis (A 0) d pl k + 1 from by rw [vMis, if_pos (by omega)]] at ih9
      refine g_run 14 2 rfl ?_
      refine g_run 17 4 rfl ?_
      exact ih9
theorem m_steps (H : MM M m q A) (hv : Vok B (A 0)) (z : Int) (d : Nat) (hz : z = d) (hd : d < 6) : Ct (e_L r0) Γ mX8_steps 2 0 0 [vR m, vI z] M n (e_rt (.inl (some (vI (vSteps (A 0) d 3)))) M n) := by
  refine g_start ok_X8_steps rfl rfl ?_
  refine g_run 0 4 rfl ?_
  refine e_down (P := fun k => ∀ y : Option aV, G (e_L r0) Γ mX8_steps 2 0 0 _ 4 [some (vR m), some (vI z), some (vI (vSteps (A 0) d k)), some (vI (k : Int)), y] [] M n 0 0) 3 ?_ 0 (by omega) _
  intro k hk ih y
  refine g_run 4 2 rfl ?_
  refine g_icmp_ge 6 43 rfl rfl (by omega) (by omega) (fun c6 => ?_) (fun c6 => ?_)
  · obtain rfl : k = 3 := by omega
    refine g_run 26 1 rfl ?_
    exact g_iret 27 rfl rfl (by first | exact trivial | exact Or.inl rfl | exact Or.inr rfl | (show _ ∨ _; omega)) ⟨rfl, rfl, rfl⟩
  · refine g_run 7 3 rfl ?_
    refine g_callV 10 rfl cv_RX8_63 H.2.1 (m_away H hv z d hz hd k k rfl (by omega)) rfl rfl (by decide) (by omega) (by omega) (Nat.le_of_ble_eq_true rfl) (e_kr ?_) e_kx
    have qa := vAway_rng hv d k hd (by omega)
    have q7 := hv.2.2.2.2.2.2.1 d hd
    refine g_run 11 2 rfl ?_
    refine g_callV 13 rfl cv_RX8_104 H.2.1 (m_playOf H hv z d hz hd) rfl rfl (by decide) (by omega) (by omega) (Nat.le_of_ble_eq_true rfl) (e_kr ?_) e_kx
    refine g_run 14 4 rfl ?_
    refine g_if_le 18 34 rfl rfl (by omega) (fun c26 => ?_) (fun c26 => ?_)
    · have ih9 := ih (by omega)
      rw [show vSteps (A 0) d (k + 1) = vSteps (A 0) d k + 0 from by rw [vSteps, if_neg (by omega)]] at ih9
      refine g_run 21 5 rfl ?_
      exact ih9 _
    · have ih9 := ih (by omega)
      rw [show vSteps (A 0) d (k + 1) = vSteps (A 0) d k + (vAway (A 0) d k - A 0 (7 + 9 * d + 7) / 5) from by rw [vSteps, if_pos (by omega)]] at ih9
      refine g_run 19 2 rfl ?_
      refine g_run 22 4 rfl ?_
      exact ih9 _
theorem m_crumbled (a b : Int) (ha : 0 ≤ a ∧ a ≤ 20) (hb : 0 ≤ b ∧ b ≤ 3) : Ct (e_L r0) Γ mX8_crumbled 0 0 0 [vI a, vI b] M n (e_rt (.inl (some (vI (if a + b ≤ 20 then a + b else 20)))) M n) := by
  refine g_start ok_X8_crumbled rfl rfl ?_
  refine g_run 0 4 rfl ?_
  refine g_icmp_le 4 13 rfl rfl (by omega) (by omega) (fun c5 => ?_) (fun c5 => ?_)
  · rw [if_pos c5]
    refine g_run 7 3 rfl ?_
    exact g_iret 10 rfl rfl (by first | exact trivial | exact Or.inl rfl | exact Or.inr rfl | (show _ ∨ _; omega)) ⟨rfl, rfl, rfl⟩
  · rw [if_neg c5]
    refine g_run 5 2 rfl ?_
    exact g_iret 10 rfl rfl (by first | exact trivial | exact Or.inl rfl | exact Or.inr rfl | (show _ ∨ _; omega)) ⟨rfl, rfl, rfl⟩
def mComb (v : Nat → Int) (d : Nat) (a b c : Int) : Nat → Int := va_up (va_up (va_up v (7 + 9 * d + 3) a) (7 + 9 * d + 4) b) (7 + 9 * d + 5) c
theorem m_combines (H : MM M m q A) (z a b c : Int) (d : Nat) (hz : z = d) (hd : d < 6) : Ct (e_L r0) Γ mX8_combines 1 0 0 [vR m, vI z, vI a, vI b, vI c] M n (e_wr none n fun M' => MM M' m q (va_up A 0 (mComb (A 0) d a b c)) ∧ e_fr m (m + 9) M M') := by
  have fr0 : e_fr m (m + 9) M M := e_fr_refl
  refine g_start ok_X8_combines rfl rfl ?_
  refine g_run 0 4 rfl ?_
  refine g_callV 4 rfl cv_RX8_66 H.2.1 (m_sets H z 3 a d 3 hz rfl (by omega)) rfl rfl (by decide) (by omega) (by omega) (Nat.le_of_ble_eq_true rfl) (e_kw fun M4 hq4 => ?_) e_kwx
  have fr4 := e_fr_tr fr0 (e_fr_w hq4.2 (by omega))
  refine g_run 5 4 rfl ?_
  refine g_callV 9 rfl cv_RX8_66 hq4.1.2.1 (m_sets hq4.1 z 4 b d 4 hz rfl (by omega)) rfl rfl (by decide) (by omega) (by omega) (Nat.le_of_ble_eq_true rfl) (e_kw fun M11 hq11 => ?_) e_kwx
  have fr11 := e_fr_tr fr4 (e_fr_w hq11.2 (by omega))
  refine g_run 10 4 rfl ?_
  refine g_callV 14 rfl cv_RX8_66 hq11.1.2.1 (m_sets hq11.1 z 5 c d 5 hz rfl (by omega)) rfl rfl (by decide) (by omega) (by omega) (Nat.le_of_ble_eq_true rfl) (e_kw fun M19 hq19 => ?_) e_kwx
  have fr19 := e_fr_tr fr11 (e_fr_w hq19.2 (by omega))
  have H9 := hq19.1
  rw [up_up, up_up, va_up_self, va_up_self] at H9
  exact g_vret 15 rfl rfl ⟨rfl, rfl, H9, fr19⟩
theorem cpy_up {f g : Nat → Int} {b a k : Nat} : va_up (va_cpy f g b a k) (a + k) (f (b + k)) = va_cpy f g b a (k + 1) := by
  funext j
  unfold va_cpy
  by_cases e : j = a + k
  · subst e; rw [va_up_self, if_pos ⟨by omega, by omega⟩, show b + (a + k - a) = b + k from by omega]
  · rw [va_up_ne _ _ e]
    by_cases e2 : a ≤ j ∧ j < a + k
    · rw [if_pos e2, if_pos ⟨e2.1, by omega⟩]
    · rw [if_neg e2, if_neg (by omega)]
theorem cpy_0 {f g : Nat → Int} {b a : Nat} : va_cpy f g b a 0 = g := funext fun j => if_neg (by omega)
section CP
variable {p r l1 l2 : Nat} {f g : Nat → Int}
theorem m_copies (hp : M p = cI 0 l1 f) (hr : M r = cI 0 l2 g) (hpr : p ≠ r) (bz az : Int) (b a : Nat) (hb : bz = b) (ha : az = a) (h1 : b + 85 ≤ l1) (h2 : a + 85 ≤ l2) (hl1 : l1 ≤ 1000) (hl2 : l2 ≤ 1000) : Ct (e_L r0) Γ mX8_copies 0 0 0 [vR p, vI bz, vR r, vI az] M n (e_wr none n fun M' => M' = va_up M r (cI 0 l2 (va_cpy f g b a 85))) := by
  refine g_start ok_X8_copies rfl rfl ?_
  refine g_run 0 2 rfl ?_
  refine e_down (P := fun k => ∀ M', M' = va_up M r (cI 0 l2 (va_cpy f g b a k)) → G (e_L r0) Γ mX8_copies 0 0 0 _ 3 [some (vR p), some (vI bz), some (vR r), some (vI az), some (vI (k : Int))] [] M' n 0 0) 85 ?_ 0 (by omega) M (by rw [cpy_0, ← hr, up_id])
  intro k hk ih M2 e2
  have k2r := (congrFun e2 r).trans (va_up_self _ _ _)
  have k2p := (congrFun e2 p).trans ((va_up_ne _ _ hpr).trans hp)
  refine g_run 2 2 rfl ?_
  refine g_icmp_ge 4 28 rfl rfl (by omega) (by omega) (fun c7 => ?_) (fun c7 => ?_)
  · obtain rfl : k = 85 := by omega
    exact g_vret 17 rfl rfl ⟨rfl, rfl, e2⟩
  · refine g_run 5 8 rfl ?_
    refine g_iald 13 (b + k) rfl rfl k2p (by first | rfl | omega) (by omega) (by omega) ?_
    refine g_iast 14 (a + k) rfl rfl (by decide) k2r (by first | rfl | omega) (by omega) (by omega) (fun M21 hM21 => ?_)
    have k21_from := (congrFun hM21 p).trans ((va_up_ne _ _ (by omega)).trans k2p)
    have k21_to := (congrFun hM21 r).trans (va_up_self _ _ _)
    refine g_run 15 2 rfl ?_
    exact ih (by omega) M21 (by rw [hM21, cpy_up, e2, up_up])
end CP
end MO
