/-! values, texts and scripts agree (by hand) -/
section VA
variable {B : Int} {σ : HS} {v : Nat → Int}
/-- the value that the reference's command gives -/
def mV (v : Nat → Int) (j : Nat) (a b x y : Int) : Int := match j with
  | 0 => v 2
  | 1 => p_turn (v (7 + 9 * a.toNat + b.toNat)) x
  | 2 => if vMany v a.toNat = 0 then 1 else 0
  | 3 => vShut (mShut v a) (v 2).toNat
  | 4 => v 1
  | 5 => 1 + v (7 + 9 * a.toNat + 7) / 4
  | 9 => rSet v a.toNat b x y
  | _ => mHrs v a.toNat 5 - v 5
theorem RV_val (h : RV σ v) (hr : Hok B σ) (hi : HI σ) (j : Nat) (hj : j < 10) (a b x y : Int) (h0 : rf σ j a b x y = 0) : runV σ j a b x y = mV v j a b x y := by
  have q2 := hr.2.1
  have a1 := h.1
  match j, hj with
  | 0, _ => exact a1.2.2.1.symm
  | 1, _ =>
    have h1 := rfTurn_0 h0
    have hd := h1.1
    have hd2 := h1.2.1
    show p_turn ((σ.lk a.toNat).dl b.toNat) x = p_turn (v (7 + 9 * a.toNat + b.toNat)) x
    rw [((RV_row h a.toNat (by omega)).1 b.toNat (by omega)).1]
  | 2, _ =>
    have h1 := rfTry_0 h0
    have hd := h1.1
    show (if lFit (σ.lk a.toNat) = 3 then (1 : Int) else 0) = (if vMany v a.toNat = 0 then 1 else 0)
    rw [RV_many h hr a.toNat (by omega)]
    (repeat' split) <;> omega
  | 3, _ =>
    have h1 := RV_doShut h hr h0
    have h2 := Hok_shut hr a
    show nShut (doShut σ a).lk (σ.sc 0).toNat = vShut (mShut v a) (v 2).toNat
    rw [a1.2.2.1, RV_shut h1 h2 _ (by omega)]
  | 4, _ => exact a1.2.1.symm
  | 5, _ =>
    have h1 := rfBake_0 h0
    have hd := h1.1
    show 1 + (σ.lk a.toNat).cr / 4 = 1 + v (7 + 9 * a.toNat + 7) / 4
    rw [(RV_row h a.toNat (by omega)).2.2.1]
  | 6, _ =>
    show (doHrs σ a.toNat).sc 8 - σ.sc 8 = mHrs v a.toNat 5 - v 5
    rw [(RV_hrs h hr hi a.toNat).1.2.2.2.2.2.1, a1.2.2.2.2.2.1]
  | 7, _ =>
    show (doHrs σ a.toNat).sc 8 - σ.sc 8 = mHrs v a.toNat 5 - v 5
    rw [(RV_hrs h hr hi a.toNat).1.2.2.2.2.2.1, a1.2.2.2.2.2.1]
  | 8, _ =>
    show (doHrs σ a.toNat).sc 8 - σ.sc 8 = mHrs v a.toNat 5 - v 5
    rw [(RV_hrs h hr hi a.toNat).1.2.2.2.2.2.1, a1.2.2.2.2.2.1]
  | 9, _ =>
    have h1 := rfSet_0 h0
    have hd := h1.1
    have row := (RV_row h a.toNat (by omega)).1
    have r0 : v (7 + 9 * a.toNat + 3) = _ := (row 0 (by decide)).2
    have r1 : v (7 + 9 * a.toNat + 4) = _ := (row 1 (by decide)).2
    have r2 : v (7 + 9 * a.toNat + 5) = _ := (row 2 (by decide)).2
    show 0 + (if (σ.lk a.toNat).cb 0 = b then (0 : Int) else 1) + (if (σ.lk a.toNat).cb 1 = x then 0 else 1) + (if (σ.lk a.toNat).cb 2 = y then 0 else 1) = (if v (7 + 9 * a.toNat + 3) = b then 0 else 1) + (if v (7 + 9 * a.toNat + 4) = x then 0 else 1) + (if v (7 + 9 * a.toNat + 5) = y then 0 else 1)
    rw [r0, r1, r2]
    omega
theorem kX_0 (σ : HS) (j : Nat) (hj : j < 10) (a b x y : Int) : kX j (rf σ j a b x y) = 0 ↔ rf σ j a b x y = 0 := by
  match j, hj with
  | 0, _ => show kX 0 (rfDoor σ a b x) = 0 ↔ rfDoor σ a b x = 0; unfold rfDoor; (repeat' split) <;> decide
  | 1, _ => show kX 1 (rfTurn σ a b x) = 0 ↔ rfTurn σ a b x = 0; unfold rfTurn; (repeat' split) <;> decide
  | 2, _ => show kX 2 (rfTry σ a) = 0 ↔ rfTry σ a = 0; unfold rfTry; (repeat' split) <;> decide
  | 3, _ => show kX 3 (rfShut σ a) = 0 ↔ rfShut σ a = 0; unfold rfShut; (repeat' split) <;> decide
  | 4, _ => show kX 4 (rfDamp a) = 0 ↔ rfDamp a = 0; unfold rfDamp; (repeat' split) <;> decide
  | 5, _ => show kX 5 (rfBake σ a b) = 0 ↔ rfBake σ a b = 0; unfold rfBake; (repeat' split) <;> decide
  | 6, _ => show kX 6 (rfHours a) = 0 ↔ rfHours a = 0; unfold rfHours; (repeat' split) <;> decide
  | 7, _ => show kX 7 (rfHours a) = 0 ↔ rfHours a = 0; unfold rfHours; (repeat' split) <;> decide
  | 8, _ => show kX 8 (rfHours a) = 0 ↔ rfHours a = 0; unfold rfHours; (repeat' split) <;> decide
  | 9, _ => show kX 9 (rfSet σ a b x y) = 0 ↔ rfSet σ a b x y = 0; unfold rfSet; (repeat' split) <;> decide
/-- one text over two fields -/
def TE (s s' : TS) : Prop := s.1 = s'.1 ∧ ∀ j, j < s.1 → s.2 j = s'.2 j
theorem TE_0 (f f' : Nat → Int) : TE (0, f) (0, f') := ⟨rfl, fun j hj => absurd hj (Nat.not_lt_zero j)⟩
theorem TE_pP {s s' : TS} (h : TE s s') (c : Int) : TE (pP s c) (pP s' c) := by
  refine ⟨congrArg (· + 1) h.1, fun j hj => ?_⟩
  replace hj : j < s.1 + 1 := hj
  show va_up s.2 s.1 c j = va_up s'.2 s'.1 c j
  rw [← h.1]
  by_cases e : j = s.1
  · subst e; rw [va_up_self, va_up_self]
  · rw [va_up_ne _ _ e, va_up_ne _ _ e]; exact h.2 j (by omega)
theorem TE_pN {s s' : TS} (h : TE s s') (c : Int) : TE (pN s c) (pN s' c) := by
  unfold pN
  split
  · exact TE_pP h _
  · exact TE_pP (TE_pP h _) _
theorem TE_row {s s' : TS} (h : TE s s') {g : Nat → Int} {v : Nat → Int} {d off : Nat} : ∀ k : Nat, (∀ j, j < k → g j = v (7 + 9 * d + (off + j))) → TE (cRow s g k) (pRow s' v d off k)
  | 0, _ => h
  | k + 1, hg => by
    show TE (pN (cRow s g k) (g k)) (pN (pRow s' v d off k) (v (7 + 9 * d + (off + k))))
    rw [hg k (by omega)]
    exact TE_pN (TE_row h k (fun j hj => hg j (by omega))) _
theorem TE_lock (h : RV σ v) (hr : Hok B σ) (d : Nat) (hd : d < 6) (f f' : Nat → Int) : TE (kLock σ d f) (rLock v d f') := by
  have row := RV_row h d hd
  have op := RV_open h hr d hd
  have bk := RV_bake h d hd
  have c : (if hOven σ (d : Int) then (98 : Int) else if (σ.lk d).op = 0 then 115 else 111) = (if vBake v d then 98 else if vOpen v d then 111 else 115) := by
    by_cases e : hOven σ (d : Int)
    · rw [if_pos e, if_pos (bk.mpr e)]
    · rw [if_neg e, if_neg (fun g => e (bk.mp g))]
      by_cases e2 : vOpen v d
      · rw [if_neg (fun g => op.mp g e2), if_pos e2]
      · rw [if_pos (op.mpr e2), if_neg e2]
  unfold kLock rLock
  rw [c, row.2.2.1]
  exact TE_pP (TE_pN (TE_pP (TE_row (TE_pP (TE_row (TE_0 _ _) 3 (fun j hj => by rw [Nat.zero_add]; exact (row.1 j hj).1.symm)) _) 3 (fun j hj => (row.1 j hj).2.symm)) _) _) _
theorem TE_oven1 {s s' : TS} (h : TE s s') (o : Nat) : TE (kOv1 s o) (pOv1 s' o) := by
  unfold kOv1 pOv1
  refine TE_pP (TE_pN ?_ _) _
  split
  · exact TE_pP h _
  · exact h
theorem TE_ovens (h : RV σ v) (f f' : Nat → Int) : ∀ k : Nat, k ≤ 2 → TE (kOv σ f k) (pOv v f' k)
  | 0, _ => TE_0 _ _
  | k + 1, hk => by
    have t := TE_oven1 (TE_ovens h f f' k (by omega)) k
    have q := h.2.2.1 k (by omega)
    show TE (kOven (kOv σ f k) σ k) (pOven (pOv v f' k) v k)
    unfold kOven pOven
    by_cases e : σ.od k = -1
    · rw [if_pos e, if_pos (by omega)]
      exact TE_pP t _
    · rw [if_neg e, if_neg (by omega), q.1, q.2, show σ.od k + 1 - 1 = σ.od k from by omega]
      exact TE_pN (TE_pP (TE_pN t _) _) _
end VA
section AG
variable {t t' : Nat → Int} {l : Nat}
/-- two texts are the same below l -/
abbrev ag (t t' : Nat → Int) (l : Nat) : Prop := ∀ j, j < l → t j = t' j
theorem pm_ag (h : ag t t' l) : ∀ (f : List Int) (i : Nat), pm f t l i = pm f t' l i
  | [], _ => rfl
  | c :: r, i => by
    rw [pm_cons, pm_cons, pm_ag h r (i + 1)]
    by_cases e : i < l
    · rw [h i e]
    · rw [if_neg (fun g => e g.1), if_neg (fun g => e g.1)]
theorem atC_ag (h : ag t t' l) (i : Nat) (c : Int) : atC t l i c ↔ atC t' l i c := ⟨fun g => ⟨g.1, (h i g.1).symm.trans g.2⟩, fun g => ⟨g.1, (h i g.1).trans g.2⟩⟩
theorem rJ_ag (h : ag t t' l) (i : Nat) : rJ t l i = rJ t' l i := by
  unfold rJ
  simp only [atC_ag h, pm_ag h]
theorem rN_ag (h : ag t t' l) (i : Nat) : rN t l i = rN t' l i := by
  unfold rN
  rw [rJ_ag h, pm_ag h]
theorem rOK_ag (h : ag t t' l) (i : Nat) : rOK t l i ↔ rOK t' l i := by
  show (rJ t l i < 10 ∧ rN t l i = (FM (rJ t l i)).length) ↔ (rJ t' l i < 10 ∧ rN t' l i = (FM (rJ t' l i)).length)
  rw [rJ_ag h, rN_ag h]
theorem sT_ag (h : ag t t' l) : ∀ k : Nat, sT t l k = sT t' l k
  | 0 => rfl
  | k + 1 => by
    show sT t l k + rN t l (sT t l k) + 1 = sT t' l k + rN t' l (sT t' l k) + 1
    rw [sT_ag h k, rN_ag h]
theorem sE_ag (h : ag t t' l) (k : Nat) : sE t l k = sE t' l k := by
  show sT t l k + rN t l (sT t l k) = sT t' l k + rN t' l (sT t' l k)
  rw [sT_ag h k, rN_ag h]
theorem sGo_ag (h : ag t t' l) (k : Nat) : sGo t l k ↔ sGo t' l k := by
  show (rOK t l (sT t l k) ∧ atC t l (sE t l k) 59) ↔ (rOK t' l (sT t' l k) ∧ atC t' l (sE t' l k) 59)
  rw [rOK_ag h, atC_ag h, sT_ag h, sE_ag h]
theorem cJ_ag (h : ag t t' l) (c : Nat) : cJ t l c = cJ t' l c := by
  show rJ t l (sT t l c) = rJ t' l (sT t' l c)
  rw [rJ_ag h, sT_ag h]
theorem rA_ag (h : ag t t' l) {i : Nat} (hi : i ≤ l) (ok : rOK t l i) (p : Nat) (hp : p < rAr (rJ t l i)) : rA t i (rJ t l i) p = rA t' i (rJ t l i) p := by
  have hl := rN_l (t := t) hi
  have h1 := ok.1
  rw [ok.2] at hl
  generalize rJ t l i = j at hl h1 hp ⊢
  match j, h1 with
  | 0, _ =>
    replace hl : i + 8 ≤ l := hl
    replace hp : p < 3 := hp
    show t (i + 5 + p) - 48 = t' (i + 5 + p) - 48
    rw [h _ (by omega)]
  | 1, _ =>
    replace hl : i + 9 ≤ l := hl
    replace hp : p < 3 := hp
    show (if p = 2 then (if t (i + 7) = 45 then -(t (i + 8) - 48) else t (i + 8) - 48) else t (i + 5 + p) - 48) = (if p = 2 then (if t' (i + 7) = 45 then -(t' (i + 8) - 48) else t' (i + 8) - 48) else t' (i + 5 + p) - 48)
    rw [h _ (by omega), h _ (by omega), h (i + 5 + p) (by omega)]
  | 2, _ =>
    replace hl : i + 5 ≤ l := hl
    show t (i + 4) - 48 = t' (i + 4) - 48
    rw [h _ (by omega)]
  | 3, _ =>
    replace hl : i + 6 ≤ l := hl
    show t (i + 5) - 48 = t' (i + 5) - 48
    rw [h _ (by omega)]
  | 4, _ =>
    replace hl : i + 6 ≤ l := hl
    show t (i + 5) - 48 = t' (i + 5) - 48
    rw [h _ (by omega)]
  | 5, _ =>
    replace hl : i + 8 ≤ l := hl
    replace hp : p < 2 := hp
    show t (i + 5 + 2 * p) - 48 = t' (i + 5 + 2 * p) - 48
    rw [h _ (by omega)]
  | 6, _ => rfl
  | 7, _ =>
    replace hl : i + 6 ≤ l := hl
    show t (i + 5) - 48 = t' (i + 5) - 48
    rw [h _ (by omega)]
  | 8, _ =>
    replace hl : i + 7 ≤ l := hl
    show 10 * (t (i + 5) - 48) + (t (i + 6) - 48) = 10 * (t' (i + 5) - 48) + (t' (i + 6) - 48)
    rw [h _ (by omega), h (i + 6) (by omega)]
  | 9, _ =>
    replace hl : i + 9 ≤ l := hl
    replace hp : p < 4 := hp
    show (if p = 0 then t (i + 4) - 48 else t (i + 5 + p) - 48) = (if p = 0 then t' (i + 4) - 48 else t' (i + 5 + p) - 48)
    by_cases e : p = 0
    · rw [if_pos e, if_pos e, h _ (by omega)]
    · rw [if_neg e, if_neg e, h _ (by omega)]
theorem cA_ag (h : ag t t' l) (c : Nat) (hi : sT t l c ≤ l) (ok : rOK t l (sT t l c)) (p : Nat) (hp : p < rAr (cJ t l c)) : cA t l c p = cA t' l c p := by
  show rA t (sT t l c) (cJ t l c) p = rA t' (sT t' l c) (cJ t' l c) p
  rw [← cJ_ag h, ← sT_ag h]
  exact rA_ag h hi ok p hp
theorem hSq_ag (h : ag t t' l) (σ : HS) : ∀ c : Nat, (∀ j, j < c → sT t l j ≤ l ∧ rOK t l (sT t l j)) → hSq t l σ c = hSq t' l σ c
  | 0, _ => rfl
  | c + 1, hk => by
    have q := hk c (by omega)
    show run (hSq t l σ c) (cJ t l c) (cA t l c 0) (cA t l c 1) (cA t l c 2) (cA t l c 3) = run (hSq t' l σ c) (cJ t' l c) (cA t' l c 0) (cA t' l c 1) (cA t' l c 2) (cA t' l c 3)
    rw [← hSq_ag h σ c (fun j hj => hk j (by omega)), ← cJ_ag h]
    exact (rf_ar (hSq t l σ c) (cJ t l c) q.2.1 (cA t l c) (cA t' l c) (fun p hp => cA_ag h c q.1 q.2 p hp)).2
theorem rS_ag (h : ag t t' l) (σ : HS) (c : Nat) (hk : ∀ j, j < c + 1 → sT t l j ≤ l ∧ rOK t l (sT t l j)) : rS t l σ c = rS t' l σ c := by
  have q := hk c (by omega)
  show rf (hSq t l σ c) (cJ t l c) (cA t l c 0) (cA t l c 1) (cA t l c 2) (cA t l c 3) = rf (hSq t' l σ c) (cJ t' l c) (cA t' l c 0) (cA t' l c 1) (cA t' l c 2) (cA t' l c 3)
  rw [← hSq_ag h σ c (fun j hj => hk j (by omega)), ← cJ_ag h]
  exact (rf_ar (hSq t l σ c) (cJ t l c) q.2.1 (cA t l c) (cA t' l c) (fun p hp => cA_ag h c q.1 q.2 p hp)).1
/-- the script's commands keep everything -/
theorem seq_RV {B : Int} {σ : HS} {v : Nat → Int} (h : RV σ v) (hr : Hok B σ) (hi : HI σ) : ∀ c : Nat, (∀ j, j < c → rOK t l (sT t l j) ∧ rS t l σ j = 0) → RV (hSq t l σ c) (vS t l v c) ∧ HI (hSq t l σ c)
  | 0, _ => ⟨h, hi⟩
  | c + 1, hk => by
    have q := hk c (by omega)
    have k := seq_RV h hr hi c (fun j hj => hk j (by omega))
    have hc := hSq_ok (t := t) (l := l) hr c (fun j hj => (hk j (by omega)).2)
    exact ⟨RV_run k.1 hc k.2 _ q.1.1 _ _ _ _ q.2, HI_run k.2 hc _ _ _ _ _ q.2⟩
theorem seq_t {B : Int} {σ : HS} {v : Nat → Int} (h : RV σ v) (hr : Hok B σ) (hi : HI σ) (c : Nat) (hk : ∀ j, j < c → rOK t l (sT t l j) ∧ rS t l σ j = 0) (ok : rOK t l (sT t l c)) : tS t l v c = 0 ↔ rS t l σ c = 0 := by
  have k := seq_RV h hr hi c hk
  have hc := hSq_ok (t := t) (l := l) hr c (fun j hj => (hk j hj).2)
  have e : tS t l v c = kX (cJ t l c) (rS t l σ c) := RV_thrown k.1 hc _ ok.1 _ _ _ _
  rw [e]
  exact kX_0 _ _ ok.1 _ _ _ _
end AG
