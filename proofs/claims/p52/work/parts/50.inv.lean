/-! what every house that the class makes keeps (by hand) -/
theorem nShut_congr {lk lk' : Nat → LkS} : ∀ k : Nat, (∀ d, d < k → (lk' d).op = (lk d).op) → nShut lk' k = nShut lk k
  | 0, _ => rfl
  | k + 1, h => by
    show nShut lk' k + (if (lk' k).op = 0 then 1 else 0) = nShut lk k + (if (lk k).op = 0 then 1 else 0)
    rw [nShut_congr k (fun d hd => h d (by omega)), h k (by omega)]
theorem nShut_up {lk : Nat → LkS} {d : Nat} {L : LkS} : ∀ k : Nat, d < k → nShut (va_up lk d L) k = nShut lk k - (if (lk d).op = 0 then 1 else 0) + (if L.op = 0 then 1 else 0)
  | 0, h => by omega
  | k + 1, h => by
    show nShut (va_up lk d L) k + (if (va_up lk d L k).op = 0 then 1 else 0) = nShut lk k + (if (lk k).op = 0 then 1 else 0) - (if (lk d).op = 0 then 1 else 0) + (if L.op = 0 then 1 else 0)
    by_cases e : d = k
    · subst e
      rw [va_up_self, nShut_congr (lk := lk) d (fun j hj => by rw [va_up_ne _ _ (by omega)])]
      omega
    · rw [va_up_ne _ _ (fun h => e h.symm), nShut_up k (by omega)]
      omega
/-- no two ovens with one door, doors in ovens are open, doors to come are shut, the accounts are right -/
def HI (σ : HS) : Prop := (σ.od 0 < σ.sc 0 ∧ σ.od 1 < σ.sc 0) ∧ (σ.od 0 = σ.od 1 → σ.od 0 = -1) ∧ (∀ d : Nat, σ.sc 0 ≤ (d : Int) → (σ.lk d).op = 0) ∧ (∀ o, o < 2 → σ.od o ≠ -1 → (σ.lk (σ.od o).toNat).op = 1) ∧ accts σ = nShut σ.lk (σ.sc 0).toNat
theorem HI_0 : HI H0 := ⟨⟨by decide, by decide⟩, fun _ => rfl, fun _ _ => rfl, fun o _ h => absurd rfl h, rfl⟩
section HI
variable {B : Int} {σ : HS}
theorem HI_sc {sc' : Nat → Int} (h : HI σ) (h0 : sc' 0 = σ.sc 0) (h4 : sc' 4 = σ.sc 4) (h5 : sc' 5 = σ.sc 5) (h6 : sc' 6 = σ.sc 6) (h7 : sc' 7 = σ.sc 7) (h8 : sc' 8 = σ.sc 8) {td ty oh : Nat → Int} {lk' : Nat → LkS} (hl : ∀ d, (lk' d).op = (σ.lk d).op) : HI (sc', σ.od, oh, td, ty, lk') := by
  obtain ⟨a1, a2, a3, a4, a5⟩ := h
  refine ⟨?_, a2, fun d hd => ?_, fun o ho hn => ?_, ?_⟩
  · show σ.od 0 < sc' 0 ∧ σ.od 1 < sc' 0
    rw [h0]; exact a1
  · rw [hl]; exact a3 d (by rw [← h0]; exact hd)
  · rw [hl]; exact a4 o ho hn
  · show sc' 0 + sc' 8 + sc' 6 - sc' 4 - sc' 5 - sc' 7 = nShut lk' (sc' 0).toNat
    rw [h0, h4, h5, h6, h7, h8, nShut_congr (lk := σ.lk) _ (fun d _ => hl d)]
    exact a5
theorem op_up {lk : Nat → LkS} {d : Nat} {L : LkS} (h : L.op = (lk d).op) : ∀ j, (va_up lk d L j).op = (lk j).op := fun j => by
  by_cases e : j = d
  · subst e; rw [va_up_self]; exact h
  · rw [va_up_ne _ _ e]
theorem HI_door (h : HI σ) (hr : Hok B σ) (a b c : Int) : HI (doDoor σ a b c) := by
  obtain ⟨a1, a2, a3, a4, a5⟩ := h
  have h0 := hr.1 0 (by decide)
  have hop : ∀ j, (va_up σ.lk (σ.sc 0).toNat (lSet (σ.lk (σ.sc 0).toNat) a b c) j).op = (σ.lk j).op := op_up rfl
  refine ⟨?_, a2, fun d hd => ?_, fun o ho hn => ?_, ?_⟩
  · show σ.od 0 < σ.sc 0 + 1 ∧ σ.od 1 < σ.sc 0 + 1
    omega
  · show (va_up σ.lk (σ.sc 0).toNat (lSet (σ.lk (σ.sc 0).toNat) a b c) d).op = 0
    rw [hop]
    replace hd : σ.sc 0 + 1 ≤ (d : Int) := hd
    exact a3 d (by omega)
  · show (va_up σ.lk (σ.sc 0).toNat (lSet (σ.lk (σ.sc 0).toNat) a b c) (σ.od o).toNat).op = 1
    rw [hop]; exact a4 o ho hn
  · show σ.sc 0 + 1 + σ.sc 8 + σ.sc 6 - σ.sc 4 - σ.sc 5 - σ.sc 7 = nShut (va_up σ.lk (σ.sc 0).toNat (lSet (σ.lk (σ.sc 0).toNat) a b c)) (σ.sc 0 + 1).toNat
    rw [nShut_congr (lk := σ.lk) _ (fun d _ => hop d), show (σ.sc 0 + 1).toNat = (σ.sc 0).toNat + 1 from by omega]
    show _ = nShut σ.lk (σ.sc 0).toNat + (if (σ.lk (σ.sc 0).toNat).op = 0 then 1 else 0)
    rw [if_pos (a3 _ (by omega)), ← a5]
    show _ = σ.sc 0 + σ.sc 8 + σ.sc 6 - σ.sc 4 - σ.sc 5 - σ.sc 7 + 1
    omega
/-- one lock's flag changes, and with it one account -/
theorem HI_one (h : HI σ) {sc' : Nat → Int} {od' oh td ty : Nat → Int} {z : Nat} {L : LkS} (hz : (z : Int) < σ.sc 0) (h0 : sc' 0 = σ.sc 0) (hod : σ.od 0 = -1 ∨ (σ.od 0).toNat ≠ z ∨ L.op = 1 ∨ od' 0 = -1) (hod1 : σ.od 1 = -1 ∨ (σ.od 1).toNat ≠ z ∨ L.op = 1 ∨ od' 1 = -1) (ho : (od' 0 = σ.od 0 ∨ od' 0 = -1 ∨ (od' 0 = (z : Int) ∧ L.op = 1)) ∧ (od' 1 = σ.od 1 ∨ od' 1 = -1 ∨ (od' 1 = (z : Int) ∧ L.op = 1))) (h2 : od' 0 = od' 1 → od' 0 = -1)
    (hac : sc' 8 + sc' 6 - sc' 4 - sc' 5 - sc' 7 = σ.sc 8 + σ.sc 6 - σ.sc 4 - σ.sc 5 - σ.sc 7 - (if (σ.lk z).op = 0 then 1 else 0) + (if L.op = 0 then 1 else 0)) : HI (sc', od', oh, td, ty, va_up σ.lk z L) := by
  obtain ⟨a1, a2, a3, a4, a5⟩ := h
  have hb : ∀ o, o < 2 → (σ.od o = -1 ∨ (σ.od o).toNat ≠ z ∨ L.op = 1 ∨ od' o = -1) ∧ (od' o = σ.od o ∨ od' o = -1 ∨ (od' o = (z : Int) ∧ L.op = 1)) ∧ σ.od o < σ.sc 0 := fun o ho2 => by
    match o, ho2 with
    | 0, _ => exact ⟨hod, ho.1, a1.1⟩
    | 1, _ => exact ⟨hod1, ho.2, a1.2⟩
  refine ⟨?_, h2, fun d hd => ?_, fun o ho2 hn => ?_, ?_⟩
  · show od' 0 < sc' 0 ∧ od' 1 < sc' 0
    omega
  · show (va_up σ.lk z L d).op = 0
    replace hd : sc' 0 ≤ (d : Int) := hd
    rw [va_up_ne _ _ (by omega)]
    exact a3 d (by omega)
  · show (va_up σ.lk z L (od' o).toNat).op = 1
    replace hn : od' o ≠ -1 := hn
    have q := hb o ho2
    by_cases e : (od' o).toNat = z
    · rw [e, va_up_self]
      rcases q.2.1 with g | g | g
      · rcases q.1 with k | k | k | k
        · exact absurd (g.trans k) hn
        · exact absurd (by rw [← g]; exact e) k
        · exact k
        · exact absurd k hn
      · exact absurd g hn
      · exact g.2
    · rw [va_up_ne _ _ e]
      rcases q.2.1 with g | g | g
      · rw [g]; exact a4 o ho2 (by rw [← g]; exact hn)
      · exact absurd g hn
      · exact absurd (by rw [g.1]; exact Int.toNat_natCast z) e
  · show sc' 0 + sc' 8 + sc' 6 - sc' 4 - sc' 5 - sc' 7 = nShut (va_up σ.lk z L) (sc' 0).toNat
    rw [h0, nShut_up _ (by omega), ← a5]
    show _ = σ.sc 0 + σ.sc 8 + σ.sc 6 - σ.sc 4 - σ.sc 5 - σ.sc 7 - _ + _
    omega
theorem HI_turn (h : HI σ) (z d x : Int) : HI (doTurn σ z d x) := HI_sc h rfl rfl rfl rfl rfl rfl (op_up rfl)
theorem HI_set (h : HI σ) (z a b c : Int) : HI (doSet σ z a b c) := HI_sc h rfl rfl rfl rfl rfl rfl (op_up rfl)
theorem HI_damp (h : HI σ) (a : Int) : HI (doDamp σ a) := HI_sc h rfl rfl rfl rfl rfl rfl (fun _ => rfl)
theorem oven_ne (h : HI σ) {z : Int} (hz : 0 ≤ z) (h1 : (σ.lk z.toNat).op ≠ 1) : ∀ o, o < 2 → σ.od o ≠ z := fun o ho e => by
  have q := h.2.2.2.1 o ho (by omega)
  rw [e] at q
  exact h1 q
theorem HI_try (h : HI σ) (hr : Hok B σ) {z : Int} (h0 : rfTry σ z = 0) : HI (doTry σ z) := by
  have h1 := rfTry_0 h0
  have hn := oven_ne h h1.1.1 (by rw [h1.2]; decide)
  have n0 := hn 0 (by decide)
  have n1 := hn 1 (by decide)
  have r0 := hr.2.2.1 0 (by decide)
  have r1 := hr.2.2.1 1 (by decide)
  have hd := h1.1
  have hsc : scTry σ (σ.lk z.toNat) 0 = σ.sc 0 ∧ scTry σ (σ.lk z.toNat) 8 + scTry σ (σ.lk z.toNat) 6 - scTry σ (σ.lk z.toNat) 4 - scTry σ (σ.lk z.toNat) 5 - scTry σ (σ.lk z.toNat) 7 = σ.sc 8 + σ.sc 6 - σ.sc 4 - σ.sc 5 - σ.sc 7 - (if (σ.lk z.toNat).op = 0 then 1 else 0) + (if (lTry (σ.lk z.toNat)).op = 0 then 1 else 0) := by
    unfold scTry
    rw [if_pos h1.2]
    by_cases e : lFit (σ.lk z.toNat) = 3
    · rw [if_pos e]
      have e2 : (lTry (σ.lk z.toNat)).op = 1 := by unfold lTry; rw [if_pos e]
      rw [if_neg (by rw [e2]; decide)]
      refine ⟨rfl, ?_⟩
      show σ.sc 8 + σ.sc 6 - (σ.sc 4 + 1) - σ.sc 5 - σ.sc 7 = _
      omega
    · rw [if_neg e]
      by_cases e2 : (lTry (σ.lk z.toNat)).op = 0
      · rw [if_pos e2, if_pos e2]
        refine ⟨rfl, ?_⟩
        show σ.sc 8 + σ.sc 6 - σ.sc 4 - σ.sc 5 - σ.sc 7 = _
        omega
      · rw [if_neg e2, if_neg e2]
        refine ⟨rfl, ?_⟩
        show σ.sc 8 + σ.sc 6 - σ.sc 4 - (σ.sc 5 + 1) - σ.sc 7 = _
        omega
  exact HI_one h (by omega) hsc.1 (by omega) (by omega) ⟨Or.inl rfl, Or.inl rfl⟩ h.2.1 hsc.2
theorem HI_shut (h : HI σ) (hr : Hok B σ) {z : Int} (h0 : rfShut σ z = 0) : HI (doShut σ z) := by
  have h1 := rfShut_0 h0
  have hd := h1.1
  have hn := h1.2.1
  have r0 := hr.2.2.1 0 (by decide)
  have r1 := hr.2.2.1 1 (by decide)
  refine HI_one h (by omega) rfl (by omega) (by omega) ⟨Or.inl rfl, Or.inl rfl⟩ h.2.1 ?_
  rw [if_neg (fun e => hn (Or.inl e)), if_pos rfl]
  show σ.sc 8 + (σ.sc 6 + 1) - σ.sc 4 - σ.sc 5 - σ.sc 7 = _
  omega
theorem HI_bake (h : HI σ) (hr : Hok B σ) {z o : Int} (h0 : rfBake σ z o = 0) : HI (doBake σ z o) := by
  have h1 := rfBake_0 h0
  have hd := h1.1
  have hn := h1.2.2.1
  have ho := h1.2.1
  have r0 := hr.2.2.1 0 (by decide)
  have r1 := hr.2.2.1 1 (by decide)
  have hoc : o = 0 ∨ o = 1 := by omega
  have k0 : ∀ {x y : Prop}, x → y → x ∧ y := fun a b => ⟨a, b⟩
  have hsc : (if (σ.lk z.toNat).op = 0 then va_up σ.sc 7 (σ.sc 7 + 1) else σ.sc) 0 = σ.sc 0 ∧ (if (σ.lk z.toNat).op = 0 then va_up σ.sc 7 (σ.sc 7 + 1) else σ.sc) 8 + (if (σ.lk z.toNat).op = 0 then va_up σ.sc 7 (σ.sc 7 + 1) else σ.sc) 6 - (if (σ.lk z.toNat).op = 0 then va_up σ.sc 7 (σ.sc 7 + 1) else σ.sc) 4 - (if (σ.lk z.toNat).op = 0 then va_up σ.sc 7 (σ.sc 7 + 1) else σ.sc) 5 - (if (σ.lk z.toNat).op = 0 then va_up σ.sc 7 (σ.sc 7 + 1) else σ.sc) 7 = σ.sc 8 + σ.sc 6 - σ.sc 4 - σ.sc 5 - σ.sc 7 - (if (σ.lk z.toNat).op = 0 then 1 else 0) + (if (1 : Int) = 0 then 1 else 0) := by
    rw [if_neg (show ¬ (1 : Int) = 0 by decide)]
    by_cases e : (σ.lk z.toNat).op = 0
    · rw [if_pos e, if_pos e]
      refine ⟨rfl, ?_⟩
      show σ.sc 8 + σ.sc 6 - σ.sc 4 - σ.sc 5 - (σ.sc 7 + 1) = _
      omega
    · rw [if_neg e, if_neg e]
      exact ⟨rfl, by omega⟩
  have ezn : ((z.toNat : Nat) : Int) = z := by omega
  rcases hoc with rfl | rfl
  · refine HI_one h (z := z.toNat) (L := (1, (σ.lk z.toNat).cr, (σ.lk z.toNat).dl, (σ.lk z.toNat).cb)) (od' := va_up σ.od 0 z) (by omega) hsc.1 (Or.inr (Or.inr (Or.inl rfl))) (Or.inr (Or.inr (Or.inl rfl))) ⟨Or.inr (Or.inr ⟨ezn.symm, rfl⟩), Or.inl rfl⟩ (fun e => ?_) hsc.2
    replace e : z = σ.od 1 := e
    omega
  · refine HI_one h (z := z.toNat) (L := (1, (σ.lk z.toNat).cr, (σ.lk z.toNat).dl, (σ.lk z.toNat).cb)) (od' := va_up σ.od 1 z) (by omega) hsc.1 (Or.inr (Or.inr (Or.inl rfl))) (Or.inr (Or.inr (Or.inl rfl))) ⟨Or.inl rfl, Or.inr (Or.inr ⟨ezn.symm, rfl⟩)⟩ (fun e => ?_) hsc.2
    replace e : σ.od 0 = z := e
    omega
theorem HI_hour2 (h : HI σ) : HI (hour2 σ) := by
  have h1 : HI (hour1 σ) := HI_sc h rfl rfl rfl rfl rfl rfl (fun _ => rfl)
  unfold hour2
  split
  · refine HI_sc h1 rfl rfl rfl rfl rfl rfl (fun d => ?_)
    show (if (d : Int) < (hour1 σ).sc 0 ∧ ((hour1 σ).lk d).op = 0 then lTurn ((hour1 σ).lk d) _ 1 else (hour1 σ).lk d).op = _
    split
    · rfl
    · rfl
  · exact h1
theorem HI_bakeOn (h : HI σ) (hr : Hok B σ) (o : Nat) (ho : o < 2) : HI (bakeOn σ o) := by
  have r0 := hr.2.2.1 0 (by decide)
  have r1 := hr.2.2.1 1 (by decide)
  have hd := h.1
  have hx := h.2.1
  have h4 := h.2.2.2.1 o ho
  unfold bakeOn
  split
  · exact h
  · next e1 =>
    have h5 := h4 e1
    split
    · match o, ho with
      | 0, _ =>
        refine HI_one h (z := (σ.od 0).toNat) (by omega) rfl (Or.inr (Or.inr (Or.inr rfl))) (by show _ ∨ _ ≠ _ ∨ _; omega) ⟨Or.inr (Or.inl rfl), Or.inl rfl⟩ (fun _ => rfl) ?_
        rw [if_neg (by rw [h5]; decide), if_pos (c := (lNew _).op = 0) rfl]
        show (σ.sc 8 + 1) + σ.sc 6 - σ.sc 4 - σ.sc 5 - σ.sc 7 = _
        omega
      | 1, _ =>
        refine HI_one h (z := (σ.od 1).toNat) (by omega) rfl (by show _ ∨ _ ≠ _ ∨ _; omega) (Or.inr (Or.inr (Or.inr rfl))) ⟨Or.inl rfl, Or.inr (Or.inl rfl)⟩ (fun e => e) ?_
        rw [if_neg (by rw [h5]; decide), if_pos (c := (lNew _).op = 0) rfl]
        show (σ.sc 8 + 1) + σ.sc 6 - σ.sc 4 - σ.sc 5 - σ.sc 7 = _
        omega
    · exact HI_sc h rfl rfl rfl rfl rfl rfl (fun _ => rfl)
theorem HI_hrs (h : HI σ) (hr : Hok B σ) : ∀ k : Nat, HI (doHrs σ k)
  | 0 => h
  | k + 1 => by
    have a := Hok_hour2 (Hok_hrs hr k)
    have b := Hok_bake1 a 0 (by decide)
    exact HI_bakeOn (HI_bakeOn (HI_hour2 (HI_hrs h hr k)) a 0 (by decide)) b 1 (by decide)
theorem HI_run (h : HI σ) (hr : Hok B σ) (c : Nat) (a b x y : Int) (h0 : rf σ c a b x y = 0) : HI (run σ c a b x y) := by
  unfold rf at h0
  unfold run
  split
  · exact HI_door h hr _ _ _
  · exact HI_turn h _ _ _
  · exact HI_try h hr h0
  · exact HI_shut h hr h0
  · exact HI_damp h _
  · exact HI_bake h hr h0
  · exact HI_set h _ _ _ _
  · exact HI_hrs h hr _
end HI
