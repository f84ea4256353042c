/-! hours keep the relation (by hand) -/
section RH
variable {B : Int} {σ : HS} {v : Nat → Int}
theorem driftN_at (v : Nat → Int) (t : Nat) (ht : t < 3) : ∀ n : Nat, (∀ i, (∀ d, d < n → i ≠ 7 + 9 * d + t) → driftN v t n i = v i) ∧ (∀ d, d < n → driftN v t n (7 + 9 * d + t) = if vOpen v d then v (7 + 9 * d + t) else (v (7 + 9 * d + t) + 1) % 10)
  | 0 => ⟨fun _ _ => rfl, fun d hd => absurd hd (by omega)⟩
  | n + 1 => by
    obtain ⟨a, b⟩ := driftN_at v t ht n
    have o : vOpen (driftN v t n) n ↔ vOpen v n := by
      show (driftN v t n (7 + 9 * n + 6) = 1 ∨ 0 < driftN v t n (7 + 9 * n + 8)) ↔ _
      rw [a (7 + 9 * n + 6) (fun d hd => by omega), a (7 + 9 * n + 8) (fun d hd => by omega)]
    have hn : driftN v t n (7 + 9 * n + t) = v (7 + 9 * n + t) := a _ (fun d hd => by omega)
    by_cases e : vOpen v n
    · have e1 : driftN v t (n + 1) = driftN v t n := if_pos (o.mpr e)
      rw [e1]
      refine ⟨fun i hi => a i (fun d hd => hi d (by omega)), fun d hd => ?_⟩
      by_cases e2 : d = n
      · subst e2; rw [if_pos e]; exact hn
      · exact b d (by omega)
    · have e1 : driftN v t (n + 1) = va_up (driftN v t n) (7 + 9 * n + t) ((driftN v t n (7 + 9 * n + t) + 1) % 10) := if_neg (fun g => e (o.mp g))
      rw [e1]
      refine ⟨fun i hi => ?_, fun d hd => ?_⟩
      · rw [va_up_ne _ _ (hi n (by omega))]
        exact a i (fun d hd => hi d (by omega))
      · by_cases e2 : d = n
        · subst e2; rw [va_up_self, if_neg e, hn]
        · rw [va_up_ne _ _ (by omega)]
          exact b d (by omega)
theorem RV_hour1 (h : RV σ v) : RV (hour1 σ) (mHour1 v) := by
  have m : ∀ i, i ≠ 0 → mHour1 v i = v i := fun i hi => va_up_ne _ _ hi
  refine RV_mk h 6 ?_ (fun e he hn => ⟨rfl, rfl, fun k hk => m _ (by omega)⟩) (fun hz => absurd hz (by decide)) (fun o ho => ?_) (fun k hk => ?_)
  · rw [m 1 (by omega), m 2 (by omega), m 3 (by omega), m 4 (by omega), m 5 (by omega), m 6 (by omega)]
    have a1 := h.1
    refine ⟨?_, a1.2⟩
    show va_up v 0 (v 0 + 1) 0 = va_up σ.sc 2 (σ.sc 2 + 1) 2
    rw [va_up_self, va_up_self, a1.1]
  · rw [m _ (by omega), m _ (by omega)]; exact h.2.2.1 o ho
  · rw [m _ (by omega), m _ (by omega)]; exact h.2.2.2 k hk
theorem RV_drift (h : RV σ v) (hr : Hok B σ) (t : Nat) (ht : t < 3) : RV (drift σ t) (driftN v t (v 2).toNat) := by
  obtain ⟨a, b⟩ := driftN_at v t ht (v 2).toNat
  have a2 := h.1.2.2.1
  have q2 := hr.2.1
  have m : ∀ i, (i < 7 ∨ 61 ≤ i) → driftN v t (v 2).toNat i = v i := fun i hi => a i (fun d hd => by omega)
  refine ⟨?_, fun d hd => ?_, fun o ho => ?_, fun k hk => ?_⟩
  · rw [m 0 (by omega), m 1 (by omega), m 2 (by omega), m 3 (by omega), m 4 (by omega), m 5 (by omega), m 6 (by omega)]
    exact h.1
  · have row := RV_row h d hd
    have op := RV_open h hr d hd
    have kd := (hr.2.2.2.2 d hd).2.2
    have oth : ∀ k, k < 9 → k ≠ t → driftN v t (v 2).toNat (7 + 9 * d + k) = v (7 + 9 * d + k) := fun k hk hkt => a _ (fun e he => by omega)
    show RwL (if (d : Int) < σ.sc 0 ∧ (σ.lk d).op = 0 then lTurn (σ.lk d) t 1 else σ.lk d) (ovN σ d) (rowN (driftN v t (v 2).toNat) d)
    by_cases e : (d : Int) < σ.sc 0 ∧ (σ.lk d).op = 0
    · rw [if_pos e]
      refine RwL_dial (h.2.1 d hd) ht ?_ oth
      show driftN v t (v 2).toNat (7 + 9 * d + t) = p_turn ((σ.lk d).dl t) 1
      rw [b d (by omega), if_neg (op.mp e.2), (row.1 t ht).1]
      have := kd t ht
      unfold p_turn
      omega
    · rw [if_neg e]
      refine RwL_congr (fun k hk => ?_) (h.2.1 d hd)
      by_cases e3 : k = t
      · subst e3
        by_cases e4 : (d : Int) < σ.sc 0
        · have e5 : vOpen v d := by
            by_cases g : vOpen v d
            · exact g
            · exact absurd ⟨e4, op.mpr g⟩ e
          show driftN v k (v 2).toNat (7 + 9 * d + k) = v (7 + 9 * d + k)
          rw [b d (by omega), if_pos e5]
        · exact a _ (fun j hj => by omega)
      · exact oth k hk e3
  · rw [m _ (by omega), m _ (by omega)]; exact h.2.2.1 o ho
  · rw [m _ (by omega), m _ (by omega)]; exact h.2.2.2 k hk
theorem RV_hour2 (h : RV σ v) (hr : Hok B σ) : RV (hour2 σ) (mHour2 v) := by
  have h1 := RV_hour1 h
  have r1 := Hok_hour1 hr
  have a := h.1
  have q2 := hr.1 2 (by decide)
  unfold hour2 mHour2
  rw [a.1, a.2.1]
  by_cases e : (σ.sc 2 + 1) % (10 - σ.sc 1) = 0
  · rw [if_pos e, if_pos e]
    have := RV_drift h1 r1 ((σ.sc 2 + 1) % 3).toNat (by omega)
    exact this
  · rw [if_neg e, if_neg e]
    exact h1
theorem RV_bakeOn (h : RV σ v) (hr : Hok B σ) (hi : HI σ) (o : Nat) (ho : o < 2) : RV (bakeOn σ o) (mHeat v o) := by
  have qo := h.2.2.1 o ho
  have ro := hr.2.2.1 o ho
  unfold bakeOn mHeat
  by_cases e : σ.od o = -1
  · rw [if_pos e, if_pos (c := v (61 + 2 * o + 0) = 0) (by omega)]
    exact h
  · rw [if_neg e, if_neg (c := v (61 + 2 * o + 0) = 0) (by omega)]
    have m1 : ∀ i, i ≠ 61 + 2 * o + 1 → va_up v (61 + 2 * o + 1) (v (61 + 2 * o + 1) - 1) i = v i := fun i hi => va_up_ne _ _ hi
    have hC1 : ∀ o', o' < 2 → va_up v (61 + 2 * o + 1) (v (61 + 2 * o + 1) - 1) (61 + 2 * o' + 1) = va_up σ.oh o (σ.oh o - 1) o' := fun o' ho' => by
      by_cases g : o' = o
      · subst g; rw [va_up_self, va_up_self, qo.2]
      · rw [va_up_ne _ _ (by omega), va_up_ne _ _ g]; exact (h.2.2.1 o' ho').2
    by_cases e2 : σ.oh o - 1 = 0
    · rw [if_pos e2, if_neg (c := 0 < v (61 + 2 * o + 1) - 1) (by omega), qo.1]
      have dz : (σ.od o + 1 - 1).toNat = (σ.od o).toNat := by omega
      rw [dz]
      have hz : (σ.od o).toNat < 6 := by omega
      have zz : (((σ.od o).toNat : Nat) : Int) = σ.od o := by omega
      generalize hw : va_up v (61 + 2 * o + 1) (v (61 + 2 * o + 1) - 1) = w at m1 hC1 ⊢
      generalize hd : (σ.od o).toNat = d at hz zz ⊢
      have lo : ∀ i, i ≠ 7 + 9 * d + 0 → i ≠ 7 + 9 * d + 1 → i ≠ 7 + 9 * d + 2 → i ≠ 7 + 9 * d + 6 → i ≠ 7 + 9 * d + 7 → i ≠ 7 + 9 * d + 8 → i ≠ 61 + 2 * o + 0 → i ≠ 5 → mCool w o d i = w i := fun i b0 b1 b2 b6 b7 b8 bo b5 => by
        unfold mCool
        rw [va_up_ne _ _ b5, va_up_ne _ _ bo, va_up_ne _ _ b8, va_up_ne _ _ b7, va_up_ne _ _ b6]
        show va_up (va_up (va_up w (7 + 9 * d + 0) 0) (7 + 9 * d + 1) 0) (7 + 9 * d + 2) 0 i = w i
        rw [va_up_ne _ _ b2, va_up_ne _ _ b1, va_up_ne _ _ b0]
      have z8 : mCool w o d (7 + 9 * d + 8) = 0 := by
        unfold mCool
        rw [va_up_ne _ _ (by omega), va_up_ne _ _ (by omega), va_up_self]
      have z7 : mCool w o d (7 + 9 * d + 7) = 0 := by
        unfold mCool
        rw [va_up_ne _ _ (by omega), va_up_ne _ _ (by omega), va_up_ne _ _ (by omega), va_up_self]
      have z6 : mCool w o d (7 + 9 * d + 6) = 0 := by
        unfold mCool
        rw [va_up_ne _ _ (by omega), va_up_ne _ _ (by omega), va_up_ne _ _ (by omega), va_up_ne _ _ (by omega), va_up_self]
      have zo : mCool w o d (61 + 2 * o + 0) = 0 := by
        unfold mCool
        rw [va_up_ne _ _ (by omega), va_up_self]
      have z5 : mCool w o d 5 = v 5 + 1 := by
        unfold mCool
        rw [va_up_self, m1 5 (by omega)]
      have zd : ∀ j, j < 3 → mCool w o d (7 + 9 * d + j) = 0 := fun j hj => by
        unfold mCool
        rw [va_up_ne _ _ (by omega), va_up_ne _ _ (by omega), va_up_ne _ _ (by omega), va_up_ne _ _ (by omega), va_up_ne _ _ (by omega)]
        show va_up (va_up (va_up w (7 + 9 * d + 0) 0) (7 + 9 * d + 1) 0) (7 + 9 * d + 2) 0 (7 + 9 * d + j) = 0
        match j, hj with
        | 0, _ => rw [va_up_ne _ _ (by omega), va_up_ne _ _ (by omega), va_up_self]
        | 1, _ => rw [va_up_ne _ _ (by omega), va_up_self]
        | 2, _ => rw [va_up_self]
      have oc : o = 0 ∨ o = 1 := by omega
      have hx := hi.2.1
      have ovz : (if va_up σ.od o (-1) 0 = (d : Int) then (1 : Int) else if va_up σ.od o (-1) 1 = (d : Int) then 2 else 0) = 0 := by
        rcases oc with g | g <;> subst g
        · rw [va_up_self, va_up_ne _ _ (by decide), if_neg (by omega), if_neg (by omega)]
        · rw [va_up_self, va_up_ne _ _ (by decide), if_neg (by omega), if_neg (by omega)]
      have ovd : ∀ d' : Nat, d' ≠ d → (if va_up σ.od o (-1) 0 = (d' : Int) then (1 : Int) else if va_up σ.od o (-1) 1 = (d' : Int) then 2 else 0) = ovN σ d' := fun d' hdn => by
        unfold ovN
        rcases oc with g | g <;> subst g
        · rw [va_up_self, va_up_ne _ _ (by decide), if_neg (show ¬ (-1 : Int) = (d' : Int) by omega), if_neg (show ¬ σ.od 0 = (d' : Int) by omega)]
        · rw [va_up_self, va_up_ne _ _ (by decide), if_neg (show ¬ (-1 : Int) = (d' : Int) by omega), if_neg (show ¬ σ.od 1 = (d' : Int) by omega)]
      have a1 := h.1
      refine RV_mk h d ?_ (fun e9 he hne => ⟨va_up_ne _ _ hne, ovd e9 hne, fun k hk => (lo _ (by omega) (by omega) (by omega) (by omega) (by omega) (by omega) (by omega) (by omega)).trans (m1 _ (by omega))⟩) (fun _ => ?_) (fun o' ho' => ?_) (fun k hk => ?_)
      · have lw : ∀ i, i < 7 → i ≠ 5 → mCool w o d i = v i := fun i g1 g2 => (lo i (by omega) (by omega) (by omega) (by omega) (by omega) (by omega) (by omega) g2).trans (m1 i (by omega))
        rw [lw 0 (by decide) (by decide), lw 1 (by decide) (by decide), lw 2 (by decide) (by decide), lw 3 (by decide) (by decide), lw 4 (by decide) (by decide), lw 6 (by decide) (by decide), z5]
        refine ⟨a1.1, a1.2.1, a1.2.2.1, a1.2.2.2.1, a1.2.2.2.2.1, ?_, a1.2.2.2.2.2.2⟩
        show v 5 + 1 = va_up σ.sc 8 (σ.sc 8 + 1) 8
        rw [va_up_self, a1.2.2.2.2.2.1]
      · show RwL (va_up σ.lk d (lNew (σ.lk d)) d) (if va_up σ.od o (-1) 0 = (d : Int) then (1 : Int) else if va_up σ.od o (-1) 1 = (d : Int) then 2 else 0) _
        rw [va_up_self, ovz]
        refine ⟨fun j hj => ⟨zd j hj, ?_⟩, Or.inl z6, z7, z8, ?_⟩
        · show mCool w o d (7 + 9 * d + (3 + j)) = (σ.lk d).cb j
          rw [lo _ (by omega) (by omega) (by omega) (by omega) (by omega) (by omega) (by omega) (by omega), m1 _ (by omega)]
          exact ((RV_row h d hz).1 j hj).2
        · show (0 : Int) = 1 ↔ (mCool w o d (7 + 9 * d + 6) = 1 ∨ (0 : Int) < 0)
          rw [z6]
          omega
      · show mCool w o d (61 + 2 * o' + 0) = va_up σ.od o (-1) o' + 1 ∧ mCool w o d (61 + 2 * o' + 1) = va_up σ.oh o (σ.oh o - 1) o'
        rw [lo (61 + 2 * o' + 1) (by omega) (by omega) (by omega) (by omega) (by omega) (by omega) (by omega) (by omega), hC1 o' ho']
        refine ⟨?_, rfl⟩
        by_cases g : o' = o
        · subst g; rw [zo, va_up_self]; rfl
        · rw [va_up_ne _ _ g, lo _ (by omega) (by omega) (by omega) (by omega) (by omega) (by omega) (by omega) (by omega), m1 _ (by omega)]
          exact (h.2.2.1 o' ho').1
      · rw [lo _ (by omega) (by omega) (by omega) (by omega) (by omega) (by omega) (by omega) (by omega), lo _ (by omega) (by omega) (by omega) (by omega) (by omega) (by omega) (by omega) (by omega), m1 _ (by omega), m1 _ (by omega)]
        exact h.2.2.2 k hk
    · rw [if_neg e2, if_pos (c := 0 < v (61 + 2 * o + 1) - 1) (by omega)]
      refine RV_mk h 6 ?_ (fun e9 he hne => ⟨rfl, rfl, fun k hk => m1 _ (by omega)⟩) (fun hz => absurd hz (by decide)) (fun o' ho' => ?_) (fun k hk => ?_)
      · rw [m1 0 (by omega), m1 1 (by omega), m1 2 (by omega), m1 3 (by omega), m1 4 (by omega), m1 5 (by omega), m1 6 (by omega)]
        exact h.1
      · exact ⟨(m1 _ (by omega)).trans (h.2.2.1 o' ho').1, hC1 o' ho'⟩
      · rw [m1 _ (by omega), m1 _ (by omega)]; exact h.2.2.2 k hk
theorem RV_hrs (h : RV σ v) (hr : Hok B σ) (hi : HI σ) : ∀ k : Nat, RV (doHrs σ k) (mHrs v k)
  | 0 => h
  | k + 1 => by
    have rk := Hok_hrs hr k
    have ik := HI_hrs hi hr k
    have r2 := Hok_hour2 rk
    have h2 := RV_hour2 (RV_hrs h hr hi k) rk
    have i2 := HI_hour2 ik
    have h3 := RV_bakeOn h2 r2 i2 0 (by decide)
    exact RV_bakeOn h3 (Hok_bake1 r2 0 (by decide)) (HI_bakeOn i2 r2 0 (by decide)) 1 (by decide)
/-- all commands -/
theorem RV_run (h : RV σ v) (hr : Hok B σ) (hi : HI σ) (j : Nat) (hj : j < 10) (a b x y : Int) (h0 : rf σ j a b x y = 0) : RV (run σ j a b x y) (vC v j a b x y) := by
  match j, hj with
  | 0, _ => exact RV_doDoor h hr h0
  | 1, _ => exact RV_doTurn h hr h0
  | 2, _ => exact RV_doTry h hr hi h0
  | 3, _ => exact RV_doShut h hr h0
  | 4, _ => exact RV_doDamp h a
  | 5, _ => exact RV_doBake h hr h0
  | 6, _ => exact RV_hrs h hr hi _
  | 7, _ => exact RV_hrs h hr hi _
  | 8, _ => exact RV_hrs h hr hi _
  | 9, _ => exact RV_doSet h hr h0
/-- the place of a refusal among the reference's exceptions -/
def kX (j r : Nat) : Int := match j, r with
  | _, 0 => 0
  | 0, r => (r : Int) - 1
  | 1, r => r
  | 2, 1 => 1
  | 2, r => (r : Int) - 1
  | 3, 1 => 1
  | 3, r => (r : Int) - 1
  | 4, r => (r : Int) - 1
  | 5, 1 => 1
  | 5, r => (r : Int) - 1
  | 9, r => r
  | _, r => (r : Int) - 1
theorem RV_thrown (h : RV σ v) (hr : Hok B σ) (j : Nat) (hj : j < 10) (a b x y : Int) : tC v j a b x y = kX j (rf σ j a b x y) := by
  have q2 := hr.2.1
  have a2 := h.1.2.2.1
  match j, hj with
  | 0, _ =>
    show tDoor v a b x = kX 0 (rfDoor σ a b x)
    unfold tDoor rfDoor
    by_cases e : isPos a ∧ isPos b ∧ isPos x
    · rw [if_pos e, if_pos e]
      by_cases e2 : 6 ≤ σ.sc 0
      · rw [if_pos (by omega), if_pos e2]; rfl
      · rw [if_neg (by omega), if_neg e2]; rfl
    · rw [if_neg e, if_neg e]; rfl
  | 1, _ =>
    show tTurn v a b x = kX 1 (rfTurn σ a b x)
    unfold tTurn rfTurn
    have dd := RV_door h a
    by_cases e : hDoor σ a ∧ 0 ≤ b ∧ b ≤ 2
    · rw [if_pos e, if_pos ⟨dd.mpr e.1, e.2⟩]
      have ea := e.1
      have bk := RV_bake h a.toNat (by omega)
      rw [show ((a.toNat : Nat) : Int) = a from by omega] at bk
      by_cases e2 : x < -9 ∨ 9 < x
      · rw [if_pos e2, if_neg (by omega)]; rfl
      · rw [if_neg e2, if_pos (by omega)]
        by_cases e3 : hOven σ a
        · rw [if_pos e3, if_pos (bk.mpr e3)]; rfl
        · rw [if_neg e3, if_neg (fun g => e3 (bk.mp g))]; rfl
    · rw [if_neg e, if_neg (fun g => e ⟨dd.mp g.1, g.2⟩)]; rfl
  | 2, _ =>
    show tTry v a = kX 2 (rfTry σ a)
    unfold tTry rfTry
    have dd := RV_door h a
    by_cases e : hDoor σ a
    · rw [if_pos e, if_pos (dd.mpr e)]
      have op := RV_open h hr a.toNat (by omega)
      by_cases e3 : (σ.lk a.toNat).op = 0
      · rw [if_pos e3, if_neg (op.mp e3)]; rfl
      · rw [if_neg e3]
        by_cases e4 : vOpen v a.toNat
        · rw [if_pos e4]; rfl
        · exact absurd (op.mpr e4) e3
    · rw [if_neg e, if_neg (fun g => e (dd.mp g))]; rfl
  | 3, _ =>
    show tShut v a = kX 3 (rfShut σ a)
    unfold tShut rfShut
    have dd := RV_door h a
    by_cases e : hDoor σ a
    · rw [if_pos e, if_pos (dd.mpr e)]
      have op := RV_open h hr a.toNat (by omega)
      have bk := RV_bake h a.toNat (by omega)
      rw [show ((a.toNat : Nat) : Int) = a from by omega] at bk
      have c := (RV_row h a.toNat (by omega)).2.2.1
      by_cases e3 : (σ.lk a.toNat).op = 0 ∨ hOven σ a
      · rw [if_pos e3, if_neg (fun g => by rcases e3 with e3 | e3; exact op.mp e3 g.1; exact g.2 (bk.mpr e3))]; rfl
      · rw [if_neg e3]
        have e5 : vOpen v a.toNat := by
          by_cases g : vOpen v a.toNat
          · exact g
          · exact absurd (Or.inl (op.mpr g)) e3
        rw [if_pos ⟨e5, fun g => e3 (Or.inr (bk.mp g))⟩, c]
        by_cases e4 : (σ.lk a.toNat).cr = 20
        · rw [if_pos e4, if_pos e4]; rfl
        · rw [if_neg e4, if_neg e4]; rfl
    · rw [if_neg e, if_neg (fun g => e (dd.mp g))]; rfl
  | 4, _ =>
    show tDamp a = kX 4 (rfDamp a)
    unfold tDamp rfDamp
    by_cases e : a < 0 ∨ 9 < a
    · rw [if_pos e, if_neg (by omega)]; rfl
    · rw [if_neg e, if_pos (by omega)]; rfl
  | 5, _ =>
    show tBake v a b = kX 5 (rfBake σ a b)
    unfold tBake rfBake
    have dd := RV_door h a
    by_cases e : hDoor σ a ∧ 0 ≤ b ∧ b ≤ 1
    · rw [if_pos e, if_pos ⟨dd.mpr e.1, e.2⟩]
      have ea := e.1
      have bk := RV_bake h a.toNat (by omega)
      rw [show ((a.toNat : Nat) : Int) = a from by omega] at bk
      have ov := (h.2.2.1 b.toNat (by omega)).1
      have or := hr.2.2.1 b.toNat (by omega)
      by_cases e3 : hOven σ a
      · rw [if_pos e3, if_pos (bk.mpr e3)]; rfl
      · rw [if_neg e3, if_neg (fun g => e3 (bk.mp g))]
        by_cases e4 : σ.od b.toNat = -1
        · rw [if_pos e4, if_neg (by omega)]; rfl
        · rw [if_neg e4, if_pos (by omega)]; rfl
    · rw [if_neg e, if_neg (fun g => e ⟨dd.mp g.1, g.2⟩)]; rfl
  | 6, _ =>
    show tHours a = kX 6 (rfHours a)
    unfold tHours rfHours
    by_cases e : a < 1 ∨ 60 < a
    · rw [if_pos e, if_neg (by omega)]; rfl
    · rw [if_neg e, if_pos (by omega)]; rfl
  | 7, _ =>
    show tHours a = kX 7 (rfHours a)
    unfold tHours rfHours
    by_cases e : a < 1 ∨ 60 < a
    · rw [if_pos e, if_neg (by omega)]; rfl
    · rw [if_neg e, if_pos (by omega)]; rfl
  | 8, _ =>
    show tHours a = kX 8 (rfHours a)
    unfold tHours rfHours
    by_cases e : a < 1 ∨ 60 < a
    · rw [if_pos e, if_neg (by omega)]; rfl
    · rw [if_neg e, if_pos (by omega)]; rfl
  | 9, _ =>
    show tSet v a b x y = kX 9 (rfSet σ a b x y)
    unfold tSet rfSet
    have dd := RV_door h a
    by_cases e : hDoor σ a
    · rw [if_pos e, if_pos (dd.mpr e)]
      have op := RV_open h hr a.toNat (by omega)
      have bk := RV_bake h a.toNat (by omega)
      rw [show ((a.toNat : Nat) : Int) = a from by omega] at bk
      by_cases e2 : isPos b ∧ isPos x ∧ isPos y
      · rw [if_pos e2, if_pos e2]
        by_cases e3 : (σ.lk a.toNat).op = 0 ∨ hOven σ a
        · rw [if_pos e3, if_neg (fun g => by rcases e3 with e3 | e3; exact op.mp e3 g.1; exact g.2 (bk.mpr e3))]; rfl
        · rw [if_neg e3]
          have e5 : vOpen v a.toNat := by
            by_cases g : vOpen v a.toNat
            · exact g
            · exact absurd (Or.inl (op.mpr g)) e3
          rw [if_pos ⟨e5, fun g => e3 (Or.inr (bk.mp g))⟩]; rfl
      · rw [if_neg e2, if_neg e2]; rfl
    · rw [if_neg e, if_neg (fun g => e (dd.mp g))]; rfl
end RH
