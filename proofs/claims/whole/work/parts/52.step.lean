/-! the commands keep the relation (by hand) -/
section RS
variable {B : Int} {σ : HS} {v : Nat → Int}
theorem ovN_od {σ σ' : HS} (h : σ'.od = σ.od) (d : Nat) : ovN σ' d = ovN σ d := by
  unfold ovN
  rw [h]
theorem op_lSet (L : LkS) (a b c : Int) : RwL (lSet L a b c) = RwL (L.op, L.cr, L.dl, va_up (va_up (va_up L.cb 0 a) 1 b) 2 c) := rfl
/-- the combination of a lock is written -/
theorem RwL_set {L : LkS} {o : Int} {w w' : Nat → Int} {a b c : Int} (q : RwL L o w) (h3 : w' 3 = a) (h4 : w' 4 = b) (h5 : w' 5 = c) (h : ∀ k, k < 9 → k ≠ 3 → k ≠ 4 → k ≠ 5 → w' k = w k) : RwL (lSet L a b c) o w' := by
  obtain ⟨a1, a2, a3, a4, a5⟩ := q
  refine ⟨fun j hj => ?_, ?_, ?_, ?_, ?_⟩
  · refine ⟨(h j (by omega) (by omega) (by omega) (by omega)).trans (a1 j hj).1, ?_⟩
    show w' (3 + j) = va_up (va_up (va_up L.cb 0 a) 1 b) 2 c j
    match j, hj with
    | 0, _ => exact h3
    | 1, _ => exact h4
    | 2, _ => exact h5
  · rw [h 6 (by omega) (by omega) (by omega) (by omega)]; exact a2
  · exact (h 7 (by omega) (by omega) (by omega) (by omega)).trans a3
  · exact (h 8 (by omega) (by omega) (by omega) (by omega)).trans a4
  · rw [h 6 (by omega) (by omega) (by omega) (by omega)]; exact a5
theorem RV_setAt (h : RV σ v) {σ' : HS} {v' : Nat → Int} (z : Nat) (hz : z < 6) (a b c : Int) (hod : σ'.od = σ.od) (hoh : σ'.oh = σ.oh) (htd : σ'.td = σ.td) (hty : σ'.ty = σ.ty) (hlk : σ'.lk = va_up σ.lk z (lSet (σ.lk z) a b c)) (hA : v' 0 = σ'.sc 2 ∧ v' 1 = σ'.sc 1 ∧ v' 2 = σ'.sc 0 ∧ v' 3 = σ'.sc 3 ∧ v' 4 = σ'.sc 4 ∧ v' 5 = σ'.sc 8 ∧ v' 6 = (if 10 < σ'.sc 3 then 10 else σ'.sc 3)) (hv : ∀ i, 7 ≤ i → v' i = mComb v z a b c i) : RV σ' v' := by
  have hc : ∀ i, 7 ≤ i → i ≠ 7 + 9 * z + 3 → i ≠ 7 + 9 * z + 4 → i ≠ 7 + 9 * z + 5 → v' i = v i := fun i h7 h3 h4 h5 => by
    rw [hv i h7]
    unfold mComb
    rw [va_up_ne _ _ h5, va_up_ne _ _ h4, va_up_ne _ _ h3]
  refine RV_mk h z hA (fun d hd hn => ⟨?_, ovN_od hod d, fun k hk => hc _ (by omega) (by omega) (by omega) (by omega)⟩) (fun _ => ?_) (fun o ho => ?_) (fun k hk => ?_)
  · rw [hlk, va_up_ne _ _ hn]
  · rw [hlk, va_up_self, ovN_od hod]
    refine RwL_set (h.2.1 z hz) ?_ ?_ ?_ (fun k hk h3 h4 h5 => hc _ (by omega) (by omega) (by omega) (by omega))
    · show v' (7 + 9 * z + 3) = a
      rw [hv _ (by omega)]
      unfold mComb
      rw [va_up_ne _ _ (by omega), va_up_ne _ _ (by omega), va_up_self]
    · show v' (7 + 9 * z + 4) = b
      rw [hv _ (by omega)]
      unfold mComb
      rw [va_up_ne _ _ (by omega), va_up_self]
    · show v' (7 + 9 * z + 5) = c
      rw [hv _ (by omega)]
      unfold mComb
      rw [va_up_self]
  · rw [hod, hoh, hc _ (by omega) (by omega) (by omega) (by omega), hc _ (by omega) (by omega) (by omega) (by omega)]
    exact h.2.2.1 o ho
  · rw [htd, hty, hc _ (by omega) (by omega) (by omega) (by omega), hc _ (by omega) (by omega) (by omega) (by omega)]
    exact h.2.2.2 k hk
theorem RV_doDoor (h : RV σ v) (hr : Hok B σ) {a b c : Int} (h0 : rfDoor σ a b c = 0) : RV (doDoor σ a b c) (mDoor v a b c) := by
  have h1 := rfDoor_0 h0
  have q0 := hr.1 0 (by decide)
  have a2 := h.1.2.2.1
  unfold mDoor
  rw [a2]
  refine RV_setAt h (σ.sc 0).toNat (by omega) a b c rfl rfl rfl rfl rfl ?_ (fun i hi => va_up_ne _ _ (by omega))
  have m : ∀ i, i < 7 → mComb v (σ.sc 0).toNat a b c i = v i := fun i hi => by
    unfold mComb
    rw [va_up_ne _ _ (by omega), va_up_ne _ _ (by omega), va_up_ne _ _ (by omega)]
  have aa := h.1
  refine ⟨?_, ?_, va_up_self _ _ _, ?_, ?_, ?_, ?_⟩
  · rw [va_up_ne _ _ (by decide), m _ (by decide)]; exact aa.1
  · rw [va_up_ne _ _ (by decide), m _ (by decide)]; exact aa.2.1
  · rw [va_up_ne _ _ (by decide), m _ (by decide)]; exact aa.2.2.2.1
  · rw [va_up_ne _ _ (by decide), m _ (by decide)]; exact aa.2.2.2.2.1
  · rw [va_up_ne _ _ (by decide), m _ (by decide)]; exact aa.2.2.2.2.2.1
  · rw [va_up_ne _ _ (by decide), m _ (by decide)]; exact aa.2.2.2.2.2.2
theorem RV_doSet (h : RV σ v) (hr : Hok B σ) {z a b c : Int} (h0 : rfSet σ z a b c = 0) : RV (doSet σ z a b c) (mComb v z.toNat a b c) := by
  have h1 := rfSet_0 h0
  have q0 := hr.2.1
  have hd := h1.1
  have m : ∀ i, i < 7 → mComb v z.toNat a b c i = v i := fun i hi => by
    unfold mComb
    rw [va_up_ne _ _ (by omega), va_up_ne _ _ (by omega), va_up_ne _ _ (by omega)]
  refine RV_setAt h z.toNat (by omega) a b c rfl rfl rfl rfl rfl ?_ (fun i hi => rfl)
  rw [m 0 (by decide), m 1 (by decide), m 2 (by decide), m 3 (by decide), m 4 (by decide), m 5 (by decide), m 6 (by decide)]
  exact h.1
/-- one dial changes -/
theorem RwL_dial {L : LkS} {o : Int} {w w' : Nat → Int} {t : Nat} {x : Int} (q : RwL L o w) (ht : t < 3) (h3 : w' t = x) (h : ∀ k, k < 9 → k ≠ t → w' k = w k) : RwL (L.op, L.cr, va_up L.dl t x, L.cb) o w' := by
  obtain ⟨a1, a2, a3, a4, a5⟩ := q
  refine ⟨fun j hj => ⟨?_, ?_⟩, ?_, ?_, ?_, ?_⟩
  · show w' j = va_up L.dl t x j
    by_cases e : j = t
    · subst e; rw [va_up_self]; exact h3
    · rw [va_up_ne _ _ e, h j (by omega) e]; exact (a1 j hj).1
  · rw [h (3 + j) (by omega) (by omega)]; exact (a1 j hj).2
  · rw [h 6 (by omega) (by omega)]; exact a2
  · exact (h 7 (by omega) (by omega)).trans a3
  · exact (h 8 (by omega) (by omega)).trans a4
  · rw [h 6 (by omega) (by omega)]; exact a5
theorem RV_doTurn (h : RV σ v) (hr : Hok B σ) {z d x : Int} (h0 : rfTurn σ z d x = 0) : RV (doTurn σ z d x) (mTurn v z d x) := by
  have h1 := rfTurn_0 h0
  have q0 := hr.2.1
  have hd := h1.1
  have hd2 := h1.2.1
  have m : ∀ i, i ≠ 7 + 9 * z.toNat + d.toNat → mTurn v z d x i = v i := fun i hi => va_up_ne _ _ hi
  refine RV_mk h z.toNat ?_ (fun e he hn => ⟨va_up_ne _ _ hn, rfl, fun k hk => m _ (by omega)⟩) (fun hz => ?_) (fun o ho => ?_) (fun k hk => ?_)
  · rw [m 0 (by omega), m 1 (by omega), m 2 (by omega), m 3 (by omega), m 4 (by omega), m 5 (by omega), m 6 (by omega)]
    exact h.1
  · show RwL (va_up σ.lk z.toNat (lTurn (σ.lk z.toNat) d.toNat x) z.toNat) _ _
    rw [va_up_self]
    refine RwL_dial (h.2.1 _ hz) (t := d.toNat) (by omega) ?_ (fun k hk hn => m _ (by omega))
    show va_up v (7 + 9 * z.toNat + d.toNat) (p_turn (v (7 + 9 * z.toNat + d.toNat)) x) (7 + 9 * z.toNat + d.toNat) = _
    rw [va_up_self, ((RV_row h _ hz).1 d.toNat (by omega)).1]
  · rw [m _ (by omega), m _ (by omega)]; exact h.2.2.1 o ho
  · rw [m _ (by omega), m _ (by omega)]; exact h.2.2.2 k hk
theorem RV_doDamp (h : RV σ v) (a : Int) : RV (doDamp σ a) (va_up v 1 a) := by
  have m : ∀ i, i ≠ 1 → va_up v 1 a i = v i := fun i hi => va_up_ne _ _ hi
  refine RV_mk h 6 ?_ (fun e he hn => ⟨rfl, rfl, fun k hk => m _ (by omega)⟩) (fun hz => absurd hz (by decide)) (fun o ho => ?_) (fun k hk => ?_)
  · rw [m 0 (by omega), m 2 (by omega), m 3 (by omega), m 4 (by omega), m 5 (by omega), m 6 (by omega)]
    have a1 := h.1
    exact ⟨a1.1, va_up_self _ _ _, a1.2.2⟩
  · rw [m _ (by omega), m _ (by omega)]; exact h.2.2.1 o ho
  · rw [m _ (by omega), m _ (by omega)]; exact h.2.2.2 k hk
theorem RV_doShut (h : RV σ v) (hr : Hok B σ) {z : Int} (h0 : rfShut σ z = 0) : RV (doShut σ z) (mShut v z) := by
  have h1 := rfShut_0 h0
  have q0 := hr.2.1
  have hd := h1.1
  have m : ∀ i, i ≠ 7 + 9 * z.toNat + 6 → mShut v z i = v i := fun i hi => va_up_ne _ _ hi
  refine RV_mk h z.toNat ?_ (fun e he hn => ⟨va_up_ne _ _ hn, rfl, fun k hk => m _ (by omega)⟩) (fun hz => ?_) (fun o ho => ?_) (fun k hk => ?_)
  · rw [m 0 (by omega), m 1 (by omega), m 2 (by omega), m 3 (by omega), m 4 (by omega), m 5 (by omega), m 6 (by omega)]
    exact h.1
  · show RwL (va_up σ.lk z.toNat (0, (σ.lk z.toNat).cr, (σ.lk z.toNat).dl, (σ.lk z.toNat).cb) z.toNat) (ovN σ z.toNat) _
    rw [va_up_self]
    obtain ⟨a1, a2, a3, a4, a5⟩ := h.2.1 _ hz
    have w6 : mShut v z (7 + 9 * z.toNat + 6) = 0 := va_up_self _ _ _
    have ov : ovN σ z.toNat = 0 := by
      have nb : ¬ vBake v z.toNat := fun g => h1.2.1 (Or.inr (by have g2 := (RV_bake h z.toNat hz).mp g; rw [show ((z.toNat : Nat) : Int) = z from by omega] at g2; exact g2))
      have q := (RV_row h z.toNat hz).2.2.2.1
      have k := ovN_rng σ z.toNat
      replace nb : ¬ 0 < v (7 + 9 * z.toNat + 8) := nb
      rw [q] at nb
      omega
    rw [ov] at a4 ⊢
    refine ⟨fun j hj => ⟨(m _ (by omega)).trans (a1 j hj).1, (m _ (by omega)).trans (a1 j hj).2⟩, Or.inl w6, (m _ (by omega)).trans a3, (m _ (by omega)).trans a4, ?_⟩
    show (0 : Int) = 1 ↔ (mShut v z (7 + 9 * z.toNat + 6) = 1 ∨ (0 : Int) < 0)
    rw [w6]
    omega
  · rw [m _ (by omega), m _ (by omega)]; exact h.2.2.1 o ho
  · rw [m _ (by omega), m _ (by omega)]; exact h.2.2.2 k hk
theorem RV_doBake (h : RV σ v) (hr : Hok B σ) {z o : Int} (h0 : rfBake σ z o = 0) : RV (doBake σ z o) (mBake v z o) := by
  have h1 := rfBake_0 h0
  have q0 := hr.2.1
  have hd := h1.1
  have ho := h1.2.1
  have hn := h1.2.2.1
  have hf := h1.2.2.2
  have hz : z.toNat < 6 := by omega
  have zz : ((z.toNat : Nat) : Int) = z := by omega
  have m : ∀ i, i ≠ 7 + 9 * z.toNat + 8 → i ≠ 61 + 2 * o.toNat + 0 → i ≠ 61 + 2 * o.toNat + 1 → mBake v z o i = v i := fun i a b c => by
    unfold mBake
    rw [va_up_ne _ _ c, va_up_ne _ _ b, va_up_ne _ _ a]
  have m8 : mBake v z o (7 + 9 * z.toNat + 8) = o + 1 := by
    unfold mBake
    rw [va_up_ne _ _ (by omega), va_up_ne _ _ (by omega), va_up_self]
  have mo : mBake v z o (61 + 2 * o.toNat + 0) = z + 1 := by
    unfold mBake
    rw [va_up_ne _ _ (by omega), va_up_self]
  have mh : mBake v z o (61 + 2 * o.toNat + 1) = 1 + v (7 + 9 * z.toNat + 7) / 4 := va_up_self _ _ _
  have oc : o.toNat = 0 ∨ o.toNat = 1 := by omega
  have ovz : ovN (doBake σ z o) z.toNat = o + 1 := by
    show (if va_up σ.od o.toNat z 0 = ((z.toNat : Nat) : Int) then (1 : Int) else if va_up σ.od o.toNat z 1 = ((z.toNat : Nat) : Int) then 2 else 0) = o + 1
    rcases oc with e | e <;> rw [e]
    · rw [va_up_self, if_pos zz.symm]; omega
    · rw [va_up_ne _ _ (by decide), if_neg (fun g => hn (Or.inl (g.trans zz))), va_up_self, if_pos zz.symm]; omega
  have ovd : ∀ d : Nat, d ≠ z.toNat → ovN (doBake σ z o) d = ovN σ d := fun d hdn => by
    show (if va_up σ.od o.toNat z 0 = (d : Int) then (1 : Int) else if va_up σ.od o.toNat z 1 = (d : Int) then 2 else 0) = (if σ.od 0 = (d : Int) then 1 else if σ.od 1 = (d : Int) then 2 else 0)
    rcases oc with e | e <;> rw [e] at hf ⊢
    · rw [va_up_self, va_up_ne _ _ (by decide), if_neg (show ¬ z = (d : Int) by omega), if_neg (show ¬ σ.od 0 = (d : Int) by omega)]
    · rw [va_up_self, va_up_ne _ _ (by decide), if_neg (show ¬ z = (d : Int) by omega), if_neg (show ¬ σ.od 1 = (d : Int) by omega)]
  refine RV_mk h z.toNat ?_ (fun e he hne => ⟨va_up_ne _ _ hne, ovd e hne, fun k hk => m _ (by omega) (by omega) (by omega)⟩) (fun _ => ?_) (fun o' ho' => ?_) (fun k hk => ?_)
  · rw [m 0 (by omega) (by omega) (by omega), m 1 (by omega) (by omega) (by omega), m 2 (by omega) (by omega) (by omega), m 3 (by omega) (by omega) (by omega), m 4 (by omega) (by omega) (by omega), m 5 (by omega) (by omega) (by omega), m 6 (by omega) (by omega) (by omega)]
    have a1 := h.1
    have s : ∀ i, i ≠ 7 → (doBake σ z o).sc i = σ.sc i := fun i hi => by
      show (if (σ.lk z.toNat).op = 0 then va_up σ.sc 7 (σ.sc 7 + 1) else σ.sc) i = σ.sc i
      split
      · exact va_up_ne _ _ hi
      · rfl
    rw [s 2 (by decide), s 1 (by decide), s 0 (by decide), s 3 (by decide), s 4 (by decide), s 8 (by decide)]
    exact a1
  · rw [ovz]
    show RwL (va_up σ.lk z.toNat (1, (σ.lk z.toNat).cr, (σ.lk z.toNat).dl, (σ.lk z.toNat).cb) z.toNat) (o + 1) _
    rw [va_up_self]
    obtain ⟨a1, a2, a3, a4, a5⟩ := h.2.1 _ hz
    refine ⟨fun j hj => ⟨(m _ (by omega) (by omega) (by omega)).trans (a1 j hj).1, (m _ (by omega) (by omega) (by omega)).trans (a1 j hj).2⟩, ?_, (m _ (by omega) (by omega) (by omega)).trans a3, m8, ?_⟩
    · show mBake v z o (7 + 9 * z.toNat + 6) = 0 ∨ mBake v z o (7 + 9 * z.toNat + 6) = 1
      rw [m _ (by omega) (by omega) (by omega)]; exact a2
    · exact ⟨fun _ => Or.inr (by omega), fun _ => rfl⟩
  · show mBake v z o (61 + 2 * o' + 0) = va_up σ.od o.toNat z o' + 1 ∧ mBake v z o (61 + 2 * o' + 1) = va_up σ.oh o.toNat (1 + (σ.lk z.toNat).cr / 4) o'
    by_cases e : o' = o.toNat
    · subst e
      rw [va_up_self, va_up_self, mo, mh, (RV_row h _ hz).2.2.1]
      exact ⟨rfl, rfl⟩
    · rw [va_up_ne _ _ e, va_up_ne _ _ e, m _ (by omega) (by omega) (by omega), m _ (by omega) (by omega) (by omega)]
      exact h.2.2.1 o' ho'
  · rw [m _ (by omega) (by omega) (by omega), m _ (by omega) (by omega) (by omega)]; exact h.2.2.2 k hk
theorem RV_doTry (h : RV σ v) (hr : Hok B σ) (hi : HI σ) {z : Int} (h0 : rfTry σ z = 0) : RV (doTry σ z) (mTry v z) := by
  have h1 := rfTry_0 h0
  have q0 := hr.2.1
  have hd := h1.1
  have hz : z.toNat < 6 := by omega
  have hn := oven_ne hi h1.1.1 (by rw [h1.2]; decide)
  have n0 := hn 0 (by decide)
  have n1 := hn 1 (by decide)
  have many := RV_many h hr z.toNat hz
  have row := RV_row h z.toNat hz
  have lr := lFit_rng (σ.lk z.toNat)
  have kc := (hr.2.2.2.2 z.toNat hz).2.1
  have crv : vCr v z.toNat = (lTry (σ.lk z.toNat)).cr := by
    unfold vCr lTry
    rw [many, row.2.2.1]
    by_cases e : lFit (σ.lk z.toNat) = 3
    · rw [if_pos e, if_pos (by omega)]
      show _ = (σ.lk z.toNat).cr
      omega
    · rw [if_neg e]
      show _ = (if (σ.lk z.toNat).cr + 3 - lFit (σ.lk z.toNat) < 20 then (σ.lk z.toNat).cr + 3 - lFit (σ.lk z.toNat) else 20)
      (repeat' split) <;> omega
  have ldc : (lTry (σ.lk z.toNat)).dl = (σ.lk z.toNat).dl ∧ (lTry (σ.lk z.toNat)).cb = (σ.lk z.toNat).cb := by
    unfold lTry
    split <;> exact ⟨rfl, rfl⟩
  have ovz : ovN σ z.toNat = 0 := by
    unfold ovN
    rw [if_neg (by omega), if_neg (by omega)]
  have m1 : ∀ i, i ≠ 7 + 9 * z.toNat + 7 → i ≠ 7 + 9 * z.toNat + 6 → vT v z.toNat i = v i := fun i a b => by
    unfold vT
    rw [va_up_ne _ _ b, va_up_ne _ _ a]
  have m7 : vT v z.toNat (7 + 9 * z.toNat + 7) = (lTry (σ.lk z.toNat)).cr := by
    unfold vT
    rw [va_up_ne _ _ (by omega), va_up_self, crv]
  have m6 : vT v z.toNat (7 + 9 * z.toNat + 6) = (lTry (σ.lk z.toNat)).op := by
    unfold vT
    rw [va_up_self, crv, many]
    unfold lTry
    by_cases e : lFit (σ.lk z.toNat) = 3
    · rw [if_pos e, if_pos (Or.inl (by omega))]
    · rw [if_neg e]
      show (if 3 - lFit (σ.lk z.toNat) = 0 ∨ (if (σ.lk z.toNat).cr + 3 - lFit (σ.lk z.toNat) < 20 then (σ.lk z.toNat).cr + 3 - lFit (σ.lk z.toNat) else 20) = 20 then 1 else 0) = (if (if (σ.lk z.toNat).cr + 3 - lFit (σ.lk z.toNat) < 20 then (σ.lk z.toNat).cr + 3 - lFit (σ.lk z.toNat) else 20) = 20 then 1 else 0)
      by_cases e2 : (if (σ.lk z.toNat).cr + 3 - lFit (σ.lk z.toNat) < 20 then (σ.lk z.toNat).cr + 3 - lFit (σ.lk z.toNat) else 20) = 20
      · rw [if_pos (Or.inr e2), if_pos e2]
      · rw [if_neg (fun g => by rcases g with g | g; omega; exact e2 g), if_neg e2]
  have bb : (if vMany v z.toNat = 0 then (1 : Int) else 0) = (if lFit (σ.lk z.toNat) = 3 then 1 else 0) := by
    rw [many]
    (repeat' split) <;> omega
  have mid : ∀ i, 7 ≤ i → i < 65 → mTry v z i = vT v z.toNat i := fun i a b => by
    unfold mTry mRec
    rw [va_up_ne _ _ (by omega), va_up_ne _ _ (by omega), va_up_ne _ _ (by omega), va_up_ne _ _ (by omega), va_up_ne _ _ (by omega)]
    unfold recN
    rw [if_neg (by omega)]
  have low : ∀ i, i < 7 → vT v z.toNat i = v i := fun i a => m1 i (by omega) (by omega)
  have lowr : ∀ i, i < 7 → i ≠ 6 → i ≠ 3 → i ≠ 4 → mTry v z i = v i := fun i a b c d => by
    unfold mTry mRec
    rw [va_up_ne _ _ d, va_up_ne _ _ c, va_up_ne _ _ b, va_up_ne _ _ (by omega), va_up_ne _ _ (by omega)]
    unfold recN
    rw [if_neg (by omega)]
    exact low i a
  have s3 : ∀ i, i ≠ 3 → i ≠ 4 → i ≠ 5 → (doTry σ z).sc i = σ.sc i := fun i a b c => by
    show scTry σ (σ.lk z.toNat) i = σ.sc i
    unfold scTry
    split
    · rw [va_up_ne _ _ b, va_up_ne _ _ a]
    · split
      · rw [va_up_ne _ _ a]
      · rw [va_up_ne _ _ c, va_up_ne _ _ a]
  have s33 : (doTry σ z).sc 3 = σ.sc 3 + 1 := by
    show scTry σ (σ.lk z.toNat) 3 = _
    unfold scTry
    split
    · rw [va_up_ne _ _ (by decide), va_up_self]
    · split
      · rw [va_up_self]
      · rw [va_up_ne _ _ (by decide), va_up_self]
  have s34 : (doTry σ z).sc 4 = σ.sc 4 + (if lFit (σ.lk z.toNat) = 3 then 1 else 0) := by
    show scTry σ (σ.lk z.toNat) 4 = _
    unfold scTry
    split
    · rw [va_up_self]
    · split
      · rw [va_up_ne _ _ (by decide)]; omega
      · rw [va_up_ne _ _ (by decide), va_up_ne _ _ (by decide)]; omega
  have a1 := h.1
  have q3 := hr.1 3 (by decide)
  refine RV_mk h z.toNat ?_ (fun e he hne => ⟨va_up_ne _ _ hne, rfl, fun k hk => (mid _ (by omega) (by omega)).trans (m1 _ (by omega) (by omega))⟩) (fun _ => ?_) (fun o ho => ?_) (fun k hk => ?_)
  · refine ⟨?_, ?_, ?_, ?_, ?_, ?_, ?_⟩
    · rw [lowr 0 (by decide) (by decide) (by decide) (by decide), s3 2 (by decide) (by decide) (by decide)]; exact a1.1
    · rw [lowr 1 (by decide) (by decide) (by decide) (by decide), s3 1 (by decide) (by decide) (by decide)]; exact a1.2.1
    · rw [lowr 2 (by decide) (by decide) (by decide) (by decide), s3 0 (by decide) (by decide) (by decide)]; exact a1.2.2.1
    · rw [s33]
      unfold mTry mRec
      rw [va_up_ne _ _ (by decide), va_up_self, low 3 (by decide), a1.2.2.2.1]
    · rw [s34]
      unfold mTry mRec
      rw [va_up_self, low 4 (by decide), a1.2.2.2.2.1, bb]
    · rw [lowr 5 (by decide) (by decide) (by decide) (by decide), s3 8 (by decide) (by decide) (by decide)]; exact a1.2.2.2.2.2.1
    · rw [s33]
      unfold mTry mRec
      rw [va_up_ne _ _ (by decide), va_up_ne _ _ (by decide), va_up_self, low 6 (by decide), a1.2.2.2.2.2.2]
      (repeat' split) <;> omega
  · show RwL (va_up σ.lk z.toNat (lTry (σ.lk z.toNat)) z.toNat) (ovN σ z.toNat) _
    rw [va_up_self, ovz]
    have w6 : mTry v z (7 + 9 * z.toNat + 6) = (lTry (σ.lk z.toNat)).op := (mid _ (by omega) (by omega)).trans m6
    refine ⟨fun j hj => ⟨?_, ?_⟩, ?_, (mid _ (by omega) (by omega)).trans m7, ?_, ?_⟩
    · show mTry v z (7 + 9 * z.toNat + j) = _
      rw [mid _ (by omega) (by omega), m1 _ (by omega) (by omega), ldc.1]
      exact (row.1 j hj).1
    · show mTry v z (7 + 9 * z.toNat + (3 + j)) = _
      rw [mid _ (by omega) (by omega), m1 _ (by omega) (by omega), ldc.2]
      exact (row.1 j hj).2
    · show mTry v z (7 + 9 * z.toNat + 6) = 0 ∨ mTry v z (7 + 9 * z.toNat + 6) = 1
      rw [w6]; exact lTry_op _
    · show mTry v z (7 + 9 * z.toNat + 8) = 0
      rw [mid _ (by omega) (by omega), m1 _ (by omega) (by omega), row.2.2.2.1, ovz]
    · show (lTry (σ.lk z.toNat)).op = 1 ↔ (mTry v z (7 + 9 * z.toNat + 6) = 1 ∨ (0 : Int) < 0)
      rw [w6]
      omega
  · rw [mid _ (by omega) (by omega), mid _ (by omega) (by omega), m1 _ (by omega) (by omega), m1 _ (by omega) (by omega)]
    exact h.2.2.1 o ho
  · show mTry v z (65 + 2 * k + 0) = p_sh z σ.td k ∧ mTry v z (65 + 2 * k + 1) = p_sh (if lFit (σ.lk z.toNat) = 3 then 1 else 0) σ.ty k
    by_cases e : k = 0
    · subst e
      unfold mTry mRec
      rw [va_up_ne _ _ (by decide), va_up_ne _ _ (by decide), va_up_ne _ _ (by decide), va_up_ne _ _ (by decide), va_up_self, va_up_ne _ _ (by decide), va_up_ne _ _ (by decide), va_up_ne _ _ (by decide), va_up_self, bb]
      exact ⟨rfl, rfl⟩
    · have hh : ∀ i, 67 ≤ i → i ≤ 84 → mTry v z i = v (i - 2) := fun i a b => by
        unfold mTry mRec
        rw [va_up_ne _ _ (by omega), va_up_ne _ _ (by omega), va_up_ne _ _ (by omega), va_up_ne _ _ (by omega), va_up_ne _ _ (by omega)]
        unfold recN
        rw [if_pos (by omega)]
        exact m1 _ (by omega) (by omega)
      have q := h.2.2.2 (k - 1) (by omega)
      rw [hh _ (by omega) (by omega), hh _ (by omega) (by omega)]
      unfold p_sh
      rw [if_neg e, if_neg e, show 65 + 2 * k + 0 - 2 = 65 + 2 * (k - 1) + 0 from by omega, show 65 + 2 * k + 1 - 2 = 65 + 2 * (k - 1) + 1 from by omega]
      exact q
end RS
