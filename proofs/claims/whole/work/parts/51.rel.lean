/-! the house and the reference's row say the same (by hand) -/
def ovN (σ : HS) (d : Nat) : Int := if σ.od 0 = (d : Int) then 1 else if σ.od 1 = (d : Int) then 2 else 0
def RwL (L : LkS) (o : Int) (w : Nat → Int) : Prop := (∀ j, j < 3 → w j = L.dl j ∧ w (3 + j) = L.cb j) ∧ (w 6 = 0 ∨ w 6 = 1) ∧ w 7 = L.cr ∧ w 8 = o ∧ (L.op = 1 ↔ (w 6 = 1 ∨ 0 < o))
abbrev rowN (v : Nat → Int) (d : Nat) : Nat → Int := fun k => v (7 + 9 * d + k)
def RV (σ : HS) (v : Nat → Int) : Prop := (v 0 = σ.sc 2 ∧ v 1 = σ.sc 1 ∧ v 2 = σ.sc 0 ∧ v 3 = σ.sc 3 ∧ v 4 = σ.sc 4 ∧ v 5 = σ.sc 8 ∧ v 6 = (if 10 < σ.sc 3 then 10 else σ.sc 3)) ∧ (∀ d, d < 6 → RwL (σ.lk d) (ovN σ d) (rowN v d)) ∧ (∀ o, o < 2 → v (61 + 2 * o + 0) = σ.od o + 1 ∧ v (61 + 2 * o + 1) = σ.oh o) ∧ (∀ k, k < 10 → v (65 + 2 * k + 0) = σ.td k ∧ v (65 + 2 * k + 1) = σ.ty k)
theorem RwL_congr {L : LkS} {o : Int} {w w' : Nat → Int} (h : ∀ k, k < 9 → w' k = w k) (q : RwL L o w) : RwL L o w' := by
  obtain ⟨a1, a2, a3, a4, a5⟩ := q
  refine ⟨fun j hj => ?_, ?_, ?_, ?_, ?_⟩
  · rw [h j (by omega), h (3 + j) (by omega)]; exact a1 j hj
  · rw [h 6 (by omega)]; exact a2
  · rw [h 7 (by omega)]; exact a3
  · rw [h 8 (by omega)]; exact a4
  · rw [h 6 (by omega)]; exact a5
theorem RV_mk {σ σ' : HS} {v v' : Nat → Int} (h : RV σ v) (z : Nat)
    (hA : v' 0 = σ'.sc 2 ∧ v' 1 = σ'.sc 1 ∧ v' 2 = σ'.sc 0 ∧ v' 3 = σ'.sc 3 ∧ v' 4 = σ'.sc 4 ∧ v' 5 = σ'.sc 8 ∧ v' 6 = (if 10 < σ'.sc 3 then 10 else σ'.sc 3))
    (hz : ∀ d, d < 6 → d ≠ z → σ'.lk d = σ.lk d ∧ ovN σ' d = ovN σ d ∧ ∀ k, k < 9 → v' (7 + 9 * d + k) = v (7 + 9 * d + k))
    (hL : z < 6 → RwL (σ'.lk z) (ovN σ' z) (rowN v' z))
    (hC : ∀ o, o < 2 → v' (61 + 2 * o + 0) = σ'.od o + 1 ∧ v' (61 + 2 * o + 1) = σ'.oh o)
    (hD : ∀ k, k < 10 → v' (65 + 2 * k + 0) = σ'.td k ∧ v' (65 + 2 * k + 1) = σ'.ty k) : RV σ' v' := by
  refine ⟨hA, fun d hd => ?_, hC, hD⟩
  by_cases e : d = z
  · subst e; exact hL hd
  · have q := hz d hd e
    rw [q.1, q.2.1]
    exact RwL_congr q.2.2 (h.2.1 d hd)
theorem RV_0 : RV H0 (fun _ => 0) := by
  refine ⟨⟨rfl, rfl, rfl, rfl, rfl, rfl, rfl⟩, fun d hd => ?_, fun o _ => ⟨rfl, rfl⟩, fun k _ => ⟨rfl, rfl⟩⟩
  have e : ovN H0 d = 0 := by
    unfold ovN
    rw [if_neg (by show ¬ (-1 : Int) = (d : Int); omega), if_neg (by show ¬ (-1 : Int) = (d : Int); omega)]
  rw [e]
  refine ⟨fun j hj => ⟨rfl, rfl⟩, Or.inl rfl, rfl, rfl, ?_⟩
  show (0 : Int) = 1 ↔ ((0 : Int) = 1 ∨ (0 : Int) < 0)
  omega
section RV
variable {B : Int} {σ : HS} {v : Nat → Int}
theorem RV_row (h : RV σ v) (d : Nat) (hd : d < 6) : (∀ j, j < 3 → v (7 + 9 * d + j) = (σ.lk d).dl j ∧ v (7 + 9 * d + (3 + j)) = (σ.lk d).cb j) ∧ (v (7 + 9 * d + 6) = 0 ∨ v (7 + 9 * d + 6) = 1) ∧ v (7 + 9 * d + 7) = (σ.lk d).cr ∧ v (7 + 9 * d + 8) = ovN σ d ∧ ((σ.lk d).op = 1 ↔ vOpen v d) := by
  have q := h.2.1 d hd
  refine ⟨q.1, q.2.1, q.2.2.1, q.2.2.2.1, ?_⟩
  have a := q.2.2.2.2
  rw [← q.2.2.2.1] at a
  exact a
theorem ovN_rng (σ : HS) (d : Nat) : ovN σ d = 0 ∨ ovN σ d = 1 ∨ ovN σ d = 2 := by
  unfold ovN
  (repeat' split) <;> omega
theorem RV_bake (h : RV σ v) (d : Nat) (hd : d < 6) : vBake v d ↔ hOven σ (d : Int) := by
  have q := (RV_row h d hd).2.2.2.1
  show 0 < v (7 + 9 * d + 8) ↔ (σ.od 0 = (d : Int) ∨ σ.od 1 = (d : Int))
  rw [q]
  unfold ovN
  split
  · next e => exact ⟨fun _ => Or.inl e, fun _ => by omega⟩
  · next e =>
    split
    · next e2 => exact ⟨fun _ => Or.inr e2, fun _ => by omega⟩
    · next e2 => exact ⟨fun z => by omega, fun z => by rcases z with z | z; exact absurd z e; exact absurd z e2⟩
theorem RV_open (h : RV σ v) (hr : Hok B σ) (d : Nat) (hd : d < 6) : (σ.lk d).op = 0 ↔ ¬ vOpen v d := by
  have q := (RV_row h d hd).2.2.2.2
  have a := (hr.2.2.2.2 d hd).1
  constructor
  · intro e k
    have := q.mpr k
    omega
  · intro e
    rcases a with a | a
    · exact a
    · exact absurd (q.mp a) e
/-- the row is in order -/
theorem RV_Vok (h : RV σ v) (hr : Hok B σ) (hB : 20 ≤ B ∧ B ≤ 1000000000) : Vok B v := by
  have a := h.1
  have b0 := hr.1 0 (by decide)
  have b1 := hr.1 1 (by decide)
  have b2 := hr.1 2 (by decide)
  have b3 := hr.1 3 (by decide)
  have b4 := hr.1 4 (by decide)
  have b8 := hr.1 8 (by decide)
  have q2 := hr.2.1
  have dgs : ∀ d j, d < 6 → j < 6 → 0 ≤ v (7 + 9 * d + j) ∧ v (7 + 9 * d + j) ≤ 9 := fun d j hd hj => by
    have q := (RV_row h d hd).1
    have k := (hr.2.2.2.2 d hd).2.2
    by_cases e : j < 3
    · have q1 := q j e
      have k1 := k j e
      omega
    · have q1 := q (j - 3) (by omega)
      have k1 := k (j - 3) (by omega)
      rw [show 3 + (j - 3) = j from by omega] at q1
      omega
  have fl : ∀ d, d < 6 → 0 ≤ v (7 + 9 * d + 6) ∧ v (7 + 9 * d + 6) ≤ 1 := fun d hd => by
    have q := (RV_row h d hd).2.1
    omega
  have cr : ∀ d, d < 6 → 0 ≤ v (7 + 9 * d + 7) ∧ v (7 + 9 * d + 7) ≤ 20 := fun d hd => by
    have q := (RV_row h d hd).2.2.1
    have k := (hr.2.2.2.2 d hd).2.1
    omega
  have ov : ∀ d, d < 6 → 0 ≤ v (7 + 9 * d + 8) ∧ v (7 + 9 * d + 8) ≤ 2 := fun d hd => by
    have q := (RV_row h d hd).2.2.2.1
    have k := ovN_rng σ d
    omega
  have ho : ∀ o, o < 2 → 0 ≤ v (61 + 2 * o) ∧ v (61 + 2 * o) ≤ 6 ∧ 0 ≤ v (61 + 2 * o + 1) ∧ v (61 + 2 * o + 1) ≤ 6 := fun o ho => by
    have q : v (61 + 2 * o) = σ.od o + 1 ∧ v (61 + 2 * o + 1) = σ.oh o := h.2.2.1 o ho
    have k := hr.2.2.1 o ho
    omega
  have v6 : 0 ≤ v 6 ∧ v 6 ≤ 10 := by
    rw [a.2.2.2.2.2.2]
    split <;> omega
  refine ⟨fun i hi => ?_, by omega, by omega, v6, dgs, fl, cr, ov, ho, hB.2⟩
  by_cases e : i < 7
  · match i, e with
    | 0, _ => omega
    | 1, _ => omega
    | 2, _ => omega
    | 3, _ => omega
    | 4, _ => omega
    | 5, _ => omega
    | 6, _ => omega
  · by_cases e2 : i < 61
    · have e3 : i = 7 + 9 * ((i - 7) / 9) + (i - 7) % 9 := by omega
      have d6 : (i - 7) / 9 < 6 := by omega
      have j9 : (i - 7) % 9 < 9 := by omega
      generalize (i - 7) / 9 = d at e3 d6
      generalize (i - 7) % 9 = j at e3 j9
      subst e3
      have f1 := fl d d6
      have f2 := cr d d6
      have f3 := ov d d6
      by_cases g : j < 6
      · have := dgs d j d6 g
        omega
      · rcases (show j = 6 ∨ j = 7 ∨ j = 8 by omega) with g | g | g <;> subst g <;> omega
    · by_cases e3 : i < 65
      · have e4 : i = 61 + 2 * ((i - 61) / 2) + (i - 61) % 2 := by omega
        have o2 : (i - 61) / 2 < 2 := by omega
        have f := ho _ o2
        rcases (show (i - 61) % 2 = 0 ∨ (i - 61) % 2 = 1 by omega) with g | g
        · rw [g] at e4
          rw [e4]
          show -1 ≤ v (61 + 2 * ((i - 61) / 2)) ∧ v (61 + 2 * ((i - 61) / 2)) ≤ B
          omega
        · rw [g] at e4
          rw [e4]
          omega
      · have e4 : i = 65 + 2 * ((i - 65) / 2) + (i - 65) % 2 := by omega
        have o2 : (i - 65) / 2 < 10 := by omega
        have f := h.2.2.2 _ o2
        have k := hr.2.2.2.1 _ o2
        rcases (show (i - 65) % 2 = 0 ∨ (i - 65) % 2 = 1 by omega) with g | g
        · rw [g] at e4
          rw [e4]
          omega
        · rw [g] at e4
          rw [e4]
          omega
theorem RV_Vh (h : RV σ v) (hr : Hok B σ) (hB : 20 ≤ B ∧ B ≤ 1000000000) : Vh B v := by
  refine ⟨RV_Vok h hr hB, fun o ho => ?_, ?_, hB.1⟩
  · have q := h.2.2.1 o ho
    have k := hr.2.2.1 o ho
    omega
  · have a := h.1.1
    have b2 := hr.1 2 (by decide)
    omega
theorem RV_away (h : RV σ v) (hr : Hok B σ) (d : Nat) (hd : d < 6) (j : Nat) (hj : j < 3) : vAway v d j = p_dist ((σ.lk d).cb j) ((σ.lk d).dl j) := by
  have q := (RV_row h d hd).1 j hj
  have k := (hr.2.2.2.2 d hd).2.2 j hj
  unfold vAway
  rw [q.1, q.2]
  unfold vAbs p_dist p_up
  (repeat' split) <;> omega
theorem RV_mis (h : RV σ v) (hr : Hok B σ) (d : Nat) (hd : d < 6) (pl : Int) : ∀ k : Nat, k ≤ 3 → vMis v d pl k = (k : Int) - p_fitN (σ.lk d).dl (σ.lk d).cb pl k
  | 0, _ => rfl
  | k + 1, hk => by
    show vMis v d pl k + (if pl < vAway v d k then 1 else 0) = ((k + 1 : Nat) : Int) - (p_fitN (σ.lk d).dl (σ.lk d).cb pl k + (if p_dist ((σ.lk d).cb k) ((σ.lk d).dl k) ≤ pl then 1 else 0))
    rw [RV_mis h hr d hd pl k (by omega), RV_away h hr d hd k (by omega)]
    by_cases e : p_dist ((σ.lk d).cb k) ((σ.lk d).dl k) ≤ pl
    · rw [if_neg (by omega), if_pos e]; omega
    · rw [if_pos (by omega), if_neg e]; omega
theorem RV_many (h : RV σ v) (hr : Hok B σ) (d : Nat) (hd : d < 6) : vMany v d = 3 - lFit (σ.lk d) := by
  unfold vMany
  rw [(RV_row h d hd).2.2.1]
  exact RV_mis h hr d hd _ 3 (by decide)
theorem RV_stepN (h : RV σ v) (hr : Hok B σ) (d : Nat) (hd : d < 6) : ∀ k : Nat, k ≤ 3 → vSteps v d k = p_stepN (σ.lk d).dl (σ.lk d).cb ((σ.lk d).cr / 5) k
  | 0, _ => rfl
  | k + 1, hk => by
    show vSteps v d k + (if 0 < vAway v d k - v (7 + 9 * d + 7) / 5 then vAway v d k - v (7 + 9 * d + 7) / 5 else 0) = p_stepN (σ.lk d).dl (σ.lk d).cb ((σ.lk d).cr / 5) k + (if 0 < p_dist ((σ.lk d).cb k) ((σ.lk d).dl k) - (σ.lk d).cr / 5 then p_dist ((σ.lk d).cb k) ((σ.lk d).dl k) - (σ.lk d).cr / 5 else 0)
    rw [RV_stepN h hr d hd k (by omega), RV_away h hr d hd k (by omega), (RV_row h d hd).2.2.1]
theorem RV_steps (h : RV σ v) (hr : Hok B σ) (d : Nat) (hd : d < 6) : vSteps v d 3 = lSteps (σ.lk d) := RV_stepN h hr d hd 3 (by decide)
theorem RV_ahead (h : RV σ v) (hr : Hok B σ) (d e : Nat) (hd : d < 6) (he : e < 6) : vAhead v d e ↔ before σ d e := by
  have s1 := RV_steps h hr d hd
  have s2 := RV_steps h hr e he
  have c1 := (RV_row h d hd).2.2.1
  have c2 := (RV_row h e he).2.2.1
  show (v (7 + 9 * e + 7) < v (7 + 9 * d + 7) ∨ (v (7 + 9 * d + 7) = v (7 + 9 * e + 7) ∧ (vSteps v d 3 < vSteps v e 3 ∨ (vSteps v d 3 = vSteps v e 3 ∧ d < e)))) ↔ ((σ.lk d).cr > (σ.lk e).cr ∨ ((σ.lk d).cr = (σ.lk e).cr ∧ (lSteps (σ.lk d) < lSteps (σ.lk e) ∨ (lSteps (σ.lk d) = lSteps (σ.lk e) ∧ d < e))))
  rw [s1, s2, c1, c2]
theorem RV_rank (h : RV σ v) (hr : Hok B σ) (d : Nat) (hd : d < 6) : ∀ k : Nat, k ≤ 6 → vRank v d k = rankN σ d k
  | 0, _ => rfl
  | k + 1, hk => by
    show vRank v d k + (if k ≠ d ∧ vAhead v k d then 1 else 0) = rankN σ d k + (if k ≠ d ∧ before σ k d then 1 else 0)
    rw [RV_rank h hr d hd k (by omega)]
    have q := RV_ahead h hr k d (by omega) hd
    by_cases e : k ≠ d ∧ before σ k d
    · rw [if_pos e, if_pos ⟨e.1, q.mpr e.2⟩]
    · rw [if_neg e, if_neg (fun g => e ⟨g.1, q.mp g.2⟩)]
theorem RV_tub (h : RV σ v) (hr : Hok B σ) (d : Nat) (hd : d < 6) : ∀ (k : Nat) (L : LkS), L.dl = (σ.lk d).dl → L.cb = (σ.lk d).cb → 0 ≤ L.cr → L.cr ≤ 20 → 21 ≤ (k : Int) + L.cr → vTub v d k L.cr = lTub k L
  | 0, L, _, _, _, h4, h5 => by omega
  | k + 1, L, h1, h2, h3, h4, h5 => by
    have f : lFit L = p_fitN (σ.lk d).dl (σ.lk d).cb (L.cr / 5) 3 := by unfold lFit; rw [h1, h2]
    have m := RV_mis h hr d hd (L.cr / 5) 3 (by decide)
    rw [← f] at m
    have m2 : vMis v d (L.cr / 5) 3 = 3 - lFit L := m
    have r := lFit_rng L
    show (if 20 ≤ L.cr then 0 else if vMis v d (L.cr / 5) 3 = 0 then -100 else 1 + vTub v d k (if L.cr + vMis v d (L.cr / 5) 3 ≤ 20 then L.cr + vMis v d (L.cr / 5) 3 else 20)) = (if L.cr = 20 then 0 else if lFit L = 3 then -100 else 1 + lTub k (lTry L))
    rw [m2]
    by_cases e : L.cr = 20
    · rw [if_pos (by omega), if_pos e]
    · rw [if_neg (by omega), if_neg e]
      by_cases e2 : lFit L = 3
      · rw [if_pos (by omega), if_pos e2]
      · rw [if_neg (by omega), if_neg e2]
        have e3 : (lTry L).cr = (if L.cr + (3 - lFit L) ≤ 20 then L.cr + (3 - lFit L) else 20) := by
          unfold lTry
          rw [if_neg e2]
          show (if L.cr + 3 - lFit L < 20 then L.cr + 3 - lFit L else 20) = _
          (repeat' split) <;> omega
        have e4 : (lTry L).dl = L.dl ∧ (lTry L).cb = L.cb := by
          unfold lTry
          rw [if_neg e2]
          exact ⟨rfl, rfl⟩
        rw [← e3, RV_tub h hr d hd k (lTry L) (e4.1.trans h1) (e4.2.trans h2) (by rw [e3]; split <;> omega) (by rw [e3]; split <;> omega) (by rw [e3]; split <;> omega)]
theorem RV_shut (h : RV σ v) (hr : Hok B σ) : ∀ k : Nat, k ≤ 6 → vShut v k = nShut σ.lk k
  | 0, _ => rfl
  | k + 1, hk => by
    show vShut v k + (if vOpen v k then 0 else 1) = nShut σ.lk k + (if (σ.lk k).op = 0 then 1 else 0)
    rw [RV_shut h hr k (by omega)]
    have q := RV_open h hr k (by omega)
    by_cases e : vOpen v k
    · rw [if_pos e, if_neg (fun g => q.mp g e)]
    · rw [if_neg e, if_pos (q.mpr e)]
theorem RV_sum (h : RV σ v) : ∀ k : Nat, k ≤ 6 → vSm v k = sCr σ.lk k
  | 0, _ => rfl
  | k + 1, hk => by
    show vSm v k + v (7 + 9 * k + 7) = sCr σ.lk k + (σ.lk k).cr
    rw [RV_sum h k (by omega), (RV_row h k (by omega)).2.2.1]
theorem RV_door (h : RV σ v) (z : Int) : vDoor v z ↔ hDoor σ z := by
  have a := h.1.2.2.1
  show (0 ≤ z ∧ z ≤ v 2 - 1) ↔ (0 ≤ z ∧ z < σ.sc 0)
  omega
theorem RV_cons (h : RV σ v) (hr : Hok B σ) : ∀ k : Nat, k ≤ 6 → vCons v k = if (∀ d : Nat, d < k → (σ.lk d).cr = 20 → (σ.lk d).op = 1) then 1 else 0
  | 0, _ => (if_pos (fun d hd => absurd hd (by omega))).symm
  | k + 1, hk => by
    show (if v (7 + 9 * k + 7) < 20 ∨ vOpen v k then vCons v k else 0) = _
    have c := (RV_row h k (by omega)).2.2.1
    have o := (RV_row h k (by omega)).2.2.2.2
    have r := (hr.2.2.2.2 k (by omega)).2.1
    by_cases e : v (7 + 9 * k + 7) < 20 ∨ vOpen v k
    · rw [if_pos e, RV_cons h hr k (by omega)]
      by_cases e2 : ∀ d : Nat, d < k → (σ.lk d).cr = 20 → (σ.lk d).op = 1
      · rw [if_pos e2, if_pos (fun d hd hc => ?_)]
        by_cases e3 : d = k
        · subst e3
          rcases e with e | e
          · omega
          · exact o.mpr e
        · exact e2 d (by omega) hc
      · rw [if_neg e2, if_neg (fun g => e2 (fun d hd => g d (by omega)))]
    · rw [if_neg e, if_neg (fun g => e ?_)]
      by_cases e2 : (σ.lk k).cr = 20
      · exact Or.inr (o.mp (g k (by omega) e2))
      · exact Or.inl (by omega)
end RV
