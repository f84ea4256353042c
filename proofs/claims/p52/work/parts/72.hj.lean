/-! what every house keeps beside HI: a broken lock is open, an oven without a door has no hours (by hand) -/
def HK (σ : HS) : Prop := (∀ d, d < 6 → (σ.lk d).cr = 20 → (σ.lk d).op = 1) ∧ ∀ o, o < 2 → σ.od o = -1 → σ.oh o = 0
def HJ (σ : HS) : Prop := HI σ ∧ HK σ
theorem HK_0 : HK H0 := ⟨fun d _ h => absurd h (by show ¬ (0 : Int) = 20; decide), fun _ _ _ => rfl⟩
theorem HJ_0 : HJ H0 := ⟨HI_0, HK_0⟩
theorem up_lk {lk : Nat → LkS} (h : ∀ d, d < 6 → (lk d).cr = 20 → (lk d).op = 1) (d : Nat) {L : LkS} (hL : d < 6 → L.cr = 20 → L.op = 1) : ∀ j, j < 6 → (va_up lk d L j).cr = 20 → (va_up lk d L j).op = 1 := by
  intro j hj
  by_cases e : j = d
  · subst e; rw [va_up_self]; exact hL hj
  · rw [va_up_ne _ _ e]; exact h j hj
theorem lTry_c (L : LkS) : (lTry L).cr = 20 → (lTry L).op = 1 := by
  unfold lTry
  split
  · exact fun _ => rfl
  · exact fun e => if_pos e
section HK
variable {B : Int} {σ : HS}
theorem HK_hour2 (h : HK σ) : HK (hour2 σ) := by
  unfold hour2
  split
  · refine ⟨fun d hd => ?_, h.2⟩
    show (if (d : Int) < (hour1 σ).sc 0 ∧ ((hour1 σ).lk d).op = 0 then lTurn ((hour1 σ).lk d) _ 1 else (hour1 σ).lk d).cr = 20 → (if (d : Int) < (hour1 σ).sc 0 ∧ ((hour1 σ).lk d).op = 0 then lTurn ((hour1 σ).lk d) _ 1 else (hour1 σ).lk d).op = 1
    split
    · exact h.1 d hd
    · exact h.1 d hd
  · exact h
theorem HK_bakeOn (h : HK σ) (o : Nat) : HK (bakeOn σ o) := by
  unfold bakeOn
  split
  · exact h
  · next e0 =>
    split
    · next e1 =>
      refine ⟨up_lk h.1 _ (fun _ e => absurd e (by show ¬ (0 : Int) = 20; decide)), fun j hj => ?_⟩
      show va_up σ.od o (-1) j = -1 → va_up σ.oh o (σ.oh o - 1) j = 0
      by_cases e : j = o
      · subst e; rw [va_up_self, va_up_self]; exact fun _ => e1
      · rw [va_up_ne _ _ e, va_up_ne _ _ e]; exact h.2 j hj
    · refine ⟨h.1, fun j hj => ?_⟩
      show σ.od j = -1 → va_up σ.oh o (σ.oh o - 1) j = 0
      by_cases e : j = o
      · subst e; exact fun h9 => absurd h9 e0
      · rw [va_up_ne _ _ e]; exact h.2 j hj
theorem HK_hrs (h : HK σ) : ∀ k : Nat, HK (doHrs σ k)
  | 0 => h
  | k + 1 => HK_bakeOn (HK_bakeOn (HK_hour2 (HK_hrs h k)) 0) 1
theorem HK_run (h : HK σ) (c : Nat) (a b x y : Int) (h0 : rf σ c a b x y = 0) : HK (run σ c a b x y) := by
  unfold rf at h0
  unfold run
  split
  · exact ⟨up_lk h.1 _ (fun hd => h.1 _ hd), h.2⟩
  · exact ⟨up_lk h.1 _ (fun hd => h.1 _ hd), h.2⟩
  · exact ⟨up_lk h.1 _ (fun _ => lTry_c _), h.2⟩
  · have h1 := rfShut_0 h0
    exact ⟨up_lk h.1 _ (fun _ e => absurd e h1.2.2), h.2⟩
  · exact h
  · have h1 := rfBake_0 h0
    refine ⟨up_lk h.1 _ (fun _ _ => rfl), fun j hj => ?_⟩
    show va_up σ.od b.toNat a j = -1 → va_up σ.oh b.toNat (1 + (σ.lk a.toNat).cr / 4) j = 0
    by_cases e : j = b.toNat
    · subst e; rw [va_up_self]; exact fun h9 => absurd h9 (by have := h1.1.1; omega)
    · rw [va_up_ne _ _ e, va_up_ne _ _ e]; exact h.2 j hj
  · exact ⟨up_lk h.1 _ (fun hd => h.1 _ hd), h.2⟩
  · exact HK_hrs h _
theorem HJ_run (h : HJ σ) (hr : Hok B σ) (c : Nat) (a b x y : Int) (h0 : rf σ c a b x y = 0) : HJ (run σ c a b x y) := ⟨HI_run h.1 hr c a b x y h0, HK_run h.2 c a b x y h0⟩
theorem sc0_bakeOn (σ : HS) (o : Nat) : (bakeOn σ o).sc 0 = σ.sc 0 := by
  unfold bakeOn
  split
  · rfl
  · split <;> rfl
theorem sc0_hour2 (σ : HS) : (hour2 σ).sc 0 = σ.sc 0 := by
  unfold hour2
  split <;> rfl
theorem sc0_hrs (σ : HS) : ∀ k : Nat, (doHrs σ k).sc 0 = σ.sc 0
  | 0 => rfl
  | k + 1 => ((sc0_bakeOn _ 1).trans ((sc0_bakeOn _ 0).trans (sc0_hour2 _))).trans (sc0_hrs σ k)
theorem sc0_try (σ : HS) (L : LkS) : scTry σ L 0 = σ.sc 0 := by
  unfold scTry
  split
  · rfl
  · split <;> rfl
/-- no change takes a door away -/
theorem sc0_run (σ : HS) (c : Nat) (a b x y : Int) : σ.sc 0 ≤ (run σ c a b x y).sc 0 := by
  unfold run
  split
  · show σ.sc 0 ≤ va_up σ.sc 0 (σ.sc 0 + 1) 0
    rw [va_up_self]; omega
  · exact Int.le_refl _
  · exact Int.le_of_eq (sc0_try σ _).symm
  · exact Int.le_refl _
  · exact Int.le_refl _
  · show σ.sc 0 ≤ (if (σ.lk a.toNat).op = 0 then va_up σ.sc 7 (σ.sc 7 + 1) else σ.sc) 0
    split <;> exact Int.le_refl _
  · exact Int.le_refl _
  · exact Int.le_of_eq (sc0_hrs σ _).symm
theorem sc0_door (σ : HS) (a b x y : Int) : (run σ 0 a b x y).sc 0 = σ.sc 0 + 1 := by
  show va_up σ.sc 0 (σ.sc 0 + 1) 0 = σ.sc 0 + 1
  rw [va_up_self]
theorem HJ_hSq {t : Nat → Int} {l : Nat} (h : HJ σ) (hr : Hok B σ) : ∀ c : Nat, (∀ j, j < c → rS t l σ j = 0) → HJ (hSq t l σ c) ∧ σ.sc 0 ≤ (hSq t l σ c).sc 0
  | 0, _ => ⟨h, Int.le_refl _⟩
  | c + 1, hz => by
    have q := HJ_hSq h hr c (fun j hj => hz j (by omega))
    exact ⟨HJ_run q.1 (hSq_ok hr c (fun j hj => hz j (by omega))) _ _ _ _ _ (hz c (by omega)), Int.le_trans q.2 (sc0_run _ _ _ _ _ _)⟩
end HK
/-! the numbers of the law's own way -/
def p_ab (d c : Int) : Int := if 10 - (if 0 ≤ d - c then d - c else 0 - (d - c)) < (if 0 ≤ d - c then d - c else 0 - (d - c)) then 10 - (if 0 ≤ d - c then d - c else 0 - (d - c)) else (if 0 ≤ d - c then d - c else 0 - (d - c))
theorem p_ab_eq {d c : Int} (hd : 0 ≤ d ∧ d ≤ 9) (hc : 0 ≤ c ∧ c ≤ 9) : p_ab d c = p_dist c d := by
  unfold p_ab p_dist p_up
  (repeat' split) <;> omega
def p_opn (cb pl : Int) : Nat → Int
  | 0 => 0
  | k + 1 => p_opn cb pl k + (if p_ab (k : Int) cb ≤ pl then 1 else 0)
theorem p_opn_rng (cb pl : Int) : ∀ k : Nat, 0 ≤ p_opn cb pl k ∧ p_opn cb pl k ≤ k
  | 0 => by simp [p_opn]
  | k + 1 => by
    have := p_opn_rng cb pl k
    unfold p_opn
    split <;> omega
theorem p_opn_fin : ∀ c : Fin 10, ∀ p : Fin 5, p_opn c.val p.val 10 = 2 * p.val + 1 := by decide +kernel
theorem p_opn_eq {cb pl : Int} (hc : 0 ≤ cb ∧ cb ≤ 9) (hp : 0 ≤ pl ∧ pl ≤ 4) : p_opn cb pl 10 = 2 * pl + 1 := by
  have h := p_opn_fin ⟨cb.toNat, by omega⟩ ⟨pl.toNat, by omega⟩
  simp only [Int.toNat_of_nonneg hc.1, Int.toNat_of_nonneg hp.1] at h
  exact h
def p_set (w : Int) : Nat → Int
  | 0 => 1
  | k + 1 => p_set w k * w
theorem p_set_3 (w : Int) : p_set w 3 = w * w * w := by
  show 1 * w * w * w = w * w * w
  rw [Int.one_mul]
/-- the doors that lie in ovens, among the first k -/
def nBk (σ : HS) : Nat → Int
  | 0 => 0
  | k + 1 => nBk σ k + (if hOven σ (k : Int) then 1 else 0)
theorem nBk_eq (σ : HS) (h : σ.od 0 = σ.od 1 → σ.od 0 = -1) : ∀ k : Nat, nBk σ k = (if 0 ≤ σ.od 0 ∧ σ.od 0 < (k : Int) then 1 else 0) + (if 0 ≤ σ.od 1 ∧ σ.od 1 < (k : Int) then 1 else 0)
  | 0 => by
    rw [if_neg (by omega), if_neg (by omega)]
    rfl
  | k + 1 => by
    show nBk σ k + (if σ.od 0 = (k : Int) ∨ σ.od 1 = (k : Int) then 1 else 0) = _
    rw [nBk_eq σ h k]
    (repeat' split) <;> omega
theorem nBk_rng (σ : HS) : ∀ k : Nat, 0 ≤ nBk σ k ∧ nBk σ k ≤ k
  | 0 => by simp [nBk]
  | k + 1 => by
    have := nBk_rng σ k
    unfold nBk
    split <;> omega
/-- all dials fit when no step is wanted -/
theorem fit_steps {L : LkS} (h : Lok L) : (p_stepN L.dl L.cb (L.cr / 5) 3 = 0 ↔ p_fitN L.dl L.cb (L.cr / 5) 3 = 3) := by
  have a0 := p_dist_rng (L.cb 0) (L.dl 0)
  have a1 := p_dist_rng (L.cb 1) (L.dl 1)
  have a2 := p_dist_rng (L.cb 2) (L.dl 2)
  show 0 + (if 0 < p_dist (L.cb 0) (L.dl 0) - L.cr / 5 then p_dist (L.cb 0) (L.dl 0) - L.cr / 5 else 0) + (if 0 < p_dist (L.cb 1) (L.dl 1) - L.cr / 5 then p_dist (L.cb 1) (L.dl 1) - L.cr / 5 else 0) + (if 0 < p_dist (L.cb 2) (L.dl 2) - L.cr / 5 then p_dist (L.cb 2) (L.dl 2) - L.cr / 5 else 0) = 0 ↔ 0 + (if p_dist (L.cb 0) (L.dl 0) ≤ L.cr / 5 then (1 : Int) else 0) + (if p_dist (L.cb 1) (L.dl 1) ≤ L.cr / 5 then 1 else 0) + (if p_dist (L.cb 2) (L.dl 2) ≤ L.cr / 5 then 1 else 0) = 3
  generalize p_dist (L.cb 0) (L.dl 0) = x0
  generalize p_dist (L.cb 1) (L.dl 1) = x1
  generalize p_dist (L.cb 2) (L.dl 2) = x2
  generalize L.cr / 5 = p
  (repeat' split) <;> omega
