/-! House: the shape, the small questions (wip/whole/gen/c_house.py prints this part) -/
abbrev HS : Type := (Nat → Int) × (Nat → Int) × (Nat → Int) × (Nat → Int) × (Nat → Int) × (Nat → LkS)
abbrev HS.sc (σ : HS) : Nat → Int := σ.1
abbrev HS.od (σ : HS) : Nat → Int := σ.2.1
abbrev HS.oh (σ : HS) : Nat → Int := σ.2.2.1
abbrev HS.td (σ : HS) : Nat → Int := σ.2.2.2.1
abbrev HS.ty (σ : HS) : Nat → Int := σ.2.2.2.2.1
abbrev HS.lk (σ : HS) : Nat → LkS := σ.2.2.2.2.2
def lkR (h : Nat) (d : Nat) : Option Nat := if d < 6 then some (h + 6 + 3 * d) else none
theorem lkR_at {h d : Nat} (hd : d < 6) : lkR h d = some (h + 6 + 3 * d) := if_pos hd
def LF (M : Mem) (h : Nat) (lk : Nat → LkS) : Prop := ∀ d, d < 6 → LM M (h + 6 + 3 * d) (lk d)
def HR (M : Mem) (h : Nat) (sc od oh td ty : Nat → Int) (lk : Nat → LkS) : Prop := 100 ≤ h ∧ M h = cO 5 [vR (h + 1), vR (h + 2), vR (h + 3), vR (h + 4), vR (h + 5), vI (sc 0), vI (sc 1), vI (sc 2), vI (sc 3), vI (sc 4), vI (sc 5), vI (sc 6), vI (sc 7), vI (sc 8)] ∧ M (h + 1) = cR 5 6 (lkR h) ∧ M (h + 2) = cI 0 2 od ∧ M (h + 3) = cI 0 2 oh ∧ M (h + 4) = cI 0 10 td ∧ M (h + 5) = cI 1 10 ty ∧ LF M h lk
def HM (M : Mem) (h : Nat) (σ : HS) : Prop := HR M h σ.sc σ.od σ.oh σ.td σ.ty σ.lk
theorem LF_fr {a b h : Nat} {M M' : Mem} {lk : Nat → LkS} (hf : e_fr a b M M') (hx : h + 24 ≤ a ∨ b ≤ h + 6) (q : LF M h lk) : LF M' h lk := fun d hd => LM_fr hf (by omega) (q d hd)
theorem HM_fr {a b h : Nat} {M M' : Mem} {σ : HS} (hf : e_fr a b M M') (hx : h + 24 ≤ a ∨ b ≤ h) (q : HM M h σ) : HM M' h σ := ⟨q.1, (hf _ (by omega)).trans q.2.1, (hf _ (by omega)).trans q.2.2.1, (hf _ (by omega)).trans q.2.2.2.1, (hf _ (by omega)).trans q.2.2.2.2.1, (hf _ (by omega)).trans q.2.2.2.2.2.1, (hf _ (by omega)).trans q.2.2.2.2.2.2.1, LF_fr hf (by omega) q.2.2.2.2.2.2.2⟩
theorem LF_up {h d : Nat} {M M' : Mem} {lk : Nat → LkS} {L' : LkS} (hf : e_fr (h + 6 + 3 * d) (h + 6 + 3 * d + 3) M M') (hL : LM M' (h + 6 + 3 * d) L') (q : LF M h lk) : LF M' h (va_up lk d L') := by
  intro j hj
  by_cases e : j = d
  · subst e; rw [va_up_self]; exact hL
  · rw [va_up_ne _ _ e]; exact LM_fr hf (by omega) (q j hj)
/-- the ranges of a state -/
def Hok (B : Int) (σ : HS) : Prop := (∀ i, i < 9 → 0 ≤ σ.sc i ∧ σ.sc i ≤ B) ∧ (σ.sc 0 ≤ 6 ∧ σ.sc 1 ≤ 9) ∧ (∀ o, o < 2 → -1 ≤ σ.od o ∧ σ.od o ≤ 5 ∧ 0 ≤ σ.oh o ∧ σ.oh o ≤ 6 ∧ (σ.od o = -1 ∨ 1 ≤ σ.oh o) ∧ σ.od o < σ.sc 0) ∧ (∀ j, j < 10 → 0 ≤ σ.td j ∧ σ.td j ≤ 5 ∧ (σ.ty j = 0 ∨ σ.ty j = 1)) ∧ ∀ d, d < 6 → Lok (σ.lk d)
abbrev i32 (z : Int) : Prop := -2147483648 ≤ z ∧ z ≤ 2147483647
abbrev hDoor (σ : HS) (z : Int) : Prop := 0 ≤ z ∧ z < σ.sc 0
abbrev hOven (σ : HS) (z : Int) : Prop := σ.od 0 = z ∨ σ.od 1 = z
abbrev isPos (z : Int) : Prop := 0 ≤ z ∧ z ≤ 9
section CH
variable {r0 : Option Nat} {Γ : Cx} {M : Mem} {n h : Nat} {σ : HS} {B : Int}
theorem c_isDial (z : Int) (hz : i32 z) : Ct (e_L r0) Γ mX7_isDial 0 0 0 [vI z] M n (e_rt (.inl (some (vI (if 0 ≤ z ∧ z ≤ 2 then 1 else 0)))) M n) := by
  refine g_start ok_X7_isDial rfl rfl ?_
  refine g_run 0 1 rfl ?_
  refine g_if_lt 1 13 rfl rfl (by omega) (fun c1 => ?_) (fun c1 => ?_)
  · rw [if_neg (by omega)]
    refine g_run 7 1 rfl ?_
    exact g_iret 8 rfl rfl (by first | exact trivial | exact Or.inl rfl | exact Or.inr rfl | (show _ ∨ _; omega)) ⟨rfl, rfl, rfl⟩
  · refine g_run 2 2 rfl ?_
    refine g_icmp_ge 4 13 rfl rfl (by omega) (by omega) (fun c6 => ?_) (fun c6 => ?_)
    · rw [if_neg (by omega)]
      refine g_run 7 1 rfl ?_
      exact g_iret 8 rfl rfl (by first | exact trivial | exact Or.inl rfl | exact Or.inr rfl | (show _ ∨ _; omega)) ⟨rfl, rfl, rfl⟩
    · rw [if_pos (by omega)]
      refine g_run 5 2 rfl ?_
      exact g_iret 8 rfl rfl (by first | exact trivial | exact Or.inl rfl | exact Or.inr rfl | (show _ ∨ _; omega)) ⟨rfl, rfl, rfl⟩
theorem c_isOven (z : Int) (hz : i32 z) : Ct (e_L r0) Γ mX7_isOven 0 0 0 [vI z] M n (e_rt (.inl (some (vI (if 0 ≤ z ∧ z ≤ 1 then 1 else 0)))) M n) := by
  refine g_start ok_X7_isOven rfl rfl ?_
  refine g_run 0 1 rfl ?_
  refine g_if_lt 1 13 rfl rfl (by omega) (fun c1 => ?_) (fun c1 => ?_)
  · rw [if_neg (by omega)]
    refine g_run 7 1 rfl ?_
    exact g_iret 8 rfl rfl (by first | exact trivial | exact Or.inl rfl | exact Or.inr rfl | (show _ ∨ _; omega)) ⟨rfl, rfl, rfl⟩
  · refine g_run 2 2 rfl ?_
    refine g_icmp_ge 4 13 rfl rfl (by omega) (by omega) (fun c6 => ?_) (fun c6 => ?_)
    · rw [if_neg (by omega)]
      refine g_run 7 1 rfl ?_
      exact g_iret 8 rfl rfl (by first | exact trivial | exact Or.inl rfl | exact Or.inr rfl | (show _ ∨ _; omega)) ⟨rfl, rfl, rfl⟩
    · rw [if_pos (by omega)]
      refine g_run 5 2 rfl ?_
      exact g_iret 8 rfl rfl (by first | exact trivial | exact Or.inl rfl | exact Or.inr rfl | (show _ ∨ _; omega)) ⟨rfl, rfl, rfl⟩
theorem c_isPosition (z : Int) (hz : i32 z) : Ct (e_L r0) Γ mX7_isPosition 0 0 0 [vI z] M n (e_rt (.inl (some (vI (if 0 ≤ z ∧ z ≤ 9 then 1 else 0)))) M n) := by
  refine g_start ok_X7_isPosition rfl rfl ?_
  refine g_run 0 1 rfl ?_
  refine g_if_lt 1 14 rfl rfl (by omega) (fun c1 => ?_) (fun c1 => ?_)
  · rw [if_neg (by omega)]
    refine g_run 7 1 rfl ?_
    exact g_iret 8 rfl rfl (by first | exact trivial | exact Or.inl rfl | exact Or.inr rfl | (show _ ∨ _; omega)) ⟨rfl, rfl, rfl⟩
  · refine g_run 2 2 rfl ?_
    refine g_icmp_ge 4 14 rfl rfl (by omega) (by omega) (fun c7 => ?_) (fun c7 => ?_)
    · rw [if_neg (by omega)]
      refine g_run 7 1 rfl ?_
      exact g_iret 8 rfl rfl (by first | exact trivial | exact Or.inl rfl | exact Or.inr rfl | (show _ ∨ _; omega)) ⟨rfl, rfl, rfl⟩
    · rw [if_pos (by omega)]
      refine g_run 5 2 rfl ?_
      exact g_iret 8 rfl rfl (by first | exact trivial | exact Or.inl rfl | exact Or.inr rfl | (show _ ∨ _; omega)) ⟨rfl, rfl, rfl⟩
theorem c_areNoPositions (a b c : Int) (ha : i32 a) (hb : i32 b) (hc : i32 c) : Ct (e_L r0) Γ mX7_areNoPositions 1 0 0 [vI a, vI b, vI c] M n (e_rt (.inl (some (vI (if isPos a ∧ isPos b ∧ isPos c then 0 else 1)))) M n) := by
  refine g_start ok_X7_areNoPositions rfl rfl ?_
  refine g_run 0 1 rfl ?_
  refine g_callS 1 rfl cs_RX7_351 (c_isPosition a ha) rfl rfl (by decide) (by omega) (by omega) (Nat.le_of_ble_eq_true rfl) (e_kr ?_) e_kx
  refine g_if_eq 2 21 rfl rfl b_r (fun c4 => ?_) (fun c4 => ?_)
  · replace c4 := b_0.mp c4
    rw [if_neg (by omega)]
    refine g_run 9 2 rfl ?_
    exact g_iret 12 rfl rfl (by first | exact trivial | exact Or.inl rfl | exact Or.inr rfl | (show _ ∨ _; omega)) ⟨rfl, rfl, rfl⟩
  · replace c4 := b_1.mp c4
    refine g_run 3 1 rfl ?_
    refine g_callS 4 rfl cs_RX7_351 (c_isPosition b hb) rfl rfl (by decide) (by omega) (by omega) (Nat.le_of_ble_eq_true rfl) (e_kr ?_) e_kx
    refine g_if_eq 5 21 rfl rfl b_r (fun c11 => ?_) (fun c11 => ?_)
    · replace c11 := b_0.mp c11
      rw [if_neg (by omega)]
      refine g_run 9 2 rfl ?_
      exact g_iret 12 rfl rfl (by first | exact trivial | exact Or.inl rfl | exact Or.inr rfl | (show _ ∨ _; omega)) ⟨rfl, rfl, rfl⟩
    · replace c11 := b_1.mp c11
      refine g_run 6 1 rfl ?_
      refine g_callS 7 rfl cs_RX7_351 (c_isPosition c hc) rfl rfl (by decide) (by omega) (by omega) (Nat.le_of_ble_eq_true rfl) (e_kr ?_) e_kx
      refine g_if_ne 8 25 rfl rfl b_r (fun c18 => ?_) (fun c18 => ?_)
      · replace c18 := b_1.mp c18
        rw [if_pos (by omega)]
        refine g_run 11 1 rfl ?_
        exact g_iret 12 rfl rfl (by first | exact trivial | exact Or.inl rfl | exact Or.inr rfl | (show _ ∨ _; omega)) ⟨rfl, rfl, rfl⟩
      · replace c18 := b_0.mp c18
        rw [if_neg (by omega)]
        refine g_run 9 2 rfl ?_
        exact g_iret 12 rfl rfl (by first | exact trivial | exact Or.inl rfl | exact Or.inr rfl | (show _ ∨ _; omega)) ⟨rfl, rfl, rfl⟩
theorem c_hasDoor (H : HM M h σ) (hr : Hok B σ) (z : Int) (hz : i32 z) : Ct (e_L r0) Γ mX3_hasDoor 0 0 0 [vR h, vI z] M n (e_rt (.inl (some (vI (if hDoor σ z then 1 else 0)))) M n) := by
  have q := hr.2.1
  have q0 := hr.1 0 (by decide)
  refine g_start ok_X3_hasDoor rfl rfl ?_
  refine g_run 0 1 rfl ?_
  refine g_if_lt 1 16 rfl rfl (by omega) (fun c1 => ?_) (fun c1 => ?_)
  · rw [if_neg (by omega)]
    refine g_run 8 1 rfl ?_
    exact g_iret 9 rfl rfl (by first | exact trivial | exact Or.inl rfl | exact Or.inr rfl | (show _ ∨ _; omega)) ⟨rfl, rfl, rfl⟩
  · refine g_run 2 2 rfl ?_
    refine g_get 4 rfl fl_RX3_31 H.2.1 rfl ?_
    refine g_icmp_ge 5 16 rfl rfl (by omega) (by omega) (fun c9 => ?_) (fun c9 => ?_)
    · rw [if_neg (by omega)]
      refine g_run 8 1 rfl ?_
      exact g_iret 9 rfl rfl (by first | exact trivial | exact Or.inl rfl | exact Or.inr rfl | (show _ ∨ _; omega)) ⟨rfl, rfl, rfl⟩
    · rw [if_pos (by omega)]
      refine g_run 6 2 rfl ?_
      exact g_iret 9 rfl rfl (by first | exact trivial | exact Or.inl rfl | exact Or.inr rfl | (show _ ∨ _; omega)) ⟨rfl, rfl, rfl⟩
theorem c_isInOven (H : HM M h σ) (hr : Hok B σ) (z : Int) (hz : i32 z) : Ct (e_L r0) Γ mX3_isInOven 0 0 0 [vR h, vI z] M n (e_rt (.inl (some (vI (if hOven σ z then 1 else 0)))) M n) := by
  refine g_start ok_X3_isInOven rfl rfl ?_
  refine g_run 0 2 rfl ?_
  refine e_down (P := fun k => (∀ j, j < k → σ.od j ≠ z) → G (e_L r0) Γ mX3_isInOven 0 0 0 _ 2 [some (vR h), some (vI z), some (vI (k : Int))] [] M n 0 0) 2 ?_ 0 (by omega) (fun j hj => absurd hj (by omega))
  intro k hk ih hq
  refine g_run 2 2 rfl ?_
  refine g_icmp_ge 4 25 rfl rfl (by omega) (by omega) (fun c4 => ?_) (fun c4 => ?_)
  · obtain rfl : k = 2 := by omega
    have q0 := hq 0 (by omega)
    have q1 := hq 1 (by omega)
    rw [if_neg (by omega)]
    refine g_run 15 1 rfl ?_
    exact g_iret 16 rfl rfl (by first | exact trivial | exact Or.inl rfl | exact Or.inr rfl | (show _ ∨ _; omega)) ⟨rfl, rfl, rfl⟩
  · have q3 := hr.2.2.1 k (by omega)
    refine g_run 5 1 rfl ?_
    refine g_get 6 rfl fl_RX3_17 H.2.1 rfl ?_
    refine g_run 7 1 rfl ?_
    refine g_iald 8 k rfl rfl H.2.2.2.1 (by first | rfl | omega) (by omega) (by decide) ?_
    refine g_run 9 1 rfl ?_
    refine g_icmp_ne 10 19 rfl rfl (by omega) (by omega) (fun c14 => ?_) (fun c14 => ?_)
    · refine g_run 13 2 rfl ?_
      exact ih (by omega) (fun j hj => by by_cases e : j = k; exact e ▸ c14; exact hq j (by omega))
    · rw [if_pos ((show k = 0 ∨ k = 1 by omega).elim (fun e => Or.inl (e ▸ c14)) (fun e => Or.inr (e ▸ c14)))]
      refine g_run 11 1 rfl ?_
      exact g_iret 12 rfl rfl (by first | exact trivial | exact Or.inl rfl | exact Or.inr rfl | (show _ ∨ _; omega)) ⟨rfl, rfl, rfl⟩
def rfDoor (σ : HS) (a b c : Int) : Nat := if isPos a ∧ isPos b ∧ isPos c then (if 6 ≤ σ.sc 0 then 3 else 0) else 2
def rfTurn (σ : HS) (z d x : Int) : Nat := if hDoor σ z ∧ 0 ≤ d ∧ d ≤ 2 then (if x < -9 ∨ 9 < x then 2 else if hOven σ z then 3 else 0) else 1
def rfTry (σ : HS) (z : Int) : Nat := if hDoor σ z then (if (σ.lk z.toNat).op = 0 then 0 else 3) else 1
def rfShut (σ : HS) (z : Int) : Nat := if hDoor σ z then (if (σ.lk z.toNat).op = 0 ∨ hOven σ z then 3 else if (σ.lk z.toNat).cr = 20 then 4 else 0) else 1
def rfBake (σ : HS) (z o : Int) : Nat := if hDoor σ z ∧ 0 ≤ o ∧ o ≤ 1 then (if hOven σ z then 3 else if σ.od o.toNat = -1 then 0 else 4) else 1
def rfSet (σ : HS) (z a b c : Int) : Nat := if hDoor σ z then (if isPos a ∧ isPos b ∧ isPos c then (if (σ.lk z.toNat).op = 0 ∨ hOven σ z then 3 else 0) else 2) else 1
def rfDamp (a : Int) : Nat := if a < 0 ∨ 9 < a then 2 else 0
def rfHours (a : Int) : Nat := if a < 1 ∨ 60 < a then 2 else 0
theorem c_refusalOfDoor (H : HM M h σ) (hr : Hok B σ) (a b c : Int) (ha : i32 a) (hb : i32 b) (hc : i32 c) : Ct (e_L r0) Γ mX3_refusalOfDoor 2 0 0 [vR h, vI a, vI b, vI c] M n (e_rt (.inl (some (vR (10 + rfDoor σ a b c)))) M n) := by
  have q := hr.2.1
  have q0 := hr.1 0 (by decide)
  refine g_start ok_X3_refusalOfDoor rfl rfl ?_
  refine g_run 0 3 rfl ?_
  refine g_callSN 3 rfl cn_RX3_112 (c_areNoPositions a b c ha hb hc) rfl rfl (by decide) (by omega) (by omega) (Nat.le_of_ble_eq_true rfl) (e_kr ?_) e_kx
  refine g_if_eq 4 13 rfl rfl (by split <;> omega) (fun c6 => ?_) (fun c6 => ?_)
  · have d6 : isPos a ∧ isPos b ∧ isPos c := by by_cases e : isPos a ∧ isPos b ∧ isPos c; exact e; exact absurd (c6.symm.trans (if_neg e)) (by decide)
    refine g_run 7 1 rfl ?_
    refine g_get 8 rfl fl_RX3_31 H.2.1 rfl ?_
    refine g_run 9 1 rfl ?_
    refine g_icmp_lt 10 28 rfl rfl (by omega) (by omega) (fun c19 => ?_) (fun c19 => ?_)
    · refine g_gets 13 rfl (by first | exact List.mem_of_getElem? (i := 10) rfl | exact List.mem_of_getElem? (i := 11) rfl | exact List.mem_of_getElem? (i := 12) rfl | exact List.mem_of_getElem? (i := 13) rfl | exact List.mem_of_getElem? (i := 14) rfl) fs_RX3_101 ?_
      exact g_aret 14 rfl rfl (by first | exact Or.inl ⟨_, rfl⟩ | exact Or.inr ⟨_, rfl⟩) ⟨congrArg (fun k : Nat => (Sum.inl (some (vR k)) : Rv)) (by show _ = 10 + rfDoor σ a b c; unfold rfDoor; (repeat' split) <;> first | rfl | (exfalso; omega)), rfl, rfl⟩
    · refine g_gets 11 rfl (by first | exact List.mem_of_getElem? (i := 10) rfl | exact List.mem_of_getElem? (i := 11) rfl | exact List.mem_of_getElem? (i := 12) rfl | exact List.mem_of_getElem? (i := 13) rfl | exact List.mem_of_getElem? (i := 14) rfl) fs_RX3_116 ?_
      refine g_run 12 1 rfl ?_
      exact g_aret 14 rfl rfl (by first | exact Or.inl ⟨_, rfl⟩ | exact Or.inr ⟨_, rfl⟩) ⟨congrArg (fun k : Nat => (Sum.inl (some (vR k)) : Rv)) (by show _ = 10 + rfDoor σ a b c; unfold rfDoor; (repeat' split) <;> first | rfl | (exfalso; omega)), rfl, rfl⟩
  · have d6 : ¬ (isPos a ∧ isPos b ∧ isPos c) := fun e => c6 (if_pos e)
    refine g_gets 5 rfl (by first | exact List.mem_of_getElem? (i := 10) rfl | exact List.mem_of_getElem? (i := 11) rfl | exact List.mem_of_getElem? (i := 12) rfl | exact List.mem_of_getElem? (i := 13) rfl | exact List.mem_of_getElem? (i := 14) rfl) fs_RX3_95 ?_
    exact g_aret 6 rfl rfl (by first | exact Or.inl ⟨_, rfl⟩ | exact Or.inr ⟨_, rfl⟩) ⟨congrArg (fun k : Nat => (Sum.inl (some (vR k)) : Rv)) (by show _ = 10 + rfDoor σ a b c; unfold rfDoor; (repeat' split) <;> first | rfl | (exfalso; omega)), rfl, rfl⟩
theorem c_refusalOfTry (H : HM M h σ) (hr : Hok B σ) (z : Int) (hz : i32 z) : Ct (e_L r0) Γ mX3_refusalOfTry 1 0 0 [vR h, vI z] M n (e_rt (.inl (some (vR (10 + rfTry σ z)))) M n) := by
  have q := hr.2.1
  have q0 := hr.1 0 (by decide)
  refine g_start ok_X3_refusalOfTry rfl rfl ?_
  refine g_run 0 2 rfl ?_
  refine g_callV 2 rfl cv_RX3_119 H.2.1 (c_hasDoor H hr z hz) rfl rfl (by decide) (by omega) (by omega) (Nat.le_of_ble_eq_true rfl) (e_kr ?_) e_kx
  refine g_if_ne 3 12 rfl rfl b_r (fun c5 => ?_) (fun c5 => ?_)
  · replace c5 := b_1.mp c5
    refine g_run 6 1 rfl ?_
    refine g_get 7 rfl fl_RX3_11 H.2.1 rfl ?_
    refine g_run 8 1 rfl ?_
    refine g_aald 9 z.toNat rfl rfl H.2.2.1 (Int.toNat_of_nonneg (by omega)).symm (by omega) (by decide) ?_
    rw [lkR_at (by omega)]
    have kl17 := H.2.2.2.2.2.2.2 z.toNat (by omega)
    refine g_get 10 rfl fl_RX3_132 kl17.2.1 rfl ?_
    refine g_if_eq 11 30 rfl rfl (by have := (hr.2.2.2.2 z.toNat (by omega)).1; omega) (fun c21 => ?_) (fun c21 => ?_)
    · refine g_gets 14 rfl (by first | exact List.mem_of_getElem? (i := 10) rfl | exact List.mem_of_getElem? (i := 11) rfl | exact List.mem_of_getElem? (i := 12) rfl | exact List.mem_of_getElem? (i := 13) rfl | exact List.mem_of_getElem? (i := 14) rfl) fs_RX3_101 ?_
      exact g_aret 15 rfl rfl (by first | exact Or.inl ⟨_, rfl⟩ | exact Or.inr ⟨_, rfl⟩) ⟨congrArg (fun k : Nat => (Sum.inl (some (vR k)) : Rv)) (by show _ = 10 + rfTry σ z; unfold rfTry; (repeat' split) <;> first | rfl | (exfalso; omega)), rfl, rfl⟩
    · refine g_gets 12 rfl (by first | exact List.mem_of_getElem? (i := 10) rfl | exact List.mem_of_getElem? (i := 11) rfl | exact List.mem_of_getElem? (i := 12) rfl | exact List.mem_of_getElem? (i := 13) rfl | exact List.mem_of_getElem? (i := 14) rfl) fs_RX3_116 ?_
      refine g_run 13 1 rfl ?_
      exact g_aret 15 rfl rfl (by first | exact Or.inl ⟨_, rfl⟩ | exact Or.inr ⟨_, rfl⟩) ⟨congrArg (fun k : Nat => (Sum.inl (some (vR k)) : Rv)) (by show _ = 10 + rfTry σ z; unfold rfTry; (repeat' split) <;> first | rfl | (exfalso; omega)), rfl, rfl⟩
  · replace c5 := b_0.mp c5
    refine g_gets 4 rfl (by first | exact List.mem_of_getElem? (i := 10) rfl | exact List.mem_of_getElem? (i := 11) rfl | exact List.mem_of_getElem? (i := 12) rfl | exact List.mem_of_getElem? (i := 13) rfl | exact List.mem_of_getElem? (i := 14) rfl) fs_RX3_126 ?_
    exact g_aret 5 rfl rfl (by first | exact Or.inl ⟨_, rfl⟩ | exact Or.inr ⟨_, rfl⟩) ⟨congrArg (fun k : Nat => (Sum.inl (some (vR k)) : Rv)) (by show _ = 10 + rfTry σ z; unfold rfTry; (repeat' split) <;> first | rfl | (exfalso; omega)), rfl, rfl⟩
theorem c_refusalOfTurn (H : HM M h σ) (hr : Hok B σ) (z d x : Int) (hz : i32 z) (hd : i32 d) (hx : i32 x) : Ct (e_L r0) Γ mX3_refusalOfTurn 1 0 0 [vR h, vI z, vI d, vI x] M n (e_rt (.inl (some (vR (10 + rfTurn σ z d x)))) M n) := by
  have q := hr.2.1
  have q0 := hr.1 0 (by decide)
  refine g_start ok_X3_refusalOfTurn rfl rfl ?_
  refine g_run 0 2 rfl ?_
  refine g_callV 2 rfl cv_RX3_119 H.2.1 (c_hasDoor H hr z hz) rfl rfl (by decide) (by omega) (by omega) (Nat.le_of_ble_eq_true rfl) (e_kr ?_) e_kx
  refine g_if_eq 3 15 rfl rfl b_r (fun c5 => ?_) (fun c5 => ?_)
  · replace c5 := b_0.mp c5
    refine g_gets 7 rfl (by first | exact List.mem_of_getElem? (i := 10) rfl | exact List.mem_of_getElem? (i := 11) rfl | exact List.mem_of_getElem? (i := 12) rfl | exact List.mem_of_getElem? (i := 13) rfl | exact List.mem_of_getElem? (i := 14) rfl) fs_RX3_126 ?_
    exact g_aret 8 rfl rfl (by first | exact Or.inl ⟨_, rfl⟩ | exact Or.inr ⟨_, rfl⟩) ⟨congrArg (fun k : Nat => (Sum.inl (some (vR k)) : Rv)) (by show _ = 10 + rfTurn σ z d x; unfold rfTurn; (repeat' split) <;> first | rfl | (exfalso; omega)), rfl, rfl⟩
  · replace c5 := b_1.mp c5
    refine g_run 4 1 rfl ?_
    refine g_callSN 5 rfl cn_RX3_123 (c_isDial d hd) rfl rfl (by decide) (by omega) (by omega) (Nat.le_of_ble_eq_true rfl) (e_kr ?_) e_kx
    refine g_if_ne 6 19 rfl rfl b_r (fun c12 => ?_) (fun c12 => ?_)
    · replace c12 := b_1.mp c12
      refine g_run 9 2 rfl ?_
      refine g_icmp_lt 11 31 rfl rfl (by omega) (by omega) (fun c22 => ?_) (fun c22 => ?_)
      · refine g_gets 15 rfl (by first | exact List.mem_of_getElem? (i := 10) rfl | exact List.mem_of_getElem? (i := 11) rfl | exact List.mem_of_getElem? (i := 12) rfl | exact List.mem_of_getElem? (i := 13) rfl | exact List.mem_of_getElem? (i := 14) rfl) fs_RX3_95 ?_
        exact g_aret 16 rfl rfl (by first | exact Or.inl ⟨_, rfl⟩ | exact Or.inr ⟨_, rfl⟩) ⟨congrArg (fun k : Nat => (Sum.inl (some (vR k)) : Rv)) (by show _ = 10 + rfTurn σ z d x; unfold rfTurn; (repeat' split) <;> first | rfl | (exfalso; omega)), rfl, rfl⟩
      · refine g_run 12 2 rfl ?_
        refine g_icmp_le 14 35 rfl rfl (by omega) (by omega) (fun c28 => ?_) (fun c28 => ?_)
        · refine g_run 17 2 rfl ?_
          refine g_callV 19 rfl cv_RX3_129 H.2.1 (c_isInOven H hr z hz) rfl rfl (by decide) (by omega) (by omega) (Nat.le_of_ble_eq_true rfl) (e_kr ?_) e_kx
          refine g_if_eq 20 49 rfl rfl b_r (fun c40 => ?_) (fun c40 => ?_)
          · replace c40 := b_0.mp c40
            refine g_gets 23 rfl (by first | exact List.mem_of_getElem? (i := 10) rfl | exact List.mem_of_getElem? (i := 11) rfl | exact List.mem_of_getElem? (i := 12) rfl | exact List.mem_of_getElem? (i := 13) rfl | exact List.mem_of_getElem? (i := 14) rfl) fs_RX3_101 ?_
            exact g_aret 24 rfl rfl (by first | exact Or.inl ⟨_, rfl⟩ | exact Or.inr ⟨_, rfl⟩) ⟨congrArg (fun k : Nat => (Sum.inl (some (vR k)) : Rv)) (by show _ = 10 + rfTurn σ z d x; unfold rfTurn; (repeat' split) <;> first | rfl | (exfalso; omega)), rfl, rfl⟩
          · replace c40 := b_1.mp c40
            refine g_gets 21 rfl (by first | exact List.mem_of_getElem? (i := 10) rfl | exact List.mem_of_getElem? (i := 11) rfl | exact List.mem_of_getElem? (i := 12) rfl | exact List.mem_of_getElem? (i := 13) rfl | exact List.mem_of_getElem? (i := 14) rfl) fs_RX3_116 ?_
            refine g_run 22 1 rfl ?_
            exact g_aret 24 rfl rfl (by first | exact Or.inl ⟨_, rfl⟩ | exact Or.inr ⟨_, rfl⟩) ⟨congrArg (fun k : Nat => (Sum.inl (some (vR k)) : Rv)) (by show _ = 10 + rfTurn σ z d x; unfold rfTurn; (repeat' split) <;> first | rfl | (exfalso; omega)), rfl, rfl⟩
        · refine g_gets 15 rfl (by first | exact List.mem_of_getElem? (i := 10) rfl | exact List.mem_of_getElem? (i := 11) rfl | exact List.mem_of_getElem? (i := 12) rfl | exact List.mem_of_getElem? (i := 13) rfl | exact List.mem_of_getElem? (i := 14) rfl) fs_RX3_95 ?_
          exact g_aret 16 rfl rfl (by first | exact Or.inl ⟨_, rfl⟩ | exact Or.inr ⟨_, rfl⟩) ⟨congrArg (fun k : Nat => (Sum.inl (some (vR k)) : Rv)) (by show _ = 10 + rfTurn σ z d x; unfold rfTurn; (repeat' split) <;> first | rfl | (exfalso; omega)), rfl, rfl⟩
    · replace c12 := b_0.mp c12
      refine g_gets 7 rfl (by first | exact List.mem_of_getElem? (i := 10) rfl | exact List.mem_of_getElem? (i := 11) rfl | exact List.mem_of_getElem? (i := 12) rfl | exact List.mem_of_getElem? (i := 13) rfl | exact List.mem_of_getElem? (i := 14) rfl) fs_RX3_126 ?_
      exact g_aret 8 rfl rfl (by first | exact Or.inl ⟨_, rfl⟩ | exact Or.inr ⟨_, rfl⟩) ⟨congrArg (fun k : Nat => (Sum.inl (some (vR k)) : Rv)) (by show _ = 10 + rfTurn σ z d x; unfold rfTurn; (repeat' split) <;> first | rfl | (exfalso; omega)), rfl, rfl⟩
theorem c_refusalOfShut (H : HM M h σ) (hr : Hok B σ) (z : Int) (hz : i32 z) : Ct (e_L r0) Γ mX3_refusalOfShut 1 0 0 [vR h, vI z] M n (e_rt (.inl (some (vR (10 + rfShut σ z)))) M n) := by
  have q := hr.2.1
  have q0 := hr.1 0 (by decide)
  refine g_start ok_X3_refusalOfShut rfl rfl ?_
  refine g_run 0 2 rfl ?_
  refine g_callV 2 rfl cv_RX3_119 H.2.1 (c_hasDoor H hr z hz) rfl rfl (by decide) (by omega) (by omega) (Nat.le_of_ble_eq_true rfl) (e_kr ?_) e_kx
  refine g_if_ne 3 12 rfl rfl b_r (fun c5 => ?_) (fun c5 => ?_)
  · replace c5 := b_1.mp c5
    refine g_run 6 1 rfl ?_
    refine g_get 7 rfl fl_RX3_11 H.2.1 rfl ?_
    refine g_run 8 1 rfl ?_
    refine g_aald 9 z.toNat rfl rfl H.2.2.1 (Int.toNat_of_nonneg (by omega)).symm (by omega) (by decide) ?_
    rw [lkR_at (by omega)]
    have kl17 := H.2.2.2.2.2.2.2 z.toNat (by omega)
    refine g_get 10 rfl fl_RX3_132 kl17.2.1 rfl ?_
    refine g_if_eq 11 32 rfl rfl (by have := (hr.2.2.2.2 z.toNat (by omega)).1; omega) (fun c21 => ?_) (fun c21 => ?_)
    · refine g_gets 16 rfl (by first | exact List.mem_of_getElem? (i := 10) rfl | exact List.mem_of_getElem? (i := 11) rfl | exact List.mem_of_getElem? (i := 12) rfl | exact List.mem_of_getElem? (i := 13) rfl | exact List.mem_of_getElem? (i := 14) rfl) fs_RX3_116 ?_
      exact g_aret 17 rfl rfl (by first | exact Or.inl ⟨_, rfl⟩ | exact Or.inr ⟨_, rfl⟩) ⟨congrArg (fun k : Nat => (Sum.inl (some (vR k)) : Rv)) (by show _ = 10 + rfShut σ z; unfold rfShut; (repeat' split) <;> first | rfl | (exfalso; omega)), rfl, rfl⟩
    · refine g_run 12 2 rfl ?_
      refine g_callV 14 rfl cv_RX3_129 H.2.1 (c_isInOven H hr z hz) rfl rfl (by decide) (by omega) (by omega) (Nat.le_of_ble_eq_true rfl) (e_kr ?_) e_kx
      refine g_if_eq 15 36 rfl rfl b_r (fun c29 => ?_) (fun c29 => ?_)
      · replace c29 := b_0.mp c29
        refine g_run 18 1 rfl ?_
        refine g_get 19 rfl fl_RX3_11 H.2.1 rfl ?_
        refine g_run 20 1 rfl ?_
        refine g_aald 21 z.toNat rfl rfl H.2.2.1 (Int.toNat_of_nonneg (by omega)).symm (by omega) (by decide) ?_
        rw [lkR_at (by omega)]
        have kl41 := H.2.2.2.2.2.2.2 z.toNat (by omega)
        refine g_callV 22 rfl cv_RX3_136 kl41.2.1 (c_hasMostCrumbs kl41 (hr.2.2.2.2 z.toNat (by omega)).2.1) rfl rfl (by decide) (by omega) (by omega) (Nat.le_of_ble_eq_true rfl) (e_kr ?_) e_kx
        refine g_if_eq 23 54 rfl rfl b_r (fun c45 => ?_) (fun c45 => ?_)
        · replace c45 := b_0.mp c45
          refine g_gets 26 rfl (by first | exact List.mem_of_getElem? (i := 10) rfl | exact List.mem_of_getElem? (i := 11) rfl | exact List.mem_of_getElem? (i := 12) rfl | exact List.mem_of_getElem? (i := 13) rfl | exact List.mem_of_getElem? (i := 14) rfl) fs_RX3_101 ?_
          exact g_aret 27 rfl rfl (by first | exact Or.inl ⟨_, rfl⟩ | exact Or.inr ⟨_, rfl⟩) ⟨congrArg (fun k : Nat => (Sum.inl (some (vR k)) : Rv)) (by show _ = 10 + rfShut σ z; unfold rfShut; (repeat' split) <;> first | rfl | (exfalso; omega)), rfl, rfl⟩
        · replace c45 := b_1.mp c45
          refine g_gets 24 rfl (by first | exact List.mem_of_getElem? (i := 10) rfl | exact List.mem_of_getElem? (i := 11) rfl | exact List.mem_of_getElem? (i := 12) rfl | exact List.mem_of_getElem? (i := 13) rfl | exact List.mem_of_getElem? (i := 14) rfl) fs_RX3_140 ?_
          refine g_run 25 1 rfl ?_
          exact g_aret 27 rfl rfl (by first | exact Or.inl ⟨_, rfl⟩ | exact Or.inr ⟨_, rfl⟩) ⟨congrArg (fun k : Nat => (Sum.inl (some (vR k)) : Rv)) (by show _ = 10 + rfShut σ z; unfold rfShut; (repeat' split) <;> first | rfl | (exfalso; omega)), rfl, rfl⟩
      · replace c29 := b_1.mp c29
        refine g_gets 16 rfl (by first | exact List.mem_of_getElem? (i := 10) rfl | exact List.mem_of_getElem? (i := 11) rfl | exact List.mem_of_getElem? (i := 12) rfl | exact List.mem_of_getElem? (i := 13) rfl | exact List.mem_of_getElem? (i := 14) rfl) fs_RX3_116 ?_
        exact g_aret 17 rfl rfl (by first | exact Or.inl ⟨_, rfl⟩ | exact Or.inr ⟨_, rfl⟩) ⟨congrArg (fun k : Nat => (Sum.inl (some (vR k)) : Rv)) (by show _ = 10 + rfShut σ z; unfold rfShut; (repeat' split) <;> first | rfl | (exfalso; omega)), rfl, rfl⟩
  · replace c5 := b_0.mp c5
    refine g_gets 4 rfl (by first | exact List.mem_of_getElem? (i := 10) rfl | exact List.mem_of_getElem? (i := 11) rfl | exact List.mem_of_getElem? (i := 12) rfl | exact List.mem_of_getElem? (i := 13) rfl | exact List.mem_of_getElem? (i := 14) rfl) fs_RX3_126 ?_
    exact g_aret 5 rfl rfl (by first | exact Or.inl ⟨_, rfl⟩ | exact Or.inr ⟨_, rfl⟩) ⟨congrArg (fun k : Nat => (Sum.inl (some (vR k)) : Rv)) (by show _ = 10 + rfShut σ z; unfold rfShut; (repeat' split) <;> first | rfl | (exfalso; omega)), rfl, rfl⟩
theorem c_refusalOfBake (H : HM M h σ) (hr : Hok B σ) (z o : Int) (hz : i32 z) (ho : i32 o) : Ct (e_L r0) Γ mX3_refusalOfBake 1 0 0 [vR h, vI z, vI o] M n (e_rt (.inl (some (vR (10 + rfBake σ z o)))) M n) := by
  have q := hr.2.1
  have q0 := hr.1 0 (by decide)
  refine g_start ok_X3_refusalOfBake rfl rfl ?_
  refine g_run 0 2 rfl ?_
  refine g_callV 2 rfl cv_RX3_119 H.2.1 (c_hasDoor H hr z hz) rfl rfl (by decide) (by omega) (by omega) (Nat.le_of_ble_eq_true rfl) (e_kr ?_) e_kx
  refine g_if_eq 3 15 rfl rfl b_r (fun c5 => ?_) (fun c5 => ?_)
  · replace c5 := b_0.mp c5
    refine g_gets 7 rfl (by first | exact List.mem_of_getElem? (i := 10) rfl | exact List.mem_of_getElem? (i := 11) rfl | exact List.mem_of_getElem? (i := 12) rfl | exact List.mem_of_getElem? (i := 13) rfl | exact List.mem_of_getElem? (i := 14) rfl) fs_RX3_126 ?_
    exact g_aret 8 rfl rfl (by first | exact Or.inl ⟨_, rfl⟩ | exact Or.inr ⟨_, rfl⟩) ⟨congrArg (fun k : Nat => (Sum.inl (some (vR k)) : Rv)) (by show _ = 10 + rfBake σ z o; unfold rfBake; (repeat' split) <;> first | rfl | (exfalso; omega)), rfl, rfl⟩
  · replace c5 := b_1.mp c5
    refine g_run 4 1 rfl ?_
    refine g_callSN 5 rfl cn_RX3_143 (c_isOven o ho) rfl rfl (by decide) (by omega) (by omega) (Nat.le_of_ble_eq_true rfl) (e_kr ?_) e_kx
    refine g_if_ne 6 19 rfl rfl b_r (fun c12 => ?_) (fun c12 => ?_)
    · replace c12 := b_1.mp c12
      refine g_run 9 2 rfl ?_
      refine g_callV 11 rfl cv_RX3_129 H.2.1 (c_isInOven H hr z hz) rfl rfl (by decide) (by omega) (by omega) (Nat.le_of_ble_eq_true rfl) (e_kr ?_) e_kx
      refine g_if_eq 12 31 rfl rfl b_r (fun c24 => ?_) (fun c24 => ?_)
      · replace c24 := b_0.mp c24
        refine g_run 15 1 rfl ?_
        refine g_get 16 rfl fl_RX3_17 H.2.1 rfl ?_
        refine g_run 17 1 rfl ?_
        refine g_iald 18 o.toNat rfl rfl H.2.2.2.1 (Int.toNat_of_nonneg (by omega)).symm (by omega) (by decide) ?_
        have q3 := hr.2.2.1 o.toNat (by omega)
        refine g_run 19 1 rfl ?_
        refine g_icmp_ne 20 47 rfl rfl (by omega) (by omega) (fun c38 => ?_) (fun c38 => ?_)
        · refine g_gets 23 rfl (by first | exact List.mem_of_getElem? (i := 10) rfl | exact List.mem_of_getElem? (i := 11) rfl | exact List.mem_of_getElem? (i := 12) rfl | exact List.mem_of_getElem? (i := 13) rfl | exact List.mem_of_getElem? (i := 14) rfl) fs_RX3_140 ?_
          exact g_aret 24 rfl rfl (by first | exact Or.inl ⟨_, rfl⟩ | exact Or.inr ⟨_, rfl⟩) ⟨congrArg (fun k : Nat => (Sum.inl (some (vR k)) : Rv)) (by show _ = 10 + rfBake σ z o; unfold rfBake; (repeat' split) <;> first | rfl | (exfalso; omega)), rfl, rfl⟩
        · refine g_gets 21 rfl (by first | exact List.mem_of_getElem? (i := 10) rfl | exact List.mem_of_getElem? (i := 11) rfl | exact List.mem_of_getElem? (i := 12) rfl | exact List.mem_of_getElem? (i := 13) rfl | exact List.mem_of_getElem? (i := 14) rfl) fs_RX3_101 ?_
          refine g_run 22 1 rfl ?_
          exact g_aret 24 rfl rfl (by first | exact Or.inl ⟨_, rfl⟩ | exact Or.inr ⟨_, rfl⟩) ⟨congrArg (fun k : Nat => (Sum.inl (some (vR k)) : Rv)) (by show _ = 10 + rfBake σ z o; unfold rfBake; (repeat' split) <;> first | rfl | (exfalso; omega)), rfl, rfl⟩
      · replace c24 := b_1.mp c24
        refine g_gets 13 rfl (by first | exact List.mem_of_getElem? (i := 10) rfl | exact List.mem_of_getElem? (i := 11) rfl | exact List.mem_of_getElem? (i := 12) rfl | exact List.mem_of_getElem? (i := 13) rfl | exact List.mem_of_getElem? (i := 14) rfl) fs_RX3_116 ?_
        exact g_aret 14 rfl rfl (by first | exact Or.inl ⟨_, rfl⟩ | exact Or.inr ⟨_, rfl⟩) ⟨congrArg (fun k : Nat => (Sum.inl (some (vR k)) : Rv)) (by show _ = 10 + rfBake σ z o; unfold rfBake; (repeat' split) <;> first | rfl | (exfalso; omega)), rfl, rfl⟩
    · replace c12 := b_0.mp c12
      refine g_gets 7 rfl (by first | exact List.mem_of_getElem? (i := 10) rfl | exact List.mem_of_getElem? (i := 11) rfl | exact List.mem_of_getElem? (i := 12) rfl | exact List.mem_of_getElem? (i := 13) rfl | exact List.mem_of_getElem? (i := 14) rfl) fs_RX3_126 ?_
      exact g_aret 8 rfl rfl (by first | exact Or.inl ⟨_, rfl⟩ | exact Or.inr ⟨_, rfl⟩) ⟨congrArg (fun k : Nat => (Sum.inl (some (vR k)) : Rv)) (by show _ = 10 + rfBake σ z o; unfold rfBake; (repeat' split) <;> first | rfl | (exfalso; omega)), rfl, rfl⟩
theorem c_refusalOfSet (H : HM M h σ) (hr : Hok B σ) (z a b c : Int) (hz : i32 z) (ha : i32 a) (hb : i32 b) (hc : i32 c) : Ct (e_L r0) Γ mX3_refusalOfSet 2 0 0 [vR h, vI z, vI a, vI b, vI c] M n (e_rt (.inl (some (vR (10 + rfSet σ z a b c)))) M n) := by
  have q := hr.2.1
  have q0 := hr.1 0 (by decide)
  refine g_start ok_X3_refusalOfSet rfl rfl ?_
  refine g_run 0 2 rfl ?_
  refine g_callV 2 rfl cv_RX3_119 H.2.1 (c_hasDoor H hr z hz) rfl rfl (by decide) (by omega) (by omega) (Nat.le_of_ble_eq_true rfl) (e_kr ?_) e_kx
  refine g_if_ne 3 12 rfl rfl b_r (fun c5 => ?_) (fun c5 => ?_)
  · replace c5 := b_1.mp c5
    refine g_run 6 3 rfl ?_
    refine g_callSN 9 rfl cn_RX3_112 (c_areNoPositions a b c ha hb hc) rfl rfl (by decide) (by omega) (by omega) (Nat.le_of_ble_eq_true rfl) (e_kr ?_) e_kx
    refine g_if_eq 10 26 rfl rfl (by split <;> omega) (fun c19 => ?_) (fun c19 => ?_)
    · have d19 : isPos a ∧ isPos b ∧ isPos c := by by_cases e : isPos a ∧ isPos b ∧ isPos c; exact e; exact absurd (c19.symm.trans (if_neg e)) (by decide)
      refine g_run 13 1 rfl ?_
      refine g_get 14 rfl fl_RX3_11 H.2.1 rfl ?_
      refine g_run 15 1 rfl ?_
      refine g_aald 16 z.toNat rfl rfl H.2.2.1 (Int.toNat_of_nonneg (by omega)).symm (by omega) (by decide) ?_
      rw [lkR_at (by omega)]
      have kl31 := H.2.2.2.2.2.2.2 z.toNat (by omega)
      refine g_get 17 rfl fl_RX3_132 kl31.2.1 rfl ?_
      refine g_if_eq 18 46 rfl rfl (by have := (hr.2.2.2.2 z.toNat (by omega)).1; omega) (fun c35 => ?_) (fun c35 => ?_)
      · refine g_gets 23 rfl (by first | exact List.mem_of_getElem? (i := 10) rfl | exact List.mem_of_getElem? (i := 11) rfl | exact List.mem_of_getElem? (i := 12) rfl | exact List.mem_of_getElem? (i := 13) rfl | exact List.mem_of_getElem? (i := 14) rfl) fs_RX3_116 ?_
        refine g_run 24 1 rfl ?_
        exact g_aret 26 rfl rfl (by first | exact Or.inl ⟨_, rfl⟩ | exact Or.inr ⟨_, rfl⟩) ⟨congrArg (fun k : Nat => (Sum.inl (some (vR k)) : Rv)) (by show _ = 10 + rfSet σ z a b c; unfold rfSet; (repeat' split) <;> first | rfl | (exfalso; omega)), rfl, rfl⟩
      · refine g_run 19 2 rfl ?_
        refine g_callV 21 rfl cv_RX3_129 H.2.1 (c_isInOven H hr z hz) rfl rfl (by decide) (by omega) (by omega) (Nat.le_of_ble_eq_true rfl) (e_kr ?_) e_kx
        refine g_if_eq 22 52 rfl rfl b_r (fun c43 => ?_) (fun c43 => ?_)
        · replace c43 := b_0.mp c43
          refine g_gets 25 rfl (by first | exact List.mem_of_getElem? (i := 10) rfl | exact List.mem_of_getElem? (i := 11) rfl | exact List.mem_of_getElem? (i := 12) rfl | exact List.mem_of_getElem? (i := 13) rfl | exact List.mem_of_getElem? (i := 14) rfl) fs_RX3_101 ?_
          exact g_aret 26 rfl rfl (by first | exact Or.inl ⟨_, rfl⟩ | exact Or.inr ⟨_, rfl⟩) ⟨congrArg (fun k : Nat => (Sum.inl (some (vR k)) : Rv)) (by show _ = 10 + rfSet σ z a b c; unfold rfSet; (repeat' split) <;> first | rfl | (exfalso; omega)), rfl, rfl⟩
        · replace c43 := b_1.mp c43
          refine g_gets 23 rfl (by first | exact List.mem_of_getElem? (i := 10) rfl | exact List.mem_of_getElem? (i := 11) rfl | exact List.mem_of_getElem? (i := 12) rfl | exact List.mem_of_getElem? (i := 13) rfl | exact List.mem_of_getElem? (i := 14) rfl) fs_RX3_116 ?_
          refine g_run 24 1 rfl ?_
          exact g_aret 26 rfl rfl (by first | exact Or.inl ⟨_, rfl⟩ | exact Or.inr ⟨_, rfl⟩) ⟨congrArg (fun k : Nat => (Sum.inl (some (vR k)) : Rv)) (by show _ = 10 + rfSet σ z a b c; unfold rfSet; (repeat' split) <;> first | rfl | (exfalso; omega)), rfl, rfl⟩
    · have d19 : ¬ (isPos a ∧ isPos b ∧ isPos c) := fun e => c19 (if_pos e)
      refine g_gets 11 rfl (by first | exact List.mem_of_getElem? (i := 10) rfl | exact List.mem_of_getElem? (i := 11) rfl | exact List.mem_of_getElem? (i := 12) rfl | exact List.mem_of_getElem? (i := 13) rfl | exact List.mem_of_getElem? (i := 14) rfl) fs_RX3_95 ?_
      exact g_aret 12 rfl rfl (by first | exact Or.inl ⟨_, rfl⟩ | exact Or.inr ⟨_, rfl⟩) ⟨congrArg (fun k : Nat => (Sum.inl (some (vR k)) : Rv)) (by show _ = 10 + rfSet σ z a b c; unfold rfSet; (repeat' split) <;> first | rfl | (exfalso; omega)), rfl, rfl⟩
  · replace c5 := b_0.mp c5
    refine g_gets 4 rfl (by first | exact List.mem_of_getElem? (i := 10) rfl | exact List.mem_of_getElem? (i := 11) rfl | exact List.mem_of_getElem? (i := 12) rfl | exact List.mem_of_getElem? (i := 13) rfl | exact List.mem_of_getElem? (i := 14) rfl) fs_RX3_126 ?_
    exact g_aret 5 rfl rfl (by first | exact Or.inl ⟨_, rfl⟩ | exact Or.inr ⟨_, rfl⟩) ⟨congrArg (fun k : Nat => (Sum.inl (some (vR k)) : Rv)) (by show _ = 10 + rfSet σ z a b c; unfold rfSet; (repeat' split) <;> first | rfl | (exfalso; omega)), rfl, rfl⟩
/-- why the command c is refused: 0 nothing, 1 index, 2 argument, 3 state, 4 not supported -/
def rf (σ : HS) (c : Nat) (a b x y : Int) : Nat := match c with
  | 0 => rfDoor σ a b x
  | 1 => rfTurn σ a b x
  | 2 => rfTry σ a
  | 3 => rfShut σ a
  | 4 => rfDamp a
  | 5 => rfBake σ a b
  | 9 => rfSet σ a b x y
  | _ => rfHours a
/-- the constants' cells -/
def KM (Γ : Cx) : Prop := ∃ (L : Nat) (xs : Nat → Int), Γ.cM = e_cMem L xs
theorem c_ordC {c o : Nat} {fs : List aV} (h : M c = cO 20 (vI (o : Int) :: fs)) (hc : c < 100) : Ct (e_L r0) Γ mJx29ce0_ordinal_8abf5 0 0 0 [vR c] M n (e_rt (.inl (some (vI (o : Int)))) M n) := by
  refine g_start ok_Jx29ce0_ordinal_8abf5 rfl rfl ?_
  refine g_run 0 1 rfl ?_
  refine g_getC 1 rfl fc20_RJx29ce0_7 hc h rfl ?_
  exact g_iret 2 rfl rfl trivial ⟨rfl, rfl, rfl⟩
theorem c_ordR {c o : Nat} {fs : List aV} (h : M c = cO 21 (vI (o : Int) :: fs)) (hc : c < 100) : Ct (e_L r0) Γ mJx29ce0_ordinal_8abf5 0 0 0 [vR c] M n (e_rt (.inl (some (vI (o : Int)))) M n) := by
  refine g_start ok_Jx29ce0_ordinal_8abf5 rfl rfl ?_
  refine g_run 0 1 rfl ?_
  refine g_getC 1 rfl fc21_RJx29ce0_7 hc h rfl ?_
  exact g_iret 2 rfl rfl trivial ⟨rfl, rfl, rfl⟩
end CH
/-- the command's cell and the switch's row, at the constants -/
theorem k_cmd {Γ : Cx} {M : Mem} (hK : KM Γ) (hl : ∀ k, k < 100 → M k = Γ.cM k) (c : Nat) (hc : c < 10) : M c = cO 20 [vI (c : Int), vR (c + 20)] := by
  obtain ⟨L, xs, e⟩ := hK
  rw [hl c (by omega), e]
  exact if_pos hc
theorem k_ref {Γ : Cx} {M : Mem} (hK : KM Γ) (hl : ∀ k, k < 100 → M k = Γ.cM k) (c : Nat) (hc : c < 5) : M (10 + c) = cO 21 [vI (c : Int)] := by
  obtain ⟨L, xs, e⟩ := hK
  rw [hl _ (by omega), e]
  unfold e_cMem
  rw [if_neg (by omega), if_pos (by omega)]
  rw [show ((10 + c : Nat) : Int) - 10 = (c : Int) from by omega]
theorem k_swC {Γ : Cx} {M : Mem} (hK : KM Γ) (hl : ∀ k, k < 100 → M k = Γ.cM k) : M 16 = cI 10 10 (fun j => e_swC.getD j 0) := by
  obtain ⟨L, xs, e⟩ := hK
  rw [hl 16 (by omega), e]
  rfl
theorem k_swR {Γ : Cx} {M : Mem} (hK : KM Γ) (hl : ∀ k, k < 100 → M k = Γ.cM k) : M 17 = cI 10 5 (fun j => e_swR.getD j 0) := by
  obtain ⟨L, xs, e⟩ := hK
  rw [hl 17 (by omega), e]
  rfl
section CH2
variable {r0 : Option Nat} {Γ : Cx} {M : Mem} {n h : Nat} {σ : HS} {B : Int}
theorem c_refusal0 (hK : KM Γ) (H : HM M h σ) (hr : Hok B σ) (a b x y : Int) (ha : i32 a) (hb : i32 b) (hx : i32 x) (hy : i32 y) : Ct (e_L r0) Γ mX3_refusalOf 3 0 0 [vR h, vR 0, vI a, vI b, vI x, vI y] M n (e_rt (.inl (some (vR (10 + rf σ 0 a b x y)))) M n) := by
  refine g_start ok_X3_refusalOf rfl rfl ?_
  refine g_low (fun hl => ?_)
  refine g_gets 0 rfl (by exact List.mem_of_getElem? (i := 16) rfl) fs_RX3_70 ?_
  refine g_run 1 1 rfl ?_
  refine g_callU 2 rfl cu_RX3_75 (k_cmd hK hl 0 (by decide)) (c_ordC (o := 0) (k_cmd hK hl 0 (by decide)) (by decide)) rfl rfl (by decide) (by omega) (by omega) (Nat.le_of_ble_eq_true rfl) (e_kr ?_) e_kx
  refine g_iald 3 0 rfl rfl (k_swC hK hl) (by first | rfl | omega) (by omega) (by decide) ?_
  refine g_tsw 52 0 dw_X3_refusalOf_8 rfl (by decide) (by decide) rfl rfl ?_
  refine g_run 4 4 rfl ?_
  refine g_callV 8 rfl cv_RX3_81 H.2.1 (c_refusalOfDoor H hr a b x ha hb hx) rfl rfl (by decide) (by omega) (by omega) (Nat.le_of_ble_eq_true rfl) (e_kr ?_) e_kx
  exact g_aret 9 rfl rfl (by first | exact Or.inl ⟨_, rfl⟩ | exact Or.inr ⟨_, rfl⟩) ⟨rfl, rfl, rfl⟩
theorem c_refusal1 (hK : KM Γ) (H : HM M h σ) (hr : Hok B σ) (a b x y : Int) (ha : i32 a) (hb : i32 b) (hx : i32 x) (hy : i32 y) : Ct (e_L r0) Γ mX3_refusalOf 3 0 0 [vR h, vR 1, vI a, vI b, vI x, vI y] M n (e_rt (.inl (some (vR (10 + rf σ 1 a b x y)))) M n) := by
  refine g_start ok_X3_refusalOf rfl rfl ?_
  refine g_low (fun hl => ?_)
  refine g_gets 0 rfl (by exact List.mem_of_getElem? (i := 16) rfl) fs_RX3_70 ?_
  refine g_run 1 1 rfl ?_
  refine g_callU 2 rfl cu_RX3_75 (k_cmd hK hl 1 (by decide)) (c_ordC (o := 1) (k_cmd hK hl 1 (by decide)) (by decide)) rfl rfl (by decide) (by omega) (by omega) (Nat.le_of_ble_eq_true rfl) (e_kr ?_) e_kx
  refine g_iald 3 1 rfl rfl (k_swC hK hl) (by first | rfl | omega) (by omega) (by decide) ?_
  refine g_tsw 61 1 dw_X3_refusalOf_8 rfl (by decide) (by decide) rfl rfl ?_
  refine g_run 10 4 rfl ?_
  refine g_callV 14 rfl cv_RX3_85 H.2.1 (c_refusalOfTurn H hr a b x ha hb hx) rfl rfl (by decide) (by omega) (by omega) (Nat.le_of_ble_eq_true rfl) (e_kr ?_) e_kx
  exact g_aret 15 rfl rfl (by first | exact Or.inl ⟨_, rfl⟩ | exact Or.inr ⟨_, rfl⟩) ⟨rfl, rfl, rfl⟩
theorem c_refusal2 (hK : KM Γ) (H : HM M h σ) (hr : Hok B σ) (a b x y : Int) (ha : i32 a) (hb : i32 b) (hx : i32 x) (hy : i32 y) : Ct (e_L r0) Γ mX3_refusalOf 3 0 0 [vR h, vR 2, vI a, vI b, vI x, vI y] M n (e_rt (.inl (some (vR (10 + rf σ 2 a b x y)))) M n) := by
  refine g_start ok_X3_refusalOf rfl rfl ?_
  refine g_low (fun hl => ?_)
  refine g_gets 0 rfl (by exact List.mem_of_getElem? (i := 16) rfl) fs_RX3_70 ?_
  refine g_run 1 1 rfl ?_
  refine g_callU 2 rfl cu_RX3_75 (k_cmd hK hl 2 (by decide)) (c_ordC (o := 2) (k_cmd hK hl 2 (by decide)) (by decide)) rfl rfl (by decide) (by omega) (by omega) (Nat.le_of_ble_eq_true rfl) (e_kr ?_) e_kx
  refine g_iald 3 2 rfl rfl (k_swC hK hl) (by first | rfl | omega) (by omega) (by decide) ?_
  refine g_tsw 70 2 dw_X3_refusalOf_8 rfl (by decide) (by decide) rfl rfl ?_
  refine g_run 16 2 rfl ?_
  refine g_callV 18 rfl cv_RX3_88 H.2.1 (c_refusalOfTry H hr a ha) rfl rfl (by decide) (by omega) (by omega) (Nat.le_of_ble_eq_true rfl) (e_kr ?_) e_kx
  exact g_aret 19 rfl rfl (by first | exact Or.inl ⟨_, rfl⟩ | exact Or.inr ⟨_, rfl⟩) ⟨rfl, rfl, rfl⟩
theorem c_refusal3 (hK : KM Γ) (H : HM M h σ) (hr : Hok B σ) (a b x y : Int) (ha : i32 a) (hb : i32 b) (hx : i32 x) (hy : i32 y) : Ct (e_L r0) Γ mX3_refusalOf 3 0 0 [vR h, vR 3, vI a, vI b, vI x, vI y] M n (e_rt (.inl (some (vR (10 + rf σ 3 a b x y)))) M n) := by
  refine g_start ok_X3_refusalOf rfl rfl ?_
  refine g_low (fun hl => ?_)
  refine g_gets 0 rfl (by exact List.mem_of_getElem? (i := 16) rfl) fs_RX3_70 ?_
  refine g_run 1 1 rfl ?_
  refine g_callU 2 rfl cu_RX3_75 (k_cmd hK hl 3 (by decide)) (c_ordC (o := 3) (k_cmd hK hl 3 (by decide)) (by decide)) rfl rfl (by decide) (by omega) (by omega) (Nat.le_of_ble_eq_true rfl) (e_kr ?_) e_kx
  refine g_iald 3 3 rfl rfl (k_swC hK hl) (by first | rfl | omega) (by omega) (by decide) ?_
  refine g_tsw 76 3 dw_X3_refusalOf_8 rfl (by decide) (by decide) rfl rfl ?_
  refine g_run 20 2 rfl ?_
  refine g_callV 22 rfl cv_RX3_92 H.2.1 (c_refusalOfShut H hr a ha) rfl rfl (by decide) (by omega) (by omega) (Nat.le_of_ble_eq_true rfl) (e_kr ?_) e_kx
  exact g_aret 23 rfl rfl (by first | exact Or.inl ⟨_, rfl⟩ | exact Or.inr ⟨_, rfl⟩) ⟨rfl, rfl, rfl⟩
theorem c_refusal4 (hK : KM Γ) (H : HM M h σ) (hr : Hok B σ) (a b x y : Int) (ha : i32 a) (hb : i32 b) (hx : i32 x) (hy : i32 y) : Ct (e_L r0) Γ mX3_refusalOf 3 0 0 [vR h, vR 4, vI a, vI b, vI x, vI y] M n (e_rt (.inl (some (vR (10 + rf σ 4 a b x y)))) M n) := by
  refine g_start ok_X3_refusalOf rfl rfl ?_
  refine g_low (fun hl => ?_)
  refine g_gets 0 rfl (by exact List.mem_of_getElem? (i := 16) rfl) fs_RX3_70 ?_
  refine g_run 1 1 rfl ?_
  refine g_callU 2 rfl cu_RX3_75 (k_cmd hK hl 4 (by decide)) (c_ordC (o := 4) (k_cmd hK hl 4 (by decide)) (by decide)) rfl rfl (by decide) (by omega) (by omega) (Nat.le_of_ble_eq_true rfl) (e_kr ?_) e_kx
  refine g_iald 3 4 rfl rfl (k_swC hK hl) (by first | rfl | omega) (by omega) (by decide) ?_
  refine g_tsw 82 4 dw_X3_refusalOf_8 rfl (by decide) (by decide) rfl rfl ?_
  refine g_run 24 1 rfl ?_
  refine g_if_lt 25 92 rfl rfl (by omega) (fun c83 => ?_) (fun c83 => ?_)
  · refine g_gets 29 rfl (by first | exact List.mem_of_getElem? (i := 10) rfl | exact List.mem_of_getElem? (i := 11) rfl | exact List.mem_of_getElem? (i := 12) rfl | exact List.mem_of_getElem? (i := 13) rfl | exact List.mem_of_getElem? (i := 14) rfl) fs_RX3_95 ?_
    refine g_run 30 1 rfl ?_
    exact g_aret 32 rfl rfl (by first | exact Or.inl ⟨_, rfl⟩ | exact Or.inr ⟨_, rfl⟩) ⟨congrArg (fun k : Nat => (Sum.inl (some (vR k)) : Rv)) (by show _ = 10 + rfDamp a; unfold rfDamp; (repeat' split) <;> first | rfl | (exfalso; omega)), rfl, rfl⟩
  · refine g_run 26 2 rfl ?_
    refine g_icmp_le 28 98 rfl rfl (by omega) (by omega) (fun c89 => ?_) (fun c89 => ?_)
    · refine g_gets 31 rfl (by first | exact List.mem_of_getElem? (i := 10) rfl | exact List.mem_of_getElem? (i := 11) rfl | exact List.mem_of_getElem? (i := 12) rfl | exact List.mem_of_getElem? (i := 13) rfl | exact List.mem_of_getElem? (i := 14) rfl) fs_RX3_101 ?_
      exact g_aret 32 rfl rfl (by first | exact Or.inl ⟨_, rfl⟩ | exact Or.inr ⟨_, rfl⟩) ⟨congrArg (fun k : Nat => (Sum.inl (some (vR k)) : Rv)) (by show _ = 10 + rfDamp a; unfold rfDamp; (repeat' split) <;> first | rfl | (exfalso; omega)), rfl, rfl⟩
    · refine g_gets 29 rfl (by first | exact List.mem_of_getElem? (i := 10) rfl | exact List.mem_of_getElem? (i := 11) rfl | exact List.mem_of_getElem? (i := 12) rfl | exact List.mem_of_getElem? (i := 13) rfl | exact List.mem_of_getElem? (i := 14) rfl) fs_RX3_95 ?_
      refine g_run 30 1 rfl ?_
      exact g_aret 32 rfl rfl (by first | exact Or.inl ⟨_, rfl⟩ | exact Or.inr ⟨_, rfl⟩) ⟨congrArg (fun k : Nat => (Sum.inl (some (vR k)) : Rv)) (by show _ = 10 + rfDamp a; unfold rfDamp; (repeat' split) <;> first | rfl | (exfalso; omega)), rfl, rfl⟩
theorem c_refusal5 (hK : KM Γ) (H : HM M h σ) (hr : Hok B σ) (a b x y : Int) (ha : i32 a) (hb : i32 b) (hx : i32 x) (hy : i32 y) : Ct (e_L r0) Γ mX3_refusalOf 3 0 0 [vR h, vR 5, vI a, vI b, vI x, vI y] M n (e_rt (.inl (some (vR (10 + rf σ 5 a b x y)))) M n) := by
  refine g_start ok_X3_refusalOf rfl rfl ?_
  refine g_low (fun hl => ?_)
  refine g_gets 0 rfl (by exact List.mem_of_getElem? (i := 16) rfl) fs_RX3_70 ?_
  refine g_run 1 1 rfl ?_
  refine g_callU 2 rfl cu_RX3_75 (k_cmd hK hl 5 (by decide)) (c_ordC (o := 5) (k_cmd hK hl 5 (by decide)) (by decide)) rfl rfl (by decide) (by omega) (by omega) (Nat.le_of_ble_eq_true rfl) (e_kr ?_) e_kx
  refine g_iald 3 5 rfl rfl (k_swC hK hl) (by first | rfl | omega) (by omega) (by decide) ?_
  refine g_tsw 102 5 dw_X3_refusalOf_8 rfl (by decide) (by decide) rfl rfl ?_
  refine g_run 33 3 rfl ?_
  refine g_callV 36 rfl cv_RX3_104 H.2.1 (c_refusalOfBake H hr a b ha hb) rfl rfl (by decide) (by omega) (by omega) (Nat.le_of_ble_eq_true rfl) (e_kr ?_) e_kx
  exact g_aret 37 rfl rfl (by first | exact Or.inl ⟨_, rfl⟩ | exact Or.inr ⟨_, rfl⟩) ⟨rfl, rfl, rfl⟩
theorem c_refusal6 (hK : KM Γ) (H : HM M h σ) (hr : Hok B σ) (a b x y : Int) (ha : i32 a) (hb : i32 b) (hx : i32 x) (hy : i32 y) : Ct (e_L r0) Γ mX3_refusalOf 3 0 0 [vR h, vR 6, vI a, vI b, vI x, vI y] M n (e_rt (.inl (some (vR (10 + rf σ 6 a b x y)))) M n) := by
  refine g_start ok_X3_refusalOf rfl rfl ?_
  refine g_low (fun hl => ?_)
  refine g_gets 0 rfl (by exact List.mem_of_getElem? (i := 16) rfl) fs_RX3_70 ?_
  refine g_run 1 1 rfl ?_
  refine g_callU 2 rfl cu_RX3_75 (k_cmd hK hl 6 (by decide)) (c_ordC (o := 6) (k_cmd hK hl 6 (by decide)) (by decide)) rfl rfl (by decide) (by omega) (by omega) (Nat.le_of_ble_eq_true rfl) (e_kr ?_) e_kx
  refine g_iald 3 6 rfl rfl (k_swC hK hl) (by first | rfl | omega) (by omega) (by decide) ?_
  refine g_tswD 120 dw_X3_refusalOf_8 (by decide) (by decide) rfl ?_
  refine g_run 45 2 rfl ?_
  refine g_icmp_lt 47 131 rfl rfl (by omega) (by omega) (fun c122 => ?_) (fun c122 => ?_)
  · refine g_gets 51 rfl (by first | exact List.mem_of_getElem? (i := 10) rfl | exact List.mem_of_getElem? (i := 11) rfl | exact List.mem_of_getElem? (i := 12) rfl | exact List.mem_of_getElem? (i := 13) rfl | exact List.mem_of_getElem? (i := 14) rfl) fs_RX3_95 ?_
    refine g_run 52 1 rfl ?_
    exact g_aret 54 rfl rfl (by first | exact Or.inl ⟨_, rfl⟩ | exact Or.inr ⟨_, rfl⟩) ⟨congrArg (fun k : Nat => (Sum.inl (some (vR k)) : Rv)) (by show _ = 10 + rfHours a; unfold rfHours; (repeat' split) <;> first | rfl | (exfalso; omega)), rfl, rfl⟩
  · refine g_run 48 2 rfl ?_
    refine g_icmp_le 50 137 rfl rfl (by omega) (by omega) (fun c128 => ?_) (fun c128 => ?_)
    · refine g_gets 53 rfl (by first | exact List.mem_of_getElem? (i := 10) rfl | exact List.mem_of_getElem? (i := 11) rfl | exact List.mem_of_getElem? (i := 12) rfl | exact List.mem_of_getElem? (i := 13) rfl | exact List.mem_of_getElem? (i := 14) rfl) fs_RX3_101 ?_
      exact g_aret 54 rfl rfl (by first | exact Or.inl ⟨_, rfl⟩ | exact Or.inr ⟨_, rfl⟩) ⟨congrArg (fun k : Nat => (Sum.inl (some (vR k)) : Rv)) (by show _ = 10 + rfHours a; unfold rfHours; (repeat' split) <;> first | rfl | (exfalso; omega)), rfl, rfl⟩
    · refine g_gets 51 rfl (by first | exact List.mem_of_getElem? (i := 10) rfl | exact List.mem_of_getElem? (i := 11) rfl | exact List.mem_of_getElem? (i := 12) rfl | exact List.mem_of_getElem? (i := 13) rfl | exact List.mem_of_getElem? (i := 14) rfl) fs_RX3_95 ?_
      refine g_run 52 1 rfl ?_
      exact g_aret 54 rfl rfl (by first | exact Or.inl ⟨_, rfl⟩ | exact Or.inr ⟨_, rfl⟩) ⟨congrArg (fun k : Nat => (Sum.inl (some (vR k)) : Rv)) (by show _ = 10 + rfHours a; unfold rfHours; (repeat' split) <;> first | rfl | (exfalso; omega)), rfl, rfl⟩
theorem c_refusal7 (hK : KM Γ) (H : HM M h σ) (hr : Hok B σ) (a b x y : Int) (ha : i32 a) (hb : i32 b) (hx : i32 x) (hy : i32 y) : Ct (e_L r0) Γ mX3_refusalOf 3 0 0 [vR h, vR 7, vI a, vI b, vI x, vI y] M n (e_rt (.inl (some (vR (10 + rf σ 7 a b x y)))) M n) := by
  refine g_start ok_X3_refusalOf rfl rfl ?_
  refine g_low (fun hl => ?_)
  refine g_gets 0 rfl (by exact List.mem_of_getElem? (i := 16) rfl) fs_RX3_70 ?_
  refine g_run 1 1 rfl ?_
  refine g_callU 2 rfl cu_RX3_75 (k_cmd hK hl 7 (by decide)) (c_ordC (o := 7) (k_cmd hK hl 7 (by decide)) (by decide)) rfl rfl (by decide) (by omega) (by omega) (Nat.le_of_ble_eq_true rfl) (e_kr ?_) e_kx
  refine g_iald 3 7 rfl rfl (k_swC hK hl) (by first | rfl | omega) (by omega) (by decide) ?_
  refine g_tswD 120 dw_X3_refusalOf_8 (by decide) (by decide) rfl ?_
  refine g_run 45 2 rfl ?_
  refine g_icmp_lt 47 131 rfl rfl (by omega) (by omega) (fun c122 => ?_) (fun c122 => ?_)
  · refine g_gets 51 rfl (by first | exact List.mem_of_getElem? (i := 10) rfl | exact List.mem_of_getElem? (i := 11) rfl | exact List.mem_of_getElem? (i := 12) rfl | exact List.mem_of_getElem? (i := 13) rfl | exact List.mem_of_getElem? (i := 14) rfl) fs_RX3_95 ?_
    refine g_run 52 1 rfl ?_
    exact g_aret 54 rfl rfl (by first | exact Or.inl ⟨_, rfl⟩ | exact Or.inr ⟨_, rfl⟩) ⟨congrArg (fun k : Nat => (Sum.inl (some (vR k)) : Rv)) (by show _ = 10 + rfHours a; unfold rfHours; (repeat' split) <;> first | rfl | (exfalso; omega)), rfl, rfl⟩
  · refine g_run 48 2 rfl ?_
    refine g_icmp_le 50 137 rfl rfl (by omega) (by omega) (fun c128 => ?_) (fun c128 => ?_)
    · refine g_gets 53 rfl (by first | exact List.mem_of_getElem? (i := 10) rfl | exact List.mem_of_getElem? (i := 11) rfl | exact List.mem_of_getElem? (i := 12) rfl | exact List.mem_of_getElem? (i := 13) rfl | exact List.mem_of_getElem? (i := 14) rfl) fs_RX3_101 ?_
      exact g_aret 54 rfl rfl (by first | exact Or.inl ⟨_, rfl⟩ | exact Or.inr ⟨_, rfl⟩) ⟨congrArg (fun k : Nat => (Sum.inl (some (vR k)) : Rv)) (by show _ = 10 + rfHours a; unfold rfHours; (repeat' split) <;> first | rfl | (exfalso; omega)), rfl, rfl⟩
    · refine g_gets 51 rfl (by first | exact List.mem_of_getElem? (i := 10) rfl | exact List.mem_of_getElem? (i := 11) rfl | exact List.mem_of_getElem? (i := 12) rfl | exact List.mem_of_getElem? (i := 13) rfl | exact List.mem_of_getElem? (i := 14) rfl) fs_RX3_95 ?_
      refine g_run 52 1 rfl ?_
      exact g_aret 54 rfl rfl (by first | exact Or.inl ⟨_, rfl⟩ | exact Or.inr ⟨_, rfl⟩) ⟨congrArg (fun k : Nat => (Sum.inl (some (vR k)) : Rv)) (by show _ = 10 + rfHours a; unfold rfHours; (repeat' split) <;> first | rfl | (exfalso; omega)), rfl, rfl⟩
theorem c_refusal8 (hK : KM Γ) (H : HM M h σ) (hr : Hok B σ) (a b x y : Int) (ha : i32 a) (hb : i32 b) (hx : i32 x) (hy : i32 y) : Ct (e_L r0) Γ mX3_refusalOf 3 0 0 [vR h, vR 8, vI a, vI b, vI x, vI y] M n (e_rt (.inl (some (vR (10 + rf σ 8 a b x y)))) M n) := by
  refine g_start ok_X3_refusalOf rfl rfl ?_
  refine g_low (fun hl => ?_)
  refine g_gets 0 rfl (by exact List.mem_of_getElem? (i := 16) rfl) fs_RX3_70 ?_
  refine g_run 1 1 rfl ?_
  refine g_callU 2 rfl cu_RX3_75 (k_cmd hK hl 8 (by decide)) (c_ordC (o := 8) (k_cmd hK hl 8 (by decide)) (by decide)) rfl rfl (by decide) (by omega) (by omega) (Nat.le_of_ble_eq_true rfl) (e_kr ?_) e_kx
  refine g_iald 3 8 rfl rfl (k_swC hK hl) (by first | rfl | omega) (by omega) (by decide) ?_
  refine g_tswD 120 dw_X3_refusalOf_8 (by decide) (by decide) rfl ?_
  refine g_run 45 2 rfl ?_
  refine g_icmp_lt 47 131 rfl rfl (by omega) (by omega) (fun c122 => ?_) (fun c122 => ?_)
  · refine g_gets 51 rfl (by first | exact List.mem_of_getElem? (i := 10) rfl | exact List.mem_of_getElem? (i := 11) rfl | exact List.mem_of_getElem? (i := 12) rfl | exact List.mem_of_getElem? (i := 13) rfl | exact List.mem_of_getElem? (i := 14) rfl) fs_RX3_95 ?_
    refine g_run 52 1 rfl ?_
    exact g_aret 54 rfl rfl (by first | exact Or.inl ⟨_, rfl⟩ | exact Or.inr ⟨_, rfl⟩) ⟨congrArg (fun k : Nat => (Sum.inl (some (vR k)) : Rv)) (by show _ = 10 + rfHours a; unfold rfHours; (repeat' split) <;> first | rfl | (exfalso; omega)), rfl, rfl⟩
  · refine g_run 48 2 rfl ?_
    refine g_icmp_le 50 137 rfl rfl (by omega) (by omega) (fun c128 => ?_) (fun c128 => ?_)
    · refine g_gets 53 rfl (by first | exact List.mem_of_getElem? (i := 10) rfl | exact List.mem_of_getElem? (i := 11) rfl | exact List.mem_of_getElem? (i := 12) rfl | exact List.mem_of_getElem? (i := 13) rfl | exact List.mem_of_getElem? (i := 14) rfl) fs_RX3_101 ?_
      exact g_aret 54 rfl rfl (by first | exact Or.inl ⟨_, rfl⟩ | exact Or.inr ⟨_, rfl⟩) ⟨congrArg (fun k : Nat => (Sum.inl (some (vR k)) : Rv)) (by show _ = 10 + rfHours a; unfold rfHours; (repeat' split) <;> first | rfl | (exfalso; omega)), rfl, rfl⟩
    · refine g_gets 51 rfl (by first | exact List.mem_of_getElem? (i := 10) rfl | exact List.mem_of_getElem? (i := 11) rfl | exact List.mem_of_getElem? (i := 12) rfl | exact List.mem_of_getElem? (i := 13) rfl | exact List.mem_of_getElem? (i := 14) rfl) fs_RX3_95 ?_
      refine g_run 52 1 rfl ?_
      exact g_aret 54 rfl rfl (by first | exact Or.inl ⟨_, rfl⟩ | exact Or.inr ⟨_, rfl⟩) ⟨congrArg (fun k : Nat => (Sum.inl (some (vR k)) : Rv)) (by show _ = 10 + rfHours a; unfold rfHours; (repeat' split) <;> first | rfl | (exfalso; omega)), rfl, rfl⟩
theorem c_refusal9 (hK : KM Γ) (H : HM M h σ) (hr : Hok B σ) (a b x y : Int) (ha : i32 a) (hb : i32 b) (hx : i32 x) (hy : i32 y) : Ct (e_L r0) Γ mX3_refusalOf 3 0 0 [vR h, vR 9, vI a, vI b, vI x, vI y] M n (e_rt (.inl (some (vR (10 + rf σ 9 a b x y)))) M n) := by
  refine g_start ok_X3_refusalOf rfl rfl ?_
  refine g_low (fun hl => ?_)
  refine g_gets 0 rfl (by exact List.mem_of_getElem? (i := 16) rfl) fs_RX3_70 ?_
  refine g_run 1 1 rfl ?_
  refine g_callU 2 rfl cu_RX3_75 (k_cmd hK hl 9 (by decide)) (c_ordC (o := 9) (k_cmd hK hl 9 (by decide)) (by decide)) rfl rfl (by decide) (by omega) (by omega) (Nat.le_of_ble_eq_true rfl) (e_kr ?_) e_kx
  refine g_iald 3 9 rfl rfl (k_swC hK hl) (by first | rfl | omega) (by omega) (by decide) ?_
  refine g_tsw 109 6 dw_X3_refusalOf_8 rfl (by decide) (by decide) rfl rfl ?_
  refine g_run 38 5 rfl ?_
  refine g_callV 43 rfl cv_RX3_108 H.2.1 (c_refusalOfSet H hr a b x y ha hb hx hy) rfl rfl (by decide) (by omega) (by omega) (Nat.le_of_ble_eq_true rfl) (e_kr ?_) e_kx
  exact g_aret 44 rfl rfl (by first | exact Or.inl ⟨_, rfl⟩ | exact Or.inr ⟨_, rfl⟩) ⟨rfl, rfl, rfl⟩
theorem c_refusalOf (hK : KM Γ) (H : HM M h σ) (hr : Hok B σ) (c : Nat) (hc : c < 10) (a b x y : Int) (ha : i32 a) (hb : i32 b) (hx : i32 x) (hy : i32 y) : Ct (e_L r0) Γ mX3_refusalOf 3 0 0 [vR h, vR c, vI a, vI b, vI x, vI y] M n (e_rt (.inl (some (vR (10 + rf σ c a b x y)))) M n) := by
  match c, hc with
  | 0, _ => exact c_refusal0 hK H hr a b x y ha hb hx hy
  | 1, _ => exact c_refusal1 hK H hr a b x y ha hb hx hy
  | 2, _ => exact c_refusal2 hK H hr a b x y ha hb hx hy
  | 3, _ => exact c_refusal3 hK H hr a b x y ha hb hx hy
  | 4, _ => exact c_refusal4 hK H hr a b x y ha hb hx hy
  | 5, _ => exact c_refusal5 hK H hr a b x y ha hb hx hy
  | 6, _ => exact c_refusal6 hK H hr a b x y ha hb hx hy
  | 7, _ => exact c_refusal7 hK H hr a b x y ha hb hx hy
  | 8, _ => exact c_refusal8 hK H hr a b x y ha hb hx hy
  | 9, _ => exact c_refusal9 hK H hr a b x y ha hb hx hy
  | _ + 10, hc => exact absurd hc (by omega)
end CH2
