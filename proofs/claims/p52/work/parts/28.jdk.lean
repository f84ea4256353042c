/-! the library's texts: StringBuilder, String, Integer (wip/whole/gen/c_jdk.py prints this part) -/
def Bok (f : Nat → Int) : Prop := ∀ j, 0 ≤ f j ∧ f j ≤ 127
/-- a builder at b with its bytes at v: capacity, length, characters -/
def BM (M : Mem) (b v cap c : Nat) (f : Nat → Int) : Prop := 100 ≤ b ∧ 100 ≤ v ∧ b ≠ v ∧ cap ≤ 1000 ∧ c ≤ cap ∧ (∃ x : Int, (x = 0 ∨ x = 1) ∧ M b = cO 1 [vR v, vI 0, vI x, vI (c : Int)]) ∧ M v = cI 2 cap f ∧ Bok f
def e_f2 (b v : Nat) (M M' : Mem) : Prop := ∀ k, k ≠ b → k ≠ v → M' k = M k
theorem BM_fr {M M' : Mem} {b v cap c : Nat} {f : Nat → Int} (h : BM M b v cap c f) (h1 : M' b = M b) (h2 : M' v = M v) : BM M' b v cap c f := by
  obtain ⟨a1, a2, a3, a4, a5, ⟨x, a6, a7⟩, a8, a9⟩ := h
  exact ⟨a1, a2, a3, a4, a5, ⟨x, a6, h1.trans a7⟩, h2.trans a8, a9⟩
theorem Bok_up {f : Nat → Int} (h : Bok f) (k : Nat) {z : Int} (hz : 0 ≤ z ∧ z ≤ 127) : Bok (va_up f k z) := fun j => by
  by_cases e : j = k
  · subst e; rw [va_up_self]; exact hz
  · rw [va_up_ne _ _ e]; exact h j
theorem Bok_0 : Bok (fun _ => 0) := fun _ => by show (0 : Int) ≤ 0 ∧ (0 : Int) ≤ 127; omega
theorem Bok_cpy {f : Nat → Int} (h : Bok f) (k : Nat) : Bok (va_cpy f (fun _ => 0) 0 0 k) := fun j => by
  unfold va_cpy
  split
  · exact h _
  · show (0 : Int) ≤ 0 ∧ (0 : Int) ≤ 127; omega
def sL (w : Int) : Nat := if w < 10 then 1 else 2
def sN (f : Nat → Int) (c : Nat) (w : Int) : Nat → Int := if w < 10 then va_up f c (48 + w) else va_up (va_up f (c + 1) (48 + w % 10)) c (48 + w / 10)
theorem Bok_sN {f : Nat → Int} (h : Bok f) (c : Nat) {w : Int} (hw : 0 ≤ w ∧ w ≤ 99) : Bok (sN f c w) := by
  unfold sN
  split
  · exact Bok_up h _ (by omega)
  · exact Bok_up (Bok_up h _ (by omega)) _ (by omega)
theorem k_ones {Γ : Cx} {M : Mem} (hK : KM Γ) (hl : ∀ k, k < 100 → M k = Γ.cM k) : M 88 = cI 11 100 (fun j => 48 + (j : Int) % 10) := by
  obtain ⟨L, xs, e⟩ := hK
  rw [hl 88 (by decide), e]
  rfl
theorem k_tens {Γ : Cx} {M : Mem} (hK : KM Γ) (hl : ∀ k, k < 100 → M k = Γ.cM k) : M 89 = cI 11 100 (fun j => 48 + (j : Int) / 10) := by
  obtain ⟨L, xs, e⟩ := hK
  rw [hl 89 (by decide), e]
  rfl
section JD
variable {r0 : Option Nat} {Γ : Cx} {M : Mem} {n b v cap c : Nat} {f : Nat → Int}
theorem j_isLatin1 (H : BM M b v cap c f) : Ct (e_L r0) Γ mJ5_isLatin1_aae02 0 0 0 [vR b] M n (e_rt (.inl (some (vI 1))) M n) := by
  obtain ⟨hb, hv, hbv, hcap, hc, ⟨x, hx01, hx⟩, hvv, hok⟩ := H
  refine g_start ok_J5_isLatin1_aae02 rfl rfl ?_
  refine g_gets 0 rfl (e_mem 18 rfl) fs_RJ5_18 ?_
  refine g_if_eq 1 17 rfl rfl (by decide) (fun c3 => absurd c3 (by decide)) (fun _ => ?_)
  refine g_run 2 1 rfl ?_
  refine g_get 3 rfl fl_RJ5_22 hx rfl ?_
  refine g_if_ne 4 17 rfl rfl (by omega) (fun c10 => ?_) (fun c10 => ?_)
  · exact absurd rfl c10
  · refine g_run 5 2 rfl ?_
    exact g_iret 8 rfl rfl (by first | exact trivial | exact Or.inl rfl | exact Or.inr rfl | (show _ ∨ _; omega)) ⟨rfl, rfl, rfl⟩
theorem j_len5 (H : BM M b v cap c f) : Ct (e_L r0) Γ mJ5_length_8abf5 0 0 0 [vR b] M n (e_rt (.inl (some (vI (c : Int)))) M n) := by
  obtain ⟨hb, hv, hbv, hcap, hc, ⟨x, hx01, hx⟩, hvv, hok⟩ := H
  refine g_start ok_J5_length_8abf5 rfl rfl ?_
  refine g_run 0 1 rfl ?_
  refine g_get 1 rfl fl_RJ5_79 hx rfl ?_
  exact g_iret 2 rfl rfl (by first | exact trivial | exact Or.inl rfl | exact Or.inr rfl | (show _ ∨ _; omega)) ⟨rfl, rfl, rfl⟩
theorem j_length (H : BM M b v cap c f) : Ct (e_L r0) Γ mJ4_length_8abf5 1 0 0 [vR b] M n (e_rt (.inl (some (vI (c : Int)))) M n) := by
  have H0 := H
  obtain ⟨hb, hv, hbv, hcap, hc, ⟨x, hx01, hx⟩, hvv, hok⟩ := H0
  refine g_start ok_J4_length_8abf5 rfl rfl ?_
  refine g_run 0 1 rfl ?_
  refine g_callSU 1 rfl csu_RJ4_343 hx (j_len5 H) rfl rfl (by decide) (by omega) (by omega) (Nat.le_of_ble_eq_true rfl) (e_kr ?_) e_kx
  exact g_iret 2 rfl rfl (by first | exact trivial | exact Or.inl rfl | exact Or.inr rfl | (show _ ∨ _; omega)) ⟨rfl, rfl, rfl⟩
theorem j_chk3 (i l : Int) (hi : 0 ≤ i ∧ i < l) (hl : l ≤ 2147483647) (o : Option Nat) : Ct (e_L r0) Γ mJ3_checkIndex_8e157 0 0 0 [vI i, vI l, vO o] M n (e_rt (.inl (some (vI i))) M n) := by
  refine g_start ok_J3_checkIndex_8e157 rfl rfl ?_
  refine g_run 0 1 rfl ?_
  refine g_if_lt 1 9 rfl rfl (by omega) (fun c1 => ?_) (fun c1 => ?_)
  · exact absurd c1 (by omega)
  · refine g_run 2 2 rfl ?_
    refine g_icmp_lt 4 16 rfl rfl (by omega) (by omega) (fun c6 => ?_) (fun c6 => ?_)
    · refine g_run 10 1 rfl ?_
      exact g_iret 11 rfl rfl (by first | exact trivial | exact Or.inl rfl | exact Or.inr rfl | (show _ ∨ _; omega)) ⟨rfl, rfl, rfl⟩
    · exact absurd c6 (by omega)
theorem j_chk0 (i l : Int) (hi : 0 ≤ i ∧ i < l) (hl : l ≤ 2147483647) : Ct (e_L r0) Γ mJ0_checkIndex_df160 1 0 0 [vI i, vI l] M n (e_rt (.inl none) M n) := by
  refine g_start ok_J0_checkIndex_df160 rfl rfl ?_
  refine g_run 0 2 rfl ?_
  refine g_gets 2 rfl (e_mem 21 rfl) fs_RJ0_1053 ?_
  refine g_callS 3 rfl cs_RJ0_1059 (j_chk3 i l hi hl r0) rfl rfl (by decide) (by omega) (by omega) (Nat.le_of_ble_eq_true rfl) (e_kr ?_) e_kx
  refine g_run 4 1 rfl ?_
  exact g_vret 5 rfl rfl ⟨rfl, rfl, rfl⟩
theorem j_charAt5 (H : BM M b v cap c f) (i : Nat) (hi : i < c) : Ct (e_L r0) Γ mJ5_charAt_5068e 2 0 0 [vR b, vI (i : Int)] M n (e_rt (.inl (some (vI (f i)))) M n) := by
  have H0 := H
  obtain ⟨hb, hv, hbv, hcap, hc, ⟨x, hx01, hx⟩, hvv, hok⟩ := H0
  have qf := hok i
  refine g_start ok_J5_charAt_5068e rfl rfl ?_
  refine g_run 0 1 rfl ?_
  refine g_get 1 rfl fl_RJ5_22 hx rfl ?_
  refine g_run 2 2 rfl ?_
  refine g_get 4 rfl fl_RJ5_15 hx rfl ?_
  refine g_run 5 2 rfl ?_
  refine g_get 7 rfl fl_RJ5_79 hx rfl ?_
  refine g_run 8 1 rfl ?_
  refine g_alen 9 rfl hvv ?_
  refine g_run 10 1 rfl ?_
  refine g_ishr 11 rfl sx_shr0 ?_
  refine g_min 12 rfl cm_RJ5_138 (by omega) (by show -2147483648 ≤ ((cap : Nat) : Int) ∧ ((cap : Nat) : Int) ≤ 2147483647; omega) (Nat.le_of_ble_eq_true rfl) ?_
  rw [show (if ((cap : Nat) : Int) < (c : Int) then ((cap : Nat) : Int) else (c : Int)) = c from if_neg (by omega)]
  refine g_run 13 3 rfl ?_
  refine g_callS 16 rfl cs_RJ5_144 (j_chk0 (i : Int) (c : Int) (by omega) (by omega)) rfl rfl (by decide) (by omega) (by omega) (Nat.le_of_ble_eq_true rfl) (e_kr ?_) e_kx
  refine g_run 17 1 rfl ?_
  refine g_if_ne 18 42 rfl rfl (by omega) (fun c30 => ?_) (fun c30 => ?_)
  · exact absurd rfl c30
  · refine g_run 19 2 rfl ?_
    refine g_bald 21 i rfl rfl hvv (by first | rfl | omega) (by omega) (by omega) ?_
    refine g_run 22 1 rfl ?_
    refine g_iand 23 rfl (sx_and (by omega)) ?_
    refine g_i2c 24 rfl (sx_i2c (by omega)) ?_
    exact g_cret 25 rfl rfl (by omega) ⟨rfl, rfl, rfl⟩
theorem j_charAt (H : BM M b v cap c f) (i : Nat) (hi : i < c) : Ct (e_L r0) Γ mJ4_charAt_5068e 3 0 0 [vR b, vI (i : Int)] M n (e_rt (.inl (some (vI (f i)))) M n) := by
  have H0 := H
  obtain ⟨hb, hv, hbv, hcap, hc, ⟨x, hx01, hx⟩, hvv, hok⟩ := H0
  have qf := hok i
  refine g_start ok_J4_charAt_5068e rfl rfl ?_
  refine g_run 0 2 rfl ?_
  refine g_callSU 2 rfl csu_RJ4_329 hx (j_charAt5 H i hi) rfl rfl (by decide) (by omega) (by omega) (Nat.le_of_ble_eq_true rfl) (e_kr ?_) e_kx
  exact g_cret 3 rfl rfl (by omega) ⟨rfl, rfl, rfl⟩
theorem j_ens (hP : PV Γ) (H : BM M b v cap c f) (z : Int) (hz : -1000 ≤ z ∧ z ≤ cap) : Ct (e_L r0) Γ mJ5_ensureCapacityInternal_d00df 4 0 0 [vR b, vI z] M n (e_rt (.inl none) M n) := by
  have H0 := H
  obtain ⟨hb, hv, hbv, hcap, hc, ⟨x, hx01, hx⟩, hvv, hok⟩ := H0
  refine g_start ok_J5_ensureCapacityInternal_d00df rfl rfl ?_
  refine g_run 0 1 rfl ?_
  refine g_get 1 rfl fl_RJ5_15 hx rfl ?_
  refine g_alen 2 rfl hvv ?_
  refine g_run 3 1 rfl ?_
  refine g_get 4 rfl fl_RJ5_22 hx rfl ?_
  refine g_ishr 5 rfl sx_shr0 ?_
  dsimp only
  refine g_run 6 4 rfl ?_
  refine g_if_le 10 38 rfl rfl (by omega) (fun c14 => ?_) (fun c14 => ?_)
  · exact g_vret 22 rfl rfl ⟨rfl, rfl, rfl⟩
  · exact absurd c14 (by omega)
theorem j_set5 (hP : PV Γ) (H : BM M b v cap c f) : Ct (e_L r0) Γ mJ5_setLength_d00df 5 0 0 [vR b, vI 0] M n (e_wr none n fun M' => BM M' b v cap 0 f ∧ e_f2 b v M M') := by
  have H0 := H
  obtain ⟨hb, hv, hbv, hcap, hc, ⟨x, hx01, hx⟩, hvv, hok⟩ := H0
  refine g_start ok_J5_setLength_d00df rfl rfl ?_
  refine g_run 0 1 rfl ?_
  refine g_if_ge 1 13 rfl rfl (by decide) (fun _ => ?_) (fun c1 => absurd c1 (by decide))
  refine g_run 7 2 rfl ?_
  refine g_callP 9 hP rfl cp_RJ5_100 hx (j_ens hP H 0 (by omega)) rfl rfl (by decide) (by omega) (by omega) (Nat.le_of_ble_eq_true rfl) (e_kr ?_) e_kx
  refine g_run 10 1 rfl ?_
  refine g_get 11 rfl fl_RJ5_79 hx rfl ?_
  refine g_run 12 1 rfl ?_
  refine g_icmp_ge 13 63 rfl rfl (by omega) (by omega) (fun c23 => ?_) (fun c23 => ?_)
  · refine g_run 31 1 rfl ?_
    refine g_get 32 rfl fl_RJ5_79 hx rfl ?_
    refine g_run 33 1 rfl ?_
    refine g_icmp_le 34 76 rfl rfl (by omega) (by omega) (fun c68 => ?_) (fun c68 => ?_)
    · refine g_run 38 2 rfl ?_
      refine g_put 40 rfl fp_RJ5_79 hx rfl trivial (fun M78 hM78 => ?_)
      have k78_this := (congrFun hM78 b).trans (va_up_self _ _ _)
      have k78_this_value := (congrFun hM78 v).trans ((va_up_ne _ _ (by omega)).trans hvv)
      first | (have e9 := k78_this; have v9 := k78_this_value) | skip
      exact g_vret 41 rfl rfl ⟨rfl, rfl, ⟨hb, hv, hbv, hcap, Nat.zero_le _, ⟨_, (by first | exact hx01 | exact Or.inr rfl), k78_this⟩, k78_this_value, hok⟩, fun k h1 h2 => by first | (rw [hM78, va_up_ne _ _ h1, hM73, va_up_ne _ _ h1]; done) | rw [hM78, va_up_ne _ _ h1]⟩
    · refine g_run 35 2 rfl ?_
      refine g_put 37 rfl fp_RJ5_73 hx rfl (Or.inr rfl) (fun M73 hM73 => ?_)
      have k73_this := (congrFun hM73 b).trans (va_up_self _ _ _)
      have k73_this_value := (congrFun hM73 v).trans ((va_up_ne _ _ (by omega)).trans hvv)
      refine g_run 38 2 rfl ?_
      refine g_put 40 rfl fp_RJ5_79 k73_this rfl trivial (fun M78 hM78 => ?_)
      have k78_this := (congrFun hM78 b).trans (va_up_self _ _ _)
      have k78_this_value := (congrFun hM78 v).trans ((va_up_ne _ _ (by omega)).trans k73_this_value)
      first | (have e9 := k78_this; have v9 := k78_this_value) | skip
      exact g_vret 41 rfl rfl ⟨rfl, rfl, ⟨hb, hv, hbv, hcap, Nat.zero_le _, ⟨_, (by first | exact hx01 | exact Or.inr rfl), k78_this⟩, k78_this_value, hok⟩, fun k h1 h2 => by first | (rw [hM78, va_up_ne _ _ h1, hM73, va_up_ne _ _ h1]; done) | rw [hM78, va_up_ne _ _ h1]⟩
  · exact absurd c23 (by omega)
theorem j_setLength (hP : PV Γ) (H : BM M b v cap c f) : Ct (e_L r0) Γ mJ4_setLength_d00df 6 0 0 [vR b, vI 0] M n (e_wr none n fun M' => BM M' b v cap 0 f ∧ e_f2 b v M M') := by
  have H0 := H
  obtain ⟨hb, hv, hbv, hcap, hc, ⟨x, hx01, hx⟩, hvv, hok⟩ := H0
  refine g_start ok_J4_setLength_d00df rfl rfl ?_
  refine g_run 0 2 rfl ?_
  refine g_callSU 2 rfl csu_RJ4_333 hx (j_set5 hP H) rfl rfl (by decide) (by omega) (by omega) (Nat.le_of_ble_eq_true rfl) (e_kw fun M2 hq2 => ?_) e_kwx
  exact g_vret 3 rfl rfl ⟨rfl, rfl, hq2⟩
theorem j_canEnc (z : Int) (hz : 0 ≤ z ∧ z ≤ 127) : Ct (e_L r0) Γ mJ1_canEncode_fc78d 0 0 0 [vI z] M n (e_rt (.inl (some (vI 1))) M n) := by
  refine g_start ok_J1_canEncode_fc78d rfl rfl ?_
  refine g_run 0 2 rfl ?_
  refine g_icmp_gt 2 11 rfl rfl (by omega) (by omega) (fun c4 => ?_) (fun c4 => ?_)
  · exact absurd c4 (by omega)
  · refine g_run 3 2 rfl ?_
    exact g_iret 6 rfl rfl (by first | exact trivial | exact Or.inl rfl | exact Or.inr rfl | (show _ ∨ _; omega)) ⟨rfl, rfl, rfl⟩
theorem j_appC5 (hP : PV Γ) (H : BM M b v cap c f) (h1 : c < cap) (z : Int) (hz : 0 ≤ z ∧ z ≤ 127) : Ct (e_L r0) Γ mJ5_append_3fe6f 5 0 0 [vR b, vI z] M n (e_wr (some (vR b)) n fun M' => BM M' b v cap (c + 1) (va_up f c z) ∧ e_f2 b v M M') := by
  have H0 := H
  obtain ⟨hb, hv, hbv, hcap, hc, ⟨x, hx01, hx⟩, hvv, hok⟩ := H0
  refine g_start ok_J5_append_3fe6f rfl rfl ?_
  refine g_run 0 2 rfl ?_
  refine g_get 2 rfl fl_RJ5_79 hx rfl ?_
  refine g_run 3 2 rfl ?_
  refine g_callP 5 hP rfl cp_RJ5_100 hx (j_ens hP H ((c : Int) + 1) (by omega)) rfl rfl (by decide) (by omega) (by omega) (Nat.le_of_ble_eq_true rfl) (e_kr ?_) e_kx
  refine g_run 6 1 rfl ?_
  refine g_callV 7 rfl cv_RJ5_83 hx (j_isLatin1 H) rfl rfl (by decide) (by omega) (by omega) (Nat.le_of_ble_eq_true rfl) (e_kr ?_) e_kx
  refine g_if_eq 8 45 rfl rfl (by omega) (fun c14 => ?_) (fun c14 => ?_)
  · exact absurd c14 (by decide)
  · refine g_run 9 1 rfl ?_
    refine g_callS 10 rfl cs_RJ5_191 (j_canEnc z hz) rfl rfl (by decide) (by omega) (by omega) (Nat.le_of_ble_eq_true rfl) (e_kr ?_) e_kx
    refine g_if_eq 11 45 rfl rfl (by omega) (fun c21 => ?_) (fun c21 => ?_)
    · exact absurd c21 (by decide)
    · refine g_run 12 1 rfl ?_
      refine g_get 13 rfl fl_RJ5_15 hx rfl ?_
      refine g_run 14 2 rfl ?_
      refine g_get 16 rfl fl_RJ5_79 hx rfl ?_
      refine g_run 17 3 rfl ?_
      refine g_put 20 rfl fp_RJ5_79 hx rfl trivial (fun M36 hM36 => ?_)
      have k36_this := (congrFun hM36 b).trans (va_up_self _ _ _)
      have k36_this_value := (congrFun hM36 v).trans ((va_up_ne _ _ (by omega)).trans hvv)
      refine g_run 21 1 rfl ?_
      refine g_i2b 22 rfl (e_nbz (by omega)).1 ?_
      refine g_bast 23 c rfl rfl (by decide) k36_this_value (by first | rfl | omega) h1 (by omega) (by omega) (fun M41 hM41 => ?_)
      have k41_this := (congrFun hM41 b).trans ((va_up_ne _ _ (by omega)).trans k36_this)
      have k41_this_value := (congrFun hM41 v).trans (va_up_self _ _ _)
      refine g_run 24 1 rfl ?_
      refine g_run 41 1 rfl ?_
      exact g_aret 42 rfl rfl (by first | exact Or.inl ⟨_, rfl⟩ | exact Or.inr ⟨_, rfl⟩) ⟨rfl, rfl, ⟨hb, hv, hbv, hcap, h1, ⟨x, hx01, k41_this⟩, k41_this_value, Bok_up hok _ hz⟩, fun k q1 q2 => by rw [hM41, va_up_ne _ _ q2, hM36, va_up_ne _ _ q1]⟩
theorem j_appC (hP : PV Γ) (H : BM M b v cap c f) (h1 : c < cap) (z : Int) (hz : 0 ≤ z ∧ z ≤ 127) : Ct (e_L r0) Γ mJ4_append_cf468 6 0 0 [vR b, vI z] M n (e_wr (some (vR b)) n fun M' => BM M' b v cap (c + 1) (va_up f c z) ∧ e_f2 b v M M') := by
  have H0 := H
  obtain ⟨hb, hv, hbv, hcap, hc, ⟨x, hx01, hx⟩, hvv, hok⟩ := H0
  refine g_start ok_J4_append_cf468 rfl rfl ?_
  refine g_run 0 2 rfl ?_
  refine g_callSU 2 rfl csu_RJ4_50 hx (j_appC5 hP H h1 z hz) rfl rfl (by decide) (by omega) (by omega) (Nat.le_of_ble_eq_true rfl) (e_kw fun M2 hq2 => ?_) e_kwx
  refine g_run 3 2 rfl ?_
  exact g_aret 5 rfl rfl (by first | exact Or.inl ⟨_, rfl⟩ | exact Or.inr ⟨_, rfl⟩) ⟨rfl, rfl, hq2⟩
theorem j_size (z : Int) (hz : 0 ≤ z ∧ z ≤ 99) : Ct (e_L r0) Γ mJ6_stringSize_0f7a4 0 0 0 [vI z] M n (e_rt (.inl (some (vI (sL z : Int)))) M n) := by
  refine g_start ok_J6_stringSize_0f7a4 rfl rfl ?_
  refine g_run 0 3 rfl ?_
  refine g_if_lt 3 11 rfl rfl (by omega) (fun c3 => ?_) (fun c3 => ?_)
  · exact absurd c3 (by omega)
  · refine g_run 4 11 rfl ?_
    refine g_icmp_ge 15 42 rfl rfl (by omega) (by omega) (fun c19 => ?_) (fun c19 => ?_)
    · exact absurd c19 (by decide)
    · refine g_run 16 2 rfl ?_
      refine g_icmp_le 18 31 rfl rfl (by omega) (by omega) (fun c24 => ?_) (fun c24 => ?_)
      · refine g_run 23 6 rfl ?_
        refine g_run 13 2 rfl ?_
        refine g_icmp_ge 15 42 rfl rfl (by omega) (by omega) (fun c20 => absurd c20 (by decide)) (fun c20 => ?_)
        refine g_run 16 2 rfl ?_
        refine g_icmp_le 18 31 rfl rfl (by omega) (by omega) (fun c25 => absurd c25 (by omega)) (fun c25 => ?_)
        refine g_run 19 3 rfl ?_
        have e9 : sL z = 2 := if_neg (by omega)
        exact g_iret 22 rfl rfl trivial (by rw [e9]; exact ⟨rfl, rfl, rfl⟩)
      · refine g_run 19 3 rfl ?_
        have e9 : sL z = 1 := if_pos (by omega)
        exact g_iret 22 rfl rfl trivial (by rw [e9]; exact ⟨rfl, rfl, rfl⟩)
theorem j_gc1 (hK : KM Γ) (hv : 100 ≤ v) (hcap : cap ≤ 1000) (hvv : M v = cI 2 cap f) (z p : Int) (i : Nat) (hz : 0 ≤ z ∧ z ≤ 9) (hp : p = (i : Int) + 1) (hi : i + 1 ≤ cap) : Ct (e_L r0) Γ mJ6_getChars_ba4f3 0 0 0 [vI z, vI p, vR v] M n (e_wr (some (vI (i : Int))) n fun M' => M' = va_up M v (cI 2 cap (va_up f i (48 + z)))) := by
  refine g_start ok_J6_getChars_ba4f3 rfl rfl ?_
  refine g_low (fun hl => ?_)
  have h88 := k_ones hK hl
  have h89 := k_tens hK hl
  refine g_run 0 3 rfl ?_
  refine g_if_ge 3 11 rfl rfl (by omega) (fun c4 => ?_) (fun c4 => ?_)
  · refine g_run 6 3 rfl ?_
    refine g_if_ne 9 22 rfl rfl (by decide) (fun c16 => absurd c16 (by decide)) (fun _ => ?_)
    refine g_run 10 5 rfl ?_
    refine g_icmp_gt 15 72 rfl rfl (by omega) (by omega) (fun c25 => ?_) (fun c25 => ?_)
    · refine g_run 43 3 rfl ?_
      refine g_gets 46 rfl (e_mem 19 rfl) fs_RJ6_83 ?_
      refine g_run 47 2 rfl ?_
      refine g_bald 49 z.toNat rfl rfl h88 (by omega) (by omega) (by decide) ?_
      rw [show 48 + ((z.toNat : Nat) : Int) % 10 = 48 + z % 10 from by omega]
      refine g_bast 50 i rfl rfl (by decide) hvv (by first | rfl | omega) (by omega) (by omega) (by omega) (fun M84 hM84 => ?_)
      have k84_buf := (congrFun hM84 v).trans (va_up_self _ _ _)
      have k84_ones := (congrFun hM84 88).trans ((va_up_ne _ _ (by omega)).trans h88)
      have k84_tens := (congrFun hM84 89).trans ((va_up_ne _ _ (by omega)).trans h89)
      refine g_run 51 2 rfl ?_
      refine g_icmp_ge 53 104 rfl rfl (by omega) (by omega) (fun c88 => ?_) (fun c88 => ?_)
      · refine g_run 62 1 rfl ?_
        refine g_if_eq 63 118 rfl rfl (by decide) (fun _ => ?_) (fun c106 => absurd c106 (by decide))
        refine g_run 69 1 rfl ?_
        exact g_iret 70 rfl rfl (by first | exact trivial | exact Or.inl rfl | exact Or.inr rfl | (show _ ∨ _; omega)) ⟨by rw [show p + -1 = (i : Int) from by omega], rfl, by rw [hM84, show z % 10 = z from by omega]⟩
      · exact absurd c88 (by omega)
    · exact absurd c25 (by omega)
  · exact absurd c4 (by omega)
theorem j_gc2 (hK : KM Γ) (hv : 100 ≤ v) (hcap : cap ≤ 1000) (hvv : M v = cI 2 cap f) (z p : Int) (i : Nat) (hz : 10 ≤ z ∧ z ≤ 99) (hp : p = (i : Int) + 2) (hi : i + 2 ≤ cap) : Ct (e_L r0) Γ mJ6_getChars_ba4f3 0 0 0 [vI z, vI p, vR v] M n (e_wr (some (vI (i : Int))) n fun M' => M' = va_up M v (cI 2 cap (va_up (va_up f (i + 1) (48 + z % 10)) i (48 + z / 10)))) := by
  refine g_start ok_J6_getChars_ba4f3 rfl rfl ?_
  refine g_low (fun hl => ?_)
  have h88 := k_ones hK hl
  have h89 := k_tens hK hl
  refine g_run 0 3 rfl ?_
  refine g_if_ge 3 11 rfl rfl (by omega) (fun c4 => ?_) (fun c4 => ?_)
  · refine g_run 6 3 rfl ?_
    refine g_if_ne 9 22 rfl rfl (by decide) (fun c16 => absurd c16 (by decide)) (fun _ => ?_)
    refine g_run 10 5 rfl ?_
    refine g_icmp_gt 15 72 rfl rfl (by omega) (by omega) (fun c25 => ?_) (fun c25 => ?_)
    · refine g_run 43 3 rfl ?_
      refine g_gets 46 rfl (e_mem 19 rfl) fs_RJ6_83 ?_
      refine g_run 47 2 rfl ?_
      refine g_bald 49 z.toNat rfl rfl h88 (by omega) (by omega) (by decide) ?_
      rw [show 48 + ((z.toNat : Nat) : Int) % 10 = 48 + z % 10 from by omega]
      refine g_bast 50 (i + 1) rfl rfl (by decide) hvv (by first | rfl | omega) (by omega) (by omega) (by omega) (fun M84 hM84 => ?_)
      have k84_buf := (congrFun hM84 v).trans (va_up_self _ _ _)
      have k84_ones := (congrFun hM84 88).trans ((va_up_ne _ _ (by omega)).trans h88)
      have k84_tens := (congrFun hM84 89).trans ((va_up_ne _ _ (by omega)).trans h89)
      refine g_run 51 2 rfl ?_
      refine g_icmp_ge 53 104 rfl rfl (by omega) (by omega) (fun c88 => ?_) (fun c88 => ?_)
      · exact absurd c88 (by omega)
      · refine g_run 54 3 rfl ?_
        refine g_gets 57 rfl (e_mem 20 rfl) fs_RJ6_87 ?_
        refine g_run 58 2 rfl ?_
        refine g_bald 60 z.toNat rfl rfl k84_tens (by omega) (by omega) (by decide) ?_
        rw [show 48 + ((z.toNat : Nat) : Int) / 10 = 48 + z / 10 from by omega]
        refine g_bast 61 i rfl rfl (by decide) k84_buf (by first | rfl | omega) (by omega) (by omega) (by omega) (fun M103 hM103 => ?_)
        have k103_buf := (congrFun hM103 v).trans (va_up_self _ _ _)
        have k103_ones := (congrFun hM103 88).trans ((va_up_ne _ _ (by omega)).trans k84_ones)
        have k103_tens := (congrFun hM103 89).trans ((va_up_ne _ _ (by omega)).trans k84_tens)
        refine g_run 62 1 rfl ?_
        refine g_if_eq 63 118 rfl rfl (by decide) (fun _ => ?_) (fun c106 => absurd c106 (by decide))
        refine g_run 69 1 rfl ?_
        exact g_iret 70 rfl rfl (by first | exact trivial | exact Or.inl rfl | exact Or.inr rfl | (show _ ∨ _; omega)) ⟨by rw [show p + -1 + -1 = (i : Int) from by omega], rfl, by rw [hM103, hM84, up_up]⟩
    · exact absurd c25 (by omega)
  · exact absurd c4 (by omega)
theorem j_getChars (hK : KM Γ) (hv : 100 ≤ v) (hcap : cap ≤ 1000) (hvv : M v = cI 2 cap f) (z p : Int) (i : Nat) (hz : 0 ≤ z ∧ z ≤ 99) (hp : p = (i : Int) + sL z) (hi : i + sL z ≤ cap) : Ct (e_L r0) Γ mJ6_getChars_ba4f3 0 0 0 [vI z, vI p, vR v] M n (e_wr (some (vI (i : Int))) n fun M' => M' = va_up M v (cI 2 cap (sN f i z))) := by
  by_cases e : z < 10
  · have e1 : sL z = 1 := if_pos e
    rw [show sN f i z = va_up f i (48 + z) from if_pos e]
    rw [e1] at hp hi
    exact j_gc1 hK hv hcap hvv z p i (by omega) hp hi
  · have e1 : sL z = 2 := if_neg e
    rw [show sN f i z = va_up (va_up f (i + 1) (48 + z % 10)) i (48 + z / 10) from if_neg e]
    rw [e1] at hp hi
    exact j_gc2 hK hv hcap hvv z p i (by omega) hp hi
theorem sL_rng (z : Int) : 1 ≤ sL z ∧ sL z ≤ 2 := by unfold sL; split <;> omega
theorem j_appI5 (hK : KM Γ) (hP : PV Γ) (H : BM M b v cap c f) (z : Int) (hz : 0 ≤ z ∧ z ≤ 99) (h1 : c + sL z ≤ cap) : Ct (e_L r0) Γ mJ5_append_c97b9 5 0 0 [vR b, vI z] M n (e_wr (some (vR b)) n fun M' => BM M' b v cap (c + sL z) (sN f c z) ∧ e_f2 b v M M') := by
  have H0 := H
  obtain ⟨hb, hv, hbv, hcap, hc, ⟨x, hx01, hx⟩, hvv, hok⟩ := H0
  have qs := sL_rng z
  refine g_start ok_J5_append_c97b9 rfl rfl ?_
  refine g_run 0 1 rfl ?_
  refine g_get 1 rfl fl_RJ5_79 hx rfl ?_
  refine g_run 2 3 rfl ?_
  refine g_callS 5 rfl cs_RJ5_245 (j_size z hz) rfl rfl (by decide) (by omega) (by omega) (Nat.le_of_ble_eq_true rfl) (e_kr ?_) e_kx
  refine g_run 6 4 rfl ?_
  refine g_callP 10 hP rfl cp_RJ5_100 hx (j_ens hP H ((c : Int) + sL z) (by omega)) rfl rfl (by decide) (by omega) (by omega) (Nat.le_of_ble_eq_true rfl) (e_kr ?_) e_kx
  refine g_run 11 1 rfl ?_
  refine g_callV 12 rfl cv_RJ5_83 hx (j_isLatin1 H) rfl rfl (by decide) (by omega) (by omega) (Nat.le_of_ble_eq_true rfl) (e_kr ?_) e_kx
  refine g_if_eq 13 37 rfl rfl (by omega) (fun c21 => ?_) (fun c21 => ?_)
  · exact absurd c21 (by decide)
  · refine g_run 14 3 rfl ?_
    refine g_get 17 rfl fl_RJ5_15 hx rfl ?_
    refine g_callS 18 rfl cs_RJ5_248 (j_getChars hK hv hcap hvv z ((c : Int) + sL z) c hz rfl h1) rfl rfl (by decide) (by omega) (by omega) (Nat.le_of_ble_eq_true rfl) (e_kw fun M30 hM30 => ?_) e_kwx
    have k30_this := (congrFun hM30 b).trans ((va_up_ne _ _ (by omega)).trans hx)
    have k30_this_value := (congrFun hM30 v).trans (va_up_self _ _ _)
    refine g_run 19 2 rfl ?_
    refine g_run 28 2 rfl ?_
    refine g_put 30 rfl fp_RJ5_79 k30_this rfl trivial (fun M50 hM50 => ?_)
    have k50_this := (congrFun hM50 b).trans (va_up_self _ _ _)
    have k50_this_value := (congrFun hM50 v).trans ((va_up_ne _ _ (by omega)).trans k30_this_value)
    refine g_run 31 1 rfl ?_
    exact g_aret 32 rfl rfl (by first | exact Or.inl ⟨_, rfl⟩ | exact Or.inr ⟨_, rfl⟩) ⟨rfl, rfl, ⟨hb, hv, hbv, hcap, h1, ⟨x, hx01, k50_this⟩, k50_this_value, Bok_sN hok _ hz⟩, fun k q1 q2 => by rw [hM50, va_up_ne _ _ q1, hM30, va_up_ne _ _ q2]⟩
theorem j_appI (hK : KM Γ) (hP : PV Γ) (H : BM M b v cap c f) (z : Int) (hz : 0 ≤ z ∧ z ≤ 99) (h1 : c + sL z ≤ cap) : Ct (e_L r0) Γ mJ4_append_bf812 6 0 0 [vR b, vI z] M n (e_wr (some (vR b)) n fun M' => BM M' b v cap (c + sL z) (sN f c z) ∧ e_f2 b v M M') := by
  have H0 := H
  obtain ⟨hb, hv, hbv, hcap, hc, ⟨x, hx01, hx⟩, hvv, hok⟩ := H0
  refine g_start ok_J4_append_bf812 rfl rfl ?_
  refine g_run 0 2 rfl ?_
  refine g_callSU 2 rfl csu_RJ4_53 hx (j_appI5 hK hP H z hz h1) rfl rfl (by decide) (by omega) (by omega) (Nat.le_of_ble_eq_true rfl) (e_kw fun M2 hq2 => ?_) e_kwx
  refine g_run 3 2 rfl ?_
  exact g_aret 5 rfl rfl (by first | exact Or.inl ⟨_, rfl⟩ | exact Or.inr ⟨_, rfl⟩) ⟨rfl, rfl, hq2⟩
theorem j_newLen (o g p : Int) (ho : 0 ≤ o ∧ o ≤ 1000) (hg : 0 ≤ g ∧ g ≤ 1000) (hp : g ≤ p ∧ 1 ≤ p ∧ p ≤ 1100) : Ct (e_L r0) Γ mJ8_newLength_cabcc 0 0 0 [vI o, vI g, vI p] M n (e_rt (.inl (some (vI (o + p)))) M n) := by
  refine g_start ok_J8_newLength_cabcc rfl rfl ?_
  refine g_run 0 3 rfl ?_
  refine g_max 3 rfl cm_RJ8_194 (by omega) (by omega) (Nat.le_of_ble_eq_true rfl) ?_
  rw [show (if g < p then p else g) = p from by split <;> omega]
  refine g_run 4 4 rfl ?_
  refine g_icmp_ge 8 21 rfl rfl (by omega) (by omega) (fun c10 => ?_) (fun c10 => ?_)
  · exact absurd c10 (by omega)
  · refine g_run 9 1 rfl ?_
    refine g_ldcI 10 rfl lc_RJ8_200 ?_
    refine g_icmp_gt 11 21 rfl rfl (by omega) (by omega) (fun c16 => ?_) (fun c16 => ?_)
    · exact absurd c16 (by omega)
    · refine g_run 12 1 rfl ?_
      exact g_iret 13 rfl rfl (by first | exact trivial | exact Or.inl rfl | exact Or.inr rfl | (show _ ∨ _; omega)) ⟨rfl, rfl, rfl⟩
theorem j_newCap (H : BM M b v cap c f) (hq : cap ≤ 400) (z : Int) (hz : z = (cap : Int) + 1) : Ct (e_L r0) Γ mJ5_newCapacity_0f7a4 1 0 0 [vR b, vI z] M n (e_rt (.inl (some (vI ((cap : Int) + ((cap : Int) + 2))))) M n) := by
  have H0 := H
  obtain ⟨hb, hv, hbv, hcap, hc, ⟨x, hx01, hx⟩, hvv, hok⟩ := H0
  refine g_start ok_J5_newCapacity_0f7a4 rfl rfl ?_
  refine g_run 0 1 rfl ?_
  refine g_get 1 rfl fl_RJ5_15 hx rfl ?_
  refine g_alen 2 rfl hvv ?_
  dsimp only
  refine g_run 3 3 rfl ?_
  refine g_get 6 rfl fl_RJ5_22 hx rfl ?_
  refine g_ishl 7 rfl sx_shl0 ?_
  refine g_run 8 10 rfl ?_
  refine g_get 18 rfl fl_RJ5_22 hx rfl ?_
  refine g_ishl 19 rfl sx_shl0 ?_
  refine g_run 20 1 rfl ?_
  refine g_callS 21 rfl cs_RJ5_114 (j_newLen (cap : Int) (z - cap) ((cap : Int) + 2) (by omega) (by omega) (by omega)) rfl rfl (by decide) (by omega) (by omega) (Nat.le_of_ble_eq_true rfl) (e_kr ?_) e_kx
  refine g_run 22 2 rfl ?_
  refine g_ldcI 24 rfl lc_RJ5_39 ?_
  refine g_icmp_ne 25 51 rfl rfl (by omega) (by omega) (fun c38 => ?_) (fun c38 => ?_)
  · refine g_run 31 2 rfl ?_
    refine g_get 33 rfl fl_RJ5_22 hx rfl ?_
    refine g_ishr 34 rfl sx_shr0 ?_
    exact g_iret 35 rfl rfl (by first | exact trivial | exact Or.inl rfl | exact Or.inr rfl | (show _ ∨ _; omega)) ⟨rfl, rfl, rfl⟩
  · exact absurd c38 (by omega)
theorem j_copyOf (hv : 100 ≤ v) (hvn : v < n) (hvv : M v = cI 2 cap f) (hcap : cap ≤ 1000) (hok : Bok f) (z : Int) (q : Nat) (hz : z = q) (hq : cap < q ∧ q ≤ 1000) : Ct (e_L r0) Γ mJ7_copyOf_9075b 0 1 q [vR v, vI z] M n (e_wr (some (vR n)) (n + 1) fun M' => M' = va_up M n (cI 2 q (va_cpy f (fun _ => 0) 0 0 cap))) := by
  subst hz
  refine g_start ok_J7_copyOf_9075b rfl rfl ?_
  refine g_run 0 2 rfl ?_
  refine g_alen 2 rfl hvv ?_
  dsimp only
  refine g_icmp_ne 3 14 rfl rfl (by omega) (by omega) (fun c3 => ?_) (fun c3 => ?_)
  · refine g_run 8 1 rfl ?_
    refine g_newaI (kd := 2) 9 q rfl (by decide) rfl ac_B rfl (by omega) (by omega) (by omega) (fun M15 hM15 => ?_)
    have k15_arr := (congrFun hM15 v).trans ((va_up_ne _ _ (by omega)).trans hvv)
    have k15_new := (congrFun hM15 n).trans (va_up_self _ _ _)
    refine g_run 10 6 rfl ?_
    refine g_alen 16 rfl k15_arr ?_
    dsimp only
    refine g_run 17 1 rfl ?_
    refine g_min 18 rfl cm_RJ7_304 (by omega) (by omega) (Nat.le_of_ble_eq_true rfl) ?_
    rw [show (if (q : Int) < ((cap : Nat) : Int) then (q : Int) else ((cap : Nat) : Int)) = (cap : Int) from if_neg (by omega)]
    refine g_copy 19 0 0 cap rfl cy9_RJ7_150 (by decide) k15_arr k15_new rfl rfl rfl (by omega) (by omega) (by omega) (by omega) (fun j _ => by have := hok (0 + j); show -128 ≤ _ ∧ _ ≤ 127; omega) (Nat.le_of_ble_eq_true rfl) (fun M28 hM28 => ?_)
    have k28_arr := (congrFun hM28 v).trans ((va_up_ne _ _ (by omega)).trans k15_arr)
    have k28_new := (congrFun hM28 n).trans (va_up_self _ _ _)
    refine g_run 20 1 rfl ?_
    exact g_aret 21 rfl rfl (by first | exact Or.inl ⟨_, rfl⟩ | exact Or.inr ⟨_, rfl⟩) ⟨rfl, rfl, by rw [hM28, hM15, up_up]⟩
  · exact absurd c3 (by omega)
theorem j_ensG (hP : PV Γ) (H : BM M b v cap cap f) (hbn : b < n) (hvn : v < n) (hq : cap ≤ 400) : Ct (e_L r0) Γ mJ5_ensureCapacityInternal_d00df 4 1 (cap + 2 + cap) [vR b, vI ((cap : Int) + 1)] M n (e_wr none (n + 1) fun M' => BM M' b n (cap + 2 + cap) cap (va_cpy f (fun _ => 0) 0 0 cap) ∧ e_f2 b n M M') := by
  have H0 := H
  obtain ⟨hb, hv, hbv, hcap, hc, ⟨x, hx01, hx⟩, hvv, hok⟩ := H0
  refine g_start ok_J5_ensureCapacityInternal_d00df rfl rfl ?_
  refine g_run 0 1 rfl ?_
  refine g_get 1 rfl fl_RJ5_15 hx rfl ?_
  refine g_alen 2 rfl hvv ?_
  dsimp only
  refine g_run 3 1 rfl ?_
  refine g_get 4 rfl fl_RJ5_22 hx rfl ?_
  refine g_ishr 5 rfl sx_shr0 ?_
  refine g_run 6 4 rfl ?_
  refine g_if_le 10 38 rfl rfl (by omega) (fun c14 => ?_) (fun c14 => ?_)
  · exact absurd c14 (by omega)
  · refine g_run 11 2 rfl ?_
    refine g_get 13 rfl fl_RJ5_15 hx rfl ?_
    refine g_run 14 2 rfl ?_
    refine g_callP 16 hP rfl cp_RJ5_104 hx (j_newCap H hq ((cap : Int) + 1) rfl) rfl rfl (by decide) (by omega) (by omega) (Nat.le_of_ble_eq_true rfl) (e_kr ?_) e_kx
    refine g_run 17 1 rfl ?_
    refine g_get 18 rfl fl_RJ5_22 hx rfl ?_
    refine g_ishl 19 rfl sx_shl0 ?_
    refine g_callS 20 rfl cs_RJ5_108 (j_copyOf hv hvn hvv hcap hok ((cap : Int) + ((cap : Int) + 2)) (cap + 2 + cap) (by omega) (by omega)) rfl rfl (by decide) (by omega) (by omega) (Nat.le_of_ble_eq_true rfl) (e_kw fun M32 hM32 => ?_) e_kwx
    have k32_this := (congrFun hM32 b).trans ((va_up_ne _ _ (by omega)).trans hx)
    have k32_new := (congrFun hM32 n).trans (va_up_self _ _ _)
    refine g_put 21 rfl fp_RJ5_15 k32_this rfl trivial (fun M35 hM35 => ?_)
    have k35_this := (congrFun hM35 b).trans (va_up_self _ _ _)
    have k35_new := (congrFun hM35 n).trans ((va_up_ne _ _ (by omega)).trans k32_new)
    exact g_vret 22 rfl rfl ⟨rfl, rfl, ⟨hb, by omega, by omega, by omega, by omega, ⟨x, hx01, k35_this⟩, k35_new, Bok_cpy hok cap⟩, fun k q1 q2 => by rw [hM35, va_up_ne _ _ q1, hM32, va_up_ne _ _ q2]⟩
theorem j_appC5G (hP : PV Γ) (H : BM M b v cap cap f) (hbn : b < n) (hvn : v < n) (hq : cap ≤ 400) (z : Int) (hz : 0 ≤ z ∧ z ≤ 127) : Ct (e_L r0) Γ mJ5_append_3fe6f 5 1 (cap + 2 + cap) [vR b, vI z] M n (e_wr (some (vR b)) (n + 1) fun M' => BM M' b n (cap + 2 + cap) (cap + 1) (va_up (va_cpy f (fun _ => 0) 0 0 cap) cap z) ∧ e_f2 b n M M') := by
  have H0 := H
  obtain ⟨hb, hv, hbv, hcap, hc, ⟨x, hx01, hx⟩, hvv, hok⟩ := H0
  refine g_start ok_J5_append_3fe6f rfl rfl ?_
  refine g_run 0 2 rfl ?_
  refine g_get 2 rfl fl_RJ5_79 hx rfl ?_
  refine g_run 3 2 rfl ?_
  refine g_callP 5 hP rfl cp_RJ5_100 hx (j_ensG hP H hbn hvn hq) rfl rfl (by decide) (by omega) (by omega) (Nat.le_of_ble_eq_true rfl) (e_kw fun M7 hq7 => ?_) e_kwx
  have H7 := hq7.1
  obtain ⟨hb2, hv2, hbv2, hcap2, hc2, ⟨x2, hx012, hx2⟩, hvv2, hok2⟩ := H7
  refine g_run 6 1 rfl ?_
  refine g_callV 7 rfl cv_RJ5_83 hx2 (j_isLatin1 hq7.1) rfl rfl (by decide) (by omega) (by omega) (Nat.le_of_ble_eq_true rfl) (e_kr ?_) e_kx
  refine g_if_eq 8 45 rfl rfl (by omega) (fun c14 => ?_) (fun c14 => ?_)
  · exact absurd c14 (by decide)
  · refine g_run 9 1 rfl ?_
    refine g_callS 10 rfl cs_RJ5_191 (j_canEnc z hz) rfl rfl (by decide) (by omega) (by omega) (Nat.le_of_ble_eq_true rfl) (e_kr ?_) e_kx
    refine g_if_eq 11 45 rfl rfl (by omega) (fun c21 => ?_) (fun c21 => ?_)
    · exact absurd c21 (by decide)
    · refine g_run 12 1 rfl ?_
      refine g_get 13 rfl fl_RJ5_15 hx2 rfl ?_
      refine g_run 14 2 rfl ?_
      refine g_get 16 rfl fl_RJ5_79 hx2 rfl ?_
      refine g_run 17 3 rfl ?_
      refine g_put 20 rfl fp_RJ5_79 hx2 rfl trivial (fun M36 hM36 => ?_)
      have k36_this := (congrFun hM36 b).trans (va_up_self _ _ _)
      have k36_this_value := (congrFun hM36 n).trans ((va_up_ne _ _ (by omega)).trans hvv2)
      refine g_run 21 1 rfl ?_
      refine g_i2b 22 rfl (e_nbz (by omega)).1 ?_
      refine g_bast 23 cap rfl rfl (by decide) k36_this_value (by first | rfl | omega) (by omega) (by omega) (by omega) (fun M41 hM41 => ?_)
      have k41_this := (congrFun hM41 b).trans ((va_up_ne _ _ (by omega)).trans k36_this)
      have k41_this_value := (congrFun hM41 n).trans (va_up_self _ _ _)
      refine g_run 24 1 rfl ?_
      refine g_run 41 1 rfl ?_
      exact g_aret 42 rfl rfl (by first | exact Or.inl ⟨_, rfl⟩ | exact Or.inr ⟨_, rfl⟩) ⟨rfl, rfl, ⟨hb, hv2, hbv2, hcap2, by omega, ⟨x2, hx012, k41_this⟩, k41_this_value, Bok_up hok2 _ hz⟩, fun k q1 q2 => by rw [hM41, va_up_ne _ _ q2, hM36, va_up_ne _ _ q1]; exact hq7.2 k q1 q2⟩
theorem j_appCG (hP : PV Γ) (H : BM M b v cap cap f) (hbn : b < n) (hvn : v < n) (hq : cap ≤ 400) (z : Int) (hz : 0 ≤ z ∧ z ≤ 127) : Ct (e_L r0) Γ mJ4_append_cf468 6 1 (cap + 2 + cap) [vR b, vI z] M n (e_wr (some (vR b)) (n + 1) fun M' => BM M' b n (cap + 2 + cap) (cap + 1) (va_up (va_cpy f (fun _ => 0) 0 0 cap) cap z) ∧ e_f2 b n M M') := by
  have H0 := H
  obtain ⟨hb, hv, hbv, hcap, hc, ⟨x, hx01, hx⟩, hvv, hok⟩ := H0
  refine g_start ok_J4_append_cf468 rfl rfl ?_
  refine g_run 0 2 rfl ?_
  refine g_callSU 2 rfl csu_RJ4_50 hx (j_appC5G hP H hbn hvn hq z hz) rfl rfl (by decide) (by omega) (by omega) (Nat.le_of_ble_eq_true rfl) (e_kw fun M2 hq2 => ?_) e_kwx
  refine g_run 3 2 rfl ?_
  exact g_aret 5 rfl rfl (by first | exact Or.inl ⟨_, rfl⟩ | exact Or.inr ⟨_, rfl⟩) ⟨rfl, rfl, hq2⟩
theorem j_init5 (hb : 100 ≤ b) (hn : n = b + 1) (h : M b = cO 1 [vN, vI 0, vI 0, vI 0]) : Ct (e_L r0) Γ mJ5_init_d00df 0 1 16 [vR b, vI 16] M n (e_wr none (b + 2) fun M' => BM M' b (b + 1) 16 0 (fun _ => 0) ∧ e_fr b (b + 2) M M') := by
  refine g_start ok_J5_init_d00df rfl rfl ?_
  refine g_run 0 1 rfl ?_
  refine g_obj 1 rfl co_RJ5_3 (Nat.le_of_ble_eq_true rfl) ?_
  refine g_gets 2 rfl (e_mem 18 rfl) fs_RJ5_18 ?_
  refine g_if_eq 3 25 rfl rfl (by decide) (fun c7 => absurd c7 (by decide)) (fun _ => ?_)
  refine g_run 4 2 rfl ?_
  refine g_newaI (kd := 2) 6 16 rfl (by decide) rfl ac_B rfl (by omega) (by omega) (by omega) (fun M12 hM12 => ?_)
  have k12_this := (congrFun hM12 b).trans ((va_up_ne _ _ (by omega)).trans h)
  have k12_new := (congrFun hM12 n).trans (va_up_self _ _ _)
  refine g_put 7 rfl fp_RJ5_15 k12_this rfl trivial (fun M14 hM14 => ?_)
  have k14_this := (congrFun hM14 b).trans (va_up_self _ _ _)
  have k14_new := (congrFun hM14 n).trans ((va_up_ne _ _ (by omega)).trans k12_new)
  refine g_run 8 2 rfl ?_
  refine g_put 10 rfl fp_RJ5_22 k14_this rfl (by show -128 ≤ (0 : Int) ∧ (0 : Int) ≤ 127; omega) (fun M19 hM19 => ?_)
  have k19_this := (congrFun hM19 b).trans (va_up_self _ _ _)
  have k19_new := (congrFun hM19 n).trans ((va_up_ne _ _ (by omega)).trans k14_new)
  refine g_run 11 1 rfl ?_
  subst hn
  exact g_vret 19 rfl rfl ⟨rfl, rfl, ⟨hb, by omega, by omega, by omega, by omega, ⟨0, Or.inl rfl, k19_this⟩, k19_new, Bok_0⟩, fun k hk => by rw [hM19, va_up_ne _ _ (by omega), hM14, va_up_ne _ _ (by omega), hM12, va_up_ne _ _ (by omega)]⟩
theorem j_init (hb : 100 ≤ b) (hn : n = b + 1) (h : M b = cO 1 [vN, vI 0, vI 0, vI 0]) : Ct (e_L r0) Γ mJ4_init_da8c8 1 1 16 [vR b] M n (e_wr none (b + 2) fun M' => BM M' b (b + 1) 16 0 (fun _ => 0) ∧ e_fr b (b + 2) M M') := by
  refine g_start ok_J4_init_da8c8 rfl rfl ?_
  refine g_run 0 2 rfl ?_
  refine g_callI 2 rfl ci_RJ4_1 (j_init5 hb hn h) rfl rfl (by decide) (by omega) (by omega) (Nat.le_of_ble_eq_true rfl) (e_kw fun M2 hq2 => ?_) e_kwx
  exact g_vret 3 rfl rfl ⟨rfl, rfl, hq2⟩
section ST
variable {k len : Nat} {g : Nat → Int}
theorem j_coder (hk : k < 100) (hM : M k = cO 22 [vR (k + 10), vI 0]) : Ct (e_L r0) Γ mJ0_coder_7d493 0 0 0 [vR k] M n (e_rt (.inl (some (vI 0))) M n) := by
  refine g_start ok_J0_coder_7d493 rfl rfl ?_
  refine g_gets 0 rfl (e_mem 18 rfl) fs_RJ0_38 ?_
  refine g_if_eq 1 13 rfl rfl (by decide) (fun c3 => absurd c3 (by decide)) (fun _ => ?_)
  refine g_run 2 1 rfl ?_
  refine g_getC 3 rfl fc22_RJ0_15 hk hM rfl ?_
  refine g_run 4 1 rfl ?_
  exact g_iret 6 rfl rfl (by show -128 ≤ (0 : Int) ∧ (0 : Int) ≤ 127; omega) ⟨rfl, rfl, rfl⟩
theorem j_sLat (hk : k < 100) (hM : M k = cO 22 [vR (k + 10), vI 0]) : Ct (e_L r0) Γ mJ0_isLatin1_aae02 0 0 0 [vR k] M n (e_rt (.inl (some (vI 1))) M n) := by
  refine g_start ok_J0_isLatin1_aae02 rfl rfl ?_
  refine g_gets 0 rfl (e_mem 18 rfl) fs_RJ0_38 ?_
  refine g_if_eq 1 17 rfl rfl (by decide) (fun c3 => absurd c3 (by decide)) (fun _ => ?_)
  refine g_run 2 1 rfl ?_
  refine g_getC 3 rfl fc22_RJ0_15 hk hM rfl ?_
  refine g_if_ne 4 17 rfl rfl (by omega) (fun c10 => ?_) (fun c10 => ?_)
  · exact absurd rfl c10
  · refine g_run 5 2 rfl ?_
    exact g_iret 8 rfl rfl (by first | exact trivial | exact Or.inl rfl | exact Or.inr rfl | (show _ ∨ _; omega)) ⟨rfl, rfl, rfl⟩
theorem j_slen (hk : k < 100) (hM : M k = cO 22 [vR (k + 10), vI 0]) (hV : M (k + 10) = cI 11 len g) (hl : len ≤ 1000) : Ct (e_L r0) Γ mJ0_length_8abf5 1 0 0 [vR k] M n (e_rt (.inl (some (vI (len : Int)))) M n) := by
  refine g_start ok_J0_length_8abf5 rfl rfl ?_
  refine g_run 0 1 rfl ?_
  refine g_getC 1 rfl fc22_RJ0_9 hk hM rfl ?_
  refine g_alen 2 rfl hV ?_
  dsimp only
  refine g_run 3 1 rfl ?_
  refine g_callV 4 rfl cv_RJ0_335 hM (j_coder hk hM) rfl rfl (by decide) (by omega) (by omega) (Nat.le_of_ble_eq_true rfl) (e_kr ?_) e_kx
  refine g_ishr 5 rfl sx_shr0 ?_
  exact g_iret 6 rfl rfl (by first | exact trivial | exact Or.inl rfl | exact Or.inr rfl | (show _ ∨ _; omega)) ⟨rfl, rfl, rfl⟩
theorem j_chr1 {a : Nat} (hV : M a = cI 11 len g) (hl : len ≤ 1000) (i : Nat) (hi : i < len) (hg : 0 ≤ g i ∧ g i ≤ 127) : Ct (e_L r0) Γ mJ1_charAt_3b067 2 0 0 [vR a, vI (i : Int)] M n (e_rt (.inl (some (vI (g i)))) M n) := by
  refine g_start ok_J1_charAt_3b067 rfl rfl ?_
  refine g_run 0 2 rfl ?_
  refine g_alen 2 rfl hV ?_
  dsimp only
  refine g_callS 3 rfl cs_RJ1_9 (j_chk0 (i : Int) (len : Int) (by omega) (by omega)) rfl rfl (by decide) (by omega) (by omega) (Nat.le_of_ble_eq_true rfl) (e_kr ?_) e_kx
  refine g_run 4 2 rfl ?_
  refine g_bald 6 i rfl rfl hV (by first | rfl | omega) (by omega) (by omega) ?_
  refine g_run 7 1 rfl ?_
  refine g_iand 8 rfl (sx_and (by omega)) ?_
  refine g_i2c 9 rfl (sx_i2c (by omega)) ?_
  exact g_cret 10 rfl rfl (by omega) ⟨rfl, rfl, rfl⟩
theorem j_schr (hk : k < 100) (hM : M k = cO 22 [vR (k + 10), vI 0]) (hV : M (k + 10) = cI 11 len g) (hl : len ≤ 1000) (i : Nat) (hi : i < len) (hg : 0 ≤ g i ∧ g i ≤ 127) : Ct (e_L r0) Γ mJ0_charAt_5068e 3 0 0 [vR k, vI (i : Int)] M n (e_rt (.inl (some (vI (g i)))) M n) := by
  refine g_start ok_J0_charAt_5068e rfl rfl ?_
  refine g_run 0 1 rfl ?_
  refine g_callV 1 rfl cv_RJ0_492 hM (j_sLat hk hM) rfl rfl (by decide) (by omega) (by omega) (Nat.le_of_ble_eq_true rfl) (e_kr ?_) e_kx
  refine g_if_eq 2 16 rfl rfl (by omega) (fun c4 => ?_) (fun c4 => ?_)
  · exact absurd c4 (by decide)
  · refine g_run 3 1 rfl ?_
    refine g_getC 4 rfl fc22_RJ0_9 hk hM rfl ?_
    refine g_run 5 1 rfl ?_
    refine g_callS 6 rfl cs_RJ0_495 (j_chr1 hV hl i hi hg) rfl rfl (by decide) (by omega) (by omega) (Nat.le_of_ble_eq_true rfl) (e_kr ?_) e_kx
    exact g_cret 7 rfl rfl (by omega) ⟨rfl, rfl, rfl⟩
end ST
end JD
