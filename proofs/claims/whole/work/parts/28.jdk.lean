/-! the library's texts: StringBuilder, String, Integer (wip/whole/gen/c_jdk.py prints this part) -/
def Bok (f : Nat → Int) : Prop := ∀ j, 0 ≤ f j ∧ f j ≤ 127
/-- a builder at b with its bytes at v: capacity, length, characters -/
def BM (M : Mem) (b v cap c : Nat) (f : Nat → Int) : Prop := 100 ≤ b ∧ 100 ≤ v ∧ b ≠ v ∧ cap ≤ 1000 ∧ c ≤ cap ∧ (∃ x : Int, (x = 0 ∨ x = 1) ∧ M b = cO 1 [vR v, vI 0, vI x, vI (c : Int)]) ∧ M v = cI 2 cap f ∧ Bok f
def e_f2 (b v : Nat) (M M' : Mem) : Prop := ∀ k, k ≠ b → k ≠ v → M' k = M k
theorem BM_fr {M M' : Mem} {b v cap c : Nat} {f : Nat → Int} (h : BM M b v cap c f) (h1 : M' b = M b) (h2 : M' v = M v) : BM M' b v cap c f := by
  obtain ⟨a1, a2, a3, a4, a5, ⟨x, a6, a7⟩, a8, a9⟩ := h
  exact ⟨a1, a2, a3, a4, a5, ⟨x, a6, h1.trans a7⟩, h2.trans a8, a9⟩
theorem Bok_up {f : Nat → Int} (h : Bok f) (k : Nat) {z : Int} (hz : 0 ≤ z ∧ z ≤ 127) : Bok (va_up f k z) := fun j => by
  by_cases e : j = k
  · subst e; rw [va_up_self]; exact hz
  · rw [va_up_ne _ _ e]; exact h j
theorem Bok_0 : Bok (fun _ => 0) := fun _ => by show (0 : Int) ≤ 0 ∧ (0 : Int) ≤ 127; omega
theorem Bok_cpy {f : Nat → Int} (h : Bok f) (k : Nat) : Bok (va_cpy f (fun _ => 0) 0 0 k) := fun j => by
  unfold va_cpy
  split
  · exact h _
  · show (0 : Int) ≤ 0 ∧ (0 : Int) ≤ 127; omega
def sL (w : Int) : Nat := if w < 10 then 1 else 2
def sN (f : Nat → Int) (c : Nat) (w : Int) : Nat → Int := if w < 10 then va_up f c (48 + w) else va_up (va_up f (c + 1) (48 + w % 10)) c (48 + w / 10)
theorem Bok_sN {f : Nat → Int} (h : Bok f) (c : Nat) {w : Int} (hw : 0 ≤ w ∧ w ≤ 99) : Bok (sN f c w) := by
  unfold sN
  split
  · exact Bok_up h _ (by omega)
  · exact Bok_up (Bok_up h _ (by omega)) _ (by omega)
theorem k_ones {Γ : Cx} {M : Mem} (hK : KM Γ) (hl : ∀ k, k < 100 → M k = Γ.cM k) : M 88 = cI 11 100 (fun j => 48 + (j : Int) % 10) := by
  obtain ⟨L, xs, e⟩ := hK
  rw [hl 88 (by decide), e]
  rfl
theorem k_tens {Γ : Cx} {M : Mem} (hK : KM Γ) (hl : ∀ k, k < 100 → M k = Γ.cM k) : M 89 = cI 11 100 (fun j => 48 + (j : Int) / 10) := by
  obtain ⟨L, xs, e⟩ := hK
  rw [hl 89 (by decide), e]
  rfl
section JD
variable {r0 : Option Nat} {Γ : Cx} {M : Mem} {n b v cap c : Nat} {f : Nat → Int}
theorem j_isLatin1 (H : BM M b v cap c f) : Ct (e_L r0) Γ mJ5_isLatin1_aae02 0 0 0 [vR b] M n (e_rt (.inl (some (vI 1))) M n) := by
  obtain ⟨hb, hv, hbv, hcap, hc, ⟨x, hx01, hx⟩, hvv, hok⟩ := H
  refine g_start ok_J5_isLatin1_aae02 rfl rfl ?_
  refine g_gets 0 rfl (e_mem 18 rfl) fs_RJ5_18 ?_
  refine g_if_eq 1 17 rfl rfl (by decide) (fun c3 => absurd c3 (by decide)) (fun _ => ?_)
  refine g_run 2 1 rfl ?_
  refine g_get 3 rfl fl_RJ5_22 hx rfl ?_
  refine g_if_ne 4 17 rfl rfl (by omega) (fun c10 => ?_) (fun c10 => ?_)
  · exact absurd rfl c10
  · refine g_run 5 2 rfl ?_
    exact g_iret 8 rfl rfl (by first | exact trivial | exact Or.inl rfl | exact Or.inr rfl | (show _ ∨ _; omega)) ⟨rfl, rfl, rfl⟩
theorem j_len5 (H : BM M b v cap c f) : Ct (e_L r0) Γ mJ5_length_8abf5 0 0 0 [vR b] M n (e_rt (.inl (some (vI (c : Int)))) M n) := by
  obtain ⟨hb, hv, hbv, hcap, hc, ⟨x, hx01, hx⟩, hvv, hok⟩ := H
  refine g_start ok_J5_length_8abf5 rfl rfl ?_
  refine g_run 0 1 rfl ?_
  refine g_get 1 rfl fl_RJ5_79 hx rfl ?_
  exact g_iret 2 rfl rfl (by first | exact trivial | exact Or.inl rfl | exact Or.inr rfl | (show _ ∨ _; omega)) ⟨rfl, rfl, rfl⟩
theorem j_length (H : BM M b v cap c f) : Ct (e_L r0) Γ mJ4_length_8abf5 1 0 0 [vR b] M n (e_rt (.inl (some (vI (c : Int)))) M n) := by
  have H0 := H
  obtain ⟨hb, hv, hbv, hcap, hc, ⟨x, hx01, hx⟩, hvv, hok⟩ := H0
  refine g_start ok_J4_length_8abf5 rfl rfl ?_
  refine g_run 0 1 rfl ?_
  refine g_callSU 1 rfl csu_RJ4_343 hx (j_len5 H) rfl rfl (by decide) (by omega) (by omega) (Nat.le_of_ble_eq_true rfl) (e_kr ?_) e_kx
  exact g_iret 2 rfl rfl (by first | exact trivial | exact Or.inl rfl | exact Or.inr rfl | (show _ ∨ _; omega)) ⟨rfl, rfl, rfl⟩
theorem j_chk3 (i l : Int) (hi : 0 ≤ i ∧ i < l) (hl : l ≤ 2147483647) (o : Option Nat) : Ct (e_L r0) Γ mJ3_checkIndex_8e157 0 0 0 [vI i, vI l, vO o] M n (e_rt (.inl (some (vI i))) M n) := by
  refine g_start ok_J3_checkIndex_8e157 rfl rfl ?_
  refine g_run 0 1 rfl ?_
  refine g_if_lt 1 9 rfl rfl (by omega) (fun c1 => ?_) (fun c1 => ?_)
  · exact absurd c1 (by omega)
  · refine g_run 2 2 rfl ?_
    refine g_icmp_lt 4 16 rfl rfl (by omega) (by omega) (fun c6 => ?_) (fun c6 => ?_)
    · refine g_run 10 1 rfl ?_
      exact g_iret 11 rfl rfl (by first | exact trivial | exact Or.inl rfl | exact Or.inr rfl | (show _ ∨ _; omega)) ⟨rfl, rfl, rfl⟩
    · exact absurd c6 (by omega)
theorem j_chk0 (i l : Int) (hi : 0 ≤ i ∧ i < l) (hl : l ≤ 2147483647) : Ct (e_L r0) Γ mJ0_checkIndex_df160 1 0 0 [vI i, vI l] M n (e_rt (.inl none) M n) := by
  refine g_start ok_J0_checkIndex_df160 rfl rfl ?_
  refine g_run 0 2 rfl ?_
  refine g_gets 2 rfl (e_mem 21 rfl) fs_RJ0_1053 ?_
  refine g_callS 3 rfl cs_RJ0_1059 (j_chk3 i l hi hl r0) rfl rfl (by decide) (by omega) (by omega) (Nat.le_of_ble_eq_true rfl) (e_kr ?_) e_kx
  refine g_run 4 1 rfl ?_
  exact g_vret 5 rfl rfl ⟨rfl, rfl, rfl⟩
theorem j_charAt5 (H : BM M b v cap c f) (i : Nat) (hi : i < c) : Ct (e_L r0) Γ mJ5_charAt_5068e 2 0 0 [vR b, vI (i : Int)] M n (e_rt (.inl (some (vI (f i)))) M n) := by
  have H0 := H
  obtain ⟨hb, hv, hbv, hcap, hc, ⟨x, hx01, hx⟩, hvv, hok⟩ := H0
  have qf := hok i
  refine g_start ok_J5_charAt_5068e rfl rfl ?_
  refine g_run 0 1 rfl ?_
  refine g_get 1 rfl fl_RJ5_22 hx rfl ?_
  refine g_run 2 2 rfl ?_
  refine g_get 4 rfl fl_RJ5_15 hx rfl ?_
  refine g_run 5 2 rfl ?_
  refine g_get 7 rfl fl_RJ5_79 hx rfl ?_
  refine g_run 8 1 rfl ?_
  refine g_alen 9 rfl hvv ?_
  refine g_run 10 1 rfl ?_
  refine g_ishr 11 rfl sx_shr0 ?_
  refine g_min 12 rfl cm_RJ5_138 (by omega) (by show -2147483648 ≤ ((cap : Nat) : Int) ∧ ((cap : Nat) : Int) ≤ 2147483647; omega) (Nat.le_of_ble_eq_true rfl) ?_
  rw [show (if ((cap : Nat) : Int) < (c : Int) then ((cap : Nat) : Int) else (c : Int)) = c from if_neg (by omega)]
  refine g_run 13 3 rfl ?_
  refine g_callS 16 rfl cs_RJ5_144 (j_chk0 (i : Int) (c : Int) (by omega) (by omega)) rfl rfl (by decide) (by omega) (by omega) (Nat.le_of_ble_eq_true rfl) (e_kr ?_) e_kx
  refine g_run 17 1 rfl ?_
  refine g_if_ne 18 42 rfl rfl (by omega) (fun c30 => ?_) (fun c30 => ?_)
  · exact absurd rfl c30
  · refine g_run 19 2 rfl ?_
    refine g_bald 21 i rfl rfl hvv (by first | rfl | omega) (by omega) (by omega) ?_
    refine g_run 22 1 rfl ?_
    refine g_iand 23 rfl (sx_and (by omega)) ?_
    refine g_i2c 24 rfl (sx_i2c (by omega)) ?_
    exact g_cret 25 rfl rfl (by omega) ⟨rfl, rfl, rfl⟩
theorem j_charAt (H : BM M b v cap c f) (i : Nat) (hi : i < c) : Ct (e_L r0) Γ mJ4_charAt_5068e 3 0 0 [vR b, vI (i : Int)] M n (e_rt (.inl (some (vI (f i)))) M n) := by
  have H0 := H
  obtain ⟨hb, hv, hbv, hcap, hc, ⟨x, hx01, hx⟩, hvv, hok⟩ := H0
  have qf := hok i
  refine g_start ok_J4_charAt_5068e rfl rfl ?_
  refine g_run 0 2 rfl ?_
  refine g_callSU 2 rfl csu_RJ4_329 hx (j_charAt5 H i hi) rfl rfl (by decide) (by omega) (by omega) (Nat.le_of_ble_eq_true rfl) (e_kr ?_) e_kx
  exact g_cret 3 rfl rfl (by omega) ⟨rfl, rfl, rfl⟩
theorem j_ens (hP : PV Γ) (H : BM M b v cap c f) (z : Int) (hz : -1000 ≤ z ∧ z ≤ cap) : Ct (e_L r0) Γ mJ5_ensureCapacityInternal_d00df 4 0 0 [vR b, vI z] M n (e_rt (.inl none) M n) := by
  have H0 := H
  obtain ⟨hb, hv, hbv, hcap, hc, ⟨x, hx01, hx⟩, hvv, hok⟩ := H0
  refine g_start ok_J5_ensureCapacityInternal_d00df rfl rfl ?_
  refine g_run 0 1 rfl ?_
  refine g_get 1 rfl fl_RJ5_15 hx rfl ?_
  refine g_alen 2 rfl hvv ?_
  refine g_run 3 1 rfl ?_
  refine g_get 4 rfl fl_RJ5_22 hx rfl ?_
  refine g_ishr 5 rfl sx_shr0 ?_
  dsimp only
  refine g_run 6 4 rfl ?_
  refine g_if_le 10 38 rfl rfl (by omega) (fun c14 => ?_) (fun c14 => ?_)
  · exact g_vret 22 rfl rfl ⟨rfl, rfl, rfl⟩
  · exact absurd c14 (by omega)
theorem j_set5 (hP : PV Γ) (H : BM M b v cap c f) : Ct (e_L r0) Γ mJ5_setLength_d00df 5 0 0 [vR b, vI 0] M n (e_wr none n fun M' => BM M' b v cap 0 f ∧ e_f2 b v M M') := by
  have H0 := H
  obtain ⟨hb, hv, hbv, hcap, hc, ⟨x, hx01, hx⟩, hvv, hok⟩ := H0
  refine g_start ok_J5_setLength_d00df rfl rfl ?_
  refine g_run 0 1 rfl ?_
  refine g_if_ge 1 13 rfl rfl (by decide) (fun _ => ?_) (fun c1 => absurd c1 (by decide))
  refine g_run 7 2 rfl ?_
  refine g_callP 9 hP rfl cp_RJ5_100 hx (j_ens hP H 0 (by omega)) rfl rfl (by decide) (by omega) (by omega) (Nat.le_of_ble_eq_true rfl) (e_kr ?_) e_kx
  refine g_run 10 1 rfl ?_
  refine g_get 11 rfl fl_RJ5_79 hx rfl ?_
  refine g_run 12 1 rfl ?_
  refine g_icmp_ge 13 63 rfl rfl (by omega) (by omega) (fun c23 => ?_) (fun c23 => ?_)
  · refine g_run 31 1 rfl ?_
    refine g_get 32 rfl fl_RJ5_79 hx rfl ?_
    refine g_run 33 1 rfl ?_
    refine g_icmp_le 34 76 rfl rfl (by omega) (by omega) (fun c68 => ?_) (fun c68 => ?_)
    · refine g_run 38 2 rfl ?_
      refine g_put 40 rfl fp_RJ5_79 hx rfl trivial (fun M78 hM78 => ?_)
      have k78_this := (congrFun hM78 b).trans (va_up_self _ _ _)
      have k78_this_value := (congrFun hM78 v).trans ((va_up_ne _ _ (by omega)).trans hvv)
      first | (have e9 := k78_this; have v9 := k78_this_value) | skip
      exact g_vret 41 rfl rfl ⟨rfl, rfl, ⟨hb, hv, hbv, hcap, Nat.zero_le _, ⟨_, (by first | exact hx01 | exact Or.inr rfl), k78_this⟩, k78_this_value, hok⟩, fun k h1 h2 => by first | (rw [hM78, va_up_ne _ _ h1, hM73, va_up_ne _ _ h1]; done) | rw [hM78, va_up_ne _ _ h1]⟩
    · refine g_run 35 2 rfl ?_
      refine g_put 37 rfl fp_RJ5_73 hx rfl (Or.inr rfl) (fun M73 hM73 => ?_)
      have k73_this := (congrFun hM73 b).trans (va_up_self _ _ _)
      have k73_this_value := (congrFun hM73 v).trans ((va_up_ne _ _ (by omega)).trans hvv)
      refine g_run 38 2 rfl ?_
      refine g_put 40 rfl fp_RJ5_79 k73_this rfl trivial (fun M78 hM78 => ?_)
      have k78_this := (congrFun hM78 b).trans (va_up_self _ _ _)
      have k78_this_value := (congrFun hM78 v).trans ((va_up_ne _ _ (by omega)).trans k73_this_value)
      first | (have e9 := k78_this; have v9 := k78_this_value) | skip
      exact g_vret 41 rfl rfl ⟨rfl, rfl, ⟨hb, hv, hbv, hcap, Nat.zero_le _, ⟨_, (by first | exact hx01 | exact Or.inr rfl), k78_this⟩, k78_this_value, hok⟩, fun k h1 h2 => by first | (rw [hM78, va_up_ne _ _ h1, hM73, va_up_ne _ _ h1]; done) | rw [hM78, va_up_ne _ _ h1]⟩
  · exact absurd c23 (by omega)
theorem j_setLength (hP : PV Γ) (H : BM M b v cap c f) : Ct (e_L r0) Γ mJ4_setLength_d00df 6 0 0 [vR b, vI 0] M n (e_wr none n fun M' => BM M' b v cap 0 f ∧ e_f2 b v M M') := by
  have H0 := H
  obtain ⟨hb, hv, hbv, hcap, hc, ⟨x, hx01, hx⟩, hvv, hok⟩ := H0
  refine g_start ok_J4_setLength_d00df rfl rfl ?_
  refine g_run 0 2 rfl ?_
  refine g_callSU 2 rfl csu_RJ4_333 hx (j_set5 hP H) rfl rfl (by decide) (by omega) (by omega) (Nat.le_of_ble_eq_true rfl) (e_kw fun M2 hq2 => ?_) e_kwx
  exact g_vret 3 rfl rfl ⟨rfl, rfl, hq2⟩
theorem j_canEnc (z : Int) (hz : 0 ≤ z ∧ z ≤ 127) : Ct (e_L r0) Γ mJ1_canEncode_fc78d 0 0 0 [vI z] M n (e_rt (.inl (some (vI 1))) M n) := by
  refine g_start ok_J1_canEncode_fc78d rfl rfl ?_
  refine g_run 0 2 rfl ?_
  refine g_icmp_gt 2 11 rfl rfl (by omega) (by omega) (fun c4 => ?_) (fun c4 => ?_)
  · exact absurd c4 (by omega)
  · refine g_run 3 2 rfl ?_
    exact g_iret 6 rfl rfl (by first | exact trivial | exact Or.inl rfl | exact Or.inr rfl | (show _ ∨ _; omega)) ⟨rfl, rfl, rfl⟩
theorem j_appC5 (hP : PV Γ) (H : BM M b v cap c f) (h1 : c < cap) (z : Int) (hz : 0 ≤ z ∧ z ≤ 127) : Ct (e_L r0) Γ mJ5_append_3fe6f 5 0 0 [vR b, vI z] M n (e_wr (some (vR b)) n fun M' => BM M' b v cap (c + 1) (va_up f c z) ∧ e_f2 b v M M') := by
  have H0 := H
  obtain ⟨hb, hv, hbv, hcap, hc, ⟨x, hx01, hx⟩, hvv, hok⟩ := H0
  refine g_start ok_J5_append_3fe6f rfl rfl ?_
  refine g_run 0 2 rfl ?_
  refine g_get 2 rfl fl_RJ5_79 hx rfl ?_
  refine g_run 3 2 rfl ?_
  refine g_callP 5 hP rfl cp_RJ5_100 hx (j_ens hP H ((c : Int) + 1) (by omega)) rfl rfl (by decide) (by omega) (by omega) (Nat.le_of_ble_eq_true rfl) (e_kr ?_) e_kx
  refine g_run 6 1 rfl ?_
  refine g_callV 7 rfl cv_RJ5_83 hx (j_isLatin1 H) rfl rfl (by decide) (by omega) (by omega) (Nat.le_of_ble_eq_true rfl) (e_kr ?_) e_kx
  refine g_if_eq 8 45 rfl rfl (by omega) (fun c14 => ?_) (fun c14 => ?_)
  · exact absurd c14 (by decide)
  · refine g_run 9 1 rfl ?_
    refine g_callS 10 rfl cs_RJ5_191 (j_canEnc z hz) rfl rfl (by decide) (by omega) (by omega) (Nat.le_of_ble_eq_true rfl) (e_kr ?_) e_kx
    refine g_if_eq 11 45 rfl rfl (by omega) (fun c21 => ?_) (fun c21 => ?_)
    · exact absurd c21 (by decide)
    · refine g_run 12 1 rfl ?_
      refine g_get 13 rfl fl_RJ5_15 hx rfl ?_
      refine g_run 14 2 rfl ?_
      refine g_get 16 rfl fl_RJ5_79 hx rfl ?_
      refine g_run 17 3 rfl ?_
      refine g_put 20 rfl fp_RJ5_79 hx rfl trivial (fun M36 hM36 => ?_)
      have k36_this := (congrFun hM36 b).trans (va_up_self _ _ _)
      have k36_this_value := (congrFun hM36 v).trans ((va_up_ne _ _ (by omega)).trans hvv)
      refine g_run 21 1 rfl ?_
      refine g_i2b 22 rfl (e_nbz (by omega)).1 ?_
      refine g_bast 23 c rfl rfl (by decide) k36_this_value (by first | rfl | omega) h1 (by omega) (by omega) (fun M41 hM41 => ?_)
      have k41_this := (congrFun hM41 b).trans ((va_up_ne _ _ (by omega)).trans k36_this)
      have k41_this_value := (congrFun hM41 v).trans (va_up_self _ _ _)
      refine g_run 24 1 rfl ?_
      refine g_run 41 1 rfl ?_
      exact g_aret 42 rfl rfl (by first | exact Or.inl ⟨_, rfl⟩ | exact Or.inr ⟨_, rfl⟩) ⟨rfl, rfl, ⟨hb, hv, hbv, hcap, h1, ⟨x, hx01, k41_this⟩, k41_this_value, Bok_up hok _ hz⟩, fun k q1 q2 => by rw [hM41, va_up_ne _ _ q2, hM36, va_up_ne _ _ q1]⟩
theorem j_appC (hP : PV Γ) (H : BM M b v cap c f) (h1 : c < cap) (z : Int) (hz : 0 ≤ z ∧ z ≤ 127) : Ct (e_L r0) Γ mJ4_append_cf468 6 0 0 [vR b, vI z] M n (e_wr (some (vR b)) n fun M' => BM M' b v cap (c + 1) (va_up f c z) ∧ e_f2 b v M M') := by
  have H0 := H
  obtain ⟨hb, hv, hbv, hcap, hc, ⟨x, hx01, hx⟩, hvv, hok⟩ := H0
  refine g_start ok_J4_append_cf468 rfl rfl ?_
  refine g_run 0 2 rfl ?_
  refine g_callSU 2 rfl csu_RJ4_50 hx (j_appC5 hP H h1 z hz) rfl rfl (by decide) (by omega) (by omega) (Nat.le_of_ble_eq_true rfl) (e_kw fun M2 hq2 => ?_) e_kwx
  refine g_run 3 2 rfl ?_
  exact g_aret 5 rfl rfl (by first | exact Or.inl ⟨_, rfl⟩ | exact Or.inr ⟨_, rfl⟩) ⟨rfl, rfl, hq2⟩
theorem j_size (z : Int) (hz : 0 ≤ z ∧ z ≤ 99) : Ct (e_L r0) Γ mJ6_stringSize_0f7a4 0 0 0 [vI z] M n (e_rt (.inl (some (vI (sL z : Int)))) M n) := by
  refine g_start ok_J6_stringSize_0f7a4 rfl rfl ?_
  refine g_run 0 3 rfl ?_
  refine g_if_lt 3 11 rfl rfl (by omega) (fun c3 => ?_) (fun c3 => ?_)
  · exact absurd c3 (by omega)
  · refine g_run 4 11 rfl ?_
    refine g_icmp_ge 15 42 rfl rfl (by omega) (by omega) (fun c19 => ?_) (fun c19 => ?_)
    · exact absurd c19 (by decide)
    · refine g_run 16 2 rfl ?_
      refine g_icmp_le 18 31 rfl rfl (by omega) (by omega) (fun c24 => ?_) (fun c24 => ?_)
      · refine g_run 23 6 rfl ?_
        refine g_run 13 2 rfl ?_
        refine g_icmp_ge 15 42 rfl rfl (by omega) (by omega) (fun c20 => absurd c20 (by decide)) (fun c20 => ?_)
        refine g_run 16 2 rfl ?_
        refine g_icmp_le 18 31 rfl rfl (by omega) (by omega) (fun c25 => absurd c25 (by omega)) (fun c25 => ?_)
        refine g_run 19 3 rfl ?_
        have e9 : sL z = 2 := if_neg (by omega)
        exact g_iret 22 rfl rfl trivial (by rw [e9]; exact ⟨rfl, rfl, rfl⟩)
      · refine g_run 19 3 rfl ?_
        have e9 : sL z = 1 := if_pos (by omega)
        exact g_iret 22 rfl rfl trivial (by rw [e9]; exact ⟨rfl, rfl, rfl⟩)
theorem j_gc1 (hK : KM Γ) (hv : 100 ≤ v) (hcap : cap ≤ 1000) (hvv : M v = cI 2 cap f) (z p : Int) (i : Nat) (hz : 0 ≤ z ∧ z ≤ 9) (hp : p = (i : Int) + 1) (hi : i + 1 ≤ cap) : Ct (e_L r0) Γ mJ6_getChars_ba4f3 0 0 0 [vI z, vI p, vR v] M n (e_wr (some (vI (i : Int))) n fun M' => M' = va_up M v (cI 2 cap (va_up f i (48 + z)))) := by
  refine g_start ok_J6_getChars_ba4f3 rfl rfl ?_
  refine g_low (fun hl => ?_)
  have h88 := k_ones hK hl
  have h89 := k_tens hK hl
  refine g_run 0 3 rfl ?_
  refine g_if_ge 3 11 rfl rfl (by omega) (fun c4 => ?_) (fun c4 => ?_)
  · refine g_run 6 3 rfl ?_
    refine g_if_ne 9 22 rfl rfl (by decide) (fun c16 => absurd c16 (by decide)) (fun _ => ?_)
    refine g_run 10 5 rfl ?_
    refine g_icmp_gt 15 72 rfl rfl (by omega) (by omega) (fun c25 => ?_) (fun c25 => ?_)
    · refine g_run 43 3 rfl ?_
      refine g_gets 46 rfl (e_mem 19 rfl) fs_RJ6_83 ?_
      refine g_run 47 2 rfl ?_
      refine g_bald 49 z.toNat rfl rfl h88 (by omega) (by omega) (by decide) ?_
      rw [show 48 + ((z.toNat : Nat) : Int) % 10 = 48 + z % 10 from by omega]
      refine g_bast 50 i rfl rfl (by decide) hvv (by first | rfl | omega) (by omega) (by omega) (by omega) (fun M84 hM84 => ?_)
      have k84_buf := (congrFun hM84 v).trans (va_up_self _ _ _)
      have k84_ones := (congrFun hM84 88).trans ((va_up_ne _ _ (by omega)).trans h88)
      have k84_tens := (congrFun hM84 89).trans ((va_up_ne _ _ (by omega)).trans h89)
      refine g_run 51 2 rfl ?_
      refine g_icmp_ge 53 104 rfl rfl (by omega) (by omega) (fun c88 => ?_) (fun c88 => ?_)
      · refine g_run 62 1 rfl ?_
        refine g_if_eq 63 118 rfl rfl (by decide) (fun _ => ?_) (fun c106 => absurd c106 (by decide))
        refine g_run 69 1 rfl ?_
        exact g_iret 70 rfl rfl (by first | exact trivial | exact Or.inl rfl | exact Or.inr rfl | (show _ ∨ _; omega)) ⟨by rw [show p + -1 = (i : Int) from by omega], rfl, by rw [hM84, show z % 10 = z from by omega]⟩
      · exact absurd c88 (by omega)
    · exact absurd c25 (by omega)
  · exact absurd c4 (by omega)
theorem j_gc2 (hK : KM Γ) (hv : 100 ≤ v) (hcap : cap ≤ 1000) (hvv : M v = cI 2 cap f) (z p : Int) (i : Nat) (hz : 10 ≤ z ∧ z ≤ 99) (hp : p = (i : Int) + 2) (hi : i + 2 ≤ cap) : Ct (e_L r0) Γ mJ6_getChars_ba4f3 0 0 0 [vI z, vI p, vR v] M n (e_wr (some (vI (i : Int))) n fun M' => M' = va_up M v (cI 2 cap (va_up (va_up f (i + 1) (48 + z % 10)) i (48 + z / 10)))) := by
  refine g_start ok_J6_getChars_ba4f3 rfl rfl ?_
  refine g_low (fun hl => ?_)
  have h88 := k_ones hK hl
  have h89 := k_tens hK hl
  refine g_run 0 3 rfl ?_
  refine g_if_ge 3 11 rfl rfl (by omega) (fun c4 => ?_) (fun c4 => ?_)
  · refine g_run 6 3 rfl ?_
    refine g_if_ne 9 22 rfl rfl (by decide) (fun c16 => absurd c16 (by decide)) (fun _ => ?_)
    refine g_run 10 5 rfl ?_
    refine g_icmp_gt 15 72 rfl rfl (by omega) (by omega) (fun c25 => ?_) (fun c25 => ?_)
    · refine g_run 43 3 rfl ?_
      refine g_gets 46 rfl (e_mem 19 rfl) fs_RJ6_83 ?_
      refine g_run 47 2 rfl ?_
      refine g_bald 49 z.toNat rfl rfl h88 (by omega) (by omega) (by decide) ?_
      rw [show 48 + ((z.toNat : Nat) : Int) % 10 = 48 + z % 10 from by omega]
      refine g_bast 50 (i + 1) rfl rfl (by decide) hvv (by first | rfl | omega) (by omega) (by omega) (by omega) (fun M84 hM84 => ?_)
      have k84_buf := (congrFun hM84 v).trans (va_up_self _ _ _)
      have k84_ones := (congrFun hM84 88).trans ((va_up_ne _ _ (by omega)).trans h88)
      have k84_tens := (congrFun hM84 89).trans ((va_up_ne _ _ (by omega)).trans h89)
      refine g_run 51 2 rfl ?_
      refine g_icmp_ge 53 104 rfl rfl (by omega) (by omega) (fun c88 => ?_) (fun c88 => ?_)
      · exact absurd c88 (by omega)
      · refine g_run 54 3 rfl ?_
        refine g_gets 57 rfl (e_mem 20 rfl) fs_RJ6_87 ?_
        refine g_run 58 2 rfl ?_
        refine g_bald 60 z.toNat rfl rfl k84_tens (by omega) (by omega) (by decide) ?_
        rw [show 48 + ((z.toNat : Nat) : Int) / 10 = 48 + z / 10 from by omega]
        refine g_bast 61 i rfl rfl (by decide) k84_buf (by first | rfl | omega) (by omega) (by omega) (by omega) (fun M103 hM103 => ?_)
        have k103_buf := (congrFun hM103 v).trans (va_up_self _ _ _)
        have k103_ones := (congrFun hM103 88).trans ((va_up_ne _ _ (by omega)).trans k84_ones)
        have k103_tens := (congrFun hM103 89).trans ((va_up_ne _ _ (by omega)).trans k84_tens)
        refine g_run 62 1 rfl ?_
        refine g_if_eq 63 118 rfl rfl (by decide) (fun _ => ?_) (fun c106 => absurd c106 (by decide))
        refine g_run 69 1 rfl ?_
        exact g_iret 70 rfl rfl (by first | exact trivial | exact Or.inl rfl | exact Or.inr rfl | (show _ ∨ _; omega)) ⟨by rw [show p + -1 + -1 = (i : Int) from by omega], rfl, by rw [hM103, hM84, up_up]⟩
    · exact absurd c25 (by omega)
  · exact absurd c4 (by omega)
theorem j_getChars (hK : KM Γ) (hv : 100 ≤ v) (hcap : cap ≤ 1000) (hvv : M v = cI 2 cap f) (z p : Int) (i : Nat) (hz : 0 ≤ z ∧ z ≤ 99) (hp : p = (i : Int) + sL z) (hi : i + sL z ≤ cap) : Ct (e_L r0) Γ mJ6_getChars_ba4f3 0 0 0 [vI z, vI p, vR v] M n (e_wr (some (vI (i : Int))) n fun M' => M' = va_up M v (cI 2 cap (sN f i z))) := by
  by_cases e : z < 10
  · have e1 : sL z = 1 := if_pos e
    rw [show sN f i z = va_up f i (48 + z) from if_pos e]
    rw [e1] at hp hi
    exact j_gc1 hK hv hcap hvv z p i (by omega) hp hi
  · have e1 : sL z = 2 := if_neg e
    rw [show sN f i z = va_up (va_up f (i + 1) (48 + z % 10)) i (48 + z / 10) from if_neg e]
    rw [e1] at hp hi
    exact j_gc2 hK hv hcap hvv z p i (by omega) hp hi
theorem sL_rng (z : Int) : 1 ≤ sL z ∧ sL z ≤ 2 := by unfold sL; split <;> omega
theorem j_appI5 (hK : KM Γ) (hP : PV Γ) (H : BM M b v cap c f) (z : Int) (hz : 0 ≤ z ∧ z ≤ 99) (h1 : c + sL z ≤ cap) : Ct (e_L r0) Γ mJ5_append_c97b9 5 0 0 [vR b, vI z] M n (e_wr (some (vR b)) n fun M' => BM M' b v cap (c + sL z) (sN f c z) ∧ e_f2 b v M M') := by
  have H0 := H
  obtain ⟨hb, hv, hbv, hcap, hc, ⟨x, hx01, hx⟩, hvv, hok⟩ := H0
  have qs := sL_rng z
  refine g_start ok_J5_append_c97b9 rfl rfl ?_
  refine g_run 0 1 rfl ?_
  refine g_get 1 rfl fl_RJ5_79 hx rfl ?_
  refine g_run 2 3 rfl ?_
  refine g_callS 5 rfl cs_RJ5_245 (j_size z hz) rfl rfl (by decide) (by omega) (by omega) (Nat.le_of_ble_eq_true rfl) (e_kr ?_) e_kx
  refine g_run 6 4 rfl ?_
  refine g_callP 10 hP rfl cp_RJ5_100 hx (j_ens hP H ((c : Int) + sL z) (by omega)) rfl rfl (by decide) (by omega) (by omega) (Nat.le_of_ble_eq_true rfl) (e_kr ?_) e_kx
  refine g_run 11 1 rfl ?_
  refine g_callV 12 rfl cv_RJ5_83 hx (j_isLatin1 H) rfl rfl (by decide) (by omega) (by omega) (Nat.le_of_ble_eq_true rfl) (e_kr ?_) e_kx
  refine g_if_eq 13 37 rfl rfl (by omega) (fun c21 => ?_) (fun c21 => ?_)
  · exact absurd c21 (by decide)
  · refine g_run 14 3 rfl ?_
    refine g_get 17 rfl fl_RJ5_15 hx rfl ?_
    refine g_callS 18 rfl cs_RJ5_248 (j_getChars hK hv hcap hvv z ((c : Int) + sL z) c hz rfl h1) rfl rfl (by decide) (by omega) (by omega) (Nat.le_of_ble_eq_true rfl) (e_kw fun M30 hM30 => ?_) e_kwx
    have k30_this := (congrFun hM30 b).trans ((va_up_ne _ _ (by omega)).trans hx)
    have k30_this_value := (congrFun hM30 v).trans (va_up_self _ _ _)
    refine g_run 19 2 rfl ?_
    refine g_run 28 2 rfl ?_
    refine g_put 30 rfl fp_RJ5_79 k30_this rfl trivial (fun M50 hM50 => ?_)
    have k50_this := (congrFun hM50 b).trans (va_up_self _ _ _)
    have k50_this_value := (congrFun hM50 v).trans ((va_up_ne _ _ (by omega)).trans k30_this_value)
    refine g_run 31 1 rfl ?_
    exact g_aret 32 rfl rfl (by first | exact Or.inl ⟨_, rfl⟩ | exact Or.inr ⟨_, rfl⟩) ⟨rfl, rfl, ⟨hb, hv, hbv, hcap, h1, ⟨x, hx01, k50_this⟩, k50_this_value, Bok_sN hok _ hz⟩, fun k q1 q2 => by rw [hM50, va_up_ne _ _ q1, hM30, va_up_ne _ _ q2]⟩
theorem j_appI (hK : KM Γ) (hP : PV Γ) (H : BM M b v cap c f) (z : Int) (hz : 0 ≤ z ∧ z ≤ 99) (h1 : c + sL z ≤ cap) : Ct (e_L r0) Γ mJ4_append_bf812 6 0 0 [vR b, vI z] M n (e_wr (some (vR b)) n fun M' => BM M' b v cap (c + sL z) (sN f c z) ∧ e_f2 b v M M') := by
  have H0 := H
  obtain ⟨hb, hv, hbv, hcap, hc, ⟨x, hx01, hx⟩, hvv, hok⟩ := H0
  refine g_start ok_J4_append_bf812 rfl rfl ?_
  refine g_run 0 2 rfl ?_
  refine g_callSU 2 rfl csu_RJ4_53 hx (j_appI5 hK hP H z hz h1) rfl rfl (by decide) (by omega) (by omega) (Nat.le_of_ble_eq_true rfl) (e_kw fun M2 hq2 => ?_) e_kwx
  refine g_run 3 2 rfl ?_
  exact g_aret 5 rfl rfl (by first | exact Or.inl ⟨_, rfl⟩ | exact Or.inr ⟨_, rfl⟩) ⟨rfl, rfl, hq2⟩
end JD
