/-! texts: append(String), append(int) that may grow, toString; a made text's length and characters (wip/p52/gen/c_jdk2.py prints this part) -/
section J2
variable {r0 : Option Nat} {Γ : Cx} {M : Mem} {n b v cap c k a len : Nat} {f g : Nat → Int}
theorem j_coderM (hM : M k = cO 0 [vR a, vI 0, vI 0, vI 0]) : Ct (e_L r0) Γ mJ0_coder_7d493 0 0 0 [vR k] M n (e_rt (.inl (some (vI 0))) M n) := by
  refine g_start ok_J0_coder_7d493 rfl rfl ?_
  refine g_gets 0 rfl (e_mem 18 rfl) fs_RJ0_38 ?_
  refine g_if_eq 1 13 rfl rfl (by decide) (fun c3 => absurd c3 (by decide)) (fun _ => ?_)
  refine g_run 2 1 rfl ?_
  refine g_get 3 rfl fl0_RJ0_15 hM rfl ?_
  refine g_run 4 1 rfl ?_
  exact g_iret 6 rfl rfl (by show -128 ≤ (0 : Int) ∧ (0 : Int) ≤ 127; omega) ⟨rfl, rfl, rfl⟩
theorem j_sLatM (hM : M k = cO 0 [vR a, vI 0, vI 0, vI 0]) : Ct (e_L r0) Γ mJ0_isLatin1_aae02 0 0 0 [vR k] M n (e_rt (.inl (some (vI 1))) M n) := by
  refine g_start ok_J0_isLatin1_aae02 rfl rfl ?_
  refine g_gets 0 rfl (e_mem 18 rfl) fs_RJ0_38 ?_
  refine g_if_eq 1 17 rfl rfl (by decide) (fun c3 => absurd c3 (by decide)) (fun _ => ?_)
  refine g_run 2 1 rfl ?_
  refine g_get 3 rfl fl0_RJ0_15 hM rfl ?_
  refine g_if_ne 4 17 rfl rfl (by omega) (fun c10 => ?_) (fun c10 => ?_)
  · exact absurd rfl c10
  · refine g_run 5 2 rfl ?_
    exact g_iret 8 rfl rfl (by first | exact trivial | exact Or.inl rfl | exact Or.inr rfl | (show _ ∨ _; omega)) ⟨rfl, rfl, rfl⟩
theorem j_slenM (hM : M k = cO 0 [vR a, vI 0, vI 0, vI 0]) (hV : M a = cI 2 len g) (hl : len ≤ 1000) : Ct (e_L r0) Γ mJ0_length_8abf5 1 0 0 [vR k] M n (e_rt (.inl (some (vI (len : Int)))) M n) := by
  refine g_start ok_J0_length_8abf5 rfl rfl ?_
  refine g_run 0 1 rfl ?_
  refine g_get 1 rfl fl0_RJ0_9 hM rfl ?_
  refine g_alen 2 rfl hV ?_
  dsimp only
  refine g_run 3 1 rfl ?_
  refine g_callV 4 rfl cv0_RJ0_335 hM (j_coderM hM) rfl rfl (by decide) (by omega) (by omega) (Nat.le_of_ble_eq_true rfl) (e_kr ?_) e_kx
  refine g_ishr 5 rfl sx_shr0 ?_
  exact g_iret 6 rfl rfl (by first | exact trivial | exact Or.inl rfl | exact Or.inr rfl | (show _ ∨ _; omega)) ⟨rfl, rfl, rfl⟩
theorem j_chr1M (hV : M a = cI 2 len g) (hl : len ≤ 1000) (i : Nat) (hi : i < len) (hg : 0 ≤ g i ∧ g i ≤ 127) : Ct (e_L r0) Γ mJ1_charAt_3b067 2 0 0 [vR a, vI (i : Int)] M n (e_rt (.inl (some (vI (g i)))) M n) := by
  refine g_start ok_J1_charAt_3b067 rfl rfl ?_
  refine g_run 0 2 rfl ?_
  refine g_alen 2 rfl hV ?_
  dsimp only
  refine g_callS 3 rfl cs_RJ1_9 (j_chk0 (i : Int) (len : Int) (by omega) (by omega)) rfl rfl (by decide) (by omega) (by omega) (Nat.le_of_ble_eq_true rfl) (e_kr ?_) e_kx
  refine g_run 4 2 rfl ?_
  refine g_bald 6 i rfl rfl hV (by first | rfl | omega) (by omega) (by omega) ?_
  refine g_run 7 1 rfl ?_
  refine g_iand 8 rfl (sx_and (by omega)) ?_
  refine g_i2c 9 rfl (sx_i2c (by omega)) ?_
  exact g_cret 10 rfl rfl (by omega) ⟨rfl, rfl, rfl⟩
theorem j_schrM (hM : M k = cO 0 [vR a, vI 0, vI 0, vI 0]) (hV : M a = cI 2 len g) (hl : len ≤ 1000) (i : Nat) (hi : i < len) (hg : 0 ≤ g i ∧ g i ≤ 127) : Ct (e_L r0) Γ mJ0_charAt_5068e 3 0 0 [vR k, vI (i : Int)] M n (e_rt (.inl (some (vI (g i)))) M n) := by
  refine g_start ok_J0_charAt_5068e rfl rfl ?_
  refine g_run 0 1 rfl ?_
  refine g_callV 1 rfl cv0_RJ0_492 hM (j_sLatM hM) rfl rfl (by decide) (by omega) (by omega) (Nat.le_of_ble_eq_true rfl) (e_kr ?_) e_kx
  refine g_if_eq 2 16 rfl rfl (by omega) (fun c4 => ?_) (fun c4 => ?_)
  · exact absurd c4 (by decide)
  · refine g_run 3 1 rfl ?_
    refine g_get 4 rfl fl0_RJ0_9 hM rfl ?_
    refine g_run 5 1 rfl ?_
    refine g_callS 6 rfl cs_RJ0_495 (j_chr1M hV hl i hi hg) rfl rfl (by decide) (by omega) (by omega) (Nat.le_of_ble_eq_true rfl) (e_kr ?_) e_kx
    exact g_cret 7 rfl rfl (by omega) ⟨rfl, rfl, rfl⟩
/-- a text at k: a constant, or one that was made, its cells between lo and hi -/
def STR (M : Mem) (lo hi k len : Nat) (g : Nat → Int) : Prop := len ≤ 1000 ∧ ((k < 90 ∧ M k = cO 22 [vR (k + 10), vI 0] ∧ M (k + 10) = cI 11 len g) ∨ ∃ a, ((lo < k ∧ k < hi) ∧ (lo < a ∧ a < hi)) ∧ M k = cO 0 [vR a, vI 0, vI 0, vI 0] ∧ M a = cI 2 len g)
theorem STR_fr {M M' : Mem} {lo hi hi' k len : Nat} {g : Nat → Int} (S : STR M lo hi k len g) (hh : hi ≤ hi') (h1 : ∀ q, q < 100 → M' q = M q) (h2 : ∀ q, lo < q → q < hi → M' q = M q) : STR M' lo hi' k len g := by
  obtain ⟨hl, ⟨hk, hM, hV⟩ | ⟨a, ⟨hk, ha⟩, hM, hV⟩⟩ := S
  · exact ⟨hl, Or.inl ⟨hk, (h1 _ (by omega)).trans hM, (h1 _ (by omega)).trans hV⟩⟩
  · exact ⟨hl, Or.inr ⟨a, ⟨⟨hk.1, by omega⟩, ⟨ha.1, by omega⟩⟩, (h2 _ hk.1 hk.2).trans hM, (h2 _ ha.1 ha.2).trans hV⟩⟩
variable {lo hi : Nat}
theorem j_coderS (S : STR M lo hi k len g) : Ct (e_L r0) Γ mJ0_coder_7d493 0 0 0 [vR k] M n (e_rt (.inl (some (vI 0))) M n) := by
  obtain ⟨-, ⟨hk, hM, -⟩ | ⟨a, -, hM, -⟩⟩ := S
  · exact j_coder (by omega) hM
  · exact j_coderM hM
theorem j_slenS (S : STR M lo hi k len g) : Ct (e_L r0) Γ mJ0_length_8abf5 1 0 0 [vR k] M n (e_rt (.inl (some (vI (len : Int)))) M n) := by
  obtain ⟨hl, ⟨hk, hM, hV⟩ | ⟨a, -, hM, hV⟩⟩ := S
  · exact j_slen (by omega) hM hV hl
  · exact j_slenM hM hV hl
theorem g_callT {Λ : Ls} {X Y : MD} {d d' mc ms mc' ms' : Nat} {Q Q' : Rv → Mem → Nat → Prop} {pc pc' : Nat} {ls : List (Option aV)} {st st0 : List aV} {kc ks : Nat} (i : Nat) {idx np : Nat} {as : List aV} (S : STR M lo hi k len g) (hd : X.tb[i]? = some (pc, .invokevirtual idx, pc')) (hc : e_cV X.own idx 22 Y np) (hc0 : e_cV X.own idx 0 Y np) (hC : Ct Λ Γ Y d' mc' ms' (vR k :: as) M n Q') (hst0 : st0 = as.reverse ++ vR k :: st) (hnp : as.length = np) (hd' : d' + 1 ≤ d) (hmc : kc + mc' ≤ mc) (hms : ks + ms' ≤ ms) (hst : e_sum st ≤ 8)
    (kr : ∀ v M' n', Q' (.inl v) M' n' → n ≤ n' → G Λ Γ X d mc ms Q pc' ls (v.toList ++ st) M' n' (kc + mc') (ks + ms')) (kx : ∀ E M' n', Q' (.inr E) M' n' → n ≤ n' → GX Λ Γ X d mc ms Q E pc ls M' n' (kc + mc') (ks + ms')) : G Λ Γ X d mc ms Q pc ls st0 M n kc ks := by
  obtain ⟨-, ⟨-, hM, -⟩ | ⟨a, -, hM, -⟩⟩ := S
  · exact g_callV i hd hc hM hC hst0 hnp hd' hmc hms hst kr kx
  · exact g_callV i hd hc0 hM hC hst0 hnp hd' hmc hms hst kr kx
theorem j_gbC (hk : k < 90) (hM : M k = cO 22 [vR (k + 10), vI 0]) (hV : M (k + 10) = cI 11 len g) (hl : len ≤ 1000) (hg : ∀ j, j < len → 0 ≤ g j ∧ g j ≤ 127) (hvv : M v = cI 2 cap f) (hcap : cap ≤ 1000) (h1 : c + len ≤ cap) : Ct (e_L r0) Γ mJ0_getBytes_840e7 1 0 0 [vR k, vR v, vI (c : Int), vI 0] M n (e_wr none n fun M' => M' = va_up M v (cI 2 cap (va_cpy g f 0 c len))) := by
  refine g_start ok_J0_getBytes_840e7 rfl rfl ?_
  refine g_run 0 1 rfl ?_
  refine g_callV 1 rfl cv_RJ0_335 hM (j_coder (by omega) hM) rfl rfl (by decide) (by omega) (by omega) (Nat.le_of_ble_eq_true rfl) (e_kr ?_) e_kx
  refine g_run 2 1 rfl ?_
  refine g_icmp_ne 3 28 rfl rfl (by omega) (by omega) (fun c5 => absurd rfl c5) (fun c5 => ?_)
  refine g_run 4 1 rfl ?_
  refine g_getC 5 rfl fc22_RJ0_9 (by show k < 100; omega) hM rfl ?_
  refine g_run 6 4 rfl ?_
  refine g_ishl 10 rfl sx_shl0 ?_
  refine g_run 11 1 rfl ?_
  refine g_getC 12 rfl fc22_RJ0_9 (by show k < 100; omega) hM rfl ?_
  refine g_alen 13 rfl hV ?_
  dsimp only
  refine g_copyC 14 0 c len rfl cy9_RJ0_212 (by omega) hV hvv rfl rfl rfl (by omega) h1 (by omega) (by omega) (fun j hj => by have := hg (0 + j) (by omega); omega) (Nat.le_of_ble_eq_true rfl) (fun M22 hM22 => ?_)
  refine g_run 15 1 rfl ?_
  exact g_vret 25 rfl rfl ⟨rfl, rfl, hM22⟩
theorem j_gbM (hM : M k = cO 0 [vR a, vI 0, vI 0, vI 0]) (hV : M a = cI 2 len g) (hl : len ≤ 1000) (hg : ∀ j, j < len → 0 ≤ g j ∧ g j ≤ 127) (hvv : M v = cI 2 cap f) (hcap : cap ≤ 1000) (h1 : c + len ≤ cap) : Ct (e_L r0) Γ mJ0_getBytes_840e7 1 0 0 [vR k, vR v, vI (c : Int), vI 0] M n (e_wr none n fun M' => M' = va_up M v (cI 2 cap (va_cpy g f 0 c len))) := by
  refine g_start ok_J0_getBytes_840e7 rfl rfl ?_
  refine g_run 0 1 rfl ?_
  refine g_callV 1 rfl cv0_RJ0_335 hM (j_coderM hM) rfl rfl (by decide) (by omega) (by omega) (Nat.le_of_ble_eq_true rfl) (e_kr ?_) e_kx
  refine g_run 2 1 rfl ?_
  refine g_icmp_ne 3 28 rfl rfl (by omega) (by omega) (fun c5 => absurd rfl c5) (fun c5 => ?_)
  refine g_run 4 1 rfl ?_
  refine g_get 5 rfl fl0_RJ0_9 hM rfl ?_
  refine g_run 6 4 rfl ?_
  refine g_ishl 10 rfl sx_shl0 ?_
  refine g_run 11 1 rfl ?_
  refine g_get 12 rfl fl0_RJ0_9 hM rfl ?_
  refine g_alen 13 rfl hV ?_
  dsimp only
  refine g_copy 14 0 c len rfl cy9_RJ0_212 (by decide) hV hvv rfl rfl rfl (by omega) h1 (by omega) (by omega) (fun j hj => by have := hg (0 + j) (by omega); show -128 ≤ _ ∧ _ ≤ 127; omega) (Nat.le_of_ble_eq_true rfl) (fun M22 hM22 => ?_)
  refine g_run 15 1 rfl ?_
  exact g_vret 25 rfl rfl ⟨rfl, rfl, hM22⟩
theorem j_gbS (S : STR M lo hi k len g) (hg : ∀ j, j < len → 0 ≤ g j ∧ g j ≤ 127) (hvv : M v = cI 2 cap f) (hcap : cap ≤ 1000) (h1 : c + len ≤ cap) : Ct (e_L r0) Γ mJ0_getBytes_840e7 1 0 0 [vR k, vR v, vI (c : Int), vI 0] M n (e_wr none n fun M' => M' = va_up M v (cI 2 cap (va_cpy g f 0 c len))) := by
  obtain ⟨hl, ⟨hk, hM, hV⟩ | ⟨a, -, hM, hV⟩⟩ := S
  · exact j_gbC hk hM hV hl hg hvv hcap h1
  · exact j_gbM hM hV hl hg hvv hcap h1
theorem j_infl (H : BM M b v cap c f) (S : STR M lo hi k len g) : Ct (e_L r0) Γ mJ5_inflateIfNeededFor_a7421 2 0 0 [vR b, vR k] M n (e_rt (.inl none) M n) := by
  obtain ⟨hb, hv, hbv, hcap, hc, ⟨x, hx01, hx⟩, hvv, hok⟩ := H
  refine g_start ok_J5_inflateIfNeededFor_a7421 rfl rfl ?_
  refine g_gets 0 rfl (e_mem 18 rfl) fs_RJ5_18 ?_
  refine g_if_eq 1 21 rfl rfl (by decide) (fun c3 => absurd c3 (by decide)) (fun _ => ?_)
  refine g_run 2 1 rfl ?_
  refine g_get 3 rfl fl_RJ5_22 hx rfl ?_
  refine g_run 4 1 rfl ?_
  refine g_callT 5 S rfl cv_RJ5_40 cv0_RJ5_40 (j_coderS S) rfl rfl (by decide) (by omega) (by omega) (Nat.le_of_ble_eq_true rfl) (e_kr ?_) e_kx
  refine g_icmp_eq 6 21 rfl rfl (by omega) (by omega) (fun c14 => ?_) (fun c14 => absurd rfl c14)
  exact g_vret 9 rfl rfl ⟨rfl, rfl, rfl⟩
theorem j_put (hP : PV Γ) (H : BM M b v cap c f) (S : STR M lo hi k len g) (hg : ∀ j, j < len → 0 ≤ g j ∧ g j ≤ 127) (h1 : c + len ≤ cap) : Ct (e_L r0) Γ mJ5_putStringAt_47b60 3 0 0 [vR b, vI (c : Int), vR k] M n (e_wr none n fun M' => M' = va_up M v (cI 2 cap (va_cpy g f 0 c len))) := by
  have H0 := H
  obtain ⟨hb, hv, hbv, hcap, hc, ⟨x, hx01, hx⟩, hvv, hok⟩ := H0
  refine g_start ok_J5_putStringAt_47b60 rfl rfl ?_
  refine g_run 0 2 rfl ?_
  refine g_callP 2 hP rfl cp_RJ5_397 hx (j_infl H S) rfl rfl (by decide) (by omega) (by omega) (Nat.le_of_ble_eq_true rfl) (e_kr ?_) e_kx
  refine g_run 3 2 rfl ?_
  refine g_get 5 rfl fl_RJ5_15 hx rfl ?_
  refine g_run 6 2 rfl ?_
  refine g_get 8 rfl fl_RJ5_22 hx rfl ?_
  refine g_callT 9 S rfl cv_RJ5_399 cv0_RJ5_399 (j_gbS S hg hvv hcap h1) rfl rfl (by decide) (by omega) (by omega) (Nat.le_of_ble_eq_true rfl) (e_kw fun M15 hM15 => ?_) e_kwx
  exact g_vret 10 rfl rfl ⟨rfl, rfl, hM15⟩
theorem j_newCapW (H : BM M b v cap c f) (hq : cap ≤ 400) (z : Int) (hz : (cap : Int) < z ∧ z ≤ 2 * cap + 2) : Ct (e_L r0) Γ mJ5_newCapacity_0f7a4 1 0 0 [vR b, vI z] M n (e_rt (.inl (some (vI ((cap : Int) + ((cap : Int) + 2))))) M n) := by
  have H0 := H
  obtain ⟨hb, hv, hbv, hcap, hc, ⟨x, hx01, hx⟩, hvv, hok⟩ := H0
  refine g_start ok_J5_newCapacity_0f7a4 rfl rfl ?_
  refine g_run 0 1 rfl ?_
  refine g_get 1 rfl fl_RJ5_15 hx rfl ?_
  refine g_alen 2 rfl hvv ?_
  dsimp only
  refine g_run 3 3 rfl ?_
  refine g_get 6 rfl fl_RJ5_22 hx rfl ?_
  refine g_ishl 7 rfl sx_shl0 ?_
  refine g_run 8 10 rfl ?_
  refine g_get 18 rfl fl_RJ5_22 hx rfl ?_
  refine g_ishl 19 rfl sx_shl0 ?_
  refine g_run 20 1 rfl ?_
  refine g_callS 21 rfl cs_RJ5_114 (j_newLen (cap : Int) (z - cap) ((cap : Int) + 2) (by omega) (by omega) (by omega)) rfl rfl (by decide) (by omega) (by omega) (Nat.le_of_ble_eq_true rfl) (e_kr ?_) e_kx
  refine g_run 22 2 rfl ?_
  refine g_ldcI 24 rfl lc_RJ5_39 ?_
  refine g_icmp_ne 25 51 rfl rfl (by omega) (by omega) (fun c38 => ?_) (fun c38 => ?_)
  · refine g_run 31 2 rfl ?_
    refine g_get 33 rfl fl_RJ5_22 hx rfl ?_
    refine g_ishr 34 rfl sx_shr0 ?_
    exact g_iret 35 rfl rfl (by first | exact trivial | exact Or.inl rfl | exact Or.inr rfl | (show _ ∨ _; omega)) ⟨rfl, rfl, rfl⟩
  · exact absurd c38 (by omega)
/-- a builder at b, its cells from n0 on -/
def SB (M : Mem) (n n0 b c : Nat) : Prop := ∃ (v cap : Nat) (f : Nat → Int), (n0 ≤ b ∧ b < n) ∧ (n0 ≤ v ∧ v < n) ∧ BM M b v cap c f ∧ (cap = 16 ∨ cap = 34) ∧ ∀ j, j < c → 32 ≤ f j ∧ f j ≤ 126
def SB9 (M : Mem) (n n0 b c : Nat) (z : Int) : Prop := ∃ (v cap : Nat) (f : Nat → Int), (n0 ≤ b ∧ b < n) ∧ (n0 ≤ v ∧ v < n) ∧ BM M b v cap c f ∧ (cap = 16 ∨ cap = 34) ∧ (∀ j, j < c → 32 ≤ f j ∧ f j ≤ 126) ∧ z ≤ cap
variable {n0 : Nat}
theorem j_ensS (hP : PV Γ) (S : SB M n n0 b c) (z : Int) (hz : (c : Int) ≤ z ∧ z ≤ 34) : Ct (e_L r0) Γ mJ5_ensureCapacityInternal_d00df 4 1 34 [vR b, vI z] M n (fun r' M' n' => r' = .inl none ∧ n ≤ n' ∧ n' ≤ n + 1 ∧ SB9 M' n' n0 b c z ∧ ∀ q, q < n → q ≠ b → M' q = M q) := by
  obtain ⟨v, cap, f, hnb, hnv, H, hcc, hch⟩ := S
  have hbn := hnb.2
  have hvn := hnv.2
  have H0 := H
  obtain ⟨hb, hv, hbv, hcap, hc, ⟨x, hx01, hx⟩, hvv, hok⟩ := H0
  refine g_start ok_J5_ensureCapacityInternal_d00df rfl rfl ?_
  refine g_run 0 1 rfl ?_
  refine g_get 1 rfl fl_RJ5_15 hx rfl ?_
  refine g_alen 2 rfl hvv ?_
  dsimp only
  refine g_run 3 1 rfl ?_
  refine g_get 4 rfl fl_RJ5_22 hx rfl ?_
  refine g_ishr 5 rfl sx_shr0 ?_
  refine g_run 6 4 rfl ?_
  refine g_if_le 10 38 rfl rfl (by omega) (fun c14 => ?_) (fun c14 => ?_)
  · exact g_vret 22 rfl rfl ⟨rfl, Nat.le_refl _, Nat.le_succ _, ⟨v, cap, f, hnb, hnv, H, hcc, hch, by omega⟩, fun _ _ _ => rfl⟩
  · refine g_run 11 2 rfl ?_
    refine g_get 13 rfl fl_RJ5_15 hx rfl ?_
    refine g_run 14 2 rfl ?_
    refine g_callP 16 hP rfl cp_RJ5_104 hx (j_newCapW H (by omega) z (by omega)) rfl rfl (by decide) (by omega) (by omega) (Nat.le_of_ble_eq_true rfl) (e_kr ?_) e_kx
    refine g_run 17 1 rfl ?_
    refine g_get 18 rfl fl_RJ5_22 hx rfl ?_
    refine g_ishl 19 rfl sx_shl0 ?_
    refine g_callS 20 rfl cs_RJ5_108 (j_copyOf hv hvn hvv hcap hok ((cap : Int) + ((cap : Int) + 2)) (cap + 2 + cap) (by omega) (by omega)) rfl rfl (by decide) (by omega) (by omega) (Nat.le_of_ble_eq_true rfl) (e_kw fun M32 hM32 => ?_) e_kwx
    have k32_this := (congrFun hM32 b).trans ((va_up_ne _ _ (by omega)).trans hx)
    have k32_new := (congrFun hM32 n).trans (va_up_self _ _ _)
    refine g_put 21 rfl fp_RJ5_15 k32_this rfl trivial (fun M35 hM35 => ?_)
    have k35_this := (congrFun hM35 b).trans (va_up_self _ _ _)
    have k35_new := (congrFun hM35 n).trans ((va_up_ne _ _ (by omega)).trans k32_new)
    refine g_vret 22 rfl rfl ⟨rfl, Nat.le_succ _, Nat.le_refl _, ⟨n, cap + 2 + cap, va_cpy f (fun _ => 0) 0 0 cap, ⟨hnb.1, by omega⟩, ⟨by omega, Nat.lt_succ_self _⟩, ⟨hb, by omega, by omega, by omega, by omega, ⟨x, hx01, k35_this⟩, k35_new, Bok_cpy hok cap⟩, Or.inr (by omega), fun j hj => ?_, by omega⟩, fun q q1 q2 => by rw [hM35, va_up_ne _ _ q2, hM32, va_up_ne _ _ (by omega)]⟩
    rw [e_cpy0 (by omega)]
    exact hch j hj
theorem Bok_cp {f g : Nat → Int} (h : Bok f) (c len : Nat) (hg : ∀ j, j < len → 32 ≤ g j ∧ g j ≤ 126) : Bok (va_cpy g f 0 c len) := fun j => by
  unfold va_cpy
  split
  · have := hg (0 + (j - c)) (by omega)
    omega
  · exact h j
theorem j_appS5 (hP : PV Γ) (S : SB M n n0 b c) (T : STR M b n k len g) (hg : ∀ j, j < len → 32 ≤ g j ∧ g j ≤ 126) (h34 : c + len ≤ 34) : Ct (e_L r0) Γ mJ5_append_cf1ce 5 1 34 [vR b, vR k] M n (fun r' M' n' => r' = .inl (some (vR b)) ∧ n ≤ n' ∧ n' ≤ n + 1 ∧ SB M' n' n0 b (c + len) ∧ ∀ q, q < n0 → M' q = M q) := by
  have S9 := S
  obtain ⟨v, cap, f, hnb, hnv, H, hcc, hch⟩ := S9
  obtain ⟨hb, hv, hbv, hcap, hc, ⟨x, hx01, hx⟩, hvv, hok⟩ := H
  refine g_start ok_J5_append_cf1ce rfl rfl ?_
  refine g_run 0 1 rfl ?_
  refine g_ifnonnull 1 9 rfl rfl (fun _ _ => ?_) (fun z => absurd z (by simp))
  refine g_run 5 1 rfl ?_
  refine g_callT 6 T rfl cv_RJ5_32 cv0_RJ5_32 (j_slenS T) rfl rfl (by decide) (by omega) (by omega) (Nat.le_of_ble_eq_true rfl) (e_kr ?_) e_kx
  refine g_run 7 3 rfl ?_
  refine g_get 10 rfl fl_RJ5_79 hx rfl ?_
  refine g_run 11 2 rfl ?_
  refine g_callP 13 hP rfl cp_RJ5_100 hx (j_ensS hP S ((c : Int) + (len : Int)) (by omega)) rfl rfl (by decide) (by omega) (by omega) (Nat.le_of_ble_eq_true rfl) (fun v9 M1 n1 h9 _ => ?_) (fun E M1 n1 h9 _ => by cases h9.1)
  obtain ⟨e9, hn1, hn2, ⟨v1, cap1, f1, hnb1, hnv1, H1, hcc1, hch1, hz1⟩, fr1⟩ := h9
  cases e9
  have T1 : STR M1 b n1 k len g := STR_fr T hn1 (fun q hq => fr1 q (by omega) (by omega)) (fun q h1 h2 => fr1 q h2 (by omega))
  have H2 := H1
  obtain ⟨hb1, hv1, hbv1, hcap1, hc1, ⟨x1, hx011, hx1⟩, hvv1, hok1⟩ := H2
  refine g_run 14 2 rfl ?_
  refine g_get 16 rfl fl_RJ5_79 hx1 rfl ?_
  refine g_run 17 1 rfl ?_
  refine g_callP 18 hP rfl cp_RJ5_208 hx1 (j_put hP H1 T1 (fun j hj => by have := hg j hj; omega) (by omega)) rfl rfl (by decide) (by omega) (by omega) (Nat.le_of_ble_eq_true rfl) (e_kw fun M30 hM30 => ?_) e_kwx
  have k30_this := (congrFun hM30 b).trans ((va_up_ne _ _ hbv1).trans hx1)
  have k30_v := (congrFun hM30 v1).trans (va_up_self _ _ _)
  refine g_run 19 2 rfl ?_
  refine g_get 21 rfl fl_RJ5_79 k30_this rfl ?_
  refine g_run 22 2 rfl ?_
  refine g_put 24 rfl fp_RJ5_79 k30_this rfl trivial (fun M40 hM40 => ?_)
  have k40_this := (congrFun hM40 b).trans (va_up_self _ _ _)
  have k40_v := (congrFun hM40 v1).trans ((va_up_ne _ _ (fun h => hbv1 h.symm)).trans k30_v)
  refine g_run 25 1 rfl ?_
  refine g_aret 26 rfl rfl (by first | exact Or.inl ⟨_, rfl⟩ | exact Or.inr ⟨_, rfl⟩) ⟨rfl, hn1, hn2, ⟨v1, cap1, va_cpy g f1 0 c len, hnb1, hnv1, ⟨hb1, hv1, hbv1, hcap1, by omega, ⟨x1, hx011, k40_this⟩, k40_v, Bok_cp hok1 c len hg⟩, hcc1, fun j hj => ?_⟩, fun q hq => ?_⟩
  · unfold va_cpy
    split
    · exact hg _ (by omega)
    · exact hch1 j (by omega)
  · rw [hM40, va_up_ne _ _ (by omega), hM30, va_up_ne _ _ (by omega)]
    exact fr1 q (by omega) (by omega)
theorem j_appS (hP : PV Γ) (S : SB M n n0 b c) (T : STR M b n k len g) (hg : ∀ j, j < len → 32 ≤ g j ∧ g j ≤ 126) (h34 : c + len ≤ 34) : Ct (e_L r0) Γ mJ4_append_15ec4 6 1 34 [vR b, vR k] M n (fun r' M' n' => r' = .inl (some (vR b)) ∧ n ≤ n' ∧ n' ≤ n + 1 ∧ SB M' n' n0 b (c + len) ∧ ∀ q, q < n0 → M' q = M q) := by
  have S9 := S
  obtain ⟨v, cap, f, hnb, hnv, H, hcc, hch⟩ := S9
  obtain ⟨hb, hv, hbv, hcap, hc, ⟨x, hx01, hx⟩, hvv, hok⟩ := H
  refine g_start ok_J4_append_15ec4 rfl rfl ?_
  refine g_run 0 2 rfl ?_
  refine g_callSU 2 rfl csu_RJ4_29 hx (j_appS5 hP S T hg h34) rfl rfl (by decide) (by omega) (by omega) (Nat.le_of_ble_eq_true rfl) (fun v9 M1 n1 h9 _ => ?_) (fun E M1 n1 h9 _ => by cases h9.1)
  obtain ⟨e9, h9⟩ := h9
  cases e9
  refine g_run 3 2 rfl ?_
  exact g_aret 5 rfl rfl (by first | exact Or.inl ⟨_, rfl⟩ | exact Or.inr ⟨_, rfl⟩) ⟨rfl, h9⟩
theorem sN_ch {f : Nat → Int} (c : Nat) {z : Int} (hz : 0 ≤ z ∧ z ≤ 99) (hf : ∀ j, j < c → 32 ≤ f j ∧ f j ≤ 126) : ∀ j, j < c + sL z → 32 ≤ sN f c z j ∧ sN f c z j ≤ 126 := fun j hj => by
  unfold sL at hj
  unfold sN va_up
  by_cases e : z < 10
  · rw [if_pos e] at hj
    rw [if_pos e]
    show 32 ≤ (if j = c then 48 + z else f j) ∧ (if j = c then 48 + z else f j) ≤ 126
    split
    · omega
    · exact hf j (by omega)
  · rw [if_neg e] at hj
    rw [if_neg e]
    show 32 ≤ (if j = c then 48 + z / 10 else if j = c + 1 then 48 + z % 10 else f j) ∧ (if j = c then 48 + z / 10 else if j = c + 1 then 48 + z % 10 else f j) ≤ 126
    split
    · omega
    · split
      · omega
      · exact hf j (by omega)
theorem j_appI5S (hK : KM Γ) (hP : PV Γ) (S : SB M n n0 b c) (z : Int) (hz : 0 ≤ z ∧ z ≤ 99) (h34 : c + sL z ≤ 34) : Ct (e_L r0) Γ mJ5_append_c97b9 5 1 34 [vR b, vI z] M n (fun r' M' n' => r' = .inl (some (vR b)) ∧ n ≤ n' ∧ n' ≤ n + 1 ∧ SB M' n' n0 b (c + sL z) ∧ ∀ q, q < n0 → M' q = M q) := by
  have S9 := S
  obtain ⟨v, cap, f, hnb, hnv, H, hcc, hch⟩ := S9
  obtain ⟨hb, hv, hbv, hcap, hc, ⟨x, hx01, hx⟩, hvv, hok⟩ := H
  have qs := sL_rng z
  refine g_start ok_J5_append_c97b9 rfl rfl ?_
  refine g_run 0 1 rfl ?_
  refine g_get 1 rfl fl_RJ5_79 hx rfl ?_
  refine g_run 2 3 rfl ?_
  refine g_callS 5 rfl cs_RJ5_245 (j_size z hz) rfl rfl (by decide) (by omega) (by omega) (Nat.le_of_ble_eq_true rfl) (e_kr ?_) e_kx
  refine g_run 6 4 rfl ?_
  refine g_callP 10 hP rfl cp_RJ5_100 hx (j_ensS hP S ((c : Int) + (sL z : Int)) (by omega)) rfl rfl (by decide) (by omega) (by omega) (Nat.le_of_ble_eq_true rfl) (fun v9 M1 n1 h9 _ => ?_) (fun E M1 n1 h9 _ => by cases h9.1)
  obtain ⟨e9, hn1, hn2, ⟨v1, cap1, f1, hnb1, hnv1, H1, hcc1, hch1, hz1⟩, fr1⟩ := h9
  cases e9
  have H2 := H1
  obtain ⟨hb1, hv1, hbv1, hcap1, hc1, ⟨x1, hx011, hx1⟩, hvv1, hok1⟩ := H2
  refine g_run 11 1 rfl ?_
  refine g_callV 12 rfl cv_RJ5_83 hx1 (j_isLatin1 H1) rfl rfl (by decide) (by omega) (by omega) (Nat.le_of_ble_eq_true rfl) (e_kr ?_) e_kx
  refine g_if_eq 13 37 rfl rfl (by omega) (fun c21 => absurd c21 (by decide)) (fun c21 => ?_)
  refine g_run 14 3 rfl ?_
  refine g_get 17 rfl fl_RJ5_15 hx1 rfl ?_
  refine g_callS 18 rfl cs_RJ5_248 (j_getChars hK hv1 hcap1 hvv1 z ((c : Int) + sL z) c hz rfl (by omega)) rfl rfl (by decide) (by omega) (by omega) (Nat.le_of_ble_eq_true rfl) (e_kw fun M30 hM30 => ?_) e_kwx
  have k30_this := (congrFun hM30 b).trans ((va_up_ne _ _ hbv1).trans hx1)
  have k30_v := (congrFun hM30 v1).trans (va_up_self _ _ _)
  refine g_run 19 2 rfl ?_
  refine g_run 28 2 rfl ?_
  refine g_put 30 rfl fp_RJ5_79 k30_this rfl trivial (fun M50 hM50 => ?_)
  have k50_this := (congrFun hM50 b).trans (va_up_self _ _ _)
  have k50_v := (congrFun hM50 v1).trans ((va_up_ne _ _ (fun h => hbv1 h.symm)).trans k30_v)
  refine g_run 31 1 rfl ?_
  refine g_aret 32 rfl rfl (by first | exact Or.inl ⟨_, rfl⟩ | exact Or.inr ⟨_, rfl⟩) ⟨rfl, hn1, hn2, ⟨v1, cap1, sN f1 c z, hnb1, hnv1, ⟨hb1, hv1, hbv1, hcap1, by omega, ⟨x1, hx011, k50_this⟩, k50_v, Bok_sN hok1 _ hz⟩, hcc1, sN_ch c hz hch1⟩, fun q hq => ?_⟩
  rw [hM50, va_up_ne _ _ (by omega), hM30, va_up_ne _ _ (by omega)]
  exact fr1 q (by omega) (by omega)
theorem j_appIS (hK : KM Γ) (hP : PV Γ) (S : SB M n n0 b c) (z : Int) (hz : 0 ≤ z ∧ z ≤ 99) (h34 : c + sL z ≤ 34) : Ct (e_L r0) Γ mJ4_append_bf812 6 1 34 [vR b, vI z] M n (fun r' M' n' => r' = .inl (some (vR b)) ∧ n ≤ n' ∧ n' ≤ n + 1 ∧ SB M' n' n0 b (c + sL z) ∧ ∀ q, q < n0 → M' q = M q) := by
  have S9 := S
  obtain ⟨v, cap, f, hnb, hnv, H, hcc, hch⟩ := S9
  obtain ⟨hb, hv, hbv, hcap, hc, ⟨x, hx01, hx⟩, hvv, hok⟩ := H
  refine g_start ok_J4_append_bf812 rfl rfl ?_
  refine g_run 0 2 rfl ?_
  refine g_callSU 2 rfl csu_RJ4_53 hx (j_appI5S hK hP S z hz h34) rfl rfl (by decide) (by omega) (by omega) (Nat.le_of_ble_eq_true rfl) (fun v9 M1 n1 h9 _ => ?_) (fun E M1 n1 h9 _ => by cases h9.1)
  obtain ⟨e9, h9⟩ := h9
  cases e9
  refine g_run 3 2 rfl ?_
  exact g_aret 5 rfl rfl (by first | exact Or.inl ⟨_, rfl⟩ | exact Or.inr ⟨_, rfl⟩) ⟨rfl, h9⟩
theorem j_initS (hb : 100 ≤ b) (hn : n = b + 1) (h : M b = cO 1 [vN, vI 0, vI 0, vI 0]) : Ct (e_L r0) Γ mJ4_init_da8c8 1 1 16 [vR b] M n (e_wr none (b + 2) fun M' => SB M' (b + 2) b b 0 ∧ ∀ q, q < b → M' q = M q) := by
  refine g_start ok_J4_init_da8c8 rfl rfl ?_
  refine g_run 0 2 rfl ?_
  refine g_callI 2 rfl ci_RJ4_1 (j_init5 hb hn h) rfl rfl (by decide) (by omega) (by omega) (Nat.le_of_ble_eq_true rfl) (e_kw fun M2 hq2 => ?_) e_kwx
  exact g_vret 3 rfl rfl ⟨rfl, rfl, ⟨b + 1, 16, fun _ => 0, ⟨Nat.le_refl _, by omega⟩, ⟨by omega, by omega⟩, hq2.1, Or.inl rfl, fun j hj => absurd hj (by omega)⟩, fun q hq => hq2.2 q (Or.inl hq)⟩
theorem j_clen (z y : Int) (hz : i32 z) (hy : i32 y) (h : z ≤ y) : Ct (e_L r0) Γ mJ7_checkLength_df160 0 0 0 [vI z, vI y] M n (e_rt (.inl none) M n) := by
  refine g_start ok_J7_checkLength_df160 rfl rfl ?_
  refine g_run 0 2 rfl ?_
  refine g_icmp_ge 2 37 rfl rfl hy hz (fun c2 => ?_) (fun c2 => absurd c2 (by omega))
  exact g_vret 17 rfl rfl ⟨rfl, rfl, rfl⟩
theorem j_corB (hvn : v < n) (hvv : M v = cI 2 cap f) (hcap : cap ≤ 1000) (hok : Bok f) (hc : c ≤ cap) (h34 : c ≤ 34) : Ct (e_L r0) Γ mJ7_copyOfRangeByte_39247 1 1 34 [vR v, vI 0, vI (c : Int)] M n (e_wr (some (vR n)) (n + 1) fun M' => M' = va_up M n (cI 2 c (va_cpy f (fun _ => 0) 0 0 c))) := by
  refine g_start ok_J7_copyOfRangeByte_39247 rfl rfl ?_
  refine g_run 0 2 rfl ?_
  refine g_callS 2 rfl cs_RJ7_343 (j_clen 0 (c : Int) (by omega) (by omega) (by omega)) rfl rfl (by decide) (by omega) (by omega) (Nat.le_of_ble_eq_true rfl) (e_kr ?_) e_kx
  refine g_run 3 5 rfl ?_
  refine g_newaI (kd := 2) 8 c rfl (by decide) rfl ac_B (by omega) (by omega) (by omega) (by omega) (fun M10 hM10 => ?_)
  have k10_arr := (congrFun hM10 v).trans ((va_up_ne _ _ (by omega)).trans hvv)
  have k10_new := (congrFun hM10 n).trans (va_up_self _ _ _)
  refine g_run 9 6 rfl ?_
  refine g_alen 15 rfl k10_arr ?_
  dsimp only
  refine g_run 16 3 rfl ?_
  refine g_min 19 rfl cm_RJ7_304 (by omega) (by omega) (Nat.le_of_ble_eq_true rfl) ?_
  rw [show (if (c : Int) - 0 < ((cap : Nat) : Int) - 0 then (c : Int) - 0 else ((cap : Nat) : Int) - 0) = (c : Int) from by split <;> omega]
  refine g_copy 20 0 0 c rfl cy9_RJ7_150 (by decide) k10_arr k10_new rfl rfl rfl (by omega) (by omega) (by omega) (by omega) (fun j _ => by have := hok (0 + j); show -128 ≤ _ ∧ _ ≤ 127; omega) (Nat.le_of_ble_eq_true rfl) (fun M27 hM27 => ?_)
  refine g_run 21 1 rfl ?_
  exact g_aret 22 rfl rfl (by first | exact Or.inl ⟨_, rfl⟩ | exact Or.inr ⟨_, rfl⟩) ⟨rfl, rfl, by rw [hM27, hM10, up_up]⟩
theorem j_cor (hvn : v < n) (hvv : M v = cI 2 cap f) (hcap : cap ≤ 1000) (hok : Bok f) (hc : c ≤ cap) (h34 : c ≤ 34) : Ct (e_L r0) Γ mJ7_copyOfRange_39247 2 1 34 [vR v, vI 0, vI (c : Int)] M n (e_wr (some (vR n)) (n + 1) fun M' => ∃ g : Nat → Int, M' = va_up M n (cI 2 c g) ∧ Bok g ∧ ∀ j, j < c → g j = f j) := by
  refine g_start ok_J7_copyOfRange_39247 rfl rfl ?_
  refine g_run 0 1 rfl ?_
  refine g_if_ne 1 10 rfl rfl (by omega) (fun c1 => absurd rfl c1) (fun c1 => ?_)
  refine g_run 2 2 rfl ?_
  refine g_alen 4 rfl hvv ?_
  dsimp only
  refine g_icmp_eq 5 17 rfl rfl (by omega) (by omega) (fun c7 => ?_) (fun c7 => ?_)
  · obtain rfl : c = cap := by omega
    refine g_run 11 1 rfl ?_
    refine g_cloneB 12 rfl cl_RJ7_310 (show Cond.castable "[B" "java/lang/Cloneable" ∈ e_WN by decide +kernel) hvv (fun j _ => by have := hok j; omega) (by omega) (by omega) (Nat.le_of_ble_eq_true rfl) (fun M18 hM18 => ?_)
    refine g_castB 13 rfl ck_RJ7_311 ((congrFun hM18 n).trans (va_up_self _ _ _)) ?_
    exact g_aret 14 rfl rfl (by first | exact Or.inl ⟨_, rfl⟩ | exact Or.inr ⟨_, rfl⟩) ⟨rfl, rfl, f, hM18, hok, fun _ _ => rfl⟩
  · refine g_run 6 3 rfl ?_
    refine g_callS 9 rfl cs_RJ7_339 (j_corB hvn hvv hcap hok hc h34) rfl rfl (by decide) (by omega) (by omega) (Nat.le_of_ble_eq_true rfl) (e_kw fun M13 hM13 => ?_) e_kwx
    exact g_aret 10 rfl rfl (by first | exact Or.inl ⟨_, rfl⟩ | exact Or.inr ⟨_, rfl⟩) ⟨rfl, rfl, _, hM13, Bok_cpy hok c, fun j hj => e_cpy0 hj⟩
theorem j_getV (H : BM M b v cap c f) : Ct (e_L r0) Γ mJ5_getValue_6d5f1 0 0 0 [vR b] M n (e_rt (.inl (some (vR v))) M n) := by
  obtain ⟨hb, hv, hbv, hcap, hc, ⟨x, hx01, hx⟩, hvv, hok⟩ := H
  refine g_start ok_J5_getValue_6d5f1 rfl rfl ?_
  refine g_run 0 1 rfl ?_
  refine g_get 1 rfl fl_RJ5_15 hx rfl ?_
  exact g_aret 2 rfl rfl (by first | exact Or.inl ⟨_, rfl⟩ | exact Or.inr ⟨_, rfl⟩) ⟨rfl, rfl, rfl⟩
/-- the new text at k holds the builder's letters in the cell n -/
abbrev TXq (M : Mem) (k n c : Nat) (M' : Mem) : Prop := ∃ g : Nat → Int, M' k = cO 0 [vR n, vI 0, vI 0, vI 0] ∧ M' n = cI 2 c g ∧ (∀ j, j < c → 32 ≤ g j ∧ g j ≤ 126) ∧ ∀ q, q ≠ k → q < n → M' q = M q
theorem j_sinit2 (S : SB M n n0 b c) (h34 : c ≤ 34) (hk : k < n) (hbk : b ≠ k) (hMk : M k = cO 0 [vN, vI 0, vI 0, vI 0]) (o : Option Nat) : Ct (e_L r0) Γ mJ0_init_db425 3 1 34 [vR k, vR b, vO o] M n (e_wr none (n + 1) fun M' => TXq M k n c M') := by
  obtain ⟨v, cap, f, hnb, hnv, H, hcc, hch⟩ := S
  have H0 := H
  obtain ⟨hb, hv, hbv, hcap, hc, ⟨x, hx01, hx⟩, hvv, hok⟩ := H0
  have hvk : v ≠ k := fun e => by rw [e, hMk] at hvv; cases hvv
  refine g_start ok_J0_init_db425 rfl rfl ?_
  refine g_run 0 1 rfl ?_
  refine g_obj 1 rfl co_RJ0_1 (Nat.le_of_ble_eq_true rfl) ?_
  refine g_run 2 1 rfl ?_
  refine g_callV 3 rfl cv_RJ0_552 hx (j_getV H) rfl rfl (by decide) (by omega) (by omega) (Nat.le_of_ble_eq_true rfl) (e_kr ?_) e_kx
  refine g_run 4 2 rfl ?_
  refine g_callO 6 rfl co_RJ0_549 hx (j_length H) rfl rfl (by decide) (by omega) (by omega) (Nat.le_of_ble_eq_true rfl) (e_kr ?_) e_kx
  refine g_run 7 2 rfl ?_
  refine g_callV 9 rfl cv_RJ0_1047 hx (j_isLatin1 H) rfl rfl (by decide) (by omega) (by omega) (Nat.le_of_ble_eq_true rfl) (e_kr ?_) e_kx
  refine g_if_eq 10 41 rfl rfl (by omega) (fun c19 => absurd c19 (by decide)) (fun c19 => ?_)
  refine g_run 11 2 rfl ?_
  refine g_putF 13 rfl fp0_RJ0_15 rfl hMk rfl (by show -128 ≤ (0 : Int) ∧ (0 : Int) ≤ 127; omega) (fun M24 hM24 => ?_)
  have k24_k := (congrFun hM24 k).trans (va_up_self _ _ _)
  have k24_v := (congrFun hM24 v).trans ((va_up_ne _ _ hvk).trans hvv)
  refine g_run 14 4 rfl ?_
  refine g_callS 18 rfl cs_RJ0_54 (j_cor hnv.2 k24_v hcap hok hc h34) rfl rfl (by decide) (by omega) (by omega) (Nat.le_of_ble_eq_true rfl) (e_kw fun M32 hq32 => ?_) e_kwx
  obtain ⟨g, hM32, hgo, hgf⟩ := hq32
  have k32_k := (congrFun hM32 k).trans ((va_up_ne _ _ (by omega)).trans k24_k)
  have k32_n := (congrFun hM32 n).trans (va_up_self _ _ _)
  refine g_putF 19 rfl fp0_RJ0_9 rfl k32_k rfl trivial (fun M35 hM35 => ?_)
  have k35_k := (congrFun hM35 k).trans (va_up_self _ _ _)
  have k35_n := (congrFun hM35 n).trans ((va_up_ne _ _ (by omega)).trans k32_n)
  refine g_run 20 1 rfl ?_
  exact g_vret 50 rfl rfl ⟨rfl, rfl, g, k35_k, k35_n, fun j hj => by rw [hgf j hj]; exact hch j hj, fun q q1 q2 => by rw [hM35, va_up_ne _ _ q1, hM32, va_up_ne _ _ (by omega), hM24, va_up_ne _ _ q1]⟩
theorem j_sinit (S : SB M n n0 b c) (h34 : c ≤ 34) (hk : k < n) (hbk : b ≠ k) (hMk : M k = cO 0 [vN, vI 0, vI 0, vI 0]) : Ct (e_L r0) Γ mJ0_init_81219 4 1 34 [vR k, vR b] M n (e_wr none (n + 1) fun M' => TXq M k n c M') := by
  refine g_start ok_J0_init_81219 rfl rfl ?_
  refine g_run 0 3 rfl ?_
  refine g_callI 3 rfl ci_RJ0_489 (j_sinit2 S h34 hk hbk hMk none) rfl rfl (by decide) (by omega) (by omega) (Nat.le_of_ble_eq_true rfl) (e_kw fun M3 hq3 => ?_) e_kwx
  exact g_vret 4 rfl rfl ⟨rfl, rfl, hq3⟩
theorem SB_push {M' : Mem} {w : aE} (S : SB M n n0 b c) (h : M' = va_up M n w) : SB M' (n + 1) n0 b c := by
  obtain ⟨v, cap, f, hnb, hnv, H, hcc, hch⟩ := S
  exact ⟨v, cap, f, ⟨hnb.1, by omega⟩, ⟨hnv.1, by omega⟩, BM_fr H (by rw [h, va_up_ne _ _ (by omega)]) (by rw [h, va_up_ne _ _ (by omega)]), hcc, hch⟩
theorem j_toS (S : SB M n n0 b c) (h34 : c ≤ 34) : Ct (e_L r0) Γ mJ4_toString_0e30d 5 2 38 [vR b] M n (e_wr (some (vR n)) (n + 2) fun M' => ∃ g : Nat → Int, M' n = cO 0 [vR (n + 1), vI 0, vI 0, vI 0] ∧ M' (n + 1) = cI 2 c g ∧ (∀ j, j < c → 32 ≤ g j ∧ g j ≤ 126) ∧ ∀ q, q < n → M' q = M q) := by
  have hbn : b < n := by obtain ⟨v, cap, f, hnb, -⟩ := S; exact hnb.2
  refine g_start ok_J4_toString_0e30d rfl rfl ?_
  refine g_new 0 rfl nw_RJ4_18 (by omega) (by omega) (fun M0 hM0 => ?_)
  refine g_run 1 2 rfl ?_
  refine g_callI 3 rfl ci_RJ4_137 (j_sinit (SB_push S hM0) h34 (Nat.lt_succ_self n) (by omega) ((congrFun hM0 n).trans (va_up_self _ _ _))) rfl rfl (by decide) (by omega) (by omega) (Nat.le_of_ble_eq_true rfl) (e_kw fun M5 hq5 => ?_) e_kwx
  obtain ⟨g, h1, h2, h3, h4⟩ := hq5
  exact g_aret 4 rfl rfl (by first | exact Or.inl ⟨_, rfl⟩ | exact Or.inr ⟨_, rfl⟩) ⟨rfl, rfl, g, h1, h2, h3, fun q hq => (h4 q (by omega) (by omega)).trans (by rw [hM0, va_up_ne _ _ (by omega)])⟩
end J2
