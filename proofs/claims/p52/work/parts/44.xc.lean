/-! the class's changes (wip/whole/gen/c_xc.py prints this part) -/
def exN (k : Nat) : String := ["", "java/lang/IndexOutOfBoundsException", "java/lang/IllegalArgumentException", "java/lang/IllegalStateException", "java/lang/UnsupportedOperationException"].getD k ""
theorem rf_4 (σ : HS) (c : Nat) (a b x y : Int) : rf σ c a b x y ≤ 4 := by
  unfold rf
  split
  · unfold rfDoor; (repeat' split) <;> omega
  · unfold rfTurn; (repeat' split) <;> omega
  · unfold rfTry; (repeat' split) <;> omega
  · unfold rfShut; (repeat' split) <;> omega
  · unfold rfDamp; (repeat' split) <;> omega
  · unfold rfBake; (repeat' split) <;> omega
  · unfold rfSet; (repeat' split) <;> omega
  · unfold rfHours; (repeat' split) <;> omega
section XC2
variable {r0 : Option Nat} {Γ : Cx} {M : Mem} {n x : Nat} {σ τ : HS} {B : Int} {sv ep fp : Int} {f c5 : Nat} {r : Nat → HS}
theorem x_throwFor0 (hK : KM Γ) : Ct (e_L r0) Γ mX7_throwFor 1 0 0 [vR (10 + 0)] M n (e_rt (.inl none) M n) := by
  refine g_start ok_X7_throwFor rfl rfl ?_
  refine g_low (fun hl => ?_)
  have kr9 := k_ref hK hl 0 (by decide)
  have ks9 := k_swR hK hl
  refine g_gets 0 rfl (e_mem 17 rfl) fs_RX7_100 ?_
  refine g_run 1 1 rfl ?_
  refine g_callU 2 rfl cu_RX7_106 kr9 (c_ordR kr9 (by decide)) rfl rfl (by decide) (by omega) (by omega) (Nat.le_of_ble_eq_true rfl) (e_kr ?_) e_kx
  refine g_iald 3 0 rfl rfl ks9 rfl (by decide) (by decide) ?_
  rw [show e_swR.getD 0 0 = 0 from rfl]
  refine g_tswD 80 dw_X7_throwFor_8 (by omega) (by decide) rfl ?_
  exact g_vret 24 rfl rfl ⟨rfl, rfl, rfl⟩
theorem x_throwFor1 (hK : KM Γ) : Ct (e_L r0) Γ mX7_throwFor 1 1 6 [vR (10 + 1)] M n (e_rt (.inr (exN 1)) M n) := by
  refine g_start ok_X7_throwFor rfl rfl ?_
  refine g_low (fun hl => ?_)
  have kr9 := k_ref hK hl 1 (by decide)
  have ks9 := k_swR hK hl
  refine g_gets 0 rfl (e_mem 17 rfl) fs_RX7_100 ?_
  refine g_run 1 1 rfl ?_
  refine g_callU 2 rfl cu_RX7_106 kr9 (c_ordR kr9 (by decide)) rfl rfl (by decide) (by omega) (by omega) (Nat.le_of_ble_eq_true rfl) (e_kr ?_) e_kx
  refine g_iald 3 1 rfl rfl ks9 rfl (by decide) (by decide) ?_
  rw [show e_swR.getD 1 0 = 1 from rfl]
  refine g_tsw 40 0 dw_X7_throwFor_8 rfl (by decide) (by decide) rfl rfl ?_
  exact g_throw 4 (th_RX7_112_114_116 r0) rfl rfl rfl rfl rfl rfl (Nat.le_of_ble_eq_true rfl) (by omega) (by omega) ⟨rfl, rfl, rfl⟩
theorem x_throwFor2 (hK : KM Γ) : Ct (e_L r0) Γ mX7_throwFor 1 1 6 [vR (10 + 2)] M n (e_rt (.inr (exN 2)) M n) := by
  refine g_start ok_X7_throwFor rfl rfl ?_
  refine g_low (fun hl => ?_)
  have kr9 := k_ref hK hl 2 (by decide)
  have ks9 := k_swR hK hl
  refine g_gets 0 rfl (e_mem 17 rfl) fs_RX7_100 ?_
  refine g_run 1 1 rfl ?_
  refine g_callU 2 rfl cu_RX7_106 kr9 (c_ordR kr9 (by decide)) rfl rfl (by decide) (by omega) (by omega) (Nat.le_of_ble_eq_true rfl) (e_kr ?_) e_kx
  refine g_iald 3 2 rfl rfl ks9 rfl (by decide) (by decide) ?_
  rw [show e_swR.getD 2 0 = 2 from rfl]
  refine g_tsw 50 1 dw_X7_throwFor_8 rfl (by decide) (by decide) rfl rfl ?_
  exact g_throw 9 (th_RX7_119_121_123 r0) rfl rfl rfl rfl rfl rfl (Nat.le_of_ble_eq_true rfl) (by omega) (by omega) ⟨rfl, rfl, rfl⟩
theorem x_throwFor3 (hK : KM Γ) : Ct (e_L r0) Γ mX7_throwFor 1 1 6 [vR (10 + 3)] M n (e_rt (.inr (exN 3)) M n) := by
  refine g_start ok_X7_throwFor rfl rfl ?_
  refine g_low (fun hl => ?_)
  have kr9 := k_ref hK hl 3 (by decide)
  have ks9 := k_swR hK hl
  refine g_gets 0 rfl (e_mem 17 rfl) fs_RX7_100 ?_
  refine g_run 1 1 rfl ?_
  refine g_callU 2 rfl cu_RX7_106 kr9 (c_ordR kr9 (by decide)) rfl rfl (by decide) (by omega) (by omega) (Nat.le_of_ble_eq_true rfl) (e_kr ?_) e_kx
  refine g_iald 3 3 rfl rfl ks9 rfl (by decide) (by decide) ?_
  rw [show e_swR.getD 3 0 = 3 from rfl]
  refine g_tsw 60 2 dw_X7_throwFor_8 rfl (by decide) (by decide) rfl rfl ?_
  exact g_throw 14 (th_RX7_124_126_128 r0) rfl rfl rfl rfl rfl rfl (Nat.le_of_ble_eq_true rfl) (by omega) (by omega) ⟨rfl, rfl, rfl⟩
theorem x_throwFor4 (hK : KM Γ) : Ct (e_L r0) Γ mX7_throwFor 1 1 6 [vR (10 + 4)] M n (e_rt (.inr (exN 4)) M n) := by
  refine g_start ok_X7_throwFor rfl rfl ?_
  refine g_low (fun hl => ?_)
  have kr9 := k_ref hK hl 4 (by decide)
  have ks9 := k_swR hK hl
  refine g_gets 0 rfl (e_mem 17 rfl) fs_RX7_100 ?_
  refine g_run 1 1 rfl ?_
  refine g_callU 2 rfl cu_RX7_106 kr9 (c_ordR kr9 (by decide)) rfl rfl (by decide) (by omega) (by omega) (Nat.le_of_ble_eq_true rfl) (e_kr ?_) e_kx
  refine g_iald 3 4 rfl rfl ks9 rfl (by decide) (by decide) ?_
  rw [show e_swR.getD 4 0 = 4 from rfl]
  refine g_tsw 70 3 dw_X7_throwFor_8 rfl (by decide) (by decide) rfl rfl ?_
  exact g_throw 19 (th_RX7_129_131_133 r0) rfl rfl rfl rfl rfl rfl (Nat.le_of_ble_eq_true rfl) (by omega) (by omega) ⟨rfl, rfl, rfl⟩
theorem x_throwForX (hK : KM Γ) (k : Nat) (h1 : k ≠ 0) (h4 : k ≤ 4) : Ct (e_L r0) Γ mX7_throwFor 1 1 6 [vR (10 + k)] M n (e_rt (.inr (exN k)) M n) := by
  match k, h1, h4 with
  | 1, _, _ => exact x_throwFor1 hK
  | 2, _, _ => exact x_throwFor2 hK
  | 3, _, _ => exact x_throwFor3 hK
  | 4, _, _ => exact x_throwFor4 hK
/-- the house and the history have changed -/
def e_fh (x : Nat) (M M' : Mem) : Prop := ∀ k, (k < x + 1 ∨ x + 25 ≤ k) → (k < x + 73 ∨ x + 267 ≤ k) → M' k = M k
theorem x_change (hK : KM Γ) (hx : XO M x sv ep fp) (hH : HM M (x + 1) σ) (hr : Hok B σ) (hB : B ≤ 1000000000) (hY : YM M (x + 73) f c5 r) (hf : f < 8) (hc5 : c5 ≤ 8) (c : Nat) (hc : c < 10) (a b u y : Int) (ha : i32 a) (hb : i32 b) (hu : i32 u) (hy : i32 y) (h0 : rf σ c a b u y = 0) : Ct (e_L r0) Γ mX7_change 5 0 0 [vR x, vR c, vI a, vI b, vI u, vI y] M n (e_wr (some (vI (runV σ c a b u y))) n fun M' => XO M' x sv ep fp ∧ HM M' (x + 1) (run σ c a b u y) ∧ YM M' (x + 73) (yF f c5) (yC c5) (yR f c5 r σ) ∧ e_fh x M M') := by
  refine g_start ok_X7_change rfl rfl ?_
  refine g_run 0 1 rfl ?_
  refine g_get 1 rfl fl_RX7_10 hx rfl ?_
  refine g_run 2 5 rfl ?_
  refine g_callV 7 rfl cv_RX7_85 hH.2.1 (c_refusalOf hK hH hr c hc a b u y ha hb hu hy) rfl rfl (by decide) (by omega) (by omega) (Nat.le_of_ble_eq_true rfl) (e_kr ?_) e_kx
  rw [h0]
  refine g_callS 8 rfl cs_RX7_89 (x_throwFor0 hK) rfl rfl (by decide) (by omega) (by omega) (Nat.le_of_ble_eq_true rfl) (e_kr ?_) e_kx
  refine g_run 9 1 rfl ?_
  refine g_get 10 rfl fl_RX7_25 hx rfl ?_
  refine g_run 11 1 rfl ?_
  refine g_get 12 rfl fl_RX7_10 hx rfl ?_
  refine g_callV 13 rfl cv_RX7_93 hY.2.1 (c_push hY hH hr (by omega) hf hc5) rfl rfl (by decide) (by omega) (by omega) (Nat.le_of_ble_eq_true rfl) (e_kw fun M25 hq25 => ?_) e_kwx
  have hx25 := (hq25.2 x (by omega)).trans hx
  have hH25 := HM_fr hq25.2 (by omega) hH
  refine g_run 14 1 rfl ?_
  refine g_get 15 rfl fl_RX7_10 hx25 rfl ?_
  refine g_run 16 5 rfl ?_
  refine g_callV 21 rfl cv_RX7_97 hH25.2.1 (c_carryOut hK hH25 hr hB c hc a b u y h0) rfl rfl (by decide) (by omega) (by omega) (Nat.le_of_ble_eq_true rfl) (e_kw fun M39 hq39 => ?_) e_kwx
  exact g_iret 22 rfl rfl (by first | exact trivial | exact Or.inl rfl | exact Or.inr rfl | (show _ ∨ _; omega)) ⟨rfl, rfl, (hq39.2 x (by omega)).trans hx25, hq39.1, YM_fr hq39.2 (by omega) hq25.1, fun k h1 h2 => (hq39.2 k (by omega)).trans (hq25.2 k (by omega))⟩
theorem x_changeX (hK : KM Γ) (hx : XO M x sv ep fp) (hH : HM M (x + 1) σ) (hr : Hok B σ) (hB : B ≤ 1000000000) (hY : YM M (x + 73) f c5 r) (hf : f < 8) (hc5 : c5 ≤ 8) (c : Nat) (hc : c < 10) (a b u y : Int) (ha : i32 a) (hb : i32 b) (hu : i32 u) (hy : i32 y) (h0 : rf σ c a b u y ≠ 0) : Ct (e_L r0) Γ mX7_change 5 1 6 [vR x, vR c, vI a, vI b, vI u, vI y] M n (e_rt (.inr (exN (rf σ c a b u y))) M n) := by
  refine g_start ok_X7_change rfl rfl ?_
  refine g_run 0 1 rfl ?_
  refine g_get 1 rfl fl_RX7_10 hx rfl ?_
  refine g_run 2 5 rfl ?_
  refine g_callV 7 rfl cv_RX7_85 hH.2.1 (c_refusalOf hK hH hr c hc a b u y ha hb hu hy) rfl rfl (by decide) (by omega) (by omega) (Nat.le_of_ble_eq_true rfl) (e_kr ?_) e_kx
  refine g_callS 8 rfl cs_RX7_89 (x_throwForX hK _ h0 (rf_4 σ c a b u y)) rfl rfl (by decide) (by omega) (by omega) (Nat.le_of_ble_eq_true rfl) e_krx (e_kxr (gx_out rfl ⟨rfl, rfl, rfl⟩))
theorem x_addDoor (hK : KM Γ) (hx : XO M x sv ep fp) (hH : HM M (x + 1) σ) (hr : Hok B σ) (hB : B ≤ 1000000000) (hY : YM M (x + 73) f c5 r) (hf : f < 8) (hc5 : c5 ≤ 8) (a : Int) (ha : i32 a) (b : Int) (hb : i32 b) (u : Int) (hu : i32 u) (h0 : rf σ 0 a b u 0 = 0) : Ct (e_L r0) Γ mX7_addDoor 6 0 0 [vR x, vI a, vI b, vI u] M n (e_wr (some (vI (runV σ 0 a b u 0))) n fun M' => XO M' x sv ep fp ∧ HM M' (x + 1) (run σ 0 a b u 0) ∧ YM M' (x + 73) (yF f c5) (yC c5) (yR f c5 r σ) ∧ e_fh x M M') := by
  refine g_start ok_X7_addDoor rfl rfl ?_
  refine g_run 0 1 rfl ?_
  refine g_gets 1 rfl (e_mem 0 rfl) fs_RX7_54 ?_
  refine g_run 2 4 rfl ?_
  refine g_callV 6 rfl cv_RX7_60 hx (x_change hK hx hH hr hB hY hf hc5 0 (by decide) a b u 0 ha hb hu (by decide) h0) rfl rfl (by decide) (by omega) (by omega) (Nat.le_of_ble_eq_true rfl) (e_kw fun M9 hq9 => ?_) e_kwx
  exact g_iret 7 rfl rfl (by first | exact trivial | exact Or.inl rfl | exact Or.inr rfl | (show _ ∨ _; omega)) ⟨rfl, rfl, hq9⟩
theorem x_addDoorX (hK : KM Γ) (hx : XO M x sv ep fp) (hH : HM M (x + 1) σ) (hr : Hok B σ) (hB : B ≤ 1000000000) (hY : YM M (x + 73) f c5 r) (hf : f < 8) (hc5 : c5 ≤ 8) (a : Int) (ha : i32 a) (b : Int) (hb : i32 b) (u : Int) (hu : i32 u) (h0 : rf σ 0 a b u 0 ≠ 0) : Ct (e_L r0) Γ mX7_addDoor 6 1 6 [vR x, vI a, vI b, vI u] M n (e_rt (.inr (exN (rf σ 0 a b u 0))) M n) := by
  refine g_start ok_X7_addDoor rfl rfl ?_
  refine g_run 0 1 rfl ?_
  refine g_gets 1 rfl (e_mem 0 rfl) fs_RX7_54 ?_
  refine g_run 2 4 rfl ?_
  refine g_callV 6 rfl cv_RX7_60 hx (x_changeX hK hx hH hr hB hY hf hc5 0 (by decide) a b u 0 ha hb hu (by decide) h0) rfl rfl (by decide) (by omega) (by omega) (Nat.le_of_ble_eq_true rfl) e_krx (e_kxr (gx_out rfl ⟨rfl, rfl, rfl⟩))
theorem x_turn (hK : KM Γ) (hx : XO M x sv ep fp) (hH : HM M (x + 1) σ) (hr : Hok B σ) (hB : B ≤ 1000000000) (hY : YM M (x + 73) f c5 r) (hf : f < 8) (hc5 : c5 ≤ 8) (a : Int) (ha : i32 a) (b : Int) (hb : i32 b) (u : Int) (hu : i32 u) (h0 : rf σ 1 a b u 0 = 0) : Ct (e_L r0) Γ mX7_turn 6 0 0 [vR x, vI a, vI b, vI u] M n (e_wr (some (vI (runV σ 1 a b u 0))) n fun M' => XO M' x sv ep fp ∧ HM M' (x + 1) (run σ 1 a b u 0) ∧ YM M' (x + 73) (yF f c5) (yC c5) (yR f c5 r σ) ∧ e_fh x M M') := by
  refine g_start ok_X7_turn rfl rfl ?_
  refine g_run 0 1 rfl ?_
  refine g_gets 1 rfl (e_mem 1 rfl) fs_RX7_64 ?_
  refine g_run 2 4 rfl ?_
  refine g_callV 6 rfl cv_RX7_60 hx (x_change hK hx hH hr hB hY hf hc5 1 (by decide) a b u 0 ha hb hu (by decide) h0) rfl rfl (by decide) (by omega) (by omega) (Nat.le_of_ble_eq_true rfl) (e_kw fun M9 hq9 => ?_) e_kwx
  exact g_iret 7 rfl rfl (by first | exact trivial | exact Or.inl rfl | exact Or.inr rfl | (show _ ∨ _; omega)) ⟨rfl, rfl, hq9⟩
theorem x_turnX (hK : KM Γ) (hx : XO M x sv ep fp) (hH : HM M (x + 1) σ) (hr : Hok B σ) (hB : B ≤ 1000000000) (hY : YM M (x + 73) f c5 r) (hf : f < 8) (hc5 : c5 ≤ 8) (a : Int) (ha : i32 a) (b : Int) (hb : i32 b) (u : Int) (hu : i32 u) (h0 : rf σ 1 a b u 0 ≠ 0) : Ct (e_L r0) Γ mX7_turn 6 1 6 [vR x, vI a, vI b, vI u] M n (e_rt (.inr (exN (rf σ 1 a b u 0))) M n) := by
  refine g_start ok_X7_turn rfl rfl ?_
  refine g_run 0 1 rfl ?_
  refine g_gets 1 rfl (e_mem 1 rfl) fs_RX7_64 ?_
  refine g_run 2 4 rfl ?_
  refine g_callV 6 rfl cv_RX7_60 hx (x_changeX hK hx hH hr hB hY hf hc5 1 (by decide) a b u 0 ha hb hu (by decide) h0) rfl rfl (by decide) (by omega) (by omega) (Nat.le_of_ble_eq_true rfl) e_krx (e_kxr (gx_out rfl ⟨rfl, rfl, rfl⟩))
theorem rv_try (σ : HS) (a : Int) : -2147483648 ≤ runV σ 2 a 0 0 0 ∧ runV σ 2 a 0 0 0 ≤ 2147483647 := by
  show -2147483648 ≤ (if lFit (σ.lk a.toNat) = 3 then (1 : Int) else 0) ∧ (if lFit (σ.lk a.toNat) = 3 then (1 : Int) else 0) ≤ 2147483647
  split <;> omega
theorem x_tryLock (hK : KM Γ) (hx : XO M x sv ep fp) (hH : HM M (x + 1) σ) (hr : Hok B σ) (hB : B ≤ 1000000000) (hY : YM M (x + 73) f c5 r) (hf : f < 8) (hc5 : c5 ≤ 8) (a : Int) (ha : i32 a) (h0 : rf σ 2 a 0 0 0 = 0) : Ct (e_L r0) Γ mX7_tryLock 6 0 0 [vR x, vI a] M n (e_wr (some (vI (if runV σ 2 a 0 0 0 = 1 then 1 else 0))) n fun M' => XO M' x sv ep fp ∧ HM M' (x + 1) (run σ 2 a 0 0 0) ∧ YM M' (x + 73) (yF f c5) (yC c5) (yR f c5 r σ) ∧ e_fh x M M') := by
  refine g_start ok_X7_tryLock rfl rfl ?_
  refine g_run 0 1 rfl ?_
  refine g_gets 1 rfl (e_mem 2 rfl) fs_RX7_67 ?_
  refine g_run 2 4 rfl ?_
  refine g_callV 6 rfl cv_RX7_60 hx (x_change hK hx hH hr hB hY hf hc5 2 (by decide) a 0 0 0 ha (by decide) (by decide) (by decide) h0) rfl rfl (by decide) (by omega) (by omega) (Nat.le_of_ble_eq_true rfl) (e_kw fun M9 hq9 => ?_) e_kwx
  refine g_run 7 1 rfl ?_
  refine g_icmp_ne 8 19 rfl rfl (rv_try σ a) (by omega) (fun c12 => ?_) (fun c12 => ?_)
  · have r9 : (if runV σ 2 a 0 0 0 = 1 then (1 : Int) else 0) = 0 := if_neg c12
    refine g_run 11 1 rfl ?_
    exact g_iret 12 rfl rfl (by first | exact trivial | exact Or.inl rfl | exact Or.inr rfl | (show _ ∨ _; omega)) ⟨by rw [r9], rfl, hq9⟩
  · have r9 : (if runV σ 2 a 0 0 0 = 1 then (1 : Int) else 0) = 1 := if_pos c12
    refine g_run 9 2 rfl ?_
    exact g_iret 12 rfl rfl (by first | exact trivial | exact Or.inl rfl | exact Or.inr rfl | (show _ ∨ _; omega)) ⟨by rw [r9], rfl, hq9⟩
theorem x_tryLockX (hK : KM Γ) (hx : XO M x sv ep fp) (hH : HM M (x + 1) σ) (hr : Hok B σ) (hB : B ≤ 1000000000) (hY : YM M (x + 73) f c5 r) (hf : f < 8) (hc5 : c5 ≤ 8) (a : Int) (ha : i32 a) (h0 : rf σ 2 a 0 0 0 ≠ 0) : Ct (e_L r0) Γ mX7_tryLock 6 1 6 [vR x, vI a] M n (e_rt (.inr (exN (rf σ 2 a 0 0 0))) M n) := by
  refine g_start ok_X7_tryLock rfl rfl ?_
  refine g_run 0 1 rfl ?_
  refine g_gets 1 rfl (e_mem 2 rfl) fs_RX7_67 ?_
  refine g_run 2 4 rfl ?_
  refine g_callV 6 rfl cv_RX7_60 hx (x_changeX hK hx hH hr hB hY hf hc5 2 (by decide) a 0 0 0 ha (by decide) (by decide) (by decide) h0) rfl rfl (by decide) (by omega) (by omega) (Nat.le_of_ble_eq_true rfl) e_krx (e_kxr (gx_out rfl ⟨rfl, rfl, rfl⟩))
theorem x_shut (hK : KM Γ) (hx : XO M x sv ep fp) (hH : HM M (x + 1) σ) (hr : Hok B σ) (hB : B ≤ 1000000000) (hY : YM M (x + 73) f c5 r) (hf : f < 8) (hc5 : c5 ≤ 8) (a : Int) (ha : i32 a) (h0 : rf σ 3 a 0 0 0 = 0) : Ct (e_L r0) Γ mX7_shut 6 0 0 [vR x, vI a] M n (e_wr (some (vI (runV σ 3 a 0 0 0))) n fun M' => XO M' x sv ep fp ∧ HM M' (x + 1) (run σ 3 a 0 0 0) ∧ YM M' (x + 73) (yF f c5) (yC c5) (yR f c5 r σ) ∧ e_fh x M M') := by
  refine g_start ok_X7_shut rfl rfl ?_
  refine g_run 0 1 rfl ?_
  refine g_gets 1 rfl (e_mem 3 rfl) fs_RX7_70 ?_
  refine g_run 2 4 rfl ?_
  refine g_callV 6 rfl cv_RX7_60 hx (x_change hK hx hH hr hB hY hf hc5 3 (by decide) a 0 0 0 ha (by decide) (by decide) (by decide) h0) rfl rfl (by decide) (by omega) (by omega) (Nat.le_of_ble_eq_true rfl) (e_kw fun M9 hq9 => ?_) e_kwx
  exact g_iret 7 rfl rfl (by first | exact trivial | exact Or.inl rfl | exact Or.inr rfl | (show _ ∨ _; omega)) ⟨rfl, rfl, hq9⟩
theorem x_shutX (hK : KM Γ) (hx : XO M x sv ep fp) (hH : HM M (x + 1) σ) (hr : Hok B σ) (hB : B ≤ 1000000000) (hY : YM M (x + 73) f c5 r) (hf : f < 8) (hc5 : c5 ≤ 8) (a : Int) (ha : i32 a) (h0 : rf σ 3 a 0 0 0 ≠ 0) : Ct (e_L r0) Γ mX7_shut 6 1 6 [vR x, vI a] M n (e_rt (.inr (exN (rf σ 3 a 0 0 0))) M n) := by
  refine g_start ok_X7_shut rfl rfl ?_
  refine g_run 0 1 rfl ?_
  refine g_gets 1 rfl (e_mem 3 rfl) fs_RX7_70 ?_
  refine g_run 2 4 rfl ?_
  refine g_callV 6 rfl cv_RX7_60 hx (x_changeX hK hx hH hr hB hY hf hc5 3 (by decide) a 0 0 0 ha (by decide) (by decide) (by decide) h0) rfl rfl (by decide) (by omega) (by omega) (Nat.le_of_ble_eq_true rfl) e_krx (e_kxr (gx_out rfl ⟨rfl, rfl, rfl⟩))
theorem x_setDamp (hK : KM Γ) (hx : XO M x sv ep fp) (hH : HM M (x + 1) σ) (hr : Hok B σ) (hB : B ≤ 1000000000) (hY : YM M (x + 73) f c5 r) (hf : f < 8) (hc5 : c5 ≤ 8) (a : Int) (ha : i32 a) (h0 : rf σ 4 a 0 0 0 = 0) : Ct (e_L r0) Γ mX7_setDamp 6 0 0 [vR x, vI a] M n (e_wr (some (vI (runV σ 4 a 0 0 0))) n fun M' => XO M' x sv ep fp ∧ HM M' (x + 1) (run σ 4 a 0 0 0) ∧ YM M' (x + 73) (yF f c5) (yC c5) (yR f c5 r σ) ∧ e_fh x M M') := by
  refine g_start ok_X7_setDamp rfl rfl ?_
  refine g_run 0 1 rfl ?_
  refine g_gets 1 rfl (e_mem 4 rfl) fs_RX7_76 ?_
  refine g_run 2 4 rfl ?_
  refine g_callV 6 rfl cv_RX7_60 hx (x_change hK hx hH hr hB hY hf hc5 4 (by decide) a 0 0 0 ha (by decide) (by decide) (by decide) h0) rfl rfl (by decide) (by omega) (by omega) (Nat.le_of_ble_eq_true rfl) (e_kw fun M9 hq9 => ?_) e_kwx
  exact g_iret 7 rfl rfl (by first | exact trivial | exact Or.inl rfl | exact Or.inr rfl | (show _ ∨ _; omega)) ⟨rfl, rfl, hq9⟩
theorem x_setDampX (hK : KM Γ) (hx : XO M x sv ep fp) (hH : HM M (x + 1) σ) (hr : Hok B σ) (hB : B ≤ 1000000000) (hY : YM M (x + 73) f c5 r) (hf : f < 8) (hc5 : c5 ≤ 8) (a : Int) (ha : i32 a) (h0 : rf σ 4 a 0 0 0 ≠ 0) : Ct (e_L r0) Γ mX7_setDamp 6 1 6 [vR x, vI a] M n (e_rt (.inr (exN (rf σ 4 a 0 0 0))) M n) := by
  refine g_start ok_X7_setDamp rfl rfl ?_
  refine g_run 0 1 rfl ?_
  refine g_gets 1 rfl (e_mem 4 rfl) fs_RX7_76 ?_
  refine g_run 2 4 rfl ?_
  refine g_callV 6 rfl cv_RX7_60 hx (x_changeX hK hx hH hr hB hY hf hc5 4 (by decide) a 0 0 0 ha (by decide) (by decide) (by decide) h0) rfl rfl (by decide) (by omega) (by omega) (Nat.le_of_ble_eq_true rfl) e_krx (e_kxr (gx_out rfl ⟨rfl, rfl, rfl⟩))
theorem x_bake (hK : KM Γ) (hx : XO M x sv ep fp) (hH : HM M (x + 1) σ) (hr : Hok B σ) (hB : B ≤ 1000000000) (hY : YM M (x + 73) f c5 r) (hf : f < 8) (hc5 : c5 ≤ 8) (a : Int) (ha : i32 a) (b : Int) (hb : i32 b) (h0 : rf σ 5 a b 0 0 = 0) : Ct (e_L r0) Γ mX7_bake 6 0 0 [vR x, vI a, vI b] M n (e_wr (some (vI (runV σ 5 a b 0 0))) n fun M' => XO M' x sv ep fp ∧ HM M' (x + 1) (run σ 5 a b 0 0) ∧ YM M' (x + 73) (yF f c5) (yC c5) (yR f c5 r σ) ∧ e_fh x M M') := by
  refine g_start ok_X7_bake rfl rfl ?_
  refine g_run 0 1 rfl ?_
  refine g_gets 1 rfl (e_mem 5 rfl) fs_RX7_79 ?_
  refine g_run 2 4 rfl ?_
  refine g_callV 6 rfl cv_RX7_60 hx (x_change hK hx hH hr hB hY hf hc5 5 (by decide) a b 0 0 ha hb (by decide) (by decide) h0) rfl rfl (by decide) (by omega) (by omega) (Nat.le_of_ble_eq_true rfl) (e_kw fun M9 hq9 => ?_) e_kwx
  exact g_iret 7 rfl rfl (by first | exact trivial | exact Or.inl rfl | exact Or.inr rfl | (show _ ∨ _; omega)) ⟨rfl, rfl, hq9⟩
theorem x_bakeX (hK : KM Γ) (hx : XO M x sv ep fp) (hH : HM M (x + 1) σ) (hr : Hok B σ) (hB : B ≤ 1000000000) (hY : YM M (x + 73) f c5 r) (hf : f < 8) (hc5 : c5 ≤ 8) (a : Int) (ha : i32 a) (b : Int) (hb : i32 b) (h0 : rf σ 5 a b 0 0 ≠ 0) : Ct (e_L r0) Γ mX7_bake 6 1 6 [vR x, vI a, vI b] M n (e_rt (.inr (exN (rf σ 5 a b 0 0))) M n) := by
  refine g_start ok_X7_bake rfl rfl ?_
  refine g_run 0 1 rfl ?_
  refine g_gets 1 rfl (e_mem 5 rfl) fs_RX7_79 ?_
  refine g_run 2 4 rfl ?_
  refine g_callV 6 rfl cv_RX7_60 hx (x_changeX hK hx hH hr hB hY hf hc5 5 (by decide) a b 0 0 ha hb (by decide) (by decide) h0) rfl rfl (by decide) (by omega) (by omega) (Nat.le_of_ble_eq_true rfl) e_krx (e_kxr (gx_out rfl ⟨rfl, rfl, rfl⟩))
theorem x_passHours (hK : KM Γ) (hx : XO M x sv ep fp) (hH : HM M (x + 1) σ) (hr : Hok B σ) (hB : B ≤ 1000000000) (hY : YM M (x + 73) f c5 r) (hf : f < 8) (hc5 : c5 ≤ 8) (a : Int) (ha : i32 a) (h0 : rf σ 7 a 0 0 0 = 0) : Ct (e_L r0) Γ mX7_passHours 6 0 0 [vR x, vI a] M n (e_wr (some (vI (runV σ 7 a 0 0 0))) n fun M' => XO M' x sv ep fp ∧ HM M' (x + 1) (run σ 7 a 0 0 0) ∧ YM M' (x + 73) (yF f c5) (yC c5) (yR f c5 r σ) ∧ e_fh x M M') := by
  refine g_start ok_X7_passHours rfl rfl ?_
  refine g_run 0 1 rfl ?_
  refine g_gets 1 rfl (e_mem 7 rfl) fs_RX7_82 ?_
  refine g_run 2 4 rfl ?_
  refine g_callV 6 rfl cv_RX7_60 hx (x_change hK hx hH hr hB hY hf hc5 7 (by decide) a 0 0 0 ha (by decide) (by decide) (by decide) h0) rfl rfl (by decide) (by omega) (by omega) (Nat.le_of_ble_eq_true rfl) (e_kw fun M9 hq9 => ?_) e_kwx
  exact g_iret 7 rfl rfl (by first | exact trivial | exact Or.inl rfl | exact Or.inr rfl | (show _ ∨ _; omega)) ⟨rfl, rfl, hq9⟩
theorem x_passHoursX (hK : KM Γ) (hx : XO M x sv ep fp) (hH : HM M (x + 1) σ) (hr : Hok B σ) (hB : B ≤ 1000000000) (hY : YM M (x + 73) f c5 r) (hf : f < 8) (hc5 : c5 ≤ 8) (a : Int) (ha : i32 a) (h0 : rf σ 7 a 0 0 0 ≠ 0) : Ct (e_L r0) Γ mX7_passHours 6 1 6 [vR x, vI a] M n (e_rt (.inr (exN (rf σ 7 a 0 0 0))) M n) := by
  refine g_start ok_X7_passHours rfl rfl ?_
  refine g_run 0 1 rfl ?_
  refine g_gets 1 rfl (e_mem 7 rfl) fs_RX7_82 ?_
  refine g_run 2 4 rfl ?_
  refine g_callV 6 rfl cv_RX7_60 hx (x_changeX hK hx hH hr hB hY hf hc5 7 (by decide) a 0 0 0 ha (by decide) (by decide) (by decide) h0) rfl rfl (by decide) (by omega) (by omega) (Nat.le_of_ble_eq_true rfl) e_krx (e_kxr (gx_out rfl ⟨rfl, rfl, rfl⟩))
theorem x_setCombination (hK : KM Γ) (hx : XO M x sv ep fp) (hH : HM M (x + 1) σ) (hr : Hok B σ) (hB : B ≤ 1000000000) (hY : YM M (x + 73) f c5 r) (hf : f < 8) (hc5 : c5 ≤ 8) (a : Int) (ha : i32 a) (b : Int) (hb : i32 b) (u : Int) (hu : i32 u) (y : Int) (hy : i32 y) (h0 : rf σ 9 a b u y = 0) : Ct (e_L r0) Γ mX7_setCombination 6 0 0 [vR x, vI a, vI b, vI u, vI y] M n (e_wr (some (vI (runV σ 9 a b u y))) n fun M' => XO M' x sv ep fp ∧ HM M' (x + 1) (run σ 9 a b u y) ∧ YM M' (x + 73) (yF f c5) (yC c5) (yR f c5 r σ) ∧ e_fh x M M') := by
  refine g_start ok_X7_setCombination rfl rfl ?_
  refine g_run 0 1 rfl ?_
  refine g_gets 1 rfl (e_mem 9 rfl) fs_RX7_73 ?_
  refine g_run 2 4 rfl ?_
  refine g_callV 6 rfl cv_RX7_60 hx (x_change hK hx hH hr hB hY hf hc5 9 (by decide) a b u y ha hb hu hy h0) rfl rfl (by decide) (by omega) (by omega) (Nat.le_of_ble_eq_true rfl) (e_kw fun M9 hq9 => ?_) e_kwx
  exact g_iret 7 rfl rfl (by first | exact trivial | exact Or.inl rfl | exact Or.inr rfl | (show _ ∨ _; omega)) ⟨rfl, rfl, hq9⟩
theorem x_setCombinationX (hK : KM Γ) (hx : XO M x sv ep fp) (hH : HM M (x + 1) σ) (hr : Hok B σ) (hB : B ≤ 1000000000) (hY : YM M (x + 73) f c5 r) (hf : f < 8) (hc5 : c5 ≤ 8) (a : Int) (ha : i32 a) (b : Int) (hb : i32 b) (u : Int) (hu : i32 u) (y : Int) (hy : i32 y) (h0 : rf σ 9 a b u y ≠ 0) : Ct (e_L r0) Γ mX7_setCombination 6 1 6 [vR x, vI a, vI b, vI u, vI y] M n (e_rt (.inr (exN (rf σ 9 a b u y))) M n) := by
  refine g_start ok_X7_setCombination rfl rfl ?_
  refine g_run 0 1 rfl ?_
  refine g_gets 1 rfl (e_mem 9 rfl) fs_RX7_73 ?_
  refine g_run 2 4 rfl ?_
  refine g_callV 6 rfl cv_RX7_60 hx (x_changeX hK hx hH hr hB hY hf hc5 9 (by decide) a b u y ha hb hu hy h0) rfl rfl (by decide) (by omega) (by omega) (Nat.le_of_ble_eq_true rfl) e_krx (e_kxr (gx_out rfl ⟨rfl, rfl, rfl⟩))
theorem x_undo (hx : XO M x sv ep fp) (hH : HM M (x + 1) σ) (hY : YM M (x + 73) f c5 r) (hrr : ∀ j, j < 8 → Hok B (r j)) (hf : f < 8) (hc5 : c5 ≤ 8) (h0 : 0 < c5) : Ct (e_L r0) Γ mX7_undo 3 0 0 [vR x] M n (e_wr (some (vI ((c5 : Int) - 1))) n fun M' => XO M' x sv ep fp ∧ HM M' (x + 1) (r ((f + (c5 - 1)) % 8)) ∧ YM M' (x + 73) f (c5 - 1) r ∧ e_fh x M M') := by
  refine g_start ok_X7_undo rfl rfl ?_
  refine g_run 0 1 rfl ?_
  refine g_get 1 rfl fl_RX7_25 hx rfl ?_
  refine g_get 2 rfl fl_RX7_341 hY.2.1 rfl ?_
  refine g_if_ne 3 21 rfl rfl (by omega) (fun c7 => ?_) (fun c7 => ?_)
  · refine g_run 9 1 rfl ?_
    refine g_get 10 rfl fl_RX7_25 hx rfl ?_
    refine g_run 11 1 rfl ?_
    refine g_get 12 rfl fl_RX7_10 hx rfl ?_
    refine g_callV 13 rfl cv_RX7_346 hY.2.1 (c_pop hY hH hrr (by omega) hf hc5 h0) rfl rfl (by decide) (by omega) (by omega) (Nat.le_of_ble_eq_true rfl) (e_kw fun M29 hq29 => ?_) e_kwx
    have hx29 := (hq29.2.2 x (by omega) (by omega)).trans hx
    refine g_run 14 1 rfl ?_
    refine g_get 15 rfl fl_RX7_25 hx29 rfl ?_
    refine g_get 16 rfl fl_RX7_341 hq29.1.2.1 rfl ?_
    rw [show ((c5 - 1 : Nat) : Int) = (c5 : Int) - 1 from by omega]
    exact g_iret 17 rfl rfl (by first | exact trivial | exact Or.inl rfl | exact Or.inr rfl | (show _ ∨ _; omega)) ⟨rfl, rfl, hx29, hq29.2.1, hq29.1, fun k h1 h2 => hq29.2.2 k (by omega) (by omega)⟩
  · exact absurd c7 (by omega)
theorem x_undoX (hx : XO M x sv ep fp) (hH : HM M (x + 1) σ) (hY : YM M (x + 73) f c5 r) (hrr : ∀ j, j < 8 → Hok B (r j)) (hf : f < 8) (hc5 : c5 ≤ 8) (h0 : c5 = 0) : Ct (e_L r0) Γ mX7_undo 3 1 6 [vR x] M n (e_rt (.inr "java/util/NoSuchElementException") M n) := by
  refine g_start ok_X7_undo rfl rfl ?_
  refine g_run 0 1 rfl ?_
  refine g_get 1 rfl fl_RX7_25 hx rfl ?_
  refine g_get 2 rfl fl_RX7_341 hY.2.1 rfl ?_
  refine g_if_ne 3 21 rfl rfl (by omega) (fun c7 => ?_) (fun c7 => ?_)
  · exact absurd h0 (by omega)
  · exact g_throwXW 4 (th_RX7_198_344_202 r0) rfl rfl rfl rfl rfl rfl (Nat.le_of_ble_eq_true rfl) (by omega) (by omega) ⟨rfl, rfl, rfl⟩
def e_fr2 (a b : Nat) (x : Nat) (M M' : Mem) : Prop := ∀ k, k ≠ x → (k < a ∨ b ≤ k) → M' k = M k
theorem x_save (hx : XO M x sv ep fp) (hH : HM M (x + 1) σ) (hr : Hok B σ) {ρ : HS} (hS : HM M (x + 49) ρ) : Ct (e_L r0) Γ mX7_save 2 0 0 [vR x] M n (e_wr (some (vI (σ.sc 0))) n fun M' => XO M' x 1 ep fp ∧ HM M' (x + 49) σ ∧ e_fr2 (x + 49) (x + 73) x M M') := by
  refine g_start ok_X7_save rfl rfl ?_
  refine g_run 0 1 rfl ?_
  refine g_get 1 rfl fl_RX7_19 hx rfl ?_
  refine g_run 2 1 rfl ?_
  refine g_get 3 rfl fl_RX7_10 hx rfl ?_
  refine g_callV 4 rfl cv_RX7_205 hS.2.1 (c_houseCopy hS hH (by omega) hr) rfl rfl (by decide) (by omega) (by omega) (Nat.le_of_ble_eq_true rfl) (e_kw fun M8 hq8 => ?_) e_kwx
  have hx8 := (hq8.2 x (by omega)).trans hx
  have hH8 := HM_fr hq8.2 (by omega) hH
  refine g_run 5 2 rfl ?_
  refine g_put 7 rfl fp_RX7_43 hx8 rfl (Or.inr rfl) (fun M13 hM13 => ?_)
  have k13_this := (congrFun hM13 x).trans (va_up_self _ _ _)
  have k13_this_house := (congrFun hM13 (x + 1)).trans ((va_up_ne _ _ (by omega)).trans hH8.2.1)
  refine g_run 8 1 rfl ?_
  refine g_get 9 rfl fl_RX7_10 k13_this rfl ?_
  refine g_get 10 rfl fl_RX7_134 k13_this_house rfl ?_
  exact g_iret 11 rfl rfl (by first | exact trivial | exact Or.inl rfl | exact Or.inr rfl | (show _ ∨ _; omega)) ⟨rfl, rfl, k13_this, HM_fr (e_fr_up (a := x) (b := x + 1) hM13 (by omega)) (by omega) hq8.1, fun k h1 h2 => by rw [hM13, va_up_ne _ _ h1]; exact hq8.2 k h2⟩
theorem x_restore {ρ : HS} (hx : XO M x sv ep fp) (hH : HM M (x + 1) σ) (hS : HM M (x + 49) ρ) (hrr : Hok B ρ) (hY : YM M (x + 73) f c5 r) (h0 : sv = 1) : Ct (e_L r0) Γ mX7_restore 2 0 0 [vR x] M n (e_wr (some (vI (ρ.sc 0))) n fun M' => XO M' x sv ep fp ∧ HM M' (x + 1) ρ ∧ YM M' (x + 73) f 0 r ∧ e_fh x M M') := by
  refine g_start ok_X7_restore rfl rfl ?_
  refine g_run 0 1 rfl ?_
  refine g_get 1 rfl fl_RX7_43 hx rfl ?_
  refine g_if_ne 2 18 rfl rfl (by omega) (fun c4 => ?_) (fun c4 => ?_)
  · refine g_run 8 1 rfl ?_
    refine g_get 9 rfl fl_RX7_10 hx rfl ?_
    refine g_run 10 1 rfl ?_
    refine g_get 11 rfl fl_RX7_19 hx rfl ?_
    refine g_callV 12 rfl cv_RX7_205 hH.2.1 (c_houseCopy hH hS (by omega) hrr) rfl rfl (by decide) (by omega) (by omega) (Nat.le_of_ble_eq_true rfl) (e_kw fun M26 hq26 => ?_) e_kwx
    have hx26 := (hq26.2 x (by omega)).trans hx
    have hY26 := YM_fr hq26.2 (by omega) hY
    have hH26 := hq26.1
    refine g_run 13 1 rfl ?_
    refine g_get 14 rfl fl_RX7_25 hx26 rfl ?_
    refine g_run 15 1 rfl ?_
    refine g_put 16 rfl fp_RX7_341 hY26.2.1 rfl trivial (fun M34 hM34 => ?_)
    have k34_this := (congrFun hM34 x).trans ((va_up_ne _ _ (by omega)).trans hx26)
    have k34_this_house := (congrFun hM34 (x + 1)).trans ((va_up_ne _ _ (by omega)).trans hH26.2.1)
    have k34_this_history := (congrFun hM34 (x + 73)).trans (va_up_self _ _ _)
    refine g_run 17 1 rfl ?_
    refine g_get 18 rfl fl_RX7_10 k34_this rfl ?_
    refine g_get 19 rfl fl_RX7_134 k34_this_house rfl ?_
    exact g_iret 20 rfl rfl (by first | exact trivial | exact Or.inl rfl | exact Or.inr rfl | (show _ ∨ _; omega)) ⟨rfl, rfl, k34_this, HM_fr (e_fr_up (a := x + 73) (b := x + 74) hM34 (by omega)) (by omega) hH26, ⟨hY26.1, k34_this_history, (congrFun hM34 _).trans ((va_up_ne _ _ (by omega)).trans hY26.2.2.1), YF_fr (e_fr_up (a := x + 73) (b := x + 74) hM34 (by omega)) (by omega) hY26.2.2.2⟩, fun k h1 h2 => by rw [hM34, va_up_ne _ _ (by omega)]; exact hq26.2 k (by omega)⟩
  · exact absurd c4 (by omega)
theorem x_restoreX {ρ : HS} (hx : XO M x sv ep fp) (hH : HM M (x + 1) σ) (hS : HM M (x + 49) ρ) (hrr : Hok B ρ) (hY : YM M (x + 73) f c5 r) (h0 : sv = 0) : Ct (e_L r0) Γ mX7_restore 2 1 6 [vR x] M n (e_rt (.inr "java/lang/IllegalStateException") M n) := by
  refine g_start ok_X7_restore rfl rfl ?_
  refine g_run 0 1 rfl ?_
  refine g_get 1 rfl fl_RX7_43 hx rfl ?_
  refine g_if_ne 2 18 rfl rfl (by omega) (fun c4 => ?_) (fun c4 => ?_)
  · exact absurd h0 c4
  · exact g_throwW 3 (th_RX7_124_349_128 r0) rfl rfl rfl rfl rfl rfl (Nat.le_of_ble_eq_true rfl) (by omega) (by omega) ⟨rfl, rfl, rfl⟩
end XC2
