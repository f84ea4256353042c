/-! the law's isWell, whole (wip/p52/gen/c_iw3.py prints this part) -/
/-- the ovens that bake, among the first o -/
def nOv (σ : HS) : Nat → Int
  | 0 => 0
  | o + 1 => nOv σ o + (if σ.od o = -1 then 0 else 1)
section IV
variable {r0 : Option Nat} {Γ : Cx} {M : Mem} {n : Nat} {B : Int} {σ ρ : HS} {r : Nat → HS} {f c5 : Nat} {sv ep fp : Int}
abbrev IWq (M : Mem) (n : Nat) : Rv → Mem → Nat → Prop := fun r' M' n' => ∃ z : Int, r' = .inl (some (vI z)) ∧ z = 1 ∧ SPq M n M' n'
theorem iw_end {M1 : Mem} (h : PZ B M1 n σ ρ r f c5 sv) (hS : SPT M M1) (kc ks : Nat) (hkc : kc ≤ 2) (hks : ks ≤ 12) (y3 y4 y5 y6 y7 y8 y9 : Option aV) : G (e_L r0) Γ mL_isWell 8 4 30 (IWq M n) 406 [some (vR 100), some (vI (nShut σ.lk (σ.sc 0).toNat)), some (vI 0), y3, y4, y5, y6, y7, y8, y9] [] M1 n kc ks := by
  obtain ⟨hn, pb, τ, ep, fp, v, cap, t, nm, pl, s, hx, hH, hT, a4, a5, a6, a7, a8, a9⟩ := h
  have hr := pb.2.1.1
  have hj := pb.2.1.2
  have q6 := hr.2.1
  have q0 := hr.1 0 (by decide)
  have q3 := hr.1 3 (by decide)
  have qB := pb.1
  have hns := nShut_rng σ.lk (σ.sc 0).toNat
  have hac : accts σ = nShut σ.lk (σ.sc 0).toNat := hj.1.2.2.2.2
  refine g_run 221 1 rfl ?_
  refine g_if_ne 222 453 rfl rfl (by decide) (fun c => absurd rfl c) (fun _ => ?_)
  refine g_run 223 2 rfl ?_
  refine g_callV 225 rfl cv_RL_193 hx (x_shutLocks hx hH hr) rfl rfl (by decide) (by omega) (by omega) (Nat.le_of_ble_eq_true rfl) (e_kr ?_) e_kx
  refine g_icmp_ne 226 453 rfl rfl (by omega) (by omega) (fun c => absurd rfl c) (fun _ => ?_)
  refine g_run 227 2 rfl ?_
  refine g_callV 229 rfl cv_RL_250 hx (x_shutLocks2 hx hH hr) rfl rfl (by decide) (by omega) (by omega) (Nat.le_of_ble_eq_true rfl) (e_kr ?_) e_kx
  rw [hac]
  refine g_icmp_ne 230 453 rfl rfl (by omega) (by omega) (fun c => absurd rfl c) (fun _ => ?_)
  refine g_run 231 1 rfl ?_
  refine g_callV 232 rfl cv_RL_190 hx (x_rememberedTries hx hH hr (by omega)) rfl rfl (by decide) (by omega) (by omega) (Nat.le_of_ble_eq_true rfl) (e_kr ?_) e_kx
  refine g_run 233 2 rfl ?_
  refine g_callV 235 rfl cv_RL_181 hx (x_tryTotal hx hH hr) rfl rfl (by decide) (by omega) (by omega) (Nat.le_of_ble_eq_true rfl) (e_kr ?_) e_kx
  refine g_min 236 rfl cm_RL_220 (by omega) (by omega) (Nat.le_of_ble_eq_true rfl) ?_
  rw [show (if σ.sc 3 < 10 then σ.sc 3 else 10) = (if 10 < σ.sc 3 then 10 else σ.sc 3) from by (repeat' split) <;> omega]
  have h10 : -2147483648 ≤ (if 10 < σ.sc 3 then 10 else σ.sc 3) ∧ (if 10 < σ.sc 3 then 10 else σ.sc 3) ≤ 2147483647 := by split <;> omega
  refine g_icmp_ne 237 453 rfl rfl h10 h10 (fun c => absurd rfl c) (fun _ => ?_)
  refine g_run 238 1 rfl ?_
  refine g_callV 239 rfl cv_RL_253 hx (x_isConsistent hx hH hr hT (by omega)) rfl rfl (by decide) (by omega) (by omega) (Nat.le_of_ble_eq_true rfl) (fun v9 M2 n2 q _ => ?_) (fun E M2 n2 q _ => by obtain ⟨-, -, ⟨-, q⟩ | ⟨-, q⟩⟩ := q <;> cases q)
  obtain ⟨e2, hS2, ⟨-, q⟩ | ⟨hf, -⟩⟩ := q
  · cases q
    subst e2
    refine g_if_eq 240 453 rfl rfl (by decide) (fun c => absurd c (by decide)) (fun _ => ?_)
    refine g_run 241 2 rfl ?_
    exact g_iret 244 rfl rfl (Or.inr rfl) ⟨1, rfl, rfl, rfl, SPT_tr hS hS2⟩
  · exact absurd ⟨fun d hd => hj.2.1 d (by omega), hac.symm⟩ hf
theorem nOv_2 (hr : Hok B σ) (hj : HJ σ) : nBk σ (σ.sc 0).toNat - nOv σ 2 = 0 := by
  have q0 := hr.1 0 (by decide)
  have r0 := hr.2.2.1 0 (by decide)
  have r1 := hr.2.2.1 1 (by decide)
  rw [nBk_eq σ hj.1.2.1]
  show _ - (0 + (if σ.od 0 = -1 then 0 else 1) + (if σ.od 1 = -1 then 0 else 1)) = 0
  (repeat' split) <;> omega
theorem iw_ov {M1 : Mem} (h : PZ B M1 n σ ρ r f c5 sv) (hS : SPT M M1) (y3 y4 y5 y6 y7 y8 y9 : Option aV) : G (e_L r0) Γ mL_isWell 8 4 30 (IWq M n) 331 [some (vR 100), some (vI (nShut σ.lk (σ.sc 0).toNat)), some (vI (nBk σ (σ.sc 0).toNat)), y3, y4, y5, y6, y7, y8, y9] [] M1 n 0 0 := by
  have hZ := h
  obtain ⟨hn, pb, τ, ep, fp, v, cap, t, nm, pl, s, hx, hH, hT, a4, a5, a6, a7, a8, a9⟩ := h
  have hr := pb.2.1.1
  have hj := pb.2.1.2
  have q6 := hr.2.1
  have hnb := nBk_rng σ (σ.sc 0).toNat
  refine g_run 181 2 rfl ?_
  have base : G (e_L r0) Γ mL_isWell 8 4 30 (IWq M n) 333 [some (vR 100), some (vI (nShut σ.lk (σ.sc 0).toNat)), some (vI (nBk σ (σ.sc 0).toNat - nOv σ 0)), some (vI ((0 : Nat) : Int)), y4, y5, y6, y7, y8, y9] [] M1 n 0 0 := by
    refine e_down (P := fun o => ∀ (kc ks : Nat) (y4 y5 y6 y7 y8 y9 : Option aV), kc ≤ o → ks ≤ 6 * o → G (e_L r0) Γ mL_isWell 8 4 30 (IWq M n) 333 [some (vR 100), some (vI (nShut σ.lk (σ.sc 0).toNat)), some (vI (nBk σ (σ.sc 0).toNat - nOv σ o)), some (vI (o : Int)), y4, y5, y6, y7, y8, y9] [] M1 n kc ks) 2 ?_ 0 (by omega) 0 0 y4 y5 y6 y7 y8 y9 (by omega) (by omega)
    intro o ho ih kc ks y4 y5 y6 y7 y8 y9 hkc hks
    refine g_run 183 2 rfl ?_
    refine g_icmp_ge 185 406 rfl rfl (by omega) (by omega) (fun c => ?_) (fun c => ?_)
    · obtain rfl : o = 2 := by omega
      rw [nOv_2 hr hj]
      exact iw_end hZ hS kc ks hkc (by omega) _ _ _ _ _ _ _
    · have ih9 := ih (by omega)
      have ho2 : o < 2 := by omega
      have qo := hr.2.2.1 o ho2
      have qk := hj.2.2 o ho2
      refine g_run 186 2 rfl ?_
      refine g_callSX 188 rfl cs_RL_205 (l_bakedDoor hZ o ho2) rfl rfl (by decide) (by omega) (by omega) (Nat.le_of_ble_eq_true rfl) (e_kz fun z M2 n2 q => ?_) e_kzx
      obtain ⟨hz, e1, e2⟩ := q
      rw [e1, e2, hz]
      refine g_run 189 3 rfl ?_
      by_cases e : σ.od o = -1
      · have ov : nOv σ (o + 1) = nOv σ o + 0 := by rw [nOv, if_pos e]
        rw [if_pos e]
        refine g_if_lt 192 355 rfl rfl (by decide) (fun _ => ?_) (fun c => absurd c (by decide))
        refine g_run 195 4 rfl ?_
        refine g_if_lt 199 367 rfl rfl (by decide) (fun _ => ?_) (fun c => absurd c (by decide))
        refine g_run 202 3 rfl ?_
        refine g_callV 205 rfl cv_RL_207 hx (q_bakingHours hx hH hr o ho2) rfl rfl (by decide) (by omega) (by omega) (Nat.le_of_ble_eq_true rfl) (e_kr ?_) e_kx
        refine g_if_le 206 380 rfl rfl (by omega) (fun _ => ?_) (fun c => absurd c (by have := qk e; omega))
        refine g_run 209 1 rfl ?_
        refine g_icmp_ne 210 398 rfl rfl (by decide) (by decide) (fun c => absurd rfl c) (fun _ => ?_)
        refine g_run 211 1 rfl ?_
        refine g_if_lt 212 400 rfl rfl (by decide) (fun _ => ?_) (fun c => absurd c (by decide))
        refine g_run 219 2 rfl ?_
        rw [show nBk σ (σ.sc 0).toNat - nOv σ o - 0 = nBk σ (σ.sc 0).toNat - nOv σ (o + 1) from by omega]
        exact ih9 _ _ _ _ _ _ _ _ (by omega) (by omega)
      · have ov : nOv σ (o + 1) = nOv σ o + 1 := by rw [nOv, if_neg e]
        rw [if_neg e]
        refine g_if_lt 192 355 rfl rfl (by omega) (fun c => absurd c (by omega)) (fun _ => ?_)
        refine g_run 193 2 rfl ?_
        refine g_run 196 3 rfl ?_
        refine g_if_lt 199 367 rfl rfl (by omega) (fun c => absurd c (by omega)) (fun _ => ?_)
        refine g_run 200 2 rfl ?_
        refine g_run 203 2 rfl ?_
        refine g_callV 205 rfl cv_RL_207 hx (q_bakingHours hx hH hr o ho2) rfl rfl (by decide) (by omega) (by omega) (Nat.le_of_ble_eq_true rfl) (e_kr ?_) e_kx
        refine g_if_le 206 380 rfl rfl (by omega) (fun c => absurd c (by omega)) (fun _ => ?_)
        refine g_run 207 2 rfl ?_
        refine g_icmp_ne 210 398 rfl rfl (by decide) (by decide) (fun c => absurd rfl c) (fun _ => ?_)
        refine g_run 211 1 rfl ?_
        refine g_if_lt 212 400 rfl rfl (by omega) (fun c => absurd c (by omega)) (fun _ => ?_)
        refine g_run 213 2 rfl ?_
        refine g_callV 215 rfl cv_RL_202 hx (x_isBaking hx hH hr (σ.od o) (by omega) ⟨by omega, by omega⟩) rfl rfl (by decide) (by omega) (by omega) (Nat.le_of_ble_eq_true rfl) (e_kr ?_) e_kx
        have hov : hOven σ (σ.od o) := by
          match o, ho2 with
          | 0, _ => exact Or.inl rfl
          | 1, _ => exact Or.inr rfl
        rw [if_pos hov]
        refine g_if_ne 216 400 rfl rfl (by decide) (fun _ => ?_) (fun c => absurd c (by decide))
        refine g_run 219 2 rfl ?_
        rw [show nBk σ (σ.sc 0).toNat - nOv σ o - 1 = nBk σ (σ.sc 0).toNat - nOv σ (o + 1) from by omega]
        exact ih9 _ _ _ _ _ _ _ _ (by omega) (by omega)
  rw [show nBk σ (σ.sc 0).toNat - nOv σ 0 = nBk σ (σ.sc 0).toNat from Int.sub_zero _] at base
  exact base
theorem l_isWell (h : PZ B M n σ ρ r f c5 sv) : Ct (e_L r0) Γ mL_isWell 8 4 30 [vR 100] M n (IWq M n) := by
  have hZ := h
  obtain ⟨hn, pb, τ, ep, fp, v, cap, t, nm, pl, s, a1, a2, a3, a4, a5, a6, a7, a8, a9⟩ := h
  have hr := pb.2.1.1
  have hj := pb.2.1.2
  have q6 := hr.2.1
  have q0 := hr.1 0 (by decide)
  refine g_start ok_L_isWell rfl rfl ?_
  refine g_run 0 6 rfl ?_
  refine e_down (P := fun k => ∀ (M1 : Mem) (y4 y5 y6 y7 y8 y9 : Option aV), SPT M M1 → G (e_L r0) Γ mL_isWell 8 4 30 (IWq M n) 6 [some (vR 100), some (vI (nShut σ.lk k)), some (vI (nBk σ k)), some (vI (k : Int)), y4, y5, y6, y7, y8, y9] [] M1 n 0 0) (σ.sc 0).toNat ?_ 0 (by omega) M _ _ _ _ _ _ (Or.inl rfl)
  intro k hk ih M1 y4 y5 y6 y7 y8 y9 hS
  have hx := SPT_x hS a1
  have hH := SPT_h hS a2
  obtain ⟨τ', hT⟩ := SPT_t hS a3
  refine g_run 6 2 rfl ?_
  refine g_callV 8 rfl cv_RL_123 hx (x_doorCount hx hH hr) rfl rfl (by decide) (by omega) (by omega) (Nat.le_of_ble_eq_true rfl) (e_kr ?_) e_kx
  refine g_icmp_ge 9 331 rfl rfl (by omega) (by omega) (fun c11 => ?_) (fun c11 => ?_)
  · obtain rfl : k = (σ.sc 0).toNat := by omega
    exact iw_ov (PZ_spq hZ ⟨rfl, hS⟩) hS _ _ _ _ _ _ _
  · have hk9 : (k : Int) < σ.sc 0 := by omega
    refine g_run 10 6 rfl ?_
    refine iw_dial hx hH hr k hk9 _ _ (fun y6 y7 y8 y9 => ?_) _ _ _
    refine iw_A hx hH hr k hk9 _ _ _ _ _ _ _ _ ?_
    refine iw_B hx hH hr k hk9 _ _ _ _ _ _ _ _ ?_
    refine iw_C hx hH hr k hk9 _ _ _ _ _ _ _ _ hj ?_
    refine iw_D hx hH hr k hk9 _ _ _ _ _ _ τ' hT (fun M2 hS2 => ?_)
    refine g_run 179 2 rfl ?_
    exact ih (by omega) M2 _ _ _ _ _ _ (SPT_tr hS hS2)
end IV
