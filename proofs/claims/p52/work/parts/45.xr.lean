/-! the class's script: counting, type, running (wip/whole/gen/c_xr.py prints this part) -/
section RA
variable {Λ : Ls} {Γ : Cx} {X : MD} {d mc ms : Nat} {Q : Rv → Mem → Nat → Prop} {pc pc' : Nat} {ls : List (Option aV)} {st : List aV} {M : Mem} {n kc ks : Nat}
theorem g_acmp_eq (i tgt : Nat) {off : Int} {a b : Nat} (ha : 10 ≤ a ∧ a < 15) (hb : 10 ≤ b ∧ b < 15) (na : Γ.cM a ≠ e_dum) (nb : Γ.cM b ≠ e_dum) (hd : X.tb[i]? = some (pc, .if_acmp .eq off, pc')) (ht : (pc : Int) + off = (tgt : Int)) (kt : a = b → G Λ Γ X d mc ms Q tgt ls st M n kc ks) (kf : ¬ a = b → G Λ Γ X d mc ms Q pc' ls st M n kc ks) : G Λ Γ X d mc ms Q pc ls (vR b :: vR a :: st) M n kc ks := by
  intro hE p e R s m args below meth c H locs ad ad0 n0 lsA hF h1 h2 hX hW hS hL hs
  obtain ⟨hdd, rfl⟩ := e_dec hF.1 hd
  have ea := (hW.2.1 a (Nat.lt_trans ha.2 (by decide))).2
  have eb := (hW.2.1 b (Nat.lt_trans hb.2 (by decide))).2
  refine lv_acmp_eq (rx := some (ad a)) (ry := some (ad b)) hF.1.1 hF.1.2.1 hdd ht (fun h => kt ?_ hE p e R s m args below meth c H locs ad ad0 n0 lsA hF h1 h2 hX hW hS hL hs.2.2) (fun h => kf (fun z => h (by rw [z])) hE p e R s m args below meth c H locs ad ad0 n0 lsA hF h1 h2 hX hW hS hL hs.2.2)
  have h3 : ad a = ad b := Option.some.inj h
  rw [ea, eb] at h3
  exact hE.2.2.2.2.2.2.2.2.2.2 a b ha hb h3
end RA
theorem k_nd {Γ : Cx} (hK : KM Γ) (k : Nat) (h1 : k ≤ 4) : Γ.cM (10 + k) ≠ e_dum := by
  obtain ⟨L, xs, e⟩ := hK
  rw [e]
  unfold e_cMem
  rw [if_neg (by omega), if_pos (by omega)]
  intro h
  cases h
abbrev NB (nm : Nat → Int) : Prop := ∀ p, p < 4 → -3000 ≤ nm p ∧ nm p ≤ 3000
theorem NB_fin {t nm : Nat → Int} {l i : Nat} (h : rOK t l i) (hi : i ≤ l) (ht : ∀ j, j < l → 32 ≤ t j ∧ t j ≤ 126) (hn : NB nm) : NB (nFin (rJ t l i) t nm i) := by
  intro p hp
  rw [nFin_val t nm i _ h.1 p hp]
  split
  · next h2 => have := rA_rng h hi ht p h2; omega
  · exact hn p hp
section XR
variable {r0 : Option Nat} {Γ : Cx} {M : Mem} {n x s v cap l : Nat} {t nm : Nat → Int} {pl : Int} {σ τ : HS} {B : Int} {sv ep fp : Int} {f c5 : Nat} {r : Nat → HS}
theorem y_countCommands (hK : KM Γ) (hS : SM M s v cap l t nm pl) (h60 : l ≤ 60) (ht : ∀ j, j < l → 32 ≤ t j ∧ t j ≤ 126) (hn : NB nm) : Ct (e_L r0) Γ mX6_countCommands 6 0 0 [vR s] M n (fun r' M' n' => n' = n ∧ e_fs s M M' ∧ ∃ k : Nat, (∀ j, j < k → sGo t l j) ∧ ¬ sGo t l k ∧ r' = .inl (some (vI (if rOK t l (sT t l k) ∧ sE t l k = l then (k : Int) + 1 else -1))) ∧ ∃ nm', NB nm' ∧ SM M' s v cap l t nm' ((sE t l k : Nat) : Int)) := by
  refine g_start ok_X6_countCommands rfl rfl ?_
  refine g_run 0 4 rfl ?_
  refine e_down (P := fun k => ∀ (M' : Mem) (nm' : Nat → Int) (pl' : Int), SM M' s v cap l t nm' pl' → NB nm' → e_fs s M M' → (∀ j, j < k → sGo t l j) → G (e_L r0) Γ mX6_countCommands 6 0 0 (fun r' M' n' => n' = n ∧ e_fs s M M' ∧ ∃ k : Nat, (∀ j, j < k → sGo t l j) ∧ ¬ sGo t l k ∧ r' = .inl (some (vI (if rOK t l (sT t l k) ∧ sE t l k = l then (k : Int) + 1 else -1))) ∧ ∃ nm', NB nm' ∧ SM M' s v cap l t nm' ((sE t l k : Nat) : Int)) 4 [some (vR s), some (vI (sT t l k : Int)), some (vI ((k : Int) + 1))] [] M' n 0 0) 13 ?_ 0 (by omega) M nm pl hS hn e_fs_refl (fun j hj => absurd hj (by omega))
  intro k hk ih M2 nm2 pl2 hS2 hn2 fr2 hgo
  have sr := sT_rng k hgo
  have hle : sT t l k + rN t l (sT t l k) ≤ l := rN_l (t := t) (l := l) sr.2
  refine g_run 4 2 rfl ?_
  refine g_icmp_gt 6 49 rfl rfl (by omega) (by omega) (fun c7 => ?_) (fun c7 => ?_)
  · exact absurd c7 (by omega)
  · refine g_run 7 2 rfl ?_
    refine g_callV 9 rfl cv_RX6_26 hS2.2.1 (y_read hK hS2 h60 (sT t l k) sr.2) rfl rfl (by decide) (by omega) (by omega) (Nat.le_of_ble_eq_true rfl) (fun v9 M12 n9 h9 _ => ?_) (fun E M9 n9 h9 _ => by obtain ⟨-, -, h9⟩ := h9; rcases h9 with ⟨-, h3, -⟩ | ⟨-, h3, -⟩ <;> cases h3)
    obtain ⟨hn9, fq, h9⟩ := h9
    subst n9
    rcases h9 with ⟨ok, h3, hS9⟩ | ⟨no, h3, hS9⟩
    · cases h3
      refine g_ifnonnull 10 20 rfl rfl (fun _ _ => ?_) (fun h => nomatch h)
      · refine g_run 13 1 rfl ?_
        refine g_get 14 rfl fl_RX6_22 hS9.2.1 rfl ?_
        refine g_run 15 1 rfl ?_
        refine g_get 16 rfl fl_RX6_12 hS9.2.1 rfl ?_
        refine g_callV 17 rfl cv_RX6_30 hS9.2.2.1.2.2.2.2.2.1.choose_spec.2 (j_length hS9.2.2.1) rfl rfl (by decide) (by omega) (by omega) (Nat.le_of_ble_eq_true rfl) (e_kr ?_) e_kx
        refine g_icmp_ne 18 36 rfl rfl (by omega) (by omega) (fun c31 => ?_) (fun c31 => ?_)
        · have gk : sGo t l k := ⟨ok.1, by show sT t l k + rN t l (sT t l k) < l; omega, by have h8 := ok.2; rcases h8 with h8 | h8; exact absurd c31 (by omega); exact h8⟩
          have hgo9 : ∀ j, j < k + 1 → sGo t l j := fun j hj => by
            by_cases e9 : j = k
            · exact e9 ▸ gk
            · exact hgo j (by omega)
          refine g_run 21 1 rfl ?_
          refine g_get 22 rfl fl_RX6_22 hS9.2.1 rfl ?_
          refine g_run 23 4 rfl ?_
          refine g_run 27 1 rfl ?_
          exact ih (by omega) M12 _ _ hS9 (NB_fin ok.1 sr.2 ht hn2) (e_fs_tr fr2 fq) hgo9
        · have ng : ¬ sGo t l k := fun h => by have h8 : sT t l k + rN t l (sT t l k) < l := h.2.1; omega
          have r9 : (if rOK t l (sT t l k) ∧ sE t l k = l then (k : Int) + 1 else -1) = (k : Int) + 1 := if_pos ⟨ok.1, by show sT t l k + rN t l (sT t l k) = l; omega⟩
          refine g_run 19 1 rfl ?_
          exact g_iret 20 rfl rfl (by first | exact trivial | exact Or.inl rfl | exact Or.inr rfl | (show _ ∨ _; omega)) ⟨rfl, e_fs_tr fr2 fq, k, hgo, ng, by rw [r9], _, (NB_fin ok.1 sr.2 ht hn2), hS9⟩
    · cases h3
      have ng : ¬ sGo t l k := fun h => no ⟨h.1, Or.inr h.2.2⟩
      have r9 : (if rOK t l (sT t l k) ∧ sE t l k = l then (k : Int) + 1 else -1) = -1 := if_neg fun h => no ⟨h.1, Or.inl (by have h8 : sT t l k + rN t l (sT t l k) = l := h.2; omega)⟩
      refine g_ifnonnull 10 20 rfl rfl (fun _ h => nomatch h) (fun _ => ?_)
      · refine g_run 11 1 rfl ?_
        exact g_iret 12 rfl rfl (by first | exact trivial | exact Or.inl rfl | exact Or.inr rfl | (show _ ∨ _; omega)) ⟨rfl, e_fs_tr fr2 fq, k, hgo, ng, by rw [r9], _, hn2, hS9⟩
theorem rAr4 : ∀ j, j < 10 → rAr j ≤ 4 := by decide
theorem HM_e {M M' : Mem} {h : Nat} {σ : HS} (hf : ∀ k, h ≤ k → k < h + 24 → M' k = M k) (q : HM M h σ) : HM M' h σ := ⟨q.1, (hf _ (by omega) (by omega)).trans q.2.1, (hf _ (by omega) (by omega)).trans q.2.2.1, (hf _ (by omega) (by omega)).trans q.2.2.2.1, (hf _ (by omega) (by omega)).trans q.2.2.2.2.1, (hf _ (by omega) (by omega)).trans q.2.2.2.2.2.1, (hf _ (by omega) (by omega)).trans q.2.2.2.2.2.2.1, fun d hd => have z := q.2.2.2.2.2.2.2 d hd; ⟨z.1, (hf _ (by omega) (by omega)).trans z.2.1, (hf _ (by omega) (by omega)).trans z.2.2.1, (hf _ (by omega) (by omega)).trans z.2.2.2⟩⟩
theorem YM_e {M M' : Mem} {y f c : Nat} {r : Nat → HS} (hf : ∀ k, y ≤ k → k < y + 194 → M' k = M k) (q : YM M y f c r) : YM M' y f c r := ⟨q.1, (hf _ (by omega) (by omega)).trans q.2.1, (hf _ (by omega) (by omega)).trans q.2.2.1, fun d hd => HM_e (fun k h1 h2 => hf k (by omega) (by omega)) (q.2.2.2 d hd)⟩
theorem SM_fr {M M' : Mem} {s v cap l : Nat} {t nm : Nat → Int} {pl : Int} (H : SM M s v cap l t nm pl) (h : ∀ k, k = s ∨ k = s + 1 ∨ k = s + 3 ∨ k = v → M' k = M k) : SM M' s v cap l t nm pl := ⟨H.1, (h _ (by omega)).trans H.2.1, BM_fr H.2.2.1 (h _ (by omega)) (h _ (by omega)), (h _ (by omega)).trans H.2.2.2.1, H.2.2.2.2⟩
theorem SM_bm {M M' : Mem} {s v cap l v' cap' l' : Nat} {t t' nm : Nat → Int} {pl : Int} (H : SM M s v cap l t nm pl) (hB : BM M' (s + 1) v' cap' l' t') (h1 : M' s = M s) (h2 : M' (s + 3) = M (s + 3)) (h3 : v' ≠ s ∧ v' ≠ s + 3) : SM M' s v' cap' l' t' nm pl := ⟨H.1, h1.trans H.2.1, hB, h2.trans H.2.2.2.1, h3⟩
theorem e_fs_fr {s : Nat} {M M' : Mem} (h : e_fs s M M') : e_fr s (s + 4) M M' := fun k hk => h k (by omega) (by omega)
end XR
section XT
variable {r0 : Option Nat} {Γ : Cx} {M : Mem} {n x v cap l : Nat} {t nm : Nat → Int} {pl : Int} {σ τ : HS} {B : Int} {sv ep fp : Int} {f c5 : Nat} {r : Nat → HS}
theorem x_typeX1 (hx : XO M x sv ep fp) (hS : SM M (x + 267) v cap l t nm pl) (hv : v = x + 269 ∨ x + 273 ≤ v) (z : Int) (hz : 0 ≤ z ∧ z ≤ 65535) (h : ¬ (32 ≤ z ∧ z ≤ 126)) : Ct (e_L r0) Γ mX7_type 7 1 6 [vR x, vI z] M n (e_rt (.inr "java/lang/IllegalArgumentException") M n) := by
  refine g_start ok_X7_type rfl rfl ?_
  refine g_run 0 2 rfl ?_
  refine g_icmp_lt 2 12 rfl rfl (by omega) (by omega) (fun c3 => ?_) (fun c3 => ?_)
  · exact g_throwW 6 (th_RX7_119_306_123 r0) rfl rfl rfl rfl rfl rfl (Nat.le_of_ble_eq_true rfl) (by omega) (by omega) ⟨rfl, rfl, rfl⟩
  · refine g_run 3 2 rfl ?_
    refine g_icmp_le 5 23 rfl rfl (by omega) (by omega) (fun c9 => ?_) (fun c9 => ?_)
    · exact absurd ⟨by omega, by omega⟩ h
    · exact g_throwW 6 (th_RX7_119_306_123 r0) rfl rfl rfl rfl rfl rfl (Nat.le_of_ble_eq_true rfl) (by omega) (by omega) ⟨rfl, rfl, rfl⟩
theorem x_typeX2 (hx : XO M x sv ep fp) (hS : SM M (x + 267) v cap l t nm pl) (hv : v = x + 269 ∨ x + 273 ≤ v) (z : Int) (hz : 32 ≤ z ∧ z ≤ 126) (h : 60 ≤ l) : Ct (e_L r0) Γ mX7_type 7 1 6 [vR x, vI z] M n (e_rt (.inr "java/lang/IllegalStateException") M n) := by
  have qc := hS.2.2.1.2.2.2.2.1
  have qk := hS.2.2.1.2.2.2.1
  refine g_start ok_X7_type rfl rfl ?_
  refine g_run 0 2 rfl ?_
  refine g_icmp_lt 2 12 rfl rfl (by omega) (by omega) (fun c3 => ?_) (fun c3 => ?_)
  · exact absurd c3 (by omega)
  · refine g_run 3 2 rfl ?_
    refine g_icmp_le 5 23 rfl rfl (by omega) (by omega) (fun c9 => ?_) (fun c9 => ?_)
    · refine g_run 11 1 rfl ?_
      refine g_get 12 rfl fl_RX7_32 hx rfl ?_
      refine g_get 13 rfl fl_RX7_308 hS.2.1 rfl ?_
      refine g_callV 14 rfl cv_RX7_297 hS.2.2.1.2.2.2.2.2.1.choose_spec.2 (j_length hS.2.2.1) rfl rfl (by decide) (by omega) (by omega) (Nat.le_of_ble_eq_true rfl) (e_kr ?_) e_kx
      refine g_run 15 1 rfl ?_
      refine g_icmp_lt 16 49 rfl rfl (by omega) (by omega) (fun c35 => ?_) (fun c35 => ?_)
      · exact absurd c35 (by omega)
      · exact g_throwW 17 (th_RX7_124_311_128 r0) rfl rfl rfl rfl rfl rfl (Nat.le_of_ble_eq_true rfl) (by omega) (by omega) ⟨rfl, rfl, rfl⟩
    · exact absurd c9 (by omega)
theorem x_type (hP : PV Γ) (hx : XO M x sv ep fp) (hS : SM M (x + 267) v cap l t nm pl) (hv : v = x + 269 ∨ x + 273 ≤ v) (z : Int) (hz : 32 ≤ z ∧ z ≤ 126) (h60 : l < 60) (hl : l < cap) : Ct (e_L r0) Γ mX7_type 7 0 0 [vR x, vI z] M n (e_wr (some (vI ((l : Int) + 1))) n fun M' => SM M' (x + 267) v cap (l + 1) (va_up t l z) nm pl ∧ e_f2 (x + 267 + 1) v M M') := by
  have qc := hS.2.2.1.2.2.2.2.1
  have qk := hS.2.2.1.2.2.2.1
  refine g_start ok_X7_type rfl rfl ?_
  refine g_run 0 2 rfl ?_
  refine g_icmp_lt 2 12 rfl rfl (by omega) (by omega) (fun c3 => ?_) (fun c3 => ?_)
  · exact absurd c3 (by omega)
  · refine g_run 3 2 rfl ?_
    refine g_icmp_le 5 23 rfl rfl (by omega) (by omega) (fun c9 => ?_) (fun c9 => ?_)
    · refine g_run 11 1 rfl ?_
      refine g_get 12 rfl fl_RX7_32 hx rfl ?_
      refine g_get 13 rfl fl_RX7_308 hS.2.1 rfl ?_
      refine g_callV 14 rfl cv_RX7_297 hS.2.2.1.2.2.2.2.2.1.choose_spec.2 (j_length hS.2.2.1) rfl rfl (by decide) (by omega) (by omega) (Nat.le_of_ble_eq_true rfl) (e_kr ?_) e_kx
      refine g_run 15 1 rfl ?_
      refine g_icmp_lt 16 49 rfl rfl (by omega) (by omega) (fun c35 => ?_) (fun c35 => ?_)
      · refine g_run 22 1 rfl ?_
        refine g_get 23 rfl fl_RX7_32 hx rfl ?_
        refine g_get 24 rfl fl_RX7_308 hS.2.1 rfl ?_
        refine g_run 25 1 rfl ?_
        refine g_callV 26 rfl cv_RX7_290 hS.2.2.1.2.2.2.2.2.1.choose_spec.2 (j_appC hP hS.2.2.1 hl z (by omega)) rfl rfl (by decide) (by omega) (by omega) (Nat.le_of_ble_eq_true rfl) (e_kw fun M57 hq57 => ?_) e_kwx
        have hx57 := (hq57.2 x (by omega) (by omega)).trans hx
        have hS57 := SM_bm hS hq57.1 (hq57.2 _ (by omega) (by omega)) (hq57.2 _ (by omega) (by omega)) ⟨by omega, by omega⟩
        refine g_run 27 2 rfl ?_
        refine g_get 29 rfl fl_RX7_32 hx57 rfl ?_
        refine g_get 30 rfl fl_RX7_308 hS57.2.1 rfl ?_
        refine g_callV 31 rfl cv_RX7_297 hS57.2.2.1.2.2.2.2.2.1.choose_spec.2 (j_length hS57.2.2.1) rfl rfl (by decide) (by omega) (by omega) (Nat.le_of_ble_eq_true rfl) (e_kr ?_) e_kx
        exact g_iret 32 rfl rfl (by first | exact trivial | exact Or.inl rfl | exact Or.inr rfl | (show _ ∨ _; omega)) ⟨rfl, rfl, hS57, hq57.2⟩
      · exact absurd c35 (by omega)
    · exact absurd c9 (by omega)
theorem x_typeG (hP : PV Γ) (hx : XO M x sv ep fp) (hS : SM M (x + 267) v cap l t nm pl) (hv : v = x + 269 ∨ x + 273 ≤ v) (z : Int) (hz : 32 ≤ z ∧ z ≤ 126) (h60 : l < 60) (hl : l = cap) (hn : x + 273 ≤ n) (hvn : v < n) : Ct (e_L r0) Γ mX7_type 7 1 (l + 2 + l) [vR x, vI z] M n (e_wr (some (vI ((l : Int) + 1))) (n + 1) fun M' => SM M' (x + 267) n (l + 2 + l) (l + 1) (va_up (va_cpy t (fun _ => 0) 0 0 l) l z) nm pl ∧ e_f2 (x + 267 + 1) n M M') := by
  subst hl
  have qc := hS.2.2.1.2.2.2.2.1
  have qk := hS.2.2.1.2.2.2.1
  refine g_start ok_X7_type rfl rfl ?_
  refine g_run 0 2 rfl ?_
  refine g_icmp_lt 2 12 rfl rfl (by omega) (by omega) (fun c3 => ?_) (fun c3 => ?_)
  · exact absurd c3 (by omega)
  · refine g_run 3 2 rfl ?_
    refine g_icmp_le 5 23 rfl rfl (by omega) (by omega) (fun c9 => ?_) (fun c9 => ?_)
    · refine g_run 11 1 rfl ?_
      refine g_get 12 rfl fl_RX7_32 hx rfl ?_
      refine g_get 13 rfl fl_RX7_308 hS.2.1 rfl ?_
      refine g_callV 14 rfl cv_RX7_297 hS.2.2.1.2.2.2.2.2.1.choose_spec.2 (j_length hS.2.2.1) rfl rfl (by decide) (by omega) (by omega) (Nat.le_of_ble_eq_true rfl) (e_kr ?_) e_kx
      refine g_run 15 1 rfl ?_
      refine g_icmp_lt 16 49 rfl rfl (by omega) (by omega) (fun c35 => ?_) (fun c35 => ?_)
      · refine g_run 22 1 rfl ?_
        refine g_get 23 rfl fl_RX7_32 hx rfl ?_
        refine g_get 24 rfl fl_RX7_308 hS.2.1 rfl ?_
        refine g_run 25 1 rfl ?_
        refine g_callV 26 rfl cv_RX7_290 hS.2.2.1.2.2.2.2.2.1.choose_spec.2 (j_appCG hP hS.2.2.1 (by omega) hvn (by omega) z (by omega)) rfl rfl (by decide) (by omega) (by omega) (Nat.le_of_ble_eq_true rfl) (e_kw fun M57 hq57 => ?_) e_kwx
        have hx57 := (hq57.2 x (by omega) (by omega)).trans hx
        have hS57 := SM_bm hS hq57.1 (hq57.2 _ (by omega) (by omega)) (hq57.2 _ (by omega) (by omega)) ⟨by omega, by omega⟩
        refine g_run 27 2 rfl ?_
        refine g_get 29 rfl fl_RX7_32 hx57 rfl ?_
        refine g_get 30 rfl fl_RX7_308 hS57.2.1 rfl ?_
        refine g_callV 31 rfl cv_RX7_297 hS57.2.2.1.2.2.2.2.2.1.choose_spec.2 (j_length hS57.2.2.1) rfl rfl (by decide) (by omega) (by omega) (Nat.le_of_ble_eq_true rfl) (e_kr ?_) e_kx
        exact g_iret 32 rfl rfl (by first | exact trivial | exact Or.inl rfl | exact Or.inr rfl | (show _ ∨ _; omega)) ⟨rfl, rfl, hS57, hq57.2⟩
      · exact absurd c35 (by omega)
    · exact absurd c9 (by omega)
end XT
/-- what is carried out leaves the house in order -/
theorem Hok_run {B : Int} {σ : HS} (hr : Hok B σ) (c : Nat) (a b x y : Int) (h0 : rf σ c a b x y = 0) : Hok (B + 181) (run σ c a b x y) := by
  have q2 := hr.2.1
  have q0 := hr.1 0 (by decide)
  have hB : B ≤ B + 181 := by omega
  have hs : ∀ i, i < 9 → 0 ≤ σ.sc i ∧ σ.sc i ≤ B + 181 := fun i hi => by have := hr.1 i hi; omega
  have kk := hr.2.2.2.2
  unfold rf at h0
  unfold run
  split
  · have h1 := rfDoor_0 h0
    refine Hok_sc hr _ _ (sc_up hr.1 hB 0 (by omega)) ?_ (Lok_up kk _ fun hd => Lok_set (kk _ hd) h1.2.1 h1.2.2.1 h1.2.2.2) (by rw [va_up_self]; omega)
    show va_up σ.sc 0 (σ.sc 0 + 1) 0 ≤ 6 ∧ va_up σ.sc 0 (σ.sc 0 + 1) 1 ≤ 9
    rw [va_up_self, va_up_ne _ _ (by decide)]
    omega
  · exact Hok_sc hr _ _ hs q2 (Lok_up kk _ fun hd => Lok_turn (kk _ hd) _ _) (Int.le_refl _)
  · have h1 := rfTry_0 h0
    have u3 := hr.1 3 (by decide)
    have u4 := hr.1 4 (by decide)
    have u5 := hr.1 5 (by decide)
    have w3 := sc_up hr.1 hB 3 (x := σ.sc 3 + 1) (by omega)
    have hsc : (∀ i, i < 9 → 0 ≤ scTry σ (σ.lk a.toNat) i ∧ scTry σ (σ.lk a.toNat) i ≤ B + 181) ∧ scTry σ (σ.lk a.toNat) 0 ≤ 6 ∧ scTry σ (σ.lk a.toNat) 1 ≤ 9 := by
      unfold scTry
      split
      · refine ⟨sc_up w3 (by omega) 4 (by omega), ?_⟩
        rw [va_up_ne _ _ (by decide), va_up_ne _ _ (by decide), va_up_ne _ _ (by decide), va_up_ne _ _ (by decide)]; exact q2
      · split
        · refine ⟨w3, ?_⟩
          rw [va_up_ne _ _ (by decide), va_up_ne _ _ (by decide)]; exact q2
        · refine ⟨sc_up w3 (by omega) 5 (by omega), ?_⟩
          rw [va_up_ne _ _ (by decide), va_up_ne _ _ (by decide), va_up_ne _ _ (by decide), va_up_ne _ _ (by decide)]; exact q2
    have hs0 : scTry σ (σ.lk a.toNat) 0 = σ.sc 0 := by
      unfold scTry
      split
      · rfl
      · split <;> rfl
    refine ⟨hsc.1, hsc.2, fun o ho => ?_, fun j hj => ?_, Lok_up kk _ fun hd => Lok_try (kk _ hd)⟩
    · have q := hr.2.2.1 o ho
      exact ⟨q.1, q.2.1, q.2.2.1, q.2.2.2.1, q.2.2.2.2.1, by show σ.od o < scTry σ (σ.lk a.toNat) 0; rw [hs0]; exact q.2.2.2.2.2⟩
    show 0 ≤ p_sh a σ.td j ∧ p_sh a σ.td j ≤ 5 ∧ (p_sh (if lFit (σ.lk a.toNat) = 3 then 1 else 0) σ.ty j = 0 ∨ p_sh (if lFit (σ.lk a.toNat) = 3 then 1 else 0) σ.ty j = 1)
    unfold p_sh
    have hd1 := h1.1
    by_cases e : j = 0
    · rw [if_pos e, if_pos e]
      refine ⟨by omega, by omega, ?_⟩
      split
      · exact Or.inr rfl
      · exact Or.inl rfl
    · rw [if_neg e, if_neg e]
      exact hr.2.2.2.1 (j - 1) (by omega)
  · exact Hok_mono (Hok_shut hr _) (by omega)
  · have h1 := rfDamp_0 h0
    refine Hok_sc hr _ _ (sc_up hr.1 hB 1 (by omega)) ?_ kk (by exact Int.le_refl (σ.sc 0))
    show va_up σ.sc 1 a 0 ≤ 6 ∧ va_up σ.sc 1 a 1 ≤ 9
    rw [va_up_self, va_up_ne _ _ (by decide)]
    omega
  · have h1 := rfBake_0 h0
    have u7 := hr.1 7 (by decide)
    have kz := kk a.toNat (by omega)
    have hsc : (∀ i, i < 9 → 0 ≤ (if (σ.lk a.toNat).op = 0 then va_up σ.sc 7 (σ.sc 7 + 1) else σ.sc) i ∧ (if (σ.lk a.toNat).op = 0 then va_up σ.sc 7 (σ.sc 7 + 1) else σ.sc) i ≤ B + 181) ∧ (if (σ.lk a.toNat).op = 0 then va_up σ.sc 7 (σ.sc 7 + 1) else σ.sc) 0 ≤ 6 ∧ (if (σ.lk a.toNat).op = 0 then va_up σ.sc 7 (σ.sc 7 + 1) else σ.sc) 1 ≤ 9 := by
      split
      · refine ⟨sc_up hr.1 hB 7 (by omega), ?_⟩
        rw [va_up_ne _ _ (by decide), va_up_ne _ _ (by decide)]; exact q2
      · exact ⟨hs, q2⟩
    refine ⟨hsc.1, hsc.2, fun o ho => ?_, hr.2.2.2.1, Lok_up kk _ fun hd => ⟨Or.inr rfl, (kk _ hd).2⟩⟩
    have q4 := hr.2.2.1 o ho
    show -1 ≤ va_up σ.od b.toNat a o ∧ va_up σ.od b.toNat a o ≤ 5 ∧ 0 ≤ va_up σ.oh b.toNat (1 + (σ.lk a.toNat).cr / 4) o ∧ va_up σ.oh b.toNat (1 + (σ.lk a.toNat).cr / 4) o ≤ 6 ∧ (va_up σ.od b.toNat a o = -1 ∨ 1 ≤ va_up σ.oh b.toNat (1 + (σ.lk a.toNat).cr / 4) o) ∧ va_up σ.od b.toNat a o < (if (σ.lk a.toNat).op = 0 then va_up σ.sc 7 (σ.sc 7 + 1) else σ.sc) 0
    rw [show (if (σ.lk a.toNat).op = 0 then va_up σ.sc 7 (σ.sc 7 + 1) else σ.sc) 0 = σ.sc 0 from by split <;> rfl]
    have hcr := kz.2.1
    have hd1 := h1.1
    by_cases e : o = b.toNat
    · subst e; rw [va_up_self, va_up_self]; omega
    · rw [va_up_ne _ _ e, va_up_ne _ _ e]; exact q4
  · have h1 := rfSet_0 h0
    exact Hok_sc hr _ _ hs q2 (Lok_up kk _ fun hd => Lok_set (kk _ hd) h1.2.1.1 h1.2.1.2.1 h1.2.1.2.2) (Int.le_refl _)
  · have h1 : 1 ≤ a ∧ a ≤ 60 := by
      apply rfHours_0
      split at h0 <;> first | exact h0 | (exfalso; simp_all)
    exact Hok_mono (Hok_hrs hr a.toNat) (by omega)
/-- only the numbers of its form count -/
theorem rf_ar (σ : HS) (j : Nat) (hj : j < 10) (a b : Nat → Int) (h : ∀ p, p < rAr j → a p = b p) : rf σ j (a 0) (a 1) (a 2) (a 3) = rf σ j (b 0) (b 1) (b 2) (b 3) ∧ run σ j (a 0) (a 1) (a 2) (a 3) = run σ j (b 0) (b 1) (b 2) (b 3) := by
  match j, hj with
  | 0, _ => show rfDoor σ (a 0) (a 1) (a 2) = rfDoor σ (b 0) (b 1) (b 2) ∧ doDoor σ (a 0) (a 1) (a 2) = doDoor σ (b 0) (b 1) (b 2); rw [h 0 (by decide), h 1 (by decide), h 2 (by decide)]; exact ⟨rfl, rfl⟩
  | 1, _ => show rfTurn σ (a 0) (a 1) (a 2) = rfTurn σ (b 0) (b 1) (b 2) ∧ doTurn σ (a 0) (a 1) (a 2) = doTurn σ (b 0) (b 1) (b 2); rw [h 0 (by decide), h 1 (by decide), h 2 (by decide)]; exact ⟨rfl, rfl⟩
  | 2, _ => show rfTry σ (a 0) = rfTry σ (b 0) ∧ doTry σ (a 0) = doTry σ (b 0); rw [h 0 (by decide)]; exact ⟨rfl, rfl⟩
  | 3, _ => show rfShut σ (a 0) = rfShut σ (b 0) ∧ doShut σ (a 0) = doShut σ (b 0); rw [h 0 (by decide)]; exact ⟨rfl, rfl⟩
  | 4, _ => show rfDamp (a 0) = rfDamp (b 0) ∧ doDamp σ (a 0) = doDamp σ (b 0); rw [h 0 (by decide)]; exact ⟨rfl, rfl⟩
  | 5, _ => show rfBake σ (a 0) (a 1) = rfBake σ (b 0) (b 1) ∧ doBake σ (a 0) (a 1) = doBake σ (b 0) (b 1); rw [h 0 (by decide), h 1 (by decide)]; exact ⟨rfl, rfl⟩
  | 6, _ => show rfHours (a 0) = rfHours (b 0) ∧ doHrs σ (a 0).toNat = doHrs σ (b 0).toNat; rw [h 0 (by decide)]; exact ⟨rfl, rfl⟩
  | 7, _ => show rfHours (a 0) = rfHours (b 0) ∧ doHrs σ (a 0).toNat = doHrs σ (b 0).toNat; rw [h 0 (by decide)]; exact ⟨rfl, rfl⟩
  | 8, _ => show rfHours (a 0) = rfHours (b 0) ∧ doHrs σ (a 0).toNat = doHrs σ (b 0).toNat; rw [h 0 (by decide)]; exact ⟨rfl, rfl⟩
  | 9, _ => show rfSet σ (a 0) (a 1) (a 2) (a 3) = rfSet σ (b 0) (b 1) (b 2) (b 3) ∧ doSet σ (a 0) (a 1) (a 2) (a 3) = doSet σ (b 0) (b 1) (b 2) (b 3); rw [h 0 (by decide), h 1 (by decide), h 2 (by decide), h 3 (by decide)]; exact ⟨rfl, rfl⟩
/-- the house after the first commands of the script -/
def hSq (t : Nat → Int) (l : Nat) (σ : HS) : Nat → HS
  | 0 => σ
  | c + 1 => run (hSq t l σ c) (cJ t l c) (cA t l c 0) (cA t l c 1) (cA t l c 2) (cA t l c 3)
def rS (t : Nat → Int) (l : Nat) (σ : HS) (c : Nat) : Nat := rf (hSq t l σ c) (cJ t l c) (cA t l c 0) (cA t l c 1) (cA t l c 2) (cA t l c 3)
theorem hSq_ok {B : Int} {t : Nat → Int} {l : Nat} {σ : HS} (hr : Hok B σ) : ∀ c : Nat, (∀ j, j < c → rS t l σ j = 0) → Hok (B + 181 * (c : Int)) (hSq t l σ c)
  | 0, _ => by rw [show B + 181 * ((0 : Nat) : Int) = B from by omega]; exact hr
  | c + 1, h => by
    rw [show B + 181 * ((c + 1 : Nat) : Int) = B + 181 * (c : Int) + 181 from by omega]
    exact Hok_run (hSq_ok hr c (fun j hj => h j (by omega))) _ _ _ _ _ (h c (by omega))
/-- the house and what reading leaves -/
def e_cr (x : Nat) (M M' : Mem) : Prop := ∀ k, (k < x + 1 ∨ x + 25 ≤ k) → k ≠ x + 267 → k ≠ x + 270 → M' k = M k
section XU
variable {r0 : Option Nat} {Γ : Cx} {M : Mem} {n x v cap l : Nat} {t nm : Nat → Int} {pl : Int} {σ τ : HS} {B : Int} {sv ep fp : Int} {f c5 : Nat} {r : Nat → HS}
theorem x_carryOutCommands (hK : KM Γ) (hx : XO M x sv ep fp) (hS : SM M (x + 267) v cap l t nm pl) (hv : v = x + 269 ∨ x + 273 ≤ v) (hH : HM M (x + 1) σ) (hr : Hok B σ) (hB : B ≤ 900000000) (h60 : l ≤ 60) (ht : ∀ j, j < l → 32 ≤ t j ∧ t j ≤ 126) (hn : NB nm) (k : Nat) (hgo : ∀ j, j < k → sGo t l j) (hk1 : rOK t l (sT t l k) ∧ sE t l k = l) : Ct (e_L r0) Γ mX7_carryOutCommands 6 0 0 [vR x, vI ((k : Int) + 1)] M n (fun r' M' n' => n' = n ∧ e_cr x M M' ∧ ∃ c : Nat, c ≤ k + 1 ∧ (∀ j, j < c → rS t l σ j = 0) ∧ (c ≤ k → rS t l σ c ≠ 0) ∧ r' = .inl (some (vI (c : Int))) ∧ HM M' (x + 1) (hSq t l σ c) ∧ ∃ nm' pl', NB nm' ∧ SM M' (x + 267) v cap l t nm' pl') := by
  refine g_start ok_X7_carryOutCommands rfl rfl ?_
  refine g_run 0 1 rfl ?_
  refine g_get 1 rfl fl_RX7_32 hx rfl ?_
  refine g_get 2 rfl fl_RX7_326 hS.2.1 rfl ?_
  refine g_run 3 5 rfl ?_
  have srk := sT_rng k hgo
  refine e_down (P := fun c => ∀ (M' : Mem) (nm' : Nat → Int) (pl' : Int) (y5 y6 : Option aV), SM M' (x + 267) v cap l t nm' pl' → NB nm' → HM M' (x + 1) (hSq t l σ c) → e_cr x M M' → (∀ j, j < c → rS t l σ j = 0) → G (e_L r0) Γ mX7_carryOutCommands 6 0 0 (fun r' M' n' => n' = n ∧ e_cr x M M' ∧ ∃ c : Nat, c ≤ k + 1 ∧ (∀ j, j < c → rS t l σ j = 0) ∧ (c ≤ k → rS t l σ c ≠ 0) ∧ r' = .inl (some (vI (c : Int))) ∧ HM M' (x + 1) (hSq t l σ c) ∧ ∃ nm' pl', NB nm' ∧ SM M' (x + 267) v cap l t nm' pl') 13 [some (vR x), some (vI ((k : Int) + 1)), some (vR (x + 267 + 3)), some (vI (sT t l c : Int)), some (vI (c : Int)), y5, y6] [] M' n 0 0) (k + 1) ?_ 0 (by omega) M nm pl _ _ hS hn hH (fun _ _ _ _ => rfl) (fun j hj => absurd hj (by omega))
  intro c hck ih M2 nm2 pl2 y5 y6 hS2 hn2 hH2 fr2 hz
  have hx2 : XO M2 x sv ep fp := (fr2 x (by omega) (by omega) (by omega)).trans hx
  refine g_run 8 2 rfl ?_
  refine g_icmp_ge 10 109 rfl rfl (by omega) (by omega) (fun c16 => ?_) (fun c16 => ?_)
  · have e9 : c = k + 1 := by omega
    subst e9
    refine g_run 67 1 rfl ?_
    exact g_iret 68 rfl rfl (by first | exact trivial | exact Or.inl rfl | exact Or.inr rfl | (show _ ∨ _; omega)) ⟨rfl, fr2, k + 1, Nat.le_refl _, hz, fun h => absurd h (by omega), rfl, hH2, nm2, pl2, hn2, hS2⟩
  · have hck9 : c ≤ k := by omega
    have rk : rOK t l (sT t l c) := by
      by_cases e9 : c = k
      · exact e9 ▸ hk1.1
      · exact (hgo c (by omega)).1
    have sc := sT_rng (t := t) (l := l) c (fun j hj => hgo j (by omega))
    have ce : canEnd t l (sT t l c + rN t l (sT t l c)) := by
      by_cases e9 : c = k
      · exact Or.inl (by rw [e9]; exact Nat.le_of_eq hk1.2.symm)
      · exact Or.inr (hgo c (by omega)).2.2
    have hrc := hSq_ok (t := t) (l := l) hr c hz
    have qar := rf_ar (hSq t l σ c) (rJ t l (sT t l c)) rk.1 (nFin (rJ t l (sT t l c)) t nm2 (sT t l c)) (cA t l c) (fun p hp => by rw [nFin_val t nm2 (sT t l c) _ rk.1 p (Nat.lt_of_lt_of_le hp (rAr4 _ rk.1)), if_pos hp])
    have nb9 := NB_fin rk sc.2 ht hn2
    refine g_run 11 1 rfl ?_
    refine g_get 12 rfl fl_RX7_32 hx2 rfl ?_
    refine g_run 13 1 rfl ?_
    refine g_callV 14 rfl cv_RX7_329 hS2.2.1 (y_read hK hS2 h60 (sT t l c) sc.2) rfl rfl (by decide) (by omega) (by omega) (Nat.le_of_ble_eq_true rfl) (fun v9 M24 n9 h9 _ => ?_) (fun E M9 n9 h9 _ => by obtain ⟨-, -, h9⟩ := h9; rcases h9 with ⟨-, h3, -⟩ | ⟨-, h3, -⟩ <;> cases h3)
    obtain ⟨hn9, fq, h9⟩ := h9
    subst n9
    rcases h9 with ⟨ok, h3, hS9⟩ | ⟨no, h3, hS9⟩
    · cases h3
      have hH9 := HM_fr (e_fs_fr fq) (by omega) hH2
      have hx9 : XO M24 x sv ep fp := (fq x (by omega) (by omega)).trans hx2
      have fr9 : e_cr x M M24 := fun k h1 h2 h3 => (fq k h2 (by omega)).trans (fr2 k h1 h2 h3)
      have i0 := nb9 0 (by decide)
      have i1 := nb9 1 (by decide)
      have i2 := nb9 2 (by decide)
      have i3 := nb9 3 (by decide)
      refine g_run 15 2 rfl ?_
      refine g_ifnonnull 17 37 rfl rfl (fun _ _ => ?_) (fun h => nomatch h)
      · refine g_run 20 1 rfl ?_
        refine g_get 21 rfl fl_RX7_10 hx9 rfl ?_
        refine g_run 22 3 rfl ?_
        refine g_iald 25 0 rfl rfl hS9.2.2.2.1 rfl (by decide) (by decide) ?_
        refine g_run 26 2 rfl ?_
        refine g_iald 28 1 rfl rfl hS9.2.2.2.1 rfl (by decide) (by decide) ?_
        refine g_run 29 2 rfl ?_
        refine g_iald 31 2 rfl rfl hS9.2.2.2.1 rfl (by decide) (by decide) ?_
        refine g_run 32 2 rfl ?_
        refine g_iald 34 3 rfl rfl hS9.2.2.2.1 rfl (by decide) (by decide) ?_
        refine g_callV 35 rfl cv_RX7_85 hH9.2.1 (c_refusalOf hK hH9 hrc (rJ t l (sT t l c)) rk.1 (nFin (rJ t l (sT t l c)) t nm2 (sT t l c) 0) (nFin (rJ t l (sT t l c)) t nm2 (sT t l c) 1) (nFin (rJ t l (sT t l c)) t nm2 (sT t l c) 2) (nFin (rJ t l (sT t l c)) t nm2 (sT t l c) 3) ⟨by omega, by omega⟩ ⟨by omega, by omega⟩ ⟨by omega, by omega⟩ ⟨by omega, by omega⟩) rfl rfl (by decide) (by omega) (by omega) (Nat.le_of_ble_eq_true rfl) (e_kr ?_) e_kx
        have rb9 := rf_4 (hSq t l σ c) (rJ t l (sT t l c)) (nFin (rJ t l (sT t l c)) t nm2 (sT t l c) 0) (nFin (rJ t l (sT t l c)) t nm2 (sT t l c) 1) (nFin (rJ t l (sT t l c)) t nm2 (sT t l c) 2) (nFin (rJ t l (sT t l c)) t nm2 (sT t l c) 3)
        refine g_run 36 2 rfl ?_
        refine g_gets 38 rfl (e_mem 10 rfl) fs_RX7_333 ?_
        refine g_acmp_eq 39 71 (by omega) (by decide) (k_nd hK _ rb9) (k_nd hK 0 (by decide)) rfl rfl (fun c65 => ?_) (fun c65 => ?_)
        · have z9 : rf (hSq t l σ c) (rJ t l (sT t l c)) (nFin (rJ t l (sT t l c)) t nm2 (sT t l c) 0) (nFin (rJ t l (sT t l c)) t nm2 (sT t l c) 1) (nFin (rJ t l (sT t l c)) t nm2 (sT t l c) 2) (nFin (rJ t l (sT t l c)) t nm2 (sT t l c) 3) = 0 := by omega
          refine g_run 42 1 rfl ?_
          refine g_get 43 rfl fl_RX7_10 hx9 rfl ?_
          refine g_run 44 3 rfl ?_
          refine g_iald 47 0 rfl rfl hS9.2.2.2.1 rfl (by decide) (by decide) ?_
          refine g_run 48 2 rfl ?_
          refine g_iald 50 1 rfl rfl hS9.2.2.2.1 rfl (by decide) (by decide) ?_
          refine g_run 51 2 rfl ?_
          refine g_iald 53 2 rfl rfl hS9.2.2.2.1 rfl (by decide) (by decide) ?_
          refine g_run 54 2 rfl ?_
          refine g_iald 56 3 rfl rfl hS9.2.2.2.1 rfl (by decide) (by decide) ?_
          refine g_callV 57 rfl cv_RX7_97 hH9.2.1 (c_carryOut hK hH9 hrc (by omega) (rJ t l (sT t l c)) rk.1 (nFin (rJ t l (sT t l c)) t nm2 (sT t l c) 0) (nFin (rJ t l (sT t l c)) t nm2 (sT t l c) 1) (nFin (rJ t l (sT t l c)) t nm2 (sT t l c) 2) (nFin (rJ t l (sT t l c)) t nm2 (sT t l c) 3) z9) rfl rfl (by decide) (by omega) (by omega) (Nat.le_of_ble_eq_true rfl) (e_kw fun M89 hq89 => ?_) e_kwx
          have hx89 := (hq89.2 x (by omega)).trans hx9
          have hS89 := SM_fr hS9 (fun k hk => hq89.2 k (by omega))
          have hH89 := hq89.1
          rw [qar.2] at hH89
          refine g_run 58 2 rfl ?_
          refine g_get 60 rfl fl_RX7_32 hx89 rfl ?_
          refine g_get 61 rfl fl_RX7_316 hS89.2.1 rfl ?_
          refine g_run 62 4 rfl ?_
          refine g_run 66 1 rfl ?_
          refine ih (by omega) M89 _ _ _ _ hS89 nb9 hH89 (fun k h1 h2 h3 => (hq89.2 k (by omega)).trans (fr9 k h1 h2 h3)) (fun j hj => ?_)
          by_cases e9 : j = c
          · rw [e9]; exact qar.1.symm.trans z9
          · exact hz j (by omega)
        · have z9 : rf (hSq t l σ c) (rJ t l (sT t l c)) (nFin (rJ t l (sT t l c)) t nm2 (sT t l c) 0) (nFin (rJ t l (sT t l c)) t nm2 (sT t l c) 1) (nFin (rJ t l (sT t l c)) t nm2 (sT t l c) 2) (nFin (rJ t l (sT t l c)) t nm2 (sT t l c) 3) ≠ 0 := by omega
          refine g_run 40 1 rfl ?_
          exact g_iret 41 rfl rfl (by first | exact trivial | exact Or.inl rfl | exact Or.inr rfl | (show _ ∨ _; omega)) ⟨rfl, fr9, c, by omega, hz, fun _ h => z9 (qar.1.trans h), rfl, hH9, _, _, nb9, hS9⟩
    · exact absurd ⟨rk, ce⟩ no
/-- what runScript leaves as it was -/
def e_rx (x v : Nat) (M M' : Mem) : Prop := ∀ k, (k < x ∨ (x + 49 ≤ k ∧ k < x + 73) ∨ x + 271 ≤ k) → k ≠ v → M' k = M k
theorem x_runScript (hK : KM Γ) (hP : PV Γ) (hx : XO M x sv ep fp) (hS : SM M (x + 267) v cap l t nm pl) (hv : v = x + 269 ∨ x + 273 ≤ v) (hH : HM M (x + 1) σ) (hr : Hok B σ) (hB : B ≤ 900000000) (h60 : l ≤ 60) (ht : ∀ j, j < l → 32 ≤ t j ∧ t j ≤ 126) (hn : NB nm) (hT : HM M (x + 25) τ) (hY : YM M (x + 73) f c5 r) (hf : f < 8) (hc5 : c5 ≤ 8) : Ct (e_L r0) Γ mX7_runScript 7 1 6 [vR x] M n (fun r' M' n' => n' = n ∧ e_rx x v M M' ∧ ∃ k : Nat, (∀ j, j < k → sGo t l j) ∧ ¬ sGo t l k ∧ (∃ nm' pl', NB nm' ∧ SM M' (x + 267) v cap 0 t nm' pl') ∧ ((¬ (rOK t l (sT t l k) ∧ sE t l k = l) ∧ r' = .inr "java/lang/IllegalArgumentException" ∧ XO M' x sv ((sE t l k : Nat) : Int) fp ∧ HM M' (x + 1) σ ∧ HM M' (x + 25) τ ∧ YM M' (x + 73) f c5 r) ∨ ((rOK t l (sT t l k) ∧ sE t l k = l) ∧ (∀ j, j < k + 1 → rS t l σ j = 0) ∧ r' = .inl (some (vI ((k : Int) + 1))) ∧ XO M' x sv ep fp ∧ HM M' (x + 1) (hSq t l σ (k + 1)) ∧ HM M' (x + 25) σ ∧ YM M' (x + 73) (yF f c5) (yC c5) (yR f c5 r σ)) ∨ ((rOK t l (sT t l k) ∧ sE t l k = l) ∧ ∃ c : Nat, c ≤ k ∧ (∀ j, j < c → rS t l σ j = 0) ∧ rS t l σ c ≠ 0 ∧ r' = .inr "java/lang/IllegalStateException" ∧ XO M' x sv ep (c : Int) ∧ HM M' (x + 1) σ ∧ HM M' (x + 25) σ ∧ YM M' (x + 73) f c5 r))) := by
  refine g_start ok_X7_runScript rfl rfl ?_
  refine g_run 0 1 rfl ?_
  refine g_get 1 rfl fl_RX7_32 hx rfl ?_
  refine g_callV 2 rfl cv_RX7_313 hS.2.1 (y_countCommands hK hS h60 ht hn) rfl rfl (by decide) (by omega) (by omega) (Nat.le_of_ble_eq_true rfl) (fun v9 M4 n9 h9 _ => ?_) (fun E M9 n9 h9 _ => by obtain ⟨-, -, k9, -, -, h3, -⟩ := h9; cases h3)
  obtain ⟨hn9, fq, k, hgo, ng, h3, nm1, nb1, hS1⟩ := h9
  subst n9
  have srk := sT_rng k hgo
  cases h3
  have hx1 : XO M4 x sv ep fp := (fq x (by omega) (by omega)).trans hx
  have hH1 := HM_fr (e_fs_fr fq) (by omega) hH
  have hT1 := HM_fr (e_fs_fr fq) (by omega) hT
  have hY1 := YM_fr (e_fs_fr fq) (by omega) hY
  by_cases cc : (rOK t l (sT t l k) ∧ sE t l k = l)
  · rw [if_pos cc]
    refine g_run 3 3 rfl ?_
    refine g_icmp_ne 6 46 rfl rfl (by omega) (by omega) (fun c10 => ?_) (fun c10 => ?_)
    · refine g_run 22 1 rfl ?_
      refine g_get 23 rfl fl_RX7_16 hx1 rfl ?_
      refine g_run 24 1 rfl ?_
      refine g_get 25 rfl fl_RX7_10 hx1 rfl ?_
      refine g_callV 26 rfl cv_RX7_205 hT1.2.1 (c_houseCopy hT1 hH1 (by omega) hr) rfl rfl (by decide) (by omega) (by omega) (Nat.le_of_ble_eq_true rfl) (e_kw fun M54 hq54 => ?_) e_kwx
      have hx54 : XO M54 x sv ep fp := (hq54.2 x (by omega)).trans hx1
      have hH54 := HM_fr hq54.2 (by omega) hH1
      have hS54 := SM_fr hS1 (fun k hk => hq54.2 k (by omega))
      refine g_run 27 2 rfl ?_
      refine g_callV 29 rfl cv_RX7_321 hx54 (x_carryOutCommands hK hx54 hS54 hv hH54 hr hB h60 ht nb1 k hgo cc) rfl rfl (by decide) (by omega) (by omega) (Nat.le_of_ble_eq_true rfl) (fun v9 M59 n9 h9 _ => ?_) (fun E M9 n9 h9 _ => by obtain ⟨-, -, c9, -, -, -, h3, -⟩ := h9; cases h3)
      obtain ⟨hn9, fq59, c, hc1, hz, hnz, h3, hH59, nm2, pl2, nb2, hS59⟩ := h9
      subst n9
      cases h3
      have hx59 : XO M59 x sv ep fp := (fq59 x (by omega) (by omega) (by omega)).trans hx54
      have hT59 := HM_e (fun k h1 h2 => fq59 k (by omega) (by omega) (by omega)) hq54.1
      have hY59 := YM_e (fun k h1 h2 => (fq59 k (by omega) (by omega) (by omega)).trans (hq54.2 k (by omega))) hY1
      refine g_run 30 2 rfl ?_
      refine g_get 32 rfl fl_RX7_32 hx59 rfl ?_
      refine g_get 33 rfl fl_RX7_308 hS59.2.1 rfl ?_
      refine g_run 34 1 rfl ?_
      refine g_callV 35 rfl cv_RX7_283 hS59.2.2.1.2.2.2.2.2.1.choose_spec.2 (j_setLength hP hS59.2.2.1) rfl rfl (by decide) (by omega) (by omega) (Nat.le_of_ble_eq_true rfl) (e_kw fun M71 hq71 => ?_) e_kwx
      have hx71 : XO M71 x sv ep fp := (hq71.2 x (by omega) (by omega)).trans hx59
      have hT71 := HM_e (fun k h1 h2 => hq71.2 k (by omega) (by omega)) hT59
      have hH71 := HM_e (fun k h1 h2 => hq71.2 k (by omega) (by omega)) hH59
      have hY71 := YM_e (fun k h1 h2 => hq71.2 k (by omega) (by omega)) hY59
      have hS71 := SM_bm hS59 hq71.1 (hq71.2 _ (by omega) (by omega)) (hq71.2 _ (by omega) (by omega)) ⟨by omega, by omega⟩
      have fr71 : e_rx x v M M71 := fun k h1 h2 => (((hq71.2 k (by omega) h2).trans (fq59 k (by omega) (by omega) (by omega))).trans (hq54.2 k (by omega))).trans (fq k (by omega) (by omega))
      refine g_run 36 2 rfl ?_
      refine g_icmp_ge 38 106 rfl rfl (by omega) (by omega) (fun c76 => ?_) (fun c76 => ?_)
      · have e9 : c = k + 1 := by omega
        subst e9
        refine g_run 52 1 rfl ?_
        refine g_get 53 rfl fl_RX7_25 hx71 rfl ?_
        refine g_run 54 1 rfl ?_
        refine g_get 55 rfl fl_RX7_16 hx71 rfl ?_
        refine g_callV 56 rfl cv_RX7_93 hY71.2.1 (c_push hY71 hT71 hr (by omega) hf hc5) rfl rfl (by decide) (by omega) (by omega) (Nat.le_of_ble_eq_true rfl) (e_kw fun M114 hq114 => ?_) e_kwx
        refine g_run 57 1 rfl ?_
        exact g_iret 58 rfl rfl (by first | exact trivial | exact Or.inl rfl | exact Or.inr rfl | (show _ ∨ _; omega)) ⟨rfl, fun k h1 h2 => (hq114.2 k (by omega)).trans (fr71 k h1 h2), k, hgo, ng, ⟨nm2, pl2, nb2, SM_fr hS71 (fun k hk => hq114.2 k (by omega))⟩, Or.inr (Or.inl ⟨cc, hz, rfl, (hq114.2 x (by omega)).trans hx71, HM_fr hq114.2 (by omega) hH71, HM_fr hq114.2 (by omega) hT71, hq114.1⟩)⟩
      · have e9 : c ≤ k := by omega
        refine g_run 39 1 rfl ?_
        refine g_get 40 rfl fl_RX7_10 hx71 rfl ?_
        refine g_run 41 1 rfl ?_
        refine g_get 42 rfl fl_RX7_16 hx71 rfl ?_
        refine g_callV 43 rfl cv_RX7_205 hH71.2.1 (c_houseCopy hH71 hT71 (by omega) hr) rfl rfl (by decide) (by omega) (by omega) (Nat.le_of_ble_eq_true rfl) (e_kw fun M87 hq87 => ?_) e_kwx
        have hx87 : XO M87 x sv ep fp := (hq87.2 x (by omega)).trans hx71
        refine g_run 44 2 rfl ?_
        refine g_put 46 rfl fp_RX7_51 hx87 rfl trivial (fun M92 hM92 => ?_)
        have k92_this := (congrFun hM92 x).trans (va_up_self _ _ _)
        exact g_throwW 47 (th_RX7_124_324_128 r0) rfl rfl rfl rfl rfl rfl (Nat.le_of_ble_eq_true rfl) (by omega) (by omega) ⟨rfl, fun k h1 h2 => by rw [hM92, va_up_ne _ _ (by omega)]; exact (hq87.2 k (by omega)).trans (fr71 k h1 h2), k, hgo, ng, ⟨nm2, pl2, nb2, SM_fr hS71 (fun k hk => by rw [hM92, va_up_ne _ _ (by omega)]; exact hq87.2 k (by omega))⟩, Or.inr (Or.inr ⟨cc, c, e9, hz, hnz e9, rfl, k92_this, HM_e (fun k h1 h2 => by rw [hM92, va_up_ne _ _ (by omega)]) hq87.1, HM_e (fun k h1 h2 => by rw [hM92, va_up_ne _ _ (by omega)]; exact hq87.2 k (by omega)) hT71, YM_e (fun k h1 h2 => by rw [hM92, va_up_ne _ _ (by omega)]; exact hq87.2 k (by omega)) hY71⟩)⟩
    · exact absurd c10 (by omega)
  · rw [if_neg cc]
    refine g_run 3 3 rfl ?_
    refine g_icmp_ne 6 46 rfl rfl (by omega) (by omega) (fun c10 => ?_) (fun c10 => ?_)
    · exact absurd rfl c10
    · refine g_run 7 2 rfl ?_
      refine g_get 9 rfl fl_RX7_32 hx1 rfl ?_
      refine g_get 10 rfl fl_RX7_316 hS1.2.1 rfl ?_
      refine g_put 11 rfl fp_RX7_47 hx1 rfl trivial (fun M21 hM21 => ?_)
      have k21_this := (congrFun hM21 x).trans (va_up_self _ _ _)
      have k21_this_house := (congrFun hM21 (x + 1)).trans ((va_up_ne _ _ (by omega)).trans hH1.2.1)
      have k21_this_spare := (congrFun hM21 (x + 25)).trans ((va_up_ne _ _ (by omega)).trans hT1.2.1)
      have k21_this_history := (congrFun hM21 (x + 73)).trans ((va_up_ne _ _ (by omega)).trans hY1.2.1)
      have k21_this_script := (congrFun hM21 (x + 267)).trans ((va_up_ne _ _ (by omega)).trans hS1.2.1)
      have k21_this_script_text := (congrFun hM21 (x + 267 + 1)).trans ((va_up_ne _ _ (by omega)).trans hS1.2.2.1.2.2.2.2.2.1.choose_spec.2)
      have hS21 := SM_fr (M' := M21) hS1 (fun k hk => by rw [hM21, va_up_ne _ _ (by omega)])
      refine g_run 12 1 rfl ?_
      refine g_get 13 rfl fl_RX7_32 k21_this rfl ?_
      refine g_get 14 rfl fl_RX7_308 k21_this_script rfl ?_
      refine g_run 15 1 rfl ?_
      refine g_callV 16 rfl cv_RX7_283 k21_this_script_text (j_setLength hP hS21.2.2.1) rfl rfl (by decide) (by omega) (by omega) (Nat.le_of_ble_eq_true rfl) (e_kw fun M32 hq32 => ?_) e_kwx
      exact g_throwW 17 (th_RX7_119_319_123 r0) rfl rfl rfl rfl rfl rfl (Nat.le_of_ble_eq_true rfl) (by omega) (by omega) ⟨rfl, fun k h1 h2 => ((hq32.2 k (by omega) h2).trans (by rw [hM21, va_up_ne _ _ (by omega)])).trans (fq k (by omega) (by omega)), k, hgo, ng, ⟨nm1, _, nb1, SM_bm hS21 hq32.1 (hq32.2 _ (by omega) (by omega)) (hq32.2 _ (by omega) (by omega)) ⟨by omega, by omega⟩⟩, Or.inl ⟨cc, rfl, (hq32.2 _ (by omega) (by omega)).trans k21_this, HM_e (fun k h1 h2 => (hq32.2 k (by omega) (by omega)).trans (by rw [hM21, va_up_ne _ _ (by omega)])) hH1, HM_e (fun k h1 h2 => (hq32.2 k (by omega) (by omega)).trans (by rw [hM21, va_up_ne _ _ (by omega)])) hT1, YM_e (fun k h1 h2 => (hq32.2 k (by omega) (by omega)).trans (by rw [hM21, va_up_ne _ _ (by omega)])) hY1⟩⟩
end XU
