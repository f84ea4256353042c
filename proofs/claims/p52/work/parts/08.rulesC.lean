/-! ENGINE 7: rules: statics, texts, new cells, copies, switches, ends, throws, the start -/
section R3
variable {Λ : Ls} {Γ : Cx} {X Y : MD} {d d' mc ms mc' ms' : Nat} {Q Q' : Rv → Mem → Nat → Prop} {pc pc' : Nat} {ls : List (Option aV)} {st st0 : List aV} {M : Mem} {n kc ks : Nat}
theorem e_cv_id {ad : Nat → Nat} {fs : List aV} (h : e_wfS 0 fs) : fs.map (e_cv ad) = fs.map (e_cv (fun _ => 0)) := e_map_ext (fun _ h => absurd h (Nat.not_lt_zero _)) h

theorem g_gets (i : Nat) {idx : Nat} {C f ty : String} {v : aV} (hd : X.tb[i]? = some (pc, .getstatic idx, pc')) (hq : (C, f, ty, v) ∈ Λ.1) (hl : Cond.fieldLink X.own idx C f ty ∈ e_WS) (kk : G Λ Γ X d mc ms Q pc' ls (v :: st) M n kc ks) : G Λ Γ X d mc ms Q pc ls st M n kc ks := by
  intro hE p e R s m args below meth c H locs ad ad0 n0 lsA hF h1 h2 hX hW hS hL hs
  obtain ⟨hdd, rfl⟩ := e_dec hF.1 hd
  obtain ⟨hw, hZ⟩ := hE.2.2.2.2.1 _ hq
  have hZ' := (va_Z.moved hF.2.1.alike hZ).kept (e_old hF)
  have e1 : e_cv Γ.ac v = e_cv ad v := (e_cv_ext (fun j hj => (hW.2.1 j hj).2) hw).symm
  refine va_gets hF.1.1 hF.1.2.1 hZ' hS hF.1.2.2.2.2.2.1 (e_w hF hl) (fun _ h => h) hdd ?_
  show W p Γ.l e R s m args below meth c H locs kc ks _ (F0 m (pc + 3) lsA (e_cv Γ.ac v :: st.map (e_cv ad)))
  rw [e1]
  exact kk hE p e R s m args below meth c H locs ad ad0 n0 lsA hF h1 h2 hX hW hS hL ⟨e_wfV_mono hW.1 hw, hs⟩
theorem g_getsN (i : Nat) {idx : Nat} {C f ty host : String} {v : aV} (hd : X.tb[i]? = some (pc, .getstatic idx, pc')) (hq : (C, f, ty, v) ∈ Λ.1) (hl : Cond.fieldLinkNest X.own idx C f ty host ∈ Λ.2.2.1) (kk : G Λ Γ X d mc ms Q pc' ls (v :: st) M n kc ks) : G Λ Γ X d mc ms Q pc ls st M n kc ks := by
  intro hE p e R s m args below meth c H locs ad ad0 n0 lsA hF h1 h2 hX hW hS hL hs
  obtain ⟨hdd, rfl⟩ := e_dec hF.1 hd
  obtain ⟨hw, hZ⟩ := hE.2.2.2.2.1 _ hq
  have hZ' := (va_Z.moved hF.2.1.alike hZ).kept (e_old hF)
  have e1 : e_cv Γ.ac v = e_cv ad v := (e_cv_ext (fun j hj => (hW.2.1 j hj).2) hw).symm
  refine va_getsN hF.1.1 hF.1.2.1 hZ' hS hF.1.2.2.2.2.2.1 (va_Nw.use rfl (va_Nw.warmF hF.2.1 (hE.2.2.2.2.2.2.1 _ hl))) (fun _ h => h) hdd ?_
  show W p Γ.l e R s m args below meth c H locs kc ks _ (F0 m (pc + 3) lsA (e_cv Γ.ac v :: st.map (e_cv ad)))
  rw [e1]
  exact kk hE p e R s m args below meth c H locs ad ad0 n0 lsA hF h1 h2 hX hW hS hL ⟨e_wfV_mono hW.1 hw, hs⟩
theorem g_ldcS (i : Nat) {idx k : Nat} {tx : String} (hd : X.tb[i]? = some (pc, .ldc idx, pc')) (hq : (X.own, idx, tx, k) ∈ Λ.2.1) (kk : G Λ Γ X d mc ms Q pc' ls (vR k :: st) M n kc ks) : G Λ Γ X d mc ms Q pc ls st M n kc ks := by
  intro hE p e R s m args below meth c H locs ad ad0 n0 lsA hF h1 h2 hX hW hS hL hs
  obtain ⟨hdd, rfl⟩ := e_dec hF.1 hd
  obtain ⟨hk, hR⟩ := hE.2.2.2.2.2.1 _ hq
  refine va_ldcS hF.1.1 hF.1.2.1 hF.1.2.2.2.2.2.1 (vk_R.warm hF.2.1 hR) hdd ?_
  have kk' := kk hE p e R s m args below meth c H locs ad ad0 n0 lsA hF h1 h2 hX hW hS hL ⟨Nat.lt_of_lt_of_le hk hW.1, hs⟩
  have e1 : Γ.ac k = ad k := (hW.2.1 k hk).2.symm
  show W p Γ.l e R s m args below meth c H locs kc ks _ (F0 m (pc + 2) lsA (.ref (Γ.ac k) :: st.map (e_cv ad)))
  rw [e1]
  exact kk'
theorem g_ldcI (i : Nat) {idx : Nat} {z : Int} (hd : X.tb[i]? = some (pc, .ldc idx, pc')) (hl : Cond.constant X.own idx (iI z) ∈ e_WS) (kk : G Λ Γ X d mc ms Q pc' ls (vI z :: st) M n kc ks) : G Λ Γ X d mc ms Q pc ls st M n kc ks := by
  intro hE p e R s m args below meth c H locs ad ad0 n0 lsA hF h1 h2 hX hW hS hL hs
  obtain ⟨hdd, rfl⟩ := e_dec hF.1 hd
  exact lv_ldc hF.1.1 hF.1.2.1 hF.1.2.2.2.2.2.1 (e_w hF hl) hdd (kk hE p e R s m args below meth c H locs ad ad0 n0 lsA hF h1 h2 hX hW hS hL ⟨trivial, hs⟩)
theorem g_new (i : Nat) {idx ci N : Nat} {fs : List aV} (hd : X.tb[i]? = some (pc, .new idx, pc')) (hl : e_cN X.own idx ci N fs) (hkc : kc + 1 ≤ mc) (hks : ks + N ≤ ms) (kk : ∀ M', M' = va_up M n (cO ci fs) → G Λ Γ X d mc ms Q pc' ls (vR n :: st) M' (n + 1) (kc + 1) (ks + N)) : G Λ Γ X d mc ms Q pc ls st M n kc ks := by
  intro hE p e R s m args below meth c H locs ad ad0 n0 lsA hF h1 h2 hX hW hS hL hs
  obtain ⟨hdd, rfl⟩ := e_dec hF.1 hd
  obtain ⟨C, T, hci, hc, hcl, hin, hini, hu, hw0, ty, hty, hdf⟩ := hl
  refine va_new (fs := fs.map (e_cv (fun _ => 0))) hF.1.1 hF.1.2.1 (Ts := e_WS) hF.1.2.2.2.2.2.2.1 hu ty hty hF.1.2.2.2.2.2.1 (e_w hF hcl) (e_w hF hin) (e_w hF hini) (e_K hE.2.1 hF) hW.2.2.2.1 hW.2.2.2.2.1 hS (e_A hF) hc hdf (Nat.le_trans hkc hF.2.2.1.2.2.1) (Nat.le_trans hks hF.2.2.1.2.2.2) hdd (fun q H1 hP hD hS1 => ?_)
  have e1 : e_ce Γ.tys (va_up ad n q) (cO ci fs) = .inr (ci, fs.map (e_cv (fun _ => 0))) := by show Sum.inr (ci, fs.map (e_cv (va_up ad n q))) = _; rw [e_cv_id hw0]
  rw [← e1] at hP hD
  have hW' := e_Wp_push (c := cO ci fs) hW (e_wfS_mono (Nat.zero_le _) hw0) hP hD hF.2.2.2.1 hF.2.2.2.2 hS1
  have hext : ∀ k, k < n → va_up ad n q k = ad k := fun k hk => va_up_ne _ _ (by omega)
  have kk' := kk _ rfl hE p e R s m args below meth c H1 locs (va_up ad n q) ad0 n0 lsA hF hkc hks (e_Ex_trans hX ⟨Nat.le_succ n, hext⟩) hW' hS1 (e_LR_ext hext (Nat.le_succ n) hL) ⟨Nat.lt_succ_self n, e_wfS_mono (Nat.le_succ n) hs⟩
  have e2 : (vR n :: st).map (e_cv (va_up ad n q)) = .ref q :: st.map (e_cv ad) := by
    show Value.ref (va_up ad n q n) :: st.map (e_cv (va_up ad n q)) = _
    rw [va_up_self, e_map_ext hext hs]
  rw [e2] at kk'
  exact kk'

theorem g_newaI (i len : Nat) {at9 : ArrayType} {kd : Nat} {z : Int} (hd : X.tb[i]? = some (pc, .newarray at9, pc')) (hkd : kd < 3) (hat : newarray.typeOf at9 = e_TY kd) (hl : Cond.arrayClass (e_TY kd) ∈ e_WS) (hz : z = (len : Int)) (hlen : len ≤ 100000) (hkc : kc + 1 ≤ mc) (hks : ks + len ≤ ms) (kk : ∀ M', M' = va_up M n (cI kd len (fun _ => 0)) → G Λ Γ X d mc ms Q pc' ls (vR n :: st) M' (n + 1) (kc + 1) (ks + len)) : G Λ Γ X d mc ms Q pc ls (vI z :: st) M n kc ks := by
  intro hE p e R s m args below meth c H locs ad ad0 n0 lsA hF h1 h2 hX hW hS hL hs
  obtain ⟨hdd, rfl⟩ := e_dec hF.1 hd
  subst hz
  have hk7 : kd < 7 := by omega
  have hcb : componentBytes (e_TY kd) ≤ 8 := by
    match kd, hk7 with
    | 0, _ => decide
    | 1, _ => decide
    | 2, _ => decide
    | 3, _ => decide
    | 4, _ => decide
    | 5, _ => decide
    | 6, _ => decide
  have hcell : ∀ cA : ClassId, vp_cell cA ((len, .inl (fun j => iI 0)) : vp_A) = arrV cA len (fun _ => defaultValue (e_TY kd)) := match kd, hkd with
      | 0, _ => fun _ => rfl
      | 1, _ => fun _ => rfl
      | 2, _ => fun _ => rfl
  have hlen2 : len * componentBytes (e_TY kd) ≤ 536870912 := Nat.le_trans (Nat.mul_le_mul hlen hcb) (by decide)
  refine va_newa hF.1.1 hF.1.2.1 (by rw [hat]; exact e_w hF hl) hat (e_K hE.2.1 hF) hW.2.2.2.1 hW.2.2.2.2.1 hS (e_A hF) (N' := len) hcell (by rw [← iI_0, iI_lt (by omega) (by omega)]; omega) (by rw [iI_cl (by omega) (by omega)]; rfl) hlen2 (Nat.le_trans hkc hF.2.2.1.2.2.1) (Nat.le_trans hks hF.2.2.1.2.2.2) hdd (fun q cA H1 hK1 hP hD hS1 => ?_)
  have h7 : Γ.tys.length = 7 := by rw [← List.length_map (f := fun q : ClassId × FieldType => q.2), hE.2.2.1]; rfl
  have ecA : cA = (Γ.tys.getD kd (0, .int)).1 := by
    have r1 := (hK1.2 Γ.tys.length (cA, e_TY kd) (by rw [List.getElem?_append_right (Nat.le_refl _), Nat.sub_self]; rfl)).2
    have r2 := ((e_K hE.2.1 hF).2 kd _ (e_tys hE hk7)).2
    match kd, hkd, r1, r2 with
    | 0, _, r1, r2 => exact Option.some.inj (r1.symm.trans r2)
    | 1, _, r1, r2 => exact Option.some.inj (r1.symm.trans r2)
    | 2, _, r1, r2 => exact Option.some.inj (r1.symm.trans r2)
    
    
  subst ecA
  have hext : ∀ k, k < n → va_up ad n q k = ad k := fun k hk => va_up_ne _ _ (by omega)
  have hW' := e_Wp_push (c := cI kd len (fun _ => 0)) hW hk7 hP hD hF.2.2.2.1 hF.2.2.2.2 hS1
  have kk' := kk _ rfl hE p e R s m args below meth c H1 locs (va_up ad n q) ad0 n0 lsA hF hkc hks (e_Ex_trans hX ⟨Nat.le_succ n, hext⟩) hW' hS1 (e_LR_ext hext (Nat.le_succ n) hL) ⟨Nat.lt_succ_self n, e_wfS_mono (Nat.le_succ n) hs.2⟩
  have e2 : (vR n :: st).map (e_cv (va_up ad n q)) = .ref q :: st.map (e_cv ad) := by
    show Value.ref (va_up ad n q n) :: st.map (e_cv (va_up ad n q)) = _
    rw [va_up_self, e_map_ext hext hs.2]
  rw [e2] at kk'
  exact kk'

theorem g_newq (i len : Nat) {idx kd : Nat} {C : String} {z : Int} (hd : X.tb[i]? = some (pc, .anewarray idx, pc')) (hkd : kd = 5 ∨ kd = 6) (hat : e_TY kd = .object C) (hl : Cond.classLink X.own idx C ∈ e_WS) (hov : Cond.arrayOver (.object C) ∈ Λ.2.2.1) (hz : z = (len : Int)) (hlen : len ≤ 100000) (hkc : kc + 1 ≤ mc) (hks : ks + len ≤ ms) (kk : ∀ M', M' = va_up M n (cR kd len (fun _ => none)) → G Λ Γ X d mc ms Q pc' ls (vR n :: st) M' (n + 1) (kc + 1) (ks + len)) : G Λ Γ X d mc ms Q pc ls (vI z :: st) M n kc ks := by
  intro hE p e R s m args below meth c H locs ad ad0 n0 lsA hF h1 h2 hX hW hS hL hs
  obtain ⟨hdd, rfl⟩ := e_dec hF.1 hd
  subst hz
  have hk7 : kd < 7 := by omega
  refine va_newq hF.1.1 hF.1.2.1 hF.1.2.2.2.2.2.1 (e_w hF hl) (va_AO.moved hF.2.1.alike (hE.2.2.2.2.2.2.1 _ hov)) (e_K hE.2.1 hF) hW.2.2.2.1 hW.2.2.2.2.1 hS (e_A hF) (N' := len) (by rw [← iI_0, iI_lt (by omega) (by omega)]; omega) (by rw [iI_cl (by omega) (by omega)]; rfl) (by omega) (Nat.le_trans hkc hF.2.2.1.2.2.1) (Nat.le_trans hks hF.2.2.1.2.2.2) hdd (fun q cA H1 hK1 hP hD hS1 => ?_)
  have ecA : cA = (Γ.tys.getD kd (0, .int)).1 := by
    have r1 := (hK1.2 Γ.tys.length (cA, .object C) (by rw [List.getElem?_append_right (Nat.le_refl _), Nat.sub_self]; rfl)).2
    have r2 := ((e_K hE.2.1 hF).2 kd _ (e_tys hE hk7)).2
    rw [hat] at r2
    obtain ⟨-, -, -, -, -, r1⟩ := r1
    obtain ⟨-, -, -, -, -, r2⟩ := r2
    exact Option.some.inj (r1.symm.trans r2)
  subst ecA
  have hext : ∀ k, k < n → va_up ad n q k = ad k := fun k hk => va_up_ne _ _ (by omega)
  have hW' := e_Wp_push (c := cR kd len (fun _ => none)) hW ⟨hk7, fun _ _ h => nomatch h⟩ hP hD hF.2.2.2.1 hF.2.2.2.2 hS1
  have kk' := kk _ rfl hE p e R s m args below meth c H1 locs (va_up ad n q) ad0 n0 lsA hF hkc hks (e_Ex_trans hX ⟨Nat.le_succ n, hext⟩) hW' hS1 (e_LR_ext hext (Nat.le_succ n) hL) ⟨Nat.lt_succ_self n, e_wfS_mono (Nat.le_succ n) hs.2⟩
  have e2 : (vR n :: st).map (e_cv (va_up ad n q)) = .ref q :: st.map (e_cv ad) := by
    show Value.ref (va_up ad n q n) :: st.map (e_cv (va_up ad n q)) = _
    rw [va_up_self, e_map_ext hext hs.2]
  rw [e2] at kk'
  exact kk'
/-- Object.<init> -/
def e_cO (own : String) (idx : Nat) : Prop := Cond.methodLink own idx objectInit ∈ e_WS ∧ Cond.instanceMethod objectInit ∈ e_WS ∧ Cond.code objectInit ⟨#[0xb1]⟩ 1 none ∈ e_WS
theorem g_obj (i : Nat) {idx k : Nat} (hd : X.tb[i]? = some (pc, .invokespecial idx, pc')) (hl : e_cO X.own idx) (hst : e_sum st ≤ 8) (kk : G Λ Γ X d mc ms Q pc' ls st M n kc ks) : G Λ Γ X d mc ms Q pc ls (vR k :: st) M n kc ks := by
  intro hE p e R s m args below meth c H locs ad ad0 n0 lsA hF h1 h2 hX hW hS hL hs
  obtain ⟨hdd, rfl⟩ := e_dec hF.1 hd
  refine W.objInit hF.1.1 hF.1.2.1 hF.1.2.2.2.2.2.1 (e_w hF hl.1) (e_w hF hl.2.1) (e_w hF hl.2.2) rfl (by rw [hF.1.2.2.1]; exact hL.2.1.1) rfl hdd (Nat.le_trans (by omega) hF.2.2.1.1) ?_ (W.eq (g2 := F0 m (pc + 3) lsA (st.map (e_cv ad))) rfl (kk hE p e R s m args below meth c H locs ad ad0 n0 lsA hF h1 h2 hX hW hS hL hs.2))
  have := hF.2.2.1.2.1
  rw [e_sum_eq]
  show 2 * 0 + e_sum st + 12 ≤ R.locals
  omega
/-- System.arraycopy of whole numbers -/
def e_cSY (own : String) (idx : Nat) : Prop := Cond.methodLink own idx arraycopyName ∈ e_WS ∧ Cond.native arraycopyName ∈ e_WS ∧ Cond.static arraycopyName ∈ e_WS ∧ Cond.initialized "java/lang/System" ∈ e_WS
theorem e_cpy {f g : Nat → Int} {sp dp len : Nat} : va_cpy (fun j => iI (f j)) (fun j => iI (g j)) sp dp len = fun j => iI (va_cpy f g sp dp len j) := by
  funext j
  unfold va_cpy
  split <;> rfl
theorem g_copy (i sp dp len : Nat) {idx kd n0' n1 k0 k1 : Nat} {f g : Nat → Int} {zs zd zl : Int} (hd : X.tb[i]? = some (pc, .invokestatic idx, pc')) (hl : e_cSY X.own idx) (hkd : kd < 3) (hM0 : M k0 = cI kd n0' f) (hM1 : M k1 = cI kd n1 g) (h0 : zs = (sp : Int)) (h1' : zd = (dp : Int)) (h2' : zl = (len : Int)) (h3 : sp + len ≤ n0') (h4 : dp + len ≤ n1) (hn0 : n0' ≤ 2147483647) (hn1 : n1 ≤ 2147483647) (hfit : ∀ j, j < len → e_fit (e_TY kd) (vI (f (sp + j)))) (hst : e_sum st ≤ 8)
    (kk : ∀ M', M' = va_up M k1 (cI kd n1 (va_cpy f g sp dp len)) → G Λ Γ X d mc ms Q pc' ls st M' n kc ks) : G Λ Γ X d mc ms Q pc ls (vI zl :: vI zd :: vR k1 :: vI zs :: vR k0 :: st) M n kc ks := by
  intro hE p e R s m args below meth c H locs ad ad0 n0 lsA hF h1 h2 hX hW hS hL hs
  obtain ⟨hdd, rfl⟩ := e_dec hF.1 hd
  subst h0; subst h1'; subst h2'
  have hk0 := e_newA hE hW hM0 (by omega)
  have hk1 := e_newA hE hW hM1 (by omega)
  have hwf : e_wfE n (M k1) := hW.2.2.1 k1 hk1 hs.2.2.1
  rw [hM1] at hwf
  have hty := e_tys hE (show kd < 7 by omega)
  have ecl : ∀ x : Nat, x ≤ 2147483647 → (iI (x : Int)).toNatClampNeg = x := fun x hx => by rw [iI_cl (by omega) (by omega)]; rfl
  have eng : ∀ x : Nat, x ≤ 2147483647 → ¬ iI (x : Int) < 0 := fun x hx => by rw [← iI_0, iI_lt (by omega) (by omega)]; omega
  have hpr : refKind (e_TY kd) = false := by
    match kd, hkd with
    | 0, _ => rfl
    | 1, _ => rfl
    | 2, _ => rfl
  refine va_copyi hF.1.1 hF.1.2.1 (by rw [hF.1.2.2.1]; exact hL.2.1.1.symm) hF.1.2.2.2.2.2.1 (e_w hF hl.1) (e_w hF hl.2.1) (e_w hF hl.2.2.1) (e_w hF hl.2.2.2) (e_K hE.2.1 hF) hW.2.2.2.1 hW.2.2.2.2.1 hS (k0 - e_NC) (k1 - e_NC) kd kd (f := fun j => iI (f j)) (g := fun j => iI (g j)) ((e_ws_get hk0 hs.2.2.2.2.1).trans (by rw [hM0]; rfl)) ((e_ws_get hk1 hs.2.2.1).trans (by rw [hM1]; rfl)) hty hty hpr (eng sp (by omega)) (eng dp (by omega)) (eng len (by omega)) (by rw [ecl sp (by omega), ecl len (by omega)]; exact h3) (by rw [ecl dp (by omega), ecl len (by omega)]; exact h4)
    (fun j hj => by rw [ecl len (by omega)] at hj; rw [ecl sp (by omega)]; exact (e_fit_ok (ad := ad) (hfit j hj)).2) (Nat.le_trans (by omega) hF.2.2.1.1) ?_ hdd (fun H1 locs1 hP hD hS1 => ?_)
  · have := hF.2.2.1.2.1
    rw [e_sum_eq]
    have e9 : nativeFrameWords "java/lang/System" "arraycopy" 5 = 7 := by decide
    rw [e9]
    omega
  · rw [ecl sp (by omega), ecl dp (by omega), ecl len (by omega), e_cpy] at hP hD
    exact kk _ rfl hE p e R s m args below meth c H1 locs1 ad ad0 n0 lsA hF h1 h2 hX (e_Wp_set (c := cI kd n1 (va_cpy f g sp dp len)) hW hk1 hs.2.2.1 hwf hP hD hF.2.2.2.1 hF.2.2.2.2 hS1) hS1 hL hs.2.2.2.2.2
/-- Math.max, Math.min -/
def e_cMa (own : String) (idx : Nat) (z : MethodName) (cc : ByteArray) : Prop := Cond.methodLink own idx z ∈ e_WS ∧ Cond.static z ∈ e_WS ∧ Cond.initialized "java/lang/Math" ∈ e_WS ∧ Cond.code z cc 2 (some .int) ∈ e_WS
theorem e_13 {p : Program} {R : Room} {s : State} {m : MethodId} {args : Array Value} {meth : Method} {c : Code} (hF : e_Fx Γ X d mc ms p R s m args meth c) {ad : Nat → Nat} (hst : e_sum st ≤ 8) : ((st.map (e_cv ad)).map fun v => v.category).sum + 13 ≤ R.locals := by
  have := hF.2.2.1.2.1
  rw [e_sum_eq]
  omega
theorem g_max (i : Nat) {idx : Nat} {a b : Int} (hd : X.tb[i]? = some (pc, .invokestatic idx, pc')) (hl : e_cMa X.own idx Lib.Math.max.name Lib.Math.max.code) (ha : -2147483648 ≤ a ∧ a ≤ 2147483647) (hb : -2147483648 ≤ b ∧ b ≤ 2147483647) (hst : e_sum st ≤ 8) (kk : G Λ Γ X d mc ms Q pc' ls (vI (if a < b then b else a) :: st) M n kc ks) : G Λ Γ X d mc ms Q pc ls (vI b :: vI a :: st) M n kc ks := by
  intro hE p e R s m args below meth c H locs ad ad0 n0 lsA hF h1 h2 hX hW hS hL hs
  obtain ⟨hdd, rfl⟩ := e_dec hF.1 hd
  refine va_mmax hF.1.1 hF.1.2.1 (by rw [hF.1.2.2.1]; exact hL.2.1.1.symm) hF.1.2.2.2.2.2.1 (e_w hF hl.1) (e_w hF hl.2.1) (e_w hF hl.2.2.1) (e_w hF hl.2.2.2) (Nat.le_trans (by omega) hF.2.2.1.1) (e_13 hF hst) (Nat.le_trans h1 hF.2.2.1.2.2.1) (Nat.le_trans h2 hF.2.2.1.2.2.2) hdd (W.eq (g2 := F0 m (pc + 3) lsA (.int (iI (if a < b then b else a)) :: st.map (e_cv ad))) ?_ (kk hE p e R s m args below meth c H locs ad ad0 n0 lsA hF h1 h2 hX hW hS hL ⟨trivial, hs.2.2⟩))
  by_cases h : a < b
  · rw [if_pos h, if_pos ((iI_lt ha hb).mpr h)]
  · rw [if_neg h, if_neg (fun z => h ((iI_lt ha hb).mp z))]
theorem g_min (i : Nat) {idx : Nat} {a b : Int} (hd : X.tb[i]? = some (pc, .invokestatic idx, pc')) (hl : e_cMa X.own idx Lib.Math.min.name Lib.Math.min.code) (ha : -2147483648 ≤ a ∧ a ≤ 2147483647) (hb : -2147483648 ≤ b ∧ b ≤ 2147483647) (hst : e_sum st ≤ 8) (kk : G Λ Γ X d mc ms Q pc' ls (vI (if b < a then b else a) :: st) M n kc ks) : G Λ Γ X d mc ms Q pc ls (vI b :: vI a :: st) M n kc ks := by
  intro hE p e R s m args below meth c H locs ad ad0 n0 lsA hF h1 h2 hX hW hS hL hs
  obtain ⟨hdd, rfl⟩ := e_dec hF.1 hd
  refine va_mmin hF.1.1 hF.1.2.1 (by rw [hF.1.2.2.1]; exact hL.2.1.1.symm) hF.1.2.2.2.2.2.1 (e_w hF hl.1) (e_w hF hl.2.1) (e_w hF hl.2.2.1) (e_w hF hl.2.2.2) (Nat.le_trans (by omega) hF.2.2.1.1) (e_13 hF hst) (Nat.le_trans h1 hF.2.2.1.2.2.1) (Nat.le_trans h2 hF.2.2.1.2.2.2) hdd (W.eq (g2 := F0 m (pc + 3) lsA (.int (iI (if b < a then b else a)) :: st.map (e_cv ad))) ?_ (kk hE p e R s m args below meth c H locs ad ad0 n0 lsA hF h1 h2 hX hW hS hL ⟨trivial, hs.2.2⟩))
  by_cases h : b < a
  · rw [if_pos h, if_pos ((iI_lt hb ha).mpr h)]
  · rw [if_neg h, if_neg (fun z => h ((iI_lt hb ha).mp z))]
/-- switches -/
theorem g_tsw (tgt j : Nat) {dflt lo hi : Int} {offs : Array Int} {len : Nat} {z off : Int} (hd : decode X.cc pc = .ok (.tableswitch dflt lo hi offs, len)) (hz : z = lo + (j : Int)) (hh : lo + (j : Int) ≤ hi) (hr : -2147483648 ≤ z ∧ z ≤ 2147483647) (ho : offs[j]? = some off) (ht : (pc : Int) + off = (tgt : Int)) (kk : G Λ Γ X d mc ms Q tgt ls st M n kc ks) : G Λ Γ X d mc ms Q pc ls (vI z :: st) M n kc ks := by
  intro hE p e R s m args below meth c H locs ad ad0 n0 lsA hF h1 h2 hX hW hS hL hs
  subst hz
  refine lv_tableIn hF.1.1 hF.1.2.1 hd (x := iI (lo + j)) (by rw [iI_toInt hr]; omega) (by rw [iI_toInt hr]; omega) (by rw [iI_toInt hr, show (lo + (j : Int) - lo).toNat = j by omega]; exact ho) ht (kk hE p e R s m args below meth c H locs ad ad0 n0 lsA hF h1 h2 hX hW hS hL hs.2)
theorem g_tswD (tgt : Nat) {dflt lo hi : Int} {offs : Array Int} {len : Nat} {z : Int} (hd : decode X.cc pc = .ok (.tableswitch dflt lo hi offs, len)) (hz : z < lo ∨ hi < z) (hr : -2147483648 ≤ z ∧ z ≤ 2147483647) (ht : (pc : Int) + dflt = (tgt : Int)) (kk : G Λ Γ X d mc ms Q tgt ls st M n kc ks) : G Λ Γ X d mc ms Q pc ls (vI z :: st) M n kc ks := by
  intro hE p e R s m args below meth c H locs ad ad0 n0 lsA hF h1 h2 hX hW hS hL hs
  exact lv_tableOut hF.1.1 hF.1.2.1 hd (x := iI z) (by rw [iI_toInt hr]; exact hz) ht (kk hE p e R s m args below meth c H locs ad ad0 n0 lsA hF h1 h2 hX hW hS hL hs.2)
theorem g_lsw (tgt : Nat) {dflt off : Int} {ps : Array (Int × Int)} {len : Nat} {z : Int} (hd : decode X.cc pc = .ok (.lookupswitch dflt ps, len)) (hp : (ps.toList.zip (ps.toList.drop 1)).all (fun (a, next) => a.1 < next.1) = true) (hr : -2147483648 ≤ z ∧ z ≤ 2147483647) (ho : Op.lookupswitch.offset ps.toList dflt z = off) (ht : (pc : Int) + off = (tgt : Int)) (kk : G Λ Γ X d mc ms Q tgt ls st M n kc ks) : G Λ Γ X d mc ms Q pc ls (vI z :: st) M n kc ks := by
  intro hE p e R s m args below meth c H locs ad ad0 n0 lsA hF h1 h2 hX hW hS hL hs
  exact lv_lookup hF.1.1 hF.1.2.1 hd (x := iI z) hp (by rw [iI_toInt hr]; exact ho) ht (kk hE p e R s m args below meth c H locs ad ad0 n0 lsA hF h1 h2 hX hW hS hL hs.2)
/-- ends -/
theorem g_iret (i : Nat) {z : Int} {ty : FieldType} (hd : X.tb[i]? = some (pc, .ireturn, pc')) (hr : X.rt = some ty) (hf : e_fit ty (vI z)) (hQ : Q (.inl (some (vI z))) M n) : G Λ Γ X d mc ms Q pc ls [vI z] M n kc ks := by
  intro hE p e R s m args below meth c H locs ad ad0 n0 lsA hF h1 h2 hX hW hS hL hs
  obtain ⟨hdd, rfl⟩ := e_dec hF.1 hd
  exact vx_ret (W.widen h1 h2 (W.zret hF.1.1 hF.1.2.1 (hF.1.2.2.2.1.trans hr) (e_fit_ok (ad := ad) hf).1 (fun t ht _ => ⟨some (vI z), M, n, ad, rfl, hQ, hX, trivial, by rw [ht]; exact hW⟩) hS.2.2 hdd hF.1.2.2.2.2.1))
theorem g_vret (i : Nat) (hd : X.tb[i]? = some (pc, .return_, pc')) (hr : X.rt = none) (hQ : Q (.inl none) M n) : G Λ Γ X d mc ms Q pc ls [] M n kc ks := by
  intro hE p e R s m args below meth c H locs ad ad0 n0 lsA hF h1 h2 hX hW hS hL hs
  obtain ⟨hdd, rfl⟩ := e_dec hF.1 hd
  exact vx_ret (W.widen h1 h2 (W.vret hF.1.1 hF.1.2.1 (hF.1.2.2.2.1.trans hr) (fun t ht _ => ⟨none, M, n, ad, rfl, hQ, hX, trivial, by rw [ht]; exact hW⟩) hS.2.2 hdd hF.1.2.2.2.2.1))
theorem g_aret (i : Nat) {r : Option Nat} {ty : FieldType} (hd : X.tb[i]? = some (pc, .areturn, pc')) (hr : X.rt = some ty) (hty : (∃ n, ty = .object n) ∨ ∃ t, ty = .array t) (hQ : Q (.inl (some (vO r))) M n) : G Λ Γ X d mc ms Q pc ls [vO r] M n kc ks := by
  intro hE p e R s m args below meth c H locs ad ad0 n0 lsA hF h1 h2 hX hW hS hL hs
  obtain ⟨hdd, rfl⟩ := e_dec hF.1 hd
  exact vx_ret (W.widen h1 h2 (W.aret (v := e_cv ad (vO r)) hF.1.1 hF.1.2.1 (hF.1.2.2.2.1.trans hr) hty (by cases r with
    | none => exact Or.inl rfl
    | some r => exact Or.inr ⟨_, rfl⟩) (fun t ht _ => ⟨some (vO r), M, n, ad, rfl, hQ, hX, hs.1, by rw [ht]; exact hW⟩) hS.2.2 hdd hF.1.2.2.2.2.1))
theorem g_dret (i : Nat) {z : UInt64} (hd : X.tb[i]? = some (pc, .dreturn, pc')) (hr : X.rt = some .double) (hQ : Q (.inl (some (vD z))) M n) : G Λ Γ X d mc ms Q pc ls [vD z] M n kc ks := by
  intro hE p e R s m args below meth c H locs ad ad0 n0 lsA hF h1 h2 hX hW hS hL hs
  obtain ⟨hdd, rfl⟩ := e_dec hF.1 hd
  exact vx_ret (W.widen h1 h2 (W.dret hF.1.1 hF.1.2.1 (hF.1.2.2.2.1.trans hr) (fun t ht _ => ⟨some (vD z), M, n, ad, rfl, hQ, hX, trivial, by rw [ht]; exact hW⟩) hS.2.2 hdd hF.1.2.2.2.2.1))
theorem g_fret (i : Nat) {z : UInt32} (hd : X.tb[i]? = some (pc, .freturn, pc')) (hr : X.rt = some .float) (hQ : Q (.inl (some (vF z))) M n) : G Λ Γ X d mc ms Q pc ls [vF z] M n kc ks := by
  intro hE p e R s m args below meth c H locs ad ad0 n0 lsA hF h1 h2 hX hW hS hL hs
  obtain ⟨hdd, rfl⟩ := e_dec hF.1 hd
  exact vx_ret (W.widen h1 h2 (W.fret hF.1.1 hF.1.2.1 (hF.1.2.2.2.1.trans hr) (fun t ht _ => ⟨some (vF z), M, n, ad, rfl, hQ, hX, trivial, by rw [ht]; exact hW⟩) hS.2.2 hdd hF.1.2.2.2.2.1))
/-- an exception leaves: no handlers; handlers of other classes are passed in gx_catch -/
theorem gx_out {E : String} (hh : X.hh = []) (hQ : Q (.inr E) M n) : GX Λ Γ X d mc ms Q E pc ls M n kc ks := by
  intro hE p e R s m args below meth c H locs ad ad0 n0 lsA rest q ce hF h1 h2 hX hW hS hL hce hcv hcl
  refine vx_out (fun x hx => ?_) hF.1.2.2.2.2.1 hce hcv hcl (fun t ht _ => ⟨M, n, ad, hQ, hX, by rw [ht]; exact hW⟩) hS.2.2 h1 h2
  rw [e_tab hF.1 (by rw [hh]; decide), hh] at hx
  cases hx
def e_ent (q : Nat × Nat × Nat × Nat) : ExceptionTableEntry := ⟨q.1, q.2.1, q.2.2.1, q.2.2.2⟩
/-- caught by the handler x behind the handlers pre, which pass; the handler begins with astore -/
theorem gx_catch {E name : String} (pre : List (Nat × Nat × Nat × Nat)) (x : Nat × Nat × Nat × Nat) (suf : List (Nat × Nat × Nat × Nat)) (i j : Nat) {ins : Instr} (hsp : X.hh = pre ++ x :: suf) (hpass : ∀ z ∈ pre, z.2.2.2 ≠ 0 ∧ ∃ nm : String, Cond.classLink X.own z.2.2.2 nm ∈ e_WS ∧ (E, nm) ∈ Λ.2.2.2) (hcov : covers (e_ent x) pc = true) (h0 : x.2.2.2 ≠ 0)
    (hlk : Cond.classLink X.own x.2.2.2 name ∈ e_WS) (hcast : Cond.castable E name ∈ Λ.2.2.1) (hd : X.tb[i]? = some (x.2.2.1, ins, pc')) (hins : (∃ j' : Fin 4, ins = .astore_n j' ∧ (j' : Nat) = j) ∨ ins = .astore j) (hj : j < X.mL) (hc2 : ls.all (fun v => !c2v v) = true)
    (kk : G Λ Γ X d mc ms Q pc' (ls.set j none) [] M n kc ks) : GX Λ Γ X d mc ms Q E pc ls M n kc ks := by
  intro hE p e R s m args below meth c H locs ad ad0 n0 lsA rest q ce hF h1 h2 hX hW hS hL hce hcv hcl
  obtain ⟨hdd, hpc⟩ := e_dec hF.1 hd
  have hn : X.hh ≠ [(0, 0, 0, 0)] := by
    rw [hsp]
    intro e9
    cases pre with
    | nil => exact h0 (by rw [(List.cons.inj e9).1])
    | cons a t => exact absurd (List.cons.inj e9).2 (by simp)
  refine vx_catch hF.1.2.2.2.2.2.1 (pre.map e_ent) (e_ent x) (suf.map e_ent) (by rw [e_tab hF.1 hn, hsp, tableOf, List.map_append]; rfl) (fun z hz => ?_) hcov h0 (e_w hF hlk) (va_Nw.use rfl (va_Nw.warmC hF.2.1 (hE.2.2.2.2.2.2.1 _ hcast))) hce hcv hcl ?_
  · obtain ⟨z', hz', rfl⟩ := List.mem_map.mp hz
    obtain ⟨a1, nm, a2, a3⟩ := hpass z' hz'
    exact Or.inr ⟨a1, nm, e_w hF a2, va_Nc.moved hF.2.1.alike (hE.2.2.2.2.2.2.2.1 _ a3)⟩
  · have hkk : ∀ lsB : Array Slot, lv_has lsB X.mL ((j, .ref q) :: (e_all lsA).filter (fun r => !(r.1 == j) && !(r.1 + 1 == j && r.2.category == 2))) → W p Γ.l e R s m args below meth c H locs kc ks (vx_MQ below (e_Qc Γ Q ad0 n0) (e_XC Γ Q ad0 n0) args s mc ms (e_FR Γ)) (F0 m pc' lsB []) := by
      intro lsB hB
      refine kk hE p e R s m args below meth c H locs ad ad0 n0 lsB hF h1 h2 hX hW hS ⟨by rw [List.length_set]; exact hL.1, ⟨hB.1, hB.2.1, fun q hq => nomatch hq⟩, fun i v hv => ?_⟩ trivial
      by_cases hij : i = j
      · subst hij
        rw [List.getElem?_set_self (by rw [hL.1]; exact hj)] at hv
        cases hv
      · rw [List.getElem?_set_ne (fun h => hij h.symm)] at hv
        obtain ⟨w1, w2⟩ := hL.2.2 i v hv
        refine ⟨w1, hB.2.2 (i, e_cv ad v) (List.mem_cons_of_mem _ (List.mem_filter.mpr ⟨e_all_mem.mpr w2, ?_⟩))⟩
        have hcv2 : c2v (some v) = false := by
          have := List.all_eq_true.mp hc2 _ (List.mem_of_getElem? hv)
          simpa using this
        simp only [Bool.and_eq_true, Bool.not_eq_true', beq_eq_false_iff_ne, ne_eq, Bool.and_eq_false_iff]
        exact ⟨hij, Or.inr (by rw [c2v_cat hcv2]; decide)⟩
    subst hpc
    rcases hins with ⟨j', rfl, rfl⟩ | rfl
    · exact lv_astore_n hF.1.1 hF.1.2.1 hdd rfl (e_all_has hL.2.1) hj rfl hkk
    · exact lv_astore hF.1.1 hF.1.2.1 hdd (e_all_has hL.2.1) hj rfl hkk
def e_mv : Cond → Bool
  | .castable _ _ => true
  | .declares _ => true
  | _ => false
theorem e_mv_ok {w : Cond} {s0 s : State} {args : Array Value} (h : e_mv w = true) (hW : s0.WarmedH s.vm) (hw : va_Nw w s0) : w.before args s = true := by
  unfold e_mv at h
  split at h
  · exact va_Nw.use rfl (va_Nw.warmC hW hw)
  · exact va_Nw.use rfl (va_Nw.warmD hW hw)
  · cases h
/-- throw new E("text") -/
def e_cT (Λ : Ls) (own : String) (ik is ic : Nat) (cls : String) (names : List String) : Prop := ∃ (text : String) (sa : Nat), Bundle.fit cls = true ∧ (∀ n ∈ names, Bundle.fit n = true) ∧ names.length ≤ 5 ∧ Cond.classLink own ik cls ∈ e_WS ∧ Cond.initialized cls ∈ e_WS ∧ (own, is, text, sa) ∈ Λ.2.1 ∧
  (∀ w ∈ vx_atS own ic cls names, w ∈ e_WS ∨ (w ∈ Λ.2.2.1 ∧ e_mv w = true)) ∧ ∀ w ∈ Cond.classLink own ik cls :: Cond.initialized cls :: vx_atS own ic cls names, vx_ot w = true

theorem g_throw (i : Nat) {ik is ic : Nat} {cls : String} {names : List String} {p1 p2 p3 p4 p5 : Nat} (hl : e_cT Λ X.own ik is ic cls names) (hd0 : X.tb[i]? = some (pc, .new ik, p1)) (hd1 : X.tb[i + 1]? = some (p1, .dup, p2)) (hd2 : X.tb[i + 2]? = some (p2, .ldc is, p3)) (hd3 : X.tb[i + 3]? = some (p3, .invokespecial ic, p4)) (hd4 : X.tb[i + 4]? = some (p4, .athrow, p5)) (hh : X.hh = []) (hst : e_sum st ≤ 8) (hkc : kc + 1 ≤ mc) (hks : ks + 6 ≤ ms) (hQ : Q (.inr cls) M n) : G Λ Γ X d mc ms Q pc ls st M n kc ks := by
  intro hE p e R s m args below meth c H locs ad ad0 n0 lsA hF h1 h2 hX hW hS hL hs
  obtain ⟨text, sa, hft, hfn, hnl, hcl, hini, hstr, hat, hgood⟩ := hl
  obtain ⟨e0, rfl⟩ := e_dec hF.1 hd0
  obtain ⟨e1, rfl⟩ := e_dec hF.1 hd1
  obtain ⟨e2, rfl⟩ := e_dec hF.1 hd2
  obtain ⟨e3, rfl⟩ := e_dec hF.1 hd3
  obtain ⟨e4, rfl⟩ := e_dec hF.1 hd4
  obtain ⟨-, hR⟩ := hE.2.2.2.2.2.1 _ hstr
  have hU := hE.2.2.2.2.2.2.2.2.1
  have hN := hE.2.2.2.2.2.2.2.2.2.1
  refine vx_throwS hF.1.1 hF.1.2.1 hE.1 hF.1.2.2.2.2.2.1 hft hfn (e_w hF hcl) (e_w hF hini) (vk_R.warm hF.2.1 hR) (fun w hw => ?_) hgood ((vx_Zq.moved hF.2.1.alike hU).kept (e_old hF)) ((vx_Zq.moved hF.2.1.alike hN).kept (e_old hF)) hS (hL.2.1.1.trans hF.1.2.2.1.symm) e0 e1 e2 e3 e4 (fun x hx => ?_) ?_ ?_ (Nat.le_trans hkc hF.2.2.1.2.2.1) (Nat.le_trans hks hF.2.2.1.2.2.2) hF.1.2.2.2.2.1 (fun t _ hsz hk => ?_) hS.2.2 hkc hks
  · rcases hat w hw with h | ⟨h, h9⟩
    · exact e_w hF h
    · exact e_mv_ok h9 hF.2.1 (hE.2.2.2.2.2.2.1 _ h)
  · rw [e_tab hF.1 (by rw [hh]; decide), hh] at hx
    cases hx
  · have := hF.2.2.1.1
    omega
  · have := hF.2.2.1.2.1
    rw [e_sum_eq]
    omega
  · refine ⟨M, n, ad, hQ, hX, hW.1, hW.2.1, hW.2.2.1, va_P.kept hW.2.2.2.1 (fun k q hq => hk _ ((hW.2.2.2.1 k q hq).lt)), hW.2.2.2.2.1, Nat.le_trans hW.2.2.2.2.2.1 hsz, fun q hq => ?_⟩
    rw [hk q (Nat.lt_of_lt_of_le hq hW.2.2.2.2.2.1), e_Wp_old hW q hq]

theorem g_throwW (i : Nat) {ik is ic : Nat} {cls : String} {names : List String} {p1 p2 p3 p4 p5 : Nat} (hl : e_cT Λ X.own ik is ic cls names) (hd0 : X.tb[i]? = some (pc, .new ik, p1)) (hd1 : X.tb[i + 1]? = some (p1, .dup, p2)) (hd2 : X.tb[i + 2]? = some (p2, .ldc_w is, p3)) (hd3 : X.tb[i + 3]? = some (p3, .invokespecial ic, p4)) (hd4 : X.tb[i + 4]? = some (p4, .athrow, p5)) (hh : X.hh = []) (hst : e_sum st ≤ 8) (hkc : kc + 1 ≤ mc) (hks : ks + 6 ≤ ms) (hQ : Q (.inr cls) M n) : G Λ Γ X d mc ms Q pc ls st M n kc ks := by
  intro hE p e R s m args below meth c H locs ad ad0 n0 lsA hF h1 h2 hX hW hS hL hs
  obtain ⟨text, sa, hft, hfn, hnl, hcl, hini, hstr, hat, hgood⟩ := hl
  obtain ⟨e0, rfl⟩ := e_dec hF.1 hd0
  obtain ⟨e1, rfl⟩ := e_dec hF.1 hd1
  obtain ⟨e2, rfl⟩ := e_dec hF.1 hd2
  obtain ⟨e3, rfl⟩ := e_dec hF.1 hd3
  obtain ⟨e4, rfl⟩ := e_dec hF.1 hd4
  obtain ⟨-, hR⟩ := hE.2.2.2.2.2.1 _ hstr
  have hU := hE.2.2.2.2.2.2.2.2.1
  have hN := hE.2.2.2.2.2.2.2.2.2.1
  refine vx_throwSW hF.1.1 hF.1.2.1 hE.1 hF.1.2.2.2.2.2.1 hft hfn (e_w hF hcl) (e_w hF hini) (vk_R.warm hF.2.1 hR) (fun w hw => ?_) hgood ((vx_Zq.moved hF.2.1.alike hU).kept (e_old hF)) ((vx_Zq.moved hF.2.1.alike hN).kept (e_old hF)) hS (hL.2.1.1.trans hF.1.2.2.1.symm) e0 e1 e2 e3 e4 (fun x hx => ?_) ?_ ?_ (Nat.le_trans hkc hF.2.2.1.2.2.1) (Nat.le_trans hks hF.2.2.1.2.2.2) hF.1.2.2.2.2.1 (fun t _ hsz hk => ?_) hS.2.2 hkc hks
  · rcases hat w hw with h | ⟨h, h9⟩
    · exact e_w hF h
    · exact e_mv_ok h9 hF.2.1 (hE.2.2.2.2.2.2.1 _ h)
  · rw [e_tab hF.1 (by rw [hh]; decide), hh] at hx
    cases hx
  · have := hF.2.2.1.1
    omega
  · have := hF.2.2.1.2.1
    rw [e_sum_eq]
    omega
  · refine ⟨M, n, ad, hQ, hX, hW.1, hW.2.1, hW.2.2.1, va_P.kept hW.2.2.2.1 (fun k q hq => hk _ ((hW.2.2.2.1 k q hq).lt)), hW.2.2.2.2.1, Nat.le_trans hW.2.2.2.2.2.1 hsz, fun q hq => ?_⟩
    rw [hk q (Nat.lt_of_lt_of_le hq hW.2.2.2.2.2.1), e_Wp_old hW q hq]

/-- the start -/
def e_ini {α : Type} (nL : Nat) (as : List aV) (k : List (Option aV) → Option α) : Option α := match nL, as with
  | 0, [] => k []
  | 0, _ :: _ => none
  | m + 1, [] => e_ini m [] (fun r => k (none :: r))
  | m + 1, v :: t => match c2v (some v) with
    | true => none
    | false => e_ini m t (fun r => k (some v :: r))
theorem e_ini_ok {α : Type} : ∀ (nL : Nat) (as : List aV) (k : List (Option aV) → Option α) (r : α), e_ini nL as k = some r → as.length ≤ nL ∧ (∀ v ∈ as, c2v (some v) = false) ∧ k (as.map some ++ List.replicate (nL - as.length) none) = some r
  | 0, [], k, r, h => ⟨Nat.le_refl _, (fun _ h => nomatch h), h⟩
  | 0, _ :: _, k, r, h => by cases h
  | m + 1, [], k, r, h => by
    obtain ⟨h1, h2, h3⟩ := e_ini_ok m [] _ r h
    exact ⟨Nat.zero_le _, h2, h3⟩
  | m + 1, v :: t, k, r, h => by
    unfold e_ini at h
    split at h
    · cases h
    · next hc =>
      obtain ⟨h1, h2, h3⟩ := e_ini_ok m t _ r h
      refine ⟨by simp; omega, fun w hw => ?_, ?_⟩
      · rcases List.mem_cons.mp hw with rfl | hw
        · exact hc
        · exact h2 w hw
      · rw [show m + 1 - (v :: t).length = m - t.length by simp]
        exact h3
theorem e_sl {ad : Nat → Nat} : ∀ {as : List aV}, (∀ v ∈ as, c2v (some v) = false) → lg_sl (as.map (e_cv ad)) = as.map (fun v => Slot.val (e_cv ad v))
  | [], _ => rfl
  | v :: t, h => by
    have h1 : (e_cv ad v).category = 1 := c2v_cat (h v List.mem_cons_self)
    have h2 := e_sl (ad := ad) (fun w hw => h w (List.mem_cons_of_mem _ hw) : ∀ w ∈ t, c2v (some w) = false)
    show (if (e_cv ad v).category = 2 then [Slot.val (e_cv ad v), .second] else [Slot.val (e_cv ad v)]) ++ lg_sl (t.map (e_cv ad)) = _
    rw [if_neg (by omega), h2]
    rfl
def e_ok (X : MD) : Prop := plainName X.y.cls = true ∧ X.own = X.y.cls ∧ e_tb X.cc X.tb = true
theorem e_entry {ad : Nat → Nat} {as : List aV} {nL : Nat} (h1 : as.length ≤ nL) (h2 : ∀ v ∈ as, c2v (some v) = false) (hw : e_wfS n as) : e_LR ad n (as.map some ++ List.replicate (nL - as.length) none) ((lg_sl (as.map (e_cv ad)) ++ List.replicate (nL - (lg_sl (as.map (e_cv ad))).length) Slot.unset).toArray) nL := by
  have hsl := e_sl (ad := ad) h2
  have hlen : (lg_sl (as.map (e_cv ad))).length = as.length := by rw [hsl, List.length_map]
  have hh := lv_entry (as.map (e_cv ad)) (n := nL) (by rw [hlen]; exact h1)
  refine ⟨by simp; omega, ⟨hh.1, hh.2.1, fun q hq => nomatch hq⟩, fun j v hj => ?_⟩
  have hj' : as[j]? = some v := by
    by_cases h : j < as.length
    · rw [List.getElem?_append_left (by rw [List.length_map]; exact h), List.getElem?_map] at hj
      cases hx : as[j]? with
      | none => rw [hx] at hj; cases hj
      | some w => rw [hx] at hj; cases hj; rfl
    · rw [List.getElem?_append_right (by rw [List.length_map]; omega), List.getElem?_replicate] at hj
      split at hj <;> cases hj
  refine ⟨e_wfS_mem hw v (List.mem_of_getElem? hj'), ?_⟩
  rw [List.getElem?_toArray, hsl, List.getElem?_append_left (by rw [List.length_map]; exact (List.getElem?_eq_some_iff.mp hj').1), List.getElem?_map, hj']
  rfl
theorem g_start {as : List aV} (hX : e_ok X) (hh : X.hh = []) {ls : List (Option aV)} (hi : e_ini X.mL as (fun l => some l) = some ls) (kk : G Λ Γ X d mc ms Q 0 ls [] M n 0 0) : Ct Λ Γ X d mc ms as M n Q := by
  intro hE ad
  obtain ⟨i1, i2, i3⟩ := e_ini_ok _ _ _ _ hi
  cases i3
  refine vx_ofW (cc := X.cc) (maxL := X.mL) (ret := X.rt) (ws' := e_WS) hX.1 (by rw [e_wsM, e_code hh]) ?_
  intro p e s m args below meth c s₁ B hml htab hv
  obtain ⟨rfl, hw, hs0, hW⟩ := hv
  have hts := atoms_spec (ws := e_wsM X) B.pre
  rw [lg_entry_eq]
  exact kk hE p e _ s m _ below meth c s.heap [] ad ad n _ ⟨⟨B.exec, B.bytes, hml, B.returns, B.notSynchronized, by rw [hX.2.1]; exact findClass_of_methodNamed B.named, fun w hw => hts w (List.mem_cons_of_mem _ hw), Or.inr (by
      rw [hh]
      cases ht : c.exceptionTable.toList with
      | nil => rfl
      | cons x t => exact (htab x (by rw [ht]; exact List.mem_cons_self)).elim), Or.inr (name_of_methodNamed B.named B.method).1, hX.2.2⟩, hs0, ⟨Nat.le_refl _, Nat.le_refl _, Nat.le_refl _, Nat.le_refl _⟩, hW.2.2.2.2.2.1, hW.2.2.2.2.2.2⟩ (Nat.zero_le _) (Nat.zero_le _) ⟨Nat.le_refl _, fun _ _ => rfl⟩ hW va_S.rf (e_entry i1 i2 hw) trivial
theorem g_startX {as : List aV} (hX : e_ok X) (hh : X.hh ≠ []) {ls : List (Option aV)} (hi : e_ini X.mL as (fun l => some l) = some ls) (kk : G Λ Γ X d mc ms Q 0 ls [] M n 0 0) : Ct Λ Γ X d mc ms as M n Q := by
  intro hE ad
  obtain ⟨i1, i2, i3⟩ := e_ini_ok _ _ _ _ hi
  cases i3
  have ecw : e_cw X = .codeWith X.y X.cc X.mL X.rt X.hh := by
    unfold e_cw
    split
    · next h => exact absurd h hh
    · rfl
  refine vx_ofWH (cc := X.cc) (maxL := X.mL) (ret := X.rt) (ws' := e_WS) (hh := X.hh) hX.1 (by rw [e_wsM, ecw]) ?_
  intro p e s m args below meth c s₁ B hml hv
  obtain ⟨rfl, hw, hs0, hW⟩ := hv
  have hts := atoms_spec (ws := e_wsM X) B.pre
  rw [lg_entry_eq]
  exact kk hE p e _ s m _ below meth c s.heap [] ad ad n _ ⟨⟨B.exec, B.bytes, hml, B.returns, B.notSynchronized, by rw [hX.2.1]; exact findClass_of_methodNamed B.named, fun w hw => hts w (List.mem_cons_of_mem _ hw),
      Or.inr (vx_table (x := X.y) B (by rw [← ecw]; exact hts _ List.mem_cons_self)), Or.inr (name_of_methodNamed B.named B.method).1, hX.2.2⟩, hs0, ⟨Nat.le_refl _, Nat.le_refl _, Nat.le_refl _, Nat.le_refl _⟩, hW.2.2.2.2.2.1, hW.2.2.2.2.2.2⟩ (Nat.zero_le _) (Nat.zero_le _) ⟨Nat.le_refl _, fun _ _ => rfl⟩ hW va_S.rf (e_entry i1 i2 hw) trivial

end R3
