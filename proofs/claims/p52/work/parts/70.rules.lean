/-! rules that this law alone needs (by hand): bits of any kind, |x|, byte arrays cloned and cast, bytes of a constant text copied, an overriding method called by its elder's name -/
theorem iI_rng (x : Int32) : -2147483648 ≤ x.toInt ∧ x.toInt ≤ 2147483647 :=
  ⟨Int.le_trans (by decide) (Int32.le_toInt x), Int.le_of_lt_add_one (Int.lt_of_lt_of_le (Int32.toInt_lt x) (by decide))⟩
theorem iI_pos (x : Int32) : 0 ≤ (x &&& iI 2147483647).toInt := by
  show 0 ≤ (x.toBitVec &&& (iI 2147483647).toBitVec).toInt
  rw [BitVec.toInt_eq_msb_cond, BitVec.msb_and, show (iI 2147483647).toBitVec.msb = false from by decide, Bool.and_false, if_neg (by decide)]
  exact Int.natCast_nonneg _
def e_cMb (own : String) (idx : Nat) : Prop := Cond.methodLink own idx Lib.Math.abs.name ∈ e_WS ∧ Cond.static Lib.Math.abs.name ∈ e_WS ∧ Cond.initialized "java/lang/Math" ∈ e_WS ∧ Cond.code Lib.Math.abs.name Lib.Math.abs.code 1 (some .int) ∈ e_WS
def e_cCL (own : String) (idx : Nat) : Prop := Cond.methodLink own idx ⟨"[B", "clone", "()Ljava/lang/Object;"⟩ ∈ e_WS ∧ Cond.sameMethod "[B" "java/lang/Object" "clone" "()Ljava/lang/Object;" ∈ e_WS ∧ Cond.native ⟨"java/lang/Object", "clone", "()Ljava/lang/Object;"⟩ ∈ e_WS ∧ Cond.instanceMethod ⟨"java/lang/Object", "clone", "()Ljava/lang/Object;"⟩ ∈ e_WS ∧ Cond.selects "[B" ⟨"[B", "clone", "()Ljava/lang/Object;"⟩ ⟨"java/lang/Object", "clone", "()Ljava/lang/Object;"⟩ ∈ e_WS
def e_cO2 (own : String) (idx ci : Nat) (x : MethodName) (owner : String) (Y : MD) (np : Nat) : Prop := ∃ C : String, e_rc ci C ∧ Y.hh = [] ∧ Cond.methodLink own idx x ∈ e_WS ∧ Cond.sameMethod x.cls owner x.name x.desc ∈ e_WS ∧ Cond.instanceMethod ⟨owner, x.name, x.desc⟩ ∈ e_WS ∧ Cond.selects C x Y.y ∈ e_WS ∧ Cond.instanceMethod Y.y ∈ e_WS ∧ (∃ b0 m0 r0, Cond.code ⟨owner, x.name, x.desc⟩ b0 m0 r0 ∈ e_WS) ∧ (owner ≠ "java/lang/invoke/MethodHandle" ∧ owner ≠ "java/lang/invoke/VarHandle" ∧ (parseMethodDescriptor x.desc).map (fun d => d.parameters.length) = some np) ∧ e_cY Y np
theorem ab_RL_215 : e_cMb RL 215 := ⟨(e_w1 1213 (by decide +kernel) rfl), (e_w1 1214 (by decide +kernel) rfl), (e_w1 22 (by decide +kernel) rfl), (e_w1 1215 (by decide +kernel) rfl)⟩
theorem cl_RJ7_310 : e_cCL RJ7 310 := ⟨(e_w1 197 (by decide +kernel) rfl), (e_w1 198 (by decide +kernel) rfl), (e_w1 199 (by decide +kernel) rfl), (e_w1 200 (by decide +kernel) rfl), (e_w1 201 (by decide +kernel) rfl)⟩
theorem ck_RJ7_311 : Cond.classLink RJ7 311 "[B" ∈ e_WS := (e_w1 203 (by decide +kernel) rfl)
theorem co_RJ0_549 : e_cO2 RJ0 549 1 ⟨"java/lang/AbstractStringBuilder", "length", "()I"⟩ "java/lang/AbstractStringBuilder" mJ4_length_8abf5 0 := ⟨"java/lang/StringBuilder", Or.inl ⟨TJ4, 4, by decide, rfl⟩, rfl, (e_w1 327 (by decide +kernel) rfl), (e_w1 329 (by decide +kernel) rfl), (e_w1 328 (by decide +kernel) rfl), (e_w1 330 (by decide +kernel) rfl), (e_w1 331 (by decide +kernel) rfl), ⟨prog_12_method_6_code, 1, some .int, (e_w1 334 (by decide +kernel) rfl)⟩, ⟨by decide, by decide, by decide +kernel⟩, cy_J4_length_8abf5⟩
section E9
variable {Λ : Ls} {Γ : Cx} {X Y : MD} {d d' mc ms mc' ms' : Nat} {Q Q' : Rv → Mem → Nat → Prop} {pc pc' : Nat} {ls : List (Option aV)} {st st0 : List aV} {M : Mem} {n kc ks : Nat}
theorem g_ixorQ (i : Nat) {a b : Int} (hd : X.tb[i]? = some (pc, .ixor, pc')) (kk : ∀ z : Int, i32 z → G Λ Γ X d mc ms Q pc' ls (vI z :: st) M n kc ks) : G Λ Γ X d mc ms Q pc ls (vI b :: vI a :: st) M n kc ks := by
  intro hE p e R s m args below meth c H locs ad ad0 n0 lsA hF h1 h2 hX hW hS hL hs
  obtain ⟨hdd, rfl⟩ := e_dec hF.1 hd
  exact lv_ixor hF.1.1 hF.1.2.1 hdd (W.eq (g2 := F0 m (pc + 1) lsA (.int (iI (iI a ^^^ iI b).toInt) :: st.map (e_cv ad))) (by rw [← iI_of]) (kk _ (iI_rng _) hE p e R s m args below meth c H locs ad ad0 n0 lsA hF h1 h2 hX hW hS hL ⟨trivial, hs.2.2⟩))
theorem g_iushrQ (i : Nat) {a b : Int} (hd : X.tb[i]? = some (pc, .iushr, pc')) (kk : ∀ z : Int, i32 z → G Λ Γ X d mc ms Q pc' ls (vI z :: st) M n kc ks) : G Λ Γ X d mc ms Q pc ls (vI b :: vI a :: st) M n kc ks := by
  intro hE p e R s m args below meth c H locs ad ad0 n0 lsA hF h1 h2 hX hW hS hL hs
  obtain ⟨hdd, rfl⟩ := e_dec hF.1 hd
  exact lv_iushr hF.1.1 hF.1.2.1 hdd rfl (W.eq (g2 := F0 m (pc + 1) lsA (.int (iI (((iI a).toUInt32 >>> ((iI b).toUInt32 &&& Int32.toUInt32 31)).toInt32).toInt) :: st.map (e_cv ad))) (by rw [← iI_of]) (kk _ (iI_rng _) hE p e R s m args below meth c H locs ad ad0 n0 lsA hF h1 h2 hX hW hS hL ⟨trivial, hs.2.2⟩))
theorem g_iandQ (i : Nat) {a : Int} (hd : X.tb[i]? = some (pc, .iand, pc')) (kk : ∀ z : Int, 0 ≤ z ∧ z ≤ 2147483647 → G Λ Γ X d mc ms Q pc' ls (vI z :: st) M n kc ks) : G Λ Γ X d mc ms Q pc ls (vI 2147483647 :: vI a :: st) M n kc ks := by
  intro hE p e R s m args below meth c H locs ad ad0 n0 lsA hF h1 h2 hX hW hS hL hs
  obtain ⟨hdd, rfl⟩ := e_dec hF.1 hd
  exact lv_iand hF.1.1 hF.1.2.1 hdd (W.eq (g2 := F0 m (pc + 1) lsA (.int (iI (iI a &&& iI 2147483647).toInt) :: st.map (e_cv ad))) (by rw [← iI_of]) (kk _ ⟨iI_pos _, (iI_rng _).2⟩ hE p e R s m args below meth c H locs ad ad0 n0 lsA hF h1 h2 hX hW hS hL ⟨trivial, hs.2.2⟩))
theorem g_abs (i : Nat) {idx : Nat} {a : Int} (hd : X.tb[i]? = some (pc, .invokestatic idx, pc')) (hl : e_cMb X.own idx) (ha : -2147483648 ≤ a ∧ a ≤ 2147483647) (hst : e_sum st ≤ 8) (kk : G Λ Γ X d mc ms Q pc' ls (vI (if 0 ≤ a then a else 0 - a) :: st) M n kc ks) : G Λ Γ X d mc ms Q pc ls (vI a :: st) M n kc ks := by
  intro hE p e R s m args below meth c H locs ad ad0 n0 lsA hF h1 h2 hX hW hS hL hs
  obtain ⟨hdd, rfl⟩ := e_dec hF.1 hd
  refine va_mabs hF.1.1 hF.1.2.1 (by rw [hF.1.2.2.1]; exact hL.2.1.1.symm) hF.1.2.2.2.2.2.1 (e_w hF hl.1) (e_w hF hl.2.1) (e_w hF hl.2.2.1) (e_w hF hl.2.2.2) (Nat.le_trans (by omega) hF.2.2.1.1) (e_13 hF hst) (Nat.le_trans h1 hF.2.2.1.2.2.1) (Nat.le_trans h2 hF.2.2.1.2.2.2) hdd (W.eq (g2 := F0 m (pc + 3) lsA (.int (iI (if 0 ≤ a then a else 0 - a)) :: st.map (e_cv ad))) ?_ (kk hE p e R s m args below meth c H locs ad ad0 n0 lsA hF h1 h2 hX hW hS hL ⟨trivial, hs.2⟩))
  have h9 : (0 : Int32) ≤ iI a ↔ 0 ≤ a := iI_le (a := 0) (by decide) ha
  by_cases h : 0 ≤ a
  · rw [if_pos h, if_pos (h9.mpr h)]
  · rw [if_neg h, if_neg (fun z => h (h9.mp z)), iI_sub, iI_0]
theorem e_nmB {p : Program} {R : Room} {s : State} {m : MethodId} {args : Array Value} {meth : Method} {c : Code} (hE : e_Env Γ Λ.1 Λ.2.1 Λ.2.2.1 Λ.2.2.2) (hF : e_Fx Γ X d mc ms p R s m args meth c) : s.vm.findClass "[B" = some (Γ.tys.getD 2 (0, .int)).1 :=
  va_nm_byte ((e_K hE.2.1 hF).2 2 _ (e_tys hE (by decide))).2
theorem g_castB (i : Nat) {idx len k : Nat} {f : Nat → Int} (hd : X.tb[i]? = some (pc, .checkcast idx, pc')) (hl : Cond.classLink X.own idx "[B" ∈ e_WS) (hM : M k = cI 2 len f) (kk : G Λ Γ X d mc ms Q pc' ls (vR k :: st) M n kc ks) : G Λ Γ X d mc ms Q pc ls (vR k :: st) M n kc ks := by
  intro hE p e R s m args below meth c H locs ad ad0 n0 lsA hF h1 h2 hX hW hS hL hs
  obtain ⟨hdd, rfl⟩ := e_dec hF.1 hd
  have hk := e_newA hE hW hM (by omega)
  exact va_castA hF.1.1 hF.1.2.1 hF.1.2.2.2.2.2.1 (e_w hF hl) hW.2.2.2.1 (k - e_NC) ((e_ws_get hk hs.1).trans (by rw [hM]; rfl)) (e_nmB hE hF) hdd (kk hE p e R s m args below meth c H locs ad ad0 n0 lsA hF h1 h2 hX hW hS hL hs)
theorem g_cloneB (i : Nat) {idx len k : Nat} {f : Nat → Int} (hd : X.tb[i]? = some (pc, .invokevirtual idx, pc')) (hl : e_cCL X.own idx) (hcast : Cond.castable "[B" "java/lang/Cloneable" ∈ Λ.2.2.1) (hM : M k = cI 2 len f) (hok : ∀ j, j < len → -128 ≤ f j ∧ f j ≤ 127) (hkc : kc + 1 ≤ mc) (hks : ks + len ≤ ms) (hst : e_sum st ≤ 8) (kk : ∀ M', M' = va_up M n (cI 2 len f) → G Λ Γ X d mc ms Q pc' ls (vR n :: st) M' (n + 1) (kc + 1) (ks + len)) : G Λ Γ X d mc ms Q pc ls (vR k :: st) M n kc ks := by
  intro hE p e R s m args below meth c H locs ad ad0 n0 lsA hF h1 h2 hX hW hS hL hs
  obtain ⟨hdd, rfl⟩ := e_dec hF.1 hd
  have hk := e_newA hE hW hM (by omega)
  refine va_clone (ad := "[B") hF.1.1 hF.1.2.1 (by rw [hF.1.2.2.1]; exact hL.2.1.1.symm) hF.1.2.2.2.2.2.1 (e_w hF hl.1) (e_w hF hl.2.1) (e_w hF hl.2.2.1) (e_w hF hl.2.2.2.1) (e_w hF hl.2.2.2.2) (va_Nw.warmC hF.2.1 (hE.2.2.2.2.2.2.1 _ hcast)) (e_K hE.2.1 hF) hW.2.2.2.1 hW.2.2.2.2.1 hS (e_A hF) (k - e_NC) 2 (x := (len, .inl (fun j => iI (f j)))) ((e_ws_get hk hs.1).trans (by rw [hM]; rfl)) (e_tys hE (by decide)) (e_nmB hE hF) (va_fit (fun j hj => (e_nbz (hok j hj)).2)) (Nat.le_trans (by omega) hF.2.2.1.1) ?_ (Nat.le_trans hkc hF.2.2.1.2.2.1) (Nat.le_trans hks hF.2.2.1.2.2.2) hdd (fun q H1 hK1 hP hD hS1 => ?_)
  · have := hF.2.2.1.2.1
    rw [e_sum_eq]
    omega
  · have hext : ∀ k, k < n → va_up ad n q k = ad k := fun k hk => va_up_ne _ _ (by omega)
    have hW' := e_Wp_push (c := cI 2 len f) hW (show (2 : Nat) < 7 by decide) hP hD hF.2.2.2.1 hF.2.2.2.2 hS1
    have kk' := kk _ rfl hE p e R s m args below meth c H1 locs (va_up ad n q) ad0 n0 lsA hF hkc hks (e_Ex_trans hX ⟨Nat.le_succ n, hext⟩) hW' hS1 (e_LR_ext hext (Nat.le_succ n) hL) ⟨Nat.lt_succ_self n, e_wfS_mono (Nat.le_succ n) hs.2⟩
    have e2 : (vR n :: st).map (e_cv (va_up ad n q)) = .ref q :: st.map (e_cv ad) := by
      show Value.ref (va_up ad n q n) :: st.map (e_cv (va_up ad n q)) = _
      rw [va_up_self, e_map_ext hext hs.2]
    rw [e2] at kk'
    exact kk'
theorem g_copyC (i sp dp len : Nat) {idx n0' n1 k0 k1 : Nat} {f g : Nat → Int} {zs zd zl : Int} (hd : X.tb[i]? = some (pc, .invokestatic idx, pc')) (hl : e_cSY X.own idx) (h100 : k0 < 100) (hM0 : M k0 = cI 11 n0' f) (hM1 : M k1 = cI 2 n1 g) (h0 : zs = (sp : Int)) (h1' : zd = (dp : Int)) (h2' : zl = (len : Int)) (h3 : sp + len ≤ n0') (h4 : dp + len ≤ n1) (hn0 : n0' ≤ 2147483647) (hn1 : n1 ≤ 2147483647) (hfit : ∀ j, j < len → -128 ≤ f (sp + j) ∧ f (sp + j) ≤ 127) (hst : e_sum st ≤ 8)
    (kk : ∀ M', M' = va_up M k1 (cI 2 n1 (va_cpy f g sp dp len)) → G Λ Γ X d mc ms Q pc' ls st M' n kc ks) : G Λ Γ X d mc ms Q pc ls (vI zl :: vI zd :: vR k1 :: vI zs :: vR k0 :: st) M n kc ks := by
  intro hE p e R s m args below meth c H locs ad ad0 n0 lsA hF h1 h2 hX hW hS hL hs
  obtain ⟨hdd, rfl⟩ := e_dec hF.1 hd
  subst h0; subst h1'; subst h2'
  have hk1 := e_newA hE hW hM1 (by omega)
  have hwf : e_wfE n (M k1) := hW.2.2.1 k1 hk1 hs.2.2.1
  rw [hM1] at hwf
  obtain ⟨e1, hT⟩ := e_old_arr hE hW hM0 h100
  rw [← e1] at hT
  have hty := e_tys hE (show 2 < 7 by omega)
  have ecl : ∀ x : Nat, x ≤ 2147483647 → (iI (x : Int)).toNatClampNeg = x := fun x hx => by rw [iI_cl (by omega) (by omega)]; rfl
  have eng : ∀ x : Nat, x ≤ 2147483647 → ¬ iI (x : Int) < 0 := fun x hx => by rw [← iI_0, iI_lt (by omega) (by omega)]; omega
  refine vk_copyt hF.1.1 hF.1.2.1 (by rw [hF.1.2.2.1]; exact hL.2.1.1.symm) hF.1.2.2.2.2.2.1 (e_w hF hl.1) (e_w hF hl.2.1) (e_w hF hl.2.2.1) (e_w hF hl.2.2.2) (e_K hE.2.1 hF) hW.2.2.2.1 hW.2.2.2.2.1 hS (f := fun j => iI (f j)) ((va_T.moved hF.2.1.alike hT).kept (e_old hF)) (k1 - e_NC) 2 (g := fun j => iI (g j)) ((e_ws_get hk1 hs.2.2.1).trans (by rw [hM1]; rfl)) hty (eng sp (by omega)) (eng dp (by omega)) (eng len (by omega)) (by rw [ecl sp (by omega), ecl len (by omega)]; exact h3) (by rw [ecl dp (by omega), ecl len (by omega)]; exact h4)
    (fun j hj => by rw [ecl len (by omega)] at hj; rw [ecl sp (by omega)]; exact (e_nbz (hfit j hj)).2) (Nat.le_trans (by omega) hF.2.2.1.1) ?_ hdd (fun H1 locs1 hP hD hS1 => ?_)
  · have := hF.2.2.1.2.1
    rw [e_sum_eq]
    have e9 : nativeFrameWords "java/lang/System" "arraycopy" 5 = 7 := by decide
    rw [e9]
    omega
  · rw [ecl sp (by omega), ecl dp (by omega), ecl len (by omega), e_cpy] at hP hD
    exact kk _ rfl hE p e R s m args below meth c H1 locs1 ad ad0 n0 lsA hF h1 h2 hX (e_Wp_set (c := cI 2 n1 (va_cpy f g sp dp len)) hW hk1 hs.2.2.1 hwf hP hD hF.2.2.2.1 hF.2.2.2.2 hS1) hS1 hL hs.2.2.2.2.2
theorem g_callO (i : Nat) {idx ci k np : Nat} {x : MethodName} {owner : String} {fs as : List aV} (hd : X.tb[i]? = some (pc, .invokevirtual idx, pc')) (hc : e_cO2 X.own idx ci x owner Y np) (hM : M k = cO ci fs) (hC : Ct Λ Γ Y d' mc' ms' (vR k :: as) M n Q') (hst0 : st0 = as.reverse ++ vR k :: st) (hnp : as.length = np) (hd' : d' + 1 ≤ d) (hmc : kc + mc' ≤ mc) (hms : ks + ms' ≤ ms) (hst : e_sum st ≤ 8)
    (kr : ∀ v M' n', Q' (.inl v) M' n' → n ≤ n' → G Λ Γ X d mc ms Q pc' ls (v.toList ++ st) M' n' (kc + mc') (ks + ms')) (kx : ∀ E M' n', Q' (.inr E) M' n' → n ≤ n' → GX Λ Γ X d mc ms Q E pc ls M' n' (kc + mc') (ks + ms')) : G Λ Γ X d mc ms Q pc ls st0 M n kc ks := by
  subst hst0
  intro hE p e R s m args below meth c H locs ad ad0 n0 lsA hF h1 h2 hX hW hS hL hs
  obtain ⟨hdd, rfl⟩ := e_dec hF.1 hd
  obtain ⟨C, hrc, hh, hlk, hsm, hio, hse, hin, ⟨b0, m0, r0, h0⟩, hdo, hY⟩ := hc
  have hsw := e_wfS_app.mp hs
  have has : e_wfS n (vR k :: as) := ⟨hsw.2.1, e_wfS_rev hsw.1⟩
  obtain ⟨hfix, hsz⟩ := e_fixT hF hL
  rw [e_rev]
  have hG : GoodIn e_WS (va_wsO X.own idx C owner x Y.y (e_wsM Y)) := by
    intro w hw
    have hg : w ∈ e_WS := by
      rcases List.mem_append.mp hw with h | h
      · simp only [List.mem_cons, List.not_mem_nil, or_false] at h
        rcases h with rfl | rfl | rfl | rfl | rfl | rfl
        · exact hlk
        · exact hsm
        · exact hio
        · exact hse
        · exact hin
        · exact hY.1
      · exact (e_good_M Y hY.2.1 w h).1
    exact ⟨hg, good_of_word (e_WS_good _ hg)⟩
  exact e_core hE hF hX hL hsw.2.2 hmc hms hS
    (vx_runU (As := as.map (e_cv ad)) (rest := st.map (e_cv ad)) (b := ad k) (n := np) (C := C) hfix (hC hE ad)
      (va_cwO np hF.1.2.2.2.2.2.2.1 hG (ws' := e_WS) (by rw [e_wsM, e_code hh]) rfl rfl h0 hdo (e_room hF hd' hY.2.2.2))
      ⟨e_blind, e_recv hE hF hW hS hsw.2.1 hM hrc, e_Pc_of has hF.2.1 hW⟩ rfl (by rw [List.length_map]; exact hnp) hsz rfl (e_wk hF hst) hdd (e_fit2 hF hmc hms)) kr kx
end E9
