/-! rules for the library's own calls: a private method of the superclass, super.m(..), a char's return; numbers of the builder -/
theorem sx_priv {C : String} {y z : MethodName} {args : Array Value} {s : State} (hy : y.cls ≠ "java/lang/invoke/MethodHandle" ∧ y.cls ≠ "java/lang/invoke/VarHandle") (hz : z.cls = y.cls) (hsel : (Cond.selects C z z).before args s = true) (hpriv : (Cond.privateMethod y).before args s = true) (hinst : (Cond.instanceMethod y).before args s = true) : (Cond.selects C y y).before args s = true := by
  obtain ⟨c2, r2, m2, q1, q2, q3, q4, kP, hkP, hkPi⟩ := Cond.selects_spec hsel
  obtain ⟨mk, methM, hnamed, hmethM, -, -⟩ := Cond.instanceMethod_spec hinst
  have hfound : s.methodFound? y.cls y.name y.desc = some mk := State.methodFound?_of_named hnamed hy
  have h3 := findClass_of_methodNamed q3
  rw [hz] at h3
  have hcls : mk.cls = m2.cls := Option.some.inj ((findClass_of_methodNamed hnamed).symm.trans h3)
  have hs : selectMethod {} s.vm c2 mk = .method mk := selectMethod_private hmethM (Cond.privateMethod_at hpriv mk methM hnamed hmethM)
  simp only [Cond.before, Cond.holds, Cond.value, q1, hfound, hnamed, hs, hcls, hkP]
  simp; exact hkPi
theorem sx_warm {args args' : Array Value} {s U : State} {y : MethodName} (hW : s.WarmedH U.vm) (h : (Cond.privateMethod y).before args s = true) : (Cond.privateMethod y).before args' U = true := by
  have hal := hW.alike
  have e0 : U.methodNamed? y = (s.setVm U.vm).methodNamed? y := by simp only [State.methodNamed?]; rfl
  have e1 : U.methodNamed? y = s.methodNamed? y := by rw [e0, State.methodNamed?_setVm hal]
  have e2 : U.vm.method? = s.vm.method? := funext hal.method?
  simp only [Cond.before, Cond.holds, Cond.value] at h ⊢
  rw [e1, e2]; exact h
/-- the private methods of the builder that are called on it (no good words: they are carried like KM) -/
def PV (Γ : Cx) : Prop := ∀ y : MethodName, Cond.privateMethod y ∈ tables_1 → (Cond.privateMethod y).before #[] Γ.s0 = true
def e_cP (own : String) (idx ci : Nat) (z : MethodName) (Y : MD) (np : Nat) : Prop := ∃ C : String, e_rc ci C ∧ Y.hh = [] ∧ Cond.methodLink own idx Y.y ∈ e_WS ∧ Cond.instanceMethod Y.y ∈ e_WS ∧ Cond.privateMethod Y.y ∈ tables_1 ∧ Cond.selects C z z ∈ e_WS ∧ z.cls = Y.y.cls ∧ e_cY Y np
def e_cSU (own : String) (idx ci : Nat) (Y : MD) (np : Nat) : Prop := ∃ (C : String) (T : u_T) (N : Nat), ci < 20 ∧ vwCl[ci]? = some (C, T, N) ∧ Y.hh = [] ∧ Cond.methodLink own idx Y.y ∈ e_WS ∧ Cond.sameMethod Y.y.cls Y.y.cls Y.y.name Y.y.desc ∈ e_WS ∧ Cond.superclass own Y.y.cls ∈ e_WS ∧ Cond.instanceMethod Y.y ∈ e_WS ∧ Y.y.name ≠ "<init>" ∧ e_cY Y np
section R9
variable {Λ : Ls} {Γ : Cx} {X Y : MD} {d d' mc ms mc' ms' : Nat} {Q Q' : Rv → Mem → Nat → Prop} {pc pc' : Nat} {ls : List (Option aV)} {st st0 : List aV} {M : Mem} {n kc ks : Nat}
theorem g_callP (i : Nat) {idx ci k np : Nat} {z : MethodName} {fs as : List aV} (hP : PV Γ) (hd : X.tb[i]? = some (pc, .invokevirtual idx, pc')) (hc : e_cP X.own idx ci z Y np) (hM : M k = cO ci fs) (hC : Ct Λ Γ Y d' mc' ms' (vR k :: as) M n Q') (hst0 : st0 = as.reverse ++ vR k :: st) (hnp : as.length = np) (hd' : d' + 1 ≤ d) (hmc : kc + mc' ≤ mc) (hms : ks + ms' ≤ ms) (hst : e_sum st ≤ 8)
    (kr : ∀ v M' n', Q' (.inl v) M' n' → n ≤ n' → G Λ Γ X d mc ms Q pc' ls (v.toList ++ st) M' n' (kc + mc') (ks + ms')) (kx : ∀ E M' n', Q' (.inr E) M' n' → n ≤ n' → GX Λ Γ X d mc ms Q E pc ls M' n' (kc + mc') (ks + ms')) : G Λ Γ X d mc ms Q pc ls st0 M n kc ks := by
  subst hst0
  intro hE p e R s m args below meth c H locs ad ad0 n0 lsA hF h1 h2 hX hW hS hL hs
  obtain ⟨hdd, rfl⟩ := e_dec hF.1 hd
  obtain ⟨C, hrc, hh, hlk, hin, hpv, hse, hz, hY⟩ := hc
  have hsw := e_wfS_app.mp hs
  have has : e_wfS n (vR k :: as) := ⟨hsw.2.1, e_wfS_rev hsw.1⟩
  obtain ⟨hfix, hsz⟩ := e_fixT hF hL
  rw [e_rev]
  exact e_core hE hF hX hL hsw.2.2 hmc hms hS
    (vx_runV (As := as.map (e_cv ad)) (rest := st.map (e_cv ad)) (b := ad k) (n := np) (C := C) hfix (hC hE ad)
      ⟨callB_of np hF.1.2.2.2.2.2.2.1 (e_good_M Y hY.2.1) (ws' := e_WS) (by rw [e_wsM, e_code hh]) rfl rfl (e_w hF hY.1) (e_w hF hlk) hY.2.2.1 (e_room hF hd' hY.2.2.2), e_w hF hin, sx_priv ⟨hY.2.2.1.1, hY.2.2.1.2.1⟩ hz (e_w hF hse) (sx_warm hF.2.1 (hP _ hpv)) (e_w hF hin)⟩
      ⟨e_blind, e_recv hE hF hW hS hsw.2.1 hM hrc, e_Pc_of has hF.2.1 hW⟩ rfl (by rw [List.length_map]; exact hnp) hsz rfl (e_wk hF hst) hdd (e_fit2 hF hmc hms)) kr kx
theorem g_callSU (i : Nat) {idx ci k np : Nat} {fs as : List aV} (hd : X.tb[i]? = some (pc, .invokespecial idx, pc')) (hc : e_cSU X.own idx ci Y np) (hM : M k = cO ci fs) (hC : Ct Λ Γ Y d' mc' ms' (vR k :: as) M n Q') (hst0 : st0 = as.reverse ++ vR k :: st) (hnp : as.length = np) (hd' : d' + 1 ≤ d) (hmc : kc + mc' ≤ mc) (hms : ks + ms' ≤ ms) (hst : e_sum st ≤ 8)
    (kr : ∀ v M' n', Q' (.inl v) M' n' → n ≤ n' → G Λ Γ X d mc ms Q pc' ls (v.toList ++ st) M' n' (kc + mc') (ks + ms')) (kx : ∀ E M' n', Q' (.inr E) M' n' → n ≤ n' → GX Λ Γ X d mc ms Q E pc ls M' n' (kc + mc') (ks + ms')) : G Λ Γ X d mc ms Q pc ls st0 M n kc ks := by
  subst hst0
  intro hE p e R s m args below meth c H locs ad ad0 n0 lsA hF h1 h2 hX hW hS hL hs
  obtain ⟨hdd, rfl⟩ := e_dec hF.1 hd
  obtain ⟨C, T, N, hci, hcl, hh, hlk, hsm, hsu, hin, hno, hY⟩ := hc
  have hsw := e_wfS_app.mp hs
  have has : e_wfS n (vR k :: as) := ⟨hsw.2.1, e_wfS_rev hsw.1⟩
  obtain ⟨hfix, hsz⟩ := e_fixT hF hL
  rw [e_rev]
  have hG : GoodIn e_WS (va_wsSU X.own idx Y.y (e_wsM Y)) := by
    intro w hw
    have hg : w ∈ e_WS := by
      rcases List.mem_append.mp hw with h | h
      · simp only [List.mem_cons, List.not_mem_nil, or_false] at h
        rcases h with rfl | rfl | rfl | rfl | rfl
        · exact hlk
        · exact hsm
        · exact hsu
        · exact hin
        · exact hY.1
      · exact (e_good_M Y hY.2.1 w h).1
    exact ⟨hg, good_of_word (e_WS_good _ hg)⟩
  exact e_core hE hF hX hL hsw.2.2 hmc hms hS
    (vx_runSU (As := as.map (e_cv ad)) (rest := st.map (e_cv ad)) (b := ad k) (n := np) (C := C) ((e_K hE.2.1 hF).1 ci (C, T, N) hcl).2 hfix (hC hE ad)
      (va_cwSU np hF.1.2.2.2.2.2.2.1 hG (ws' := e_WS) (by rw [e_wsM, e_code hh]) rfl rfl ⟨hno, hY.2.2.1.2.2⟩ (e_room hF hd' hY.2.2.2))
      ⟨e_blind, e_recv hE hF hW hS hsw.2.1 hM (Or.inl ⟨T, N, hci, hcl⟩), e_Pc_of has hF.2.1 hW⟩ rfl (by rw [List.length_map]; exact hnp) hsz rfl (e_wk hF hst) hdd (e_fit2 hF hmc hms)) kr kx
theorem e_nch : ∀ k : Nat, k < 256 → narrow .char (.int (iI (k : Int))) = .int (iI (k : Int)) := by decide +kernel
theorem g_cret (i : Nat) {z : Int} (hd : X.tb[i]? = some (pc, .ireturn, pc')) (hr : X.rt = some .char) (h0 : 0 ≤ z ∧ z ≤ 255) (hQ : Q (.inl (some (vI z))) M n) : G Λ Γ X d mc ms Q pc ls [vI z] M n kc ks := by
  intro hE p e R s m args below meth c H locs ad ad0 n0 lsA hF h1 h2 hX hW hS hL hs
  obtain ⟨hdd, rfl⟩ := e_dec hF.1 hd
  have hn := e_nch z.toNat (by omega)
  rw [show ((z.toNat : Nat) : Int) = z by omega] at hn
  exact vx_ret (W.widen h1 h2 (W.zret hF.1.1 hF.1.2.1 (hF.1.2.2.2.1.trans hr) hn (fun t ht _ => ⟨some (vI z), M, n, ad, rfl, hQ, hX, trivial, by rw [ht]; exact hW⟩) hS.2.2 hdd hF.1.2.2.2.2.1))
end R9
theorem sx_255 : ∀ k : Nat, k < 256 → iI (k : Int) &&& iI 255 = iI (k : Int) ∧ ((iI (k : Int)).toUInt32 % 65536).toInt32 = iI (k : Int) := by decide +kernel
theorem sx_and {z : Int} (h : 0 ≤ z ∧ z ≤ 255) : iI z &&& iI 255 = iI z := by
  have := (sx_255 z.toNat (by omega)).1
  rwa [show ((z.toNat : Nat) : Int) = z by omega] at this
theorem sx_i2c {z : Int} (h : 0 ≤ z ∧ z ≤ 255) : ((iI z).toUInt32 % 65536).toInt32 = iI z := by
  have := (sx_255 z.toNat (by omega)).2
  rwa [show ((z.toNat : Nat) : Int) = z by omega] at this
theorem sx_shr0 {z : Int} : iI z >>> (iI 0 &&& 31) = iI z := by rw [iI_0]; exact sb_shr0 _
theorem sx_shl0 {z : Int} : iI z <<< (iI 0 &&& 31) = iI z := by rw [iI_0]; exact sb_shl0 _
