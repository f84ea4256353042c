/-! ENGINE 6: rules: new cells, calls, ends, throws, the start -/
def e_cN (own : String) (idx ci N : Nat) (fs : List aV) : Prop := ∃ (C : String) (T : u_T), ci < 20 ∧ vwCl[ci]? = some (C, T, N) ∧ Cond.classLink own idx C ∈ e_WS ∧ Cond.instantiable C N ∈ e_WS ∧ Cond.initialized C ∈ e_WS ∧ (∀ w ∈ u_ws C T N, w ∈ e_WS) ∧ e_wfS 0 fs ∧
  ∃ ty : Nat → FieldType, (∀ k, k < N → parseFieldDescriptor (T k).2.2.1 = some (ty k)) ∧ ∀ j, j < N → defaultValue (ty j) = vp_V (fs.map (e_cv (fun _ => 0))) j
def e_ct (v : aV) : Nat := match v with
  | .inr (.inr (.inl _)) => 2
  | .inr (.inr (.inr (.inr _))) => 2
  | _ => 1
def e_sum (st : List aV) : Nat := match st with
  | [] => 0
  | v :: r => e_ct v + e_sum r
theorem e_ct_eq {ad : Nat → Nat} (v : aV) : (e_cv ad v).category = e_ct v := by
  match v with
  | .inl z => rfl
  | .inr (.inl none) => rfl
  | .inr (.inl (some k)) => rfl
  | .inr (.inr (.inl z)) => rfl
  | .inr (.inr (.inr (.inl z))) => rfl
  | .inr (.inr (.inr (.inr z))) => rfl
theorem e_sum_eq {ad : Nat → Nat} : ∀ st : List aV, ((st.map (e_cv ad)).map fun v => v.category).sum = e_sum st
  | [] => rfl
  | v :: r => by
    show (e_cv ad v).category + ((r.map (e_cv ad)).map fun v => v.category).sum = e_ct v + e_sum r
    rw [e_ct_eq, e_sum_eq r]
/-- the receiver's class, by its number -/
def e_rc (ci : Nat) (C : String) : Prop := (∃ (T : u_T) (N : Nat), ci < 20 ∧ vwCl[ci]? = some (C, T, N)) ∨ (20 ≤ ci ∧ ci < 99 ∧ (e_KT ci).1 = C)
def e_cY (Y : MD) (np : Nat) : Prop := Cond.initialized Y.y.cls ∈ e_WS ∧ e_cw Y ∈ e_WS ∧ (Y.y.cls ≠ "java/lang/invoke/MethodHandle" ∧ Y.y.cls ≠ "java/lang/invoke/VarHandle" ∧ (parseMethodDescriptor Y.y.desc).map (fun d => d.parameters.length) = some np) ∧ Y.mL ≤ 45
def e_cV (own : String) (idx ci : Nat) (Y : MD) (np : Nat) : Prop := ∃ C : String, e_rc ci C ∧ Y.hh = [] ∧ Cond.methodLink own idx Y.y ∈ e_WS ∧ Cond.instanceMethod Y.y ∈ e_WS ∧ Cond.selects C Y.y Y.y ∈ e_WS ∧ e_cY Y np
def e_cU (own : String) (idx ci : Nat) (x : MethodName) (Y : MD) (np : Nat) : Prop := ∃ C : String, e_rc ci C ∧ Y.hh = [] ∧ Cond.methodLink own idx x ∈ e_WS ∧ Cond.sameMethod x.cls Y.y.cls x.name x.desc ∈ e_WS ∧ Cond.instanceMethod Y.y ∈ e_WS ∧ Cond.selects C x Y.y ∈ e_WS ∧ Y.y = ⟨Y.y.cls, x.name, x.desc⟩ ∧ e_cY Y np
def e_cS (own : String) (idx : Nat) (Y : MD) (np : Nat) : Prop := Y.hh = [] ∧ Cond.methodLink own idx Y.y ∈ e_WS ∧ Cond.static Y.y ∈ e_WS ∧ e_cY Y np
def e_cSX (own : String) (idx : Nat) (Y : MD) (np : Nat) : Prop := Y.hh ≠ [] ∧ Cond.methodLink own idx Y.y ∈ e_WS ∧ Cond.static Y.y ∈ e_WS ∧ e_cY Y np
def e_cI (own : String) (idx : Nat) (Y : MD) (np : Nat) : Prop := Y.hh = [] ∧ Y.rt = none ∧ Y.y.name = "<init>" ∧ Cond.methodLink own idx Y.y ∈ e_WS ∧ Cond.instanceMethod Y.y ∈ e_WS ∧ e_cY Y np
def e_cIN (WN : List Cond) (own : String) (idx : Nat) (Y : MD) (np : Nat) : Prop := Y.hh = [] ∧ Y.rt = none ∧ Y.y.name = "<init>" ∧ (∃ host, Cond.methodLinkNest own idx Y.y host ∈ WN) ∧ Cond.instanceMethod Y.y ∈ e_WS ∧ e_cY Y np
def e_cSN (WN : List Cond) (own : String) (idx : Nat) (Y : MD) (np : Nat) : Prop := Y.hh = [] ∧ (∃ host, Cond.methodLinkNest own idx Y.y host ∈ WN) ∧ Cond.static Y.y ∈ e_WS ∧ e_cY Y np
theorem e_good_M (Y : MD) (h : e_cw Y ∈ e_WS) : GoodIn e_WS (e_wsM Y) := by
  intro w hw
  rcases List.mem_cons.mp hw with rfl | hw
  · exact ⟨h, good_of_word (e_WS_good _ h)⟩
  · exact ⟨hw, good_of_word (e_WS_good _ hw)⟩
section R2
variable {Λ : Ls} {Γ : Cx} {X Y : MD} {d d' mc ms mc' ms' : Nat} {Q Q' : Rv → Mem → Nat → Prop} {pc pc' : Nat} {ls : List (Option aV)} {st st0 : List aV} {M : Mem} {n kc ks : Nat}
theorem e_blind {ad : Nat → Nat} {as : List aV} : FrameBlind (e_Pc Γ ad as M n) := fun _ _ _ _ h => h
theorem e_Pc_of {ad : Nat → Nat} {as : List aV} {H : Heap} {s : State} (hw : e_wfS n as) (hs0 : Γ.s0.WarmedH s.vm) (hW : e_Wp Γ ad M n H) : ∀ U : State, U.heap = H → s.WarmedH U.vm → e_Pc Γ ad as M n (as.map (e_cv ad)).toArray U :=
  fun U hU hv => ⟨rfl, hw, State.WarmedH.trans hs0 hv, by rw [hU]; exact hW⟩
theorem e_recv {ST SR WN NN} (hE : e_Env Γ ST SR WN NN) {p : Program} {R : Room} {s : State} {m : MethodId} {args : Array Value} {meth : Method} {c : Code} (hF : e_Fx Γ X d mc ms p R s m args meth c) {ad : Nat → Nat} {H : Heap} {locs : List Loc} (hW : e_Wp Γ ad M n H) (hS : va_S (e_FR Γ) s.heap H locs) {k ci : Nat} {fs : List aV} {C : String} (hk : k < n) (hM : M k = cO ci fs) (hr : e_rc ci C) :
    ∃ cell : Cell, H[ad k]? = some cell ∧ cell.vm.isStatics = false ∧ s.vm.findClass C = some cell.cls := by
  rcases hr with ⟨T, N, hci, hc⟩ | ⟨hci, hci2, hc⟩
  · have hk0 := e_newO hE hW hM hci
    exact va_recv (e_K hE.2.1 hF) hW.2.2.2.1 hc ((e_ws_get hk0 hk).trans (by rw [hM]; rfl))
  · by_cases hk0 : k < e_NC
    · rw [(hW.2.1 k hk0).1] at hM
      rcases hE.2.2.2.1 k hk0 with h | h
      · rw [h] at hM
        cases hM
        omega
      · unfold e_cst at h
        rw [hM] at h
        have hO := (va_O.moved hF.2.1.alike h.2.1).kept (e_old hF)
        rw [hc, ← (hW.2.1 k hk0).2] at hO
        exact va_Orecv hO hS
    · have h := hW.2.2.2.1 _ _ (e_ws_get (tys := Γ.tys) (ad := ad) (M := M) (Nat.le_of_not_lt hk0) hk)
      rw [hM] at h
      obtain ⟨r, h1, -⟩ := h
      have : ci < vwCl.length := (List.getElem?_eq_some_iff.mp h1).1
      have h10 : vwCl.length = 9 := rfl
      omega
/-- behind a call -/
theorem e_core {p : Program} {e : Env} {R : Room} {s : State} {m : MethodId} {args a : Array Value} {below : List Frame} {meth : Method} {c : Code} {H : Heap} {locs : List Loc} {ad ad0 : Nat → Nat} {n0 : Nat} {lsA : Array Slot} {stA : List Value}
    (hE : e_Env Γ Λ.1 Λ.2.1 Λ.2.2.1 Λ.2.2.2) (hF : e_Fx Γ X d mc ms p R s m args meth c) (hX : e_Ex ad0 n0 ad n) (hL : e_LR ad n ls lsA X.mL) (hs : e_wfS n st) (hmc : kc + mc' ≤ mc) (hms : ks + ms' ≤ ms) (hS : va_S (e_FR Γ) s.heap H locs)
    (hr : vx_Run p Γ.l e R s m args below meth c H locs kc ks mc' ms' (F0 m pc lsA stA) (st.map (e_cv ad)) (e_Qc Γ Q' ad n a) (e_XC Γ Q' ad n) (e_FR Γ))
    (kr : ∀ v M' n', Q' (.inl v) M' n' → n ≤ n' → G Λ Γ X d mc ms Q (pc + 3) ls (v.toList ++ st) M' n' (kc + mc') (ks + ms'))
    (kx : ∀ E M' n', Q' (.inr E) M' n' → n ≤ n' → GX Λ Γ X d mc ms Q E pc ls M' n' (kc + mc') (ks + ms')) :
    W p Γ.l e R s m args below meth c H locs kc ks (vx_MQ below (e_Qc Γ Q ad0 n0) (e_XC Γ Q ad0 n0) args s mc ms (e_FR Γ)) (F0 m pc lsA stA) := by
  intro T hT XT
  have hSS : ∀ {T' : State} {L : List Loc} {kc ks : Nat} {M' : Mem} {n' : Nat} {ad' : Nat → Nat}, Stand p Γ.l e R s m args below meth c T' (locs ++ L) kc ks → (∀ q ∈ L, e_FR Γ q.base) → e_Wp Γ ad' M' n' T'.heap → va_S (e_FR Γ) s.heap T'.heap (locs ++ L) := by
    intro T' L kc ks M' n' ad' X' hL hW'
    refine ⟨(vx_frame X'.same).1, fun q _ hA => ?_, fun q hq => ?_⟩
    · have hq : q < Γ.s0.heap.size := Nat.lt_of_not_le hA
      rw [e_Wp_old hW' q hq, hF.2.2.2.2 q hq]
    · rcases List.mem_append.mp hq with h | h
      · exact hS.2.2 q h
      · exact hL q h
  rcases hr T hT XT with ⟨v, st₀, t, T', L, h0, X', hL', e1, e2, hq, go⟩ | ⟨q, st₀, t, T', L, E, ce, h0, X', hL', e1, e2, hq, hce, hcv, hcl, go⟩
  · obtain ⟨v', M', n', ad', hv, hQ', hX', hwo, hW'⟩ := hq
    cases hv
    rw [← e1] at hW'
    have ks' := kr v' M' n' hQ' hX'.1 hE p e R s m args below meth c T'.heap (locs ++ L) ad' ad0 n0 lsA hF hmc hms (e_Ex_trans hX hX') hW' (hSS X' hL' hW') (e_LR_ext hX'.2 hX'.1 hL)
      (e_wfS_app.mpr ⟨by cases v' with
        | none => trivial
        | some v => exact ⟨hwo, trivial⟩, e_wfS_mono hX'.1 hs⟩)
    obtain ⟨t2, a1, b1⟩ := ks' T' rfl X'
    refine ⟨t2, go t2 ?_, b1⟩
    have e3 : (v'.toList ++ st).map (e_cv ad') = (v'.map (e_cv ad')).toList ++ st.map (e_cv ad) := by
      rw [List.map_append, e_map_ext hX'.2 hs]
      cases v' <;> rfl
    rw [e3] at a1
    exact a1
  · obtain ⟨M', n', ad', hQ', hX', hW'⟩ := hq
    rw [← e1] at hW'
    have ks' := kx E M' n' hQ' hX'.1 hE p e R s m args below meth c T'.heap (locs ++ L) ad' ad0 n0 lsA (st.map (e_cv ad)) q ce hF hmc hms (e_Ex_trans hX hX') hW' (hSS X' hL' hW') (e_LR_ext hX'.2 hX'.1 hL) (by rw [e1]; exact hce) hcv hcl
    obtain ⟨t2, a1, b1⟩ := ks' T' rfl X'
    exact ⟨t2, go.trans a1, b1⟩
theorem e_rm_le {d d' mL : Nat} (hd' : d' + 1 ≤ d) (hm : mL ≤ 45) : 8 + (mL + 11) + (64 * d' + 400) ≤ 64 * d + 400 := by omega
theorem e_room {p : Program} {R : Room} {s : State} {m : MethodId} {args : Array Value} {meth : Method} {c : Code} (hF : e_Fx Γ X d mc ms p R s m args meth c) (hd' : d' + 1 ≤ d) {mL : Nat} (hm : mL ≤ 45) : (e_rm d' mc' ms').frames + 1 ≤ R.frames ∧ 8 + (mL + 11) + (e_rm d' mc' ms').locals ≤ R.locals := by
  obtain ⟨-, -, ⟨a, b, -, -⟩, -⟩ := hF
  have e1 : (e_rm d' mc' ms').frames = d' + 16 := rfl
  have e2 : (e_rm d' mc' ms').locals = 64 * d' + 400 := rfl
  rw [e1, e2]
  exact ⟨by omega, Nat.le_trans (e_rm_le hd' hm) b⟩
theorem e_fit2 {p : Program} {R : Room} {s : State} {m : MethodId} {args : Array Value} {meth : Method} {c : Code} (hF : e_Fx Γ X d mc ms p R s m args meth c) (hmc : kc + mc' ≤ mc) (hms : ks + ms' ≤ ms) : kc + mc' ≤ R.cells ∧ ks + ms' ≤ R.slots := by
  obtain ⟨-, -, ⟨-, -, a, b⟩, -⟩ := hF
  omega
theorem e_wk {p : Program} {R : Room} {s : State} {m : MethodId} {args : Array Value} {meth : Method} {c : Code} (hF : e_Fx Γ X d mc ms p R s m args meth c) {ad : Nat → Nat} {pc : Nat} {ls : Array Slot} {sx : List Value} (hst : e_sum st ≤ 8) : 2 * (F0 m pc ls sx).monitorRoom + ((st.map (e_cv ad)).map fun v => v.category).sum ≤ 8 := by
  rw [e_sum_eq]
  show 2 * 0 + e_sum st ≤ 8
  omega
theorem e_fixT {p : Program} {R : Room} {s : State} {m : MethodId} {args : Array Value} {meth : Method} {c : Code} (hF : e_Fx Γ X d mc ms p R s m args meth c) {ad : Nat → Nat} {lsA : Array Slot} (hL : e_LR ad n ls lsA X.mL) : CallFix p m c X.cc X.mL s args e_WS X.own ∧ lsA.size = X.mL := ⟨⟨hF.1.1, hF.1.2.1, hF.1.2.2.1, hF.1.2.2.2.2.2.1, hF.1.2.2.2.2.2.2.1⟩, hL.2.1.1⟩
theorem e_code (h : Y.hh = []) : e_cw Y = .code Y.y Y.cc Y.mL Y.rt := by unfold e_cw; rw [h]
theorem e_rev {ad : Nat → Nat} (as : List aV) : (as.reverse ++ st).map (e_cv ad) = (as.map (e_cv ad)).reverse ++ st.map (e_cv ad) := by rw [List.map_append, List.map_reverse]

theorem g_callV (i : Nat) {idx ci k np : Nat} {fs as : List aV} (hd : X.tb[i]? = some (pc, .invokevirtual idx, pc')) (hc : e_cV X.own idx ci Y np) (hM : M k = cO ci fs) (hC : Ct Λ Γ Y d' mc' ms' (vR k :: as) M n Q') (hst0 : st0 = as.reverse ++ vR k :: st) (hnp : as.length = np) (hd' : d' + 1 ≤ d) (hmc : kc + mc' ≤ mc) (hms : ks + ms' ≤ ms) (hst : e_sum st ≤ 8)
    (kr : ∀ v M' n', Q' (.inl v) M' n' → n ≤ n' → G Λ Γ X d mc ms Q pc' ls (v.toList ++ st) M' n' (kc + mc') (ks + ms')) (kx : ∀ E M' n', Q' (.inr E) M' n' → n ≤ n' → GX Λ Γ X d mc ms Q E pc ls M' n' (kc + mc') (ks + ms')) : G Λ Γ X d mc ms Q pc ls st0 M n kc ks := by
  subst hst0
  intro hE p e R s m args below meth c H locs ad ad0 n0 lsA hF h1 h2 hX hW hS hL hs
  obtain ⟨hdd, rfl⟩ := e_dec hF.1 hd
  obtain ⟨C, hrc, hh, hlk, hin, hse, hY⟩ := hc
  have hsw := e_wfS_app.mp hs
  have has : e_wfS n (vR k :: as) := ⟨hsw.2.1, e_wfS_rev hsw.1⟩
  obtain ⟨hfix, hsz⟩ := e_fixT hF hL
  rw [e_rev]
  exact e_core hE hF hX hL hsw.2.2 hmc hms hS
    (vx_runV (As := as.map (e_cv ad)) (rest := st.map (e_cv ad)) (b := ad k) (n := np) (C := C) hfix (hC hE ad)
      ⟨callB_of np hF.1.2.2.2.2.2.2.1 (e_good_M Y hY.2.1) (ws' := e_WS) (by rw [e_wsM, e_code hh]) rfl rfl (e_w hF hY.1) (e_w hF hlk) hY.2.2.1 (e_room hF hd' hY.2.2.2), e_w hF hin, e_w hF hse⟩
      ⟨e_blind, e_recv hE hF hW hS hsw.2.1 hM hrc, e_Pc_of has hF.2.1 hW⟩ rfl (by rw [List.length_map]; exact hnp) hsz rfl (e_wk hF hst) hdd (e_fit2 hF hmc hms)) kr kx
theorem g_callU (i : Nat) {idx ci k np : Nat} {x : MethodName} {fs as : List aV} (hd : X.tb[i]? = some (pc, .invokevirtual idx, pc')) (hc : e_cU X.own idx ci x Y np) (hM : M k = cO ci fs) (hC : Ct Λ Γ Y d' mc' ms' (vR k :: as) M n Q') (hst0 : st0 = as.reverse ++ vR k :: st) (hnp : as.length = np) (hd' : d' + 1 ≤ d) (hmc : kc + mc' ≤ mc) (hms : ks + ms' ≤ ms) (hst : e_sum st ≤ 8)
    (kr : ∀ v M' n', Q' (.inl v) M' n' → n ≤ n' → G Λ Γ X d mc ms Q pc' ls (v.toList ++ st) M' n' (kc + mc') (ks + ms')) (kx : ∀ E M' n', Q' (.inr E) M' n' → n ≤ n' → GX Λ Γ X d mc ms Q E pc ls M' n' (kc + mc') (ks + ms')) : G Λ Γ X d mc ms Q pc ls st0 M n kc ks := by
  subst hst0
  intro hE p e R s m args below meth c H locs ad ad0 n0 lsA hF h1 h2 hX hW hS hL hs
  obtain ⟨hdd, rfl⟩ := e_dec hF.1 hd
  obtain ⟨C, hrc, hh, hlk, hsm, hin, hse, hyx, hY⟩ := hc
  have hsw := e_wfS_app.mp hs
  have has : e_wfS n (vR k :: as) := ⟨hsw.2.1, e_wfS_rev hsw.1⟩
  obtain ⟨hfix, hsz⟩ := e_fixT hF hL
  rw [e_rev]
  have hG : GoodIn e_WS (va_wsU X.own idx C Y.y.cls x Y.y (e_wsM Y)) := by
    intro w hw
    have hg : w ∈ e_WS := by
      rcases List.mem_append.mp hw with h | h
      · simp only [List.mem_cons, List.not_mem_nil, or_false] at h
        rcases h with rfl | rfl | rfl | rfl | rfl
        · exact hlk
        · exact hsm
        · exact hse
        · exact hin
        · exact hY.1
      · exact (e_good_M Y hY.2.1 w h).1
    exact ⟨hg, good_of_word (e_WS_good _ hg)⟩
  exact e_core hE hF hX hL hsw.2.2 hmc hms hS
    (vx_runU (As := as.map (e_cv ad)) (rest := st.map (e_cv ad)) (b := ad k) (n := np) (C := C) hfix (hC hE ad)
      (va_cwU np hF.1.2.2.2.2.2.2.1 hG (ws' := e_WS) (by rw [e_wsM, e_code hh]) rfl rfl hyx ⟨hY.2.2.1.1, hY.2.2.1.2.1, by have h9 := hY.2.2.1.2.2; rw [hyx] at h9; exact h9⟩ (e_room hF hd' hY.2.2.2))
      ⟨e_blind, e_recv hE hF hW hS hsw.2.1 hM hrc, e_Pc_of has hF.2.1 hW⟩ rfl (by rw [List.length_map]; exact hnp) hsz rfl (e_wk hF hst) hdd (e_fit2 hF hmc hms)) kr kx
theorem g_callS (i : Nat) {idx np : Nat} {as : List aV} (hd : X.tb[i]? = some (pc, .invokestatic idx, pc')) (hc : e_cS X.own idx Y np) (hC : Ct Λ Γ Y d' mc' ms' as M n Q') (hst0 : st0 = as.reverse ++ st) (hnp : as.length = np) (hd' : d' + 1 ≤ d) (hmc : kc + mc' ≤ mc) (hms : ks + ms' ≤ ms) (hst : e_sum st ≤ 8)
    (kr : ∀ v M' n', Q' (.inl v) M' n' → n ≤ n' → G Λ Γ X d mc ms Q pc' ls (v.toList ++ st) M' n' (kc + mc') (ks + ms')) (kx : ∀ E M' n', Q' (.inr E) M' n' → n ≤ n' → GX Λ Γ X d mc ms Q E pc ls M' n' (kc + mc') (ks + ms')) : G Λ Γ X d mc ms Q pc ls st0 M n kc ks := by
  subst hst0
  intro hE p e R s m args below meth c H locs ad ad0 n0 lsA hF h1 h2 hX hW hS hL hs
  obtain ⟨hdd, rfl⟩ := e_dec hF.1 hd
  obtain ⟨hh, hlk, hsta, hY⟩ := hc
  have hsw := e_wfS_app.mp hs
  have has : e_wfS n as := e_wfS_rev hsw.1
  obtain ⟨hfix, hsz⟩ := e_fixT hF hL
  rw [e_rev]
  exact e_core hE hF hX hL hsw.2 hmc hms hS
    (vx_runS (As := as.map (e_cv ad)) (rest := st.map (e_cv ad)) (n := np) hfix (hC hE ad)
      ⟨callB_of np hF.1.2.2.2.2.2.2.1 (e_good_M Y hY.2.1) (ws' := e_WS) (by rw [e_wsM, e_code hh]) rfl rfl (e_w hF hY.1) (e_w hF hlk) hY.2.2.1 (e_room hF hd' hY.2.2.2), e_w hF hsta⟩
      ⟨e_blind, e_Pc_of has hF.2.1 hW⟩ rfl (by rw [List.length_map]; exact hnp) hsz rfl (e_wk hF hst) hdd (e_fit2 hF hmc hms)) kr kx
theorem g_callSX (i : Nat) {idx np : Nat} {as : List aV} (hd : X.tb[i]? = some (pc, .invokestatic idx, pc')) (hc : e_cSX X.own idx Y np) (hC : Ct Λ Γ Y d' mc' ms' as M n Q') (hst0 : st0 = as.reverse ++ st) (hnp : as.length = np) (hd' : d' + 1 ≤ d) (hmc : kc + mc' ≤ mc) (hms : ks + ms' ≤ ms) (hst : e_sum st ≤ 8)
    (kr : ∀ v M' n', Q' (.inl v) M' n' → n ≤ n' → G Λ Γ X d mc ms Q pc' ls (v.toList ++ st) M' n' (kc + mc') (ks + ms')) (kx : ∀ E M' n', Q' (.inr E) M' n' → n ≤ n' → GX Λ Γ X d mc ms Q E pc ls M' n' (kc + mc') (ks + ms')) : G Λ Γ X d mc ms Q pc ls st0 M n kc ks := by
  subst hst0
  intro hE p e R s m args below meth c H locs ad ad0 n0 lsA hF h1 h2 hX hW hS hL hs
  obtain ⟨hdd, rfl⟩ := e_dec hF.1 hd
  obtain ⟨hh, hlk, hsta, hY⟩ := hc
  have hsw := e_wfS_app.mp hs
  have has : e_wfS n as := e_wfS_rev hsw.1
  obtain ⟨hfix, hsz⟩ := e_fixT hF hL
  rw [e_rev]
  have ecw : e_cw Y = .codeWith Y.y Y.cc Y.mL Y.rt Y.hh := by
    unfold e_cw
    split
    · next h => exact absurd h hh
    · rfl
  have hG : GoodIn e_WS (va_wsS X.own idx Y.y (e_wsM Y)) := by
    intro w hw
    have hg : w ∈ e_WS := by
      rcases List.mem_append.mp hw with h | h
      · simp only [List.mem_cons, List.not_mem_nil, or_false] at h
        rcases h with rfl | rfl | rfl
        · exact hlk
        · exact hsta
        · exact hY.1
      · exact (e_good_M Y hY.2.1 w h).1
    exact ⟨hg, good_of_word (e_WS_good _ hg)⟩
  exact e_core hE hF hX hL hsw.2 hmc hms hS
    (vx_runSX (As := as.map (e_cv ad)) (rest := st.map (e_cv ad)) (n := np) hfix (hC hE ad)
      (vx_cwSW np hF.1.2.2.2.2.2.2.1 hG (ws' := e_WS) (by rw [e_wsM, ecw]) rfl rfl hY.2.2.1 (e_room hF hd' hY.2.2.2))
      ⟨e_blind, e_Pc_of has hF.2.1 hW⟩ rfl (by rw [List.length_map]; exact hnp) hsz rfl (e_wk hF hst) hdd (e_fit2 hF hmc hms)) kr kx
theorem g_callI (i : Nat) {idx k np : Nat} {as : List aV} (hd : X.tb[i]? = some (pc, .invokespecial idx, pc')) (hc : e_cI X.own idx Y np) (hC : Ct Λ Γ Y d' mc' ms' (vR k :: as) M n Q') (hst0 : st0 = as.reverse ++ vR k :: st) (hnp : as.length = np) (hd' : d' + 1 ≤ d) (hmc : kc + mc' ≤ mc) (hms : ks + ms' ≤ ms) (hst : e_sum st ≤ 8)
    (kr : ∀ v M' n', Q' (.inl v) M' n' → n ≤ n' → G Λ Γ X d mc ms Q pc' ls (v.toList ++ st) M' n' (kc + mc') (ks + ms')) (kx : ∀ E M' n', Q' (.inr E) M' n' → n ≤ n' → GX Λ Γ X d mc ms Q E pc ls M' n' (kc + mc') (ks + ms')) : G Λ Γ X d mc ms Q pc ls st0 M n kc ks := by
  subst hst0
  intro hE p e R s m args below meth c H locs ad ad0 n0 lsA hF h1 h2 hX hW hS hL hs
  obtain ⟨hdd, rfl⟩ := e_dec hF.1 hd
  obtain ⟨hh, hrt, hnm, hlk, hin, hY⟩ := hc
  have hsw := e_wfS_app.mp hs
  have has : e_wfS n (vR k :: as) := ⟨hsw.2.1, e_wfS_rev hsw.1⟩
  obtain ⟨hfix, hsz⟩ := e_fixT hF hL
  rw [e_rev]
  exact e_core hE hF hX hL hsw.2.2 hmc hms hS
    (vx_runI (As := as.map (e_cv ad)) (rest := st.map (e_cv ad)) (b := ad k) (n := np) hfix (hC hE ad)
      ⟨callB_of np hF.1.2.2.2.2.2.2.1 (e_good_M Y hY.2.1) (ws' := e_WS) (by rw [e_wsM, e_code hh, hrt]) rfl rfl (e_w hF hY.1) (e_w hF hlk) hY.2.2.1 (e_room hF hd' hY.2.2.2), hnm, e_w hF hin⟩
      ⟨e_blind, e_Pc_of has hF.2.1 hW⟩ rfl (by rw [List.length_map]; exact hnp) hsz rfl (e_wk hF hst) hdd (e_fit2 hF hmc hms)) kr kx
theorem g_callIN (i : Nat) {idx k np : Nat} {as : List aV} (hd : X.tb[i]? = some (pc, .invokespecial idx, pc')) (hc : e_cIN Λ.2.2.1 X.own idx Y np) (hC : Ct Λ Γ Y d' mc' ms' (vR k :: as) M n Q') (hst0 : st0 = as.reverse ++ vR k :: st) (hnp : as.length = np) (hd' : d' + 1 ≤ d) (hmc : kc + mc' ≤ mc) (hms : ks + ms' ≤ ms) (hst : e_sum st ≤ 8)
    (kr : ∀ v M' n', Q' (.inl v) M' n' → n ≤ n' → G Λ Γ X d mc ms Q pc' ls (v.toList ++ st) M' n' (kc + mc') (ks + ms')) (kx : ∀ E M' n', Q' (.inr E) M' n' → n ≤ n' → GX Λ Γ X d mc ms Q E pc ls M' n' (kc + mc') (ks + ms')) : G Λ Γ X d mc ms Q pc ls st0 M n kc ks := by
  subst hst0
  intro hE p e R s m args below meth c H locs ad ad0 n0 lsA hF h1 h2 hX hW hS hL hs
  obtain ⟨hdd, rfl⟩ := e_dec hF.1 hd
  obtain ⟨hh, hrt, hnm, ⟨host, hlk⟩, hin, hY⟩ := hc
  have hsw := e_wfS_app.mp hs
  have has : e_wfS n (vR k :: as) := ⟨hsw.2.1, e_wfS_rev hsw.1⟩
  obtain ⟨hfix, hsz⟩ := e_fixT hF hL
  rw [e_rev]
  exact e_core hE hF hX hL hsw.2.2 hmc hms hS
    (vx_runIN (As := as.map (e_cv ad)) (rest := st.map (e_cv ad)) (b := ad k) (n := np) (host := host) hfix (hC hE ad)
      ⟨va_cnB np hF.1.2.2.2.2.2.2.1 (e_good_M Y hY.2.1) (ws' := e_WS) (by rw [e_wsM, e_code hh, hrt]) rfl rfl (va_Nw.warmM hF.2.1 (hE.2.2.2.2.2.2.1 _ hlk)) (e_w hF hY.1) hY.2.2.1 (e_room hF hd' hY.2.2.2), hnm, e_w hF hin⟩
      ⟨e_blind, e_Pc_of has hF.2.1 hW⟩ rfl (by rw [List.length_map]; exact hnp) hsz rfl (e_wk hF hst) hdd (e_fit2 hF hmc hms)) kr kx
theorem g_callSN (i : Nat) {idx np : Nat} {as : List aV} (hd : X.tb[i]? = some (pc, .invokestatic idx, pc')) (hc : e_cSN Λ.2.2.1 X.own idx Y np) (hC : Ct Λ Γ Y d' mc' ms' as M n Q') (hst0 : st0 = as.reverse ++ st) (hnp : as.length = np) (hd' : d' + 1 ≤ d) (hmc : kc + mc' ≤ mc) (hms : ks + ms' ≤ ms) (hst : e_sum st ≤ 8)
    (kr : ∀ v M' n', Q' (.inl v) M' n' → n ≤ n' → G Λ Γ X d mc ms Q pc' ls (v.toList ++ st) M' n' (kc + mc') (ks + ms')) (kx : ∀ E M' n', Q' (.inr E) M' n' → n ≤ n' → GX Λ Γ X d mc ms Q E pc ls M' n' (kc + mc') (ks + ms')) : G Λ Γ X d mc ms Q pc ls st0 M n kc ks := by
  subst hst0
  intro hE p e R s m args below meth c H locs ad ad0 n0 lsA hF h1 h2 hX hW hS hL hs
  obtain ⟨hdd, rfl⟩ := e_dec hF.1 hd
  obtain ⟨hh, ⟨host, hlk⟩, hsta, hY⟩ := hc
  have hsw := e_wfS_app.mp hs
  have has : e_wfS n as := e_wfS_rev hsw.1
  obtain ⟨hfix, hsz⟩ := e_fixT hF hL
  rw [e_rev]
  exact e_core hE hF hX hL hsw.2 hmc hms hS
    (vx_runSN (As := as.map (e_cv ad)) (rest := st.map (e_cv ad)) (n := np) (host := host) hfix (hC hE ad)
      ⟨va_cnB np hF.1.2.2.2.2.2.2.1 (e_good_M Y hY.2.1) (ws' := e_WS) (by rw [e_wsM, e_code hh]) rfl rfl (va_Nw.warmM hF.2.1 (hE.2.2.2.2.2.2.1 _ hlk)) (e_w hF hY.1) hY.2.2.1 (e_room hF hd' hY.2.2.2), e_w hF hsta, trivial⟩
      ⟨e_blind, e_Pc_of has hF.2.1 hW⟩ rfl (by rw [List.length_map]; exact hnp) hsz rfl (e_wk hF hst) hdd (e_fit2 hF hmc hms)) kr kx

end R2
