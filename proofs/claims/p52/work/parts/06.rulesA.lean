/-! ENGINE 5: rules, an opcode each: branches, numbers, fields, arrays, new cells -/
def e_fit (ty : FieldType) (v : aV) : Prop := match ty, v with
  | .int, .inl _ => True
  | .boolean, .inl z => z = 0 ∨ z = 1
  | .byte, .inl z => -128 ≤ z ∧ z ≤ 127
  | .object _, .inr (.inl _) => True
  | .array _, .inr (.inl _) => True
  | _, _ => False
theorem e_nb : ∀ k : Nat, k < 256 → (iI ((k : Int) - 128)).toInt8.toInt32 = iI ((k : Int) - 128) ∧ fits .byte (.int (iI ((k : Int) - 128))) = true := by decide +kernel
theorem e_nbz {z : Int} (h : -128 ≤ z ∧ z ≤ 127) : (iI z).toInt8.toInt32 = iI z ∧ fits .byte (.int (iI z)) = true := by
  have h1 := e_nb (z + 128).toNat (by omega)
  rwa [show (((z + 128).toNat : Nat) : Int) - 128 = z by omega] at h1
theorem e_fit_ok {ad : Nat → Nat} {ty : FieldType} {v : aV} (h : e_fit ty v) : narrow ty (e_cv ad v) = e_cv ad v ∧ fits ty (e_cv ad v) = true := by
  unfold e_fit at h
  split at h
  · exact ⟨rfl, rfl⟩
  · rcases h with rfl | rfl
    · exact ⟨(by decide : narrow .boolean (.int (iI 0)) = .int (iI 0)), (by decide : fits .boolean (.int (iI 0)) = true)⟩
    · exact ⟨(by decide : narrow .boolean (.int (iI 1)) = .int (iI 1)), (by decide : fits .boolean (.int (iI 1)) = true)⟩
  · next z =>
    obtain ⟨h1, h2⟩ := e_nbz h
    exact ⟨by show Value.int _ = Value.int _; rw [h1], h2⟩
  · next z => cases z <;> exact ⟨rfl, rfl⟩
  · next z => cases z <;> exact ⟨rfl, rfl⟩
  · exact h.elim
def e_ls {α : Type} (fs : List aV) (j : Nat) (v : aV) (k : List aV → Option α) : Option α := match fs, j with
  | _ :: r, 0 => k (v :: r)
  | x :: r, j + 1 => e_ls r j v (fun r' => k (x :: r'))
  | [], _ => none
theorem e_ls_ok {α : Type} : ∀ (fs : List aV) (j : Nat) (v : aV) (k : List aV → Option α) (r : α), e_ls fs j v k = some r → j < fs.length ∧ k (fs.set j v) = some r
  | _ :: t, 0, v, k, r, h => ⟨by simp, h⟩
  | x :: t, j + 1, v, k, r, h => by
    obtain ⟨h1, h2⟩ := e_ls_ok t j v _ r h
    exact ⟨by simp; omega, h2⟩
  | [], _, v, k, r, h => by cases h
theorem e_wfS_set {n : Nat} : ∀ {fs : List aV} {j : Nat} {v : aV}, e_wfS n fs → e_wfV n v → e_wfS n (fs.set j v)
  | [], _, _, h, _ => h
  | _ :: _, 0, _, h, hv => ⟨hv, h.2⟩
  | _ :: _, j + 1, _, h, hv => ⟨h.1, e_wfS_set h.2 hv⟩
theorem e_map_set {f : aV → Value} : ∀ {fs : List aV} {j : Nat} {v : aV}, (fs.set j v).map f = (fs.map f).set j (f v)
  | [], _, _ => rfl
  | _ :: _, 0, _ => rfl
  | x :: t, j + 1, v => by
    show f x :: (t.set j v).map f = f x :: (t.map f).set j (f v)
    rw [e_map_set]
/-- a field of the class number ci, the j-th, reached by the entry idx of own -/
def e_FL (own : String) (idx ci j : Nat) : Prop := ∃ (C : String) (T : u_T) (N : Nat), ci < 20 ∧ vwCl[ci]? = some (C, T, N) ∧ j < N ∧ Cond.fieldLink own idx (T j).1 (T j).2.1 (T j).2.2.1 ∈ e_WS ∧ ∀ w ∈ u_ws C T N, w ∈ e_WS
def e_FP (own : String) (idx ci j : Nat) (ty : FieldType) (fin : Bool) : Prop := ∃ (C : String) (T : u_T) (N : Nat), ci < 20 ∧ vwCl[ci]? = some (C, T, N) ∧ j < N ∧ Cond.fieldLink own idx (T j).1 (T j).2.1 (T j).2.2.1 ∈ e_WS ∧ (∀ w ∈ u_ws C T N, w ∈ e_WS) ∧
  parseFieldDescriptor (T j).2.2.1 = some ty ∧ (T j).2.2.2 = fin ∧ (∃ ty0 : Nat → FieldType, ∀ k, k < N → parseFieldDescriptor (T k).2.2.1 = some (ty0 k)) ∧ (∀ a, a < N → ∀ b, b < N → a ≠ b → (T a).2.1 ≠ (T b).2.1) ∧ (fin = true → own = (T j).1)
/-- the same of a constant object -/
def e_FC (own : String) (idx ci j : Nat) : Prop := ∃ q : String × String × String, (e_KT ci).2[j]? = some q ∧ Cond.fieldLink own idx q.1 q.2.1 q.2.2 ∈ e_WS
section R1
variable {Λ : Ls} {Γ : Cx} {X : MD} {d mc ms : Nat} {Q : Rv → Mem → Nat → Prop} {pc pc' : Nat} {ls : List (Option aV)} {st : List aV} {M : Mem} {n kc ks : Nat}
theorem e_dec {p : Program} {s : State} {m : MethodId} {args : Array Value} {meth : Method} {c : Code} (hM : e_Mf X p s m args meth c) {i : Nat} {ins : Instr} (hd : X.tb[i]? = some (pc, ins, pc')) : decode X.cc pc = .ok (ins, ilen ins) ∧ pc' = pc + ilen ins := e_tb_at hM.2.2.2.2.2.2.2.2.2 hd
theorem e_newO {ST SR WN NN} (hE : e_Env Γ ST SR WN NN) {ad : Nat → Nat} {H : Heap} (hW : e_Wp Γ ad M n H) {k ci : Nat} {fs : List aV} (hM : M k = cO ci fs) (hci : ci < 20) : e_NC ≤ k := by
  apply Nat.le_of_not_lt
  intro hk
  rw [(hW.2.1 k hk).1] at hM
  rcases hE.2.2.2.1 k hk with h | h
  · rw [h] at hM; cases hM; omega
  · unfold e_cst at h; rw [hM] at h; have := h.1; omega
theorem e_newA {ST SR WN NN} (hE : e_Env Γ ST SR WN NN) {ad : Nat → Nat} {H : Heap} (hW : e_Wp Γ ad M n H) {k kd : Nat} {a : aA} (hM : M k = .inl (kd, a)) (hkd : kd < 10) : e_NC ≤ k := by
  apply Nat.le_of_not_lt
  intro hk
  rw [(hW.2.1 k hk).1] at hM
  rcases hE.2.2.2.1 k hk with h | h
  · rw [h] at hM; cases hM
  · unfold e_cst at h; rw [hM] at h
    match a, h with
    | (_, .inl f), h => have := h.1; omega
    | (_, .inr (.inr (.inr g))), h => have := h.1; omega
    | (_, .inr (.inl f)), h => exact h
    | (_, .inr (.inr (.inl f))), h => exact h
theorem e_old_arr {ST SR WN NN} (hE : e_Env Γ ST SR WN NN) {ad : Nat → Nat} {H : Heap} (hW : e_Wp Γ ad M n H) {k kd len : Nat} {f : Nat → Int} (hM : M k = cI kd len f) (hk : k < e_NC) : ad k = Γ.ac k ∧ va_T (e_TY kd) (Γ.ac k) len (fun j => .int (iI (f j))) (e_FR Γ) Γ.s0 Γ.s0.heap := by
  refine ⟨(hW.2.1 k hk).2, ?_⟩
  rw [(hW.2.1 k hk).1] at hM
  rcases hE.2.2.2.1 k hk with h | h
  · rw [h] at hM; cases hM
  · unfold e_cst at h; rw [hM] at h; exact h.2
theorem e_old_arrR {ST SR WN NN} (hE : e_Env Γ ST SR WN NN) {ad : Nat → Nat} {H : Heap} (hW : e_Wp Γ ad M n H) {k kd len : Nat} {g : Nat → Option Nat} (hM : M k = cR kd len g) (hk : k < e_NC) : ad k = Γ.ac k ∧ va_T (e_TY kd) (Γ.ac k) len (fun j => va_rf ((g j).map Γ.ac)) (e_FR Γ) Γ.s0 Γ.s0.heap ∧ ∀ j r, g j = some r → r < e_NC := by
  refine ⟨(hW.2.1 k hk).2, ?_⟩
  rw [(hW.2.1 k hk).1] at hM
  rcases hE.2.2.2.1 k hk with h | h
  · rw [h] at hM; cases hM
  · unfold e_cst at h; rw [hM] at h; exact h.2
theorem e_tys {ST SR WN NN} (hE : e_Env Γ ST SR WN NN) {kd : Nat} (h : kd < 7) : Γ.tys[kd]? = some ((Γ.tys.getD kd (0, .int)).1, e_TY kd) := by
  have e := hE.2.2.1
  have hl : Γ.tys.length = 7 := by rw [← List.length_map (f := fun q : ClassId × FieldType => q.2), e]; rfl
  have h1 : Γ.tys[kd]? = some (Γ.tys[kd]'(by omega)) := List.getElem?_eq_getElem (by omega)
  have h2 : (Γ.tys.map (fun q => q.2))[kd]? = some (e_TY kd) := by
    rw [e]
    match kd, h with
    | 0, _ => rfl
    | 1, _ => rfl
    | 2, _ => rfl
    | 3, _ => rfl
    | 4, _ => rfl
    | 5, _ => rfl
    | 6, _ => rfl
  rw [List.getElem?_map, h1] at h2
  rw [List.getD_eq_getElem?_getD, h1]
  have h3 := Option.some.inj h2
  show some (Γ.tys[kd]'(by omega)) = some ((Γ.tys[kd]'(by omega)).1, e_TY kd)
  rw [← h3]
theorem e_Wp_set {ad : Nat → Nat} {H H1 : Heap} {c : aE} {k : Nat} (hW : e_Wp Γ ad M n H) (h1 : e_NC ≤ k) (h2 : k < n) (hc : e_wfE n c) (hP : va_P Γ.D vwCl ((e_ws Γ.tys ad M n).set (k - e_NC) (ad k, e_ce Γ.tys ad c)) H1) (hD : va_D (e_FR Γ) ((e_ws Γ.tys ad M n).set (k - e_NC) (ad k, e_ce Γ.tys ad c)))
    {A0 : Heap} {locs : List Loc} (hb : Γ.s0.heap.size ≤ A0.size) (hA : ∀ q : Nat, q < Γ.s0.heap.size → A0[q]? = Γ.s0.heap[q]?) (hS : va_S (e_FR Γ) A0 H1 locs) : e_Wp Γ ad (va_up M k c) n H1 := by
  rw [e_ws_set h1 h2] at hP hD
  refine ⟨hW.1, fun j hj => ⟨(va_up_ne _ _ (by omega)).trans (hW.2.1 j hj).1, (hW.2.1 j hj).2⟩, fun j a b => ?_, hP, hD, Nat.le_trans hb hS.1, fun q hq => ?_⟩
  · by_cases hj : j = k
    · subst hj; rw [va_up_self]; exact hc
    · rw [va_up_ne _ _ hj]; exact hW.2.2.1 j a b
  · rw [hS.2.1 q (Nat.lt_of_lt_of_le hq hb) (Nat.not_le.mpr hq)]; exact hA q hq
theorem e_Wp_push {ad : Nat → Nat} {H H1 : Heap} {c : aE} {q : Nat} (hW : e_Wp Γ ad M n H) (hc : e_wfE (n + 1) c) (hP : va_P Γ.D vwCl (e_ws Γ.tys ad M n ++ [(q, e_ce Γ.tys (va_up ad n q) c)]) H1) (hD : va_D (e_FR Γ) (e_ws Γ.tys ad M n ++ [(q, e_ce Γ.tys (va_up ad n q) c)]))
    {A0 : Heap} {locs : List Loc} (hb : Γ.s0.heap.size ≤ A0.size) (hA : ∀ q : Nat, q < Γ.s0.heap.size → A0[q]? = Γ.s0.heap[q]?) (hS : va_S (e_FR Γ) A0 H1 locs) : e_Wp Γ (va_up ad n q) (va_up M n c) (n + 1) H1 := by
  rw [← e_ws_push hW.1 hW.2.2.1] at hP hD
  refine ⟨Nat.le_succ_of_le hW.1, fun j hj => ⟨(va_up_ne _ _ (by have := hW.1; omega)).trans (hW.2.1 j hj).1, (va_up_ne _ _ (by have := hW.1; omega)).trans (hW.2.1 j hj).2⟩, fun j a b => ?_, hP, hD, Nat.le_trans hb hS.1, fun q hq => ?_⟩
  · by_cases hj : j = n
    · subst hj; rw [va_up_self]; exact hc
    · rw [va_up_ne _ _ hj]; exact e_wfE_mono (Nat.le_succ n) (hW.2.2.1 j a (by omega))
  · rw [hS.2.1 q (Nat.lt_of_lt_of_le hq hb) (Nat.not_le.mpr hq)]; exact hA q hq
theorem e_LR_ext {ad ad' : Nat → Nat} {n' nL : Nat} {lsA : Array Slot} (h : ∀ k, k < n → ad' k = ad k) (hn : n ≤ n') (hL : e_LR ad n ls lsA nL) : e_LR ad' n' ls lsA nL :=
  ⟨hL.1, hL.2.1, fun j v hj => ⟨e_wfV_mono hn (hL.2.2 j v hj).1, by rw [e_cv_ext h (hL.2.2 j v hj).1]; exact (hL.2.2 j v hj).2⟩⟩
theorem e_Ex_trans {ad ad' ad'' : Nat → Nat} {n' n'' : Nat} (h : e_Ex ad n ad' n') (h' : e_Ex ad' n' ad'' n'') : e_Ex ad n ad'' n'' := ⟨Nat.le_trans h.1 h'.1, fun k hk => (h'.2 k (Nat.lt_of_lt_of_le hk h.1)).trans (h.2 k hk)⟩

theorem g_icmp_eq (i tgt : Nat) {off a b : Int} (hd : X.tb[i]? = some (pc, .if_icmp .eq off, pc')) (ht : (pc : Int) + off = (tgt : Int)) (ha : -2147483648 ≤ a ∧ a ≤ 2147483647) (hb : -2147483648 ≤ b ∧ b ≤ 2147483647) (kt : a = b → G Λ Γ X d mc ms Q tgt ls st M n kc ks) (kf : ¬ a = b → G Λ Γ X d mc ms Q pc' ls st M n kc ks) : G Λ Γ X d mc ms Q pc ls (vI b :: vI a :: st) M n kc ks := by
  intro hE p e R s m args below meth c H locs ad ad0 n0 lsA hF h1 h2 hX hW hS hL hs
  obtain ⟨hdd, rfl⟩ := e_dec hF.1 hd
  exact lv_icmp_eq hF.1.1 hF.1.2.1 hdd ht (fun h => kt ((iI_eq ha hb).mp h) hE p e R s m args below meth c H locs ad ad0 n0 lsA hF h1 h2 hX hW hS hL hs.2.2) (fun h => kf (fun z => h ((iI_eq ha hb).mpr z)) hE p e R s m args below meth c H locs ad ad0 n0 lsA hF h1 h2 hX hW hS hL hs.2.2)

theorem g_icmp_ne (i tgt : Nat) {off a b : Int} (hd : X.tb[i]? = some (pc, .if_icmp .ne off, pc')) (ht : (pc : Int) + off = (tgt : Int)) (ha : -2147483648 ≤ a ∧ a ≤ 2147483647) (hb : -2147483648 ≤ b ∧ b ≤ 2147483647) (kt : ¬ a = b → G Λ Γ X d mc ms Q tgt ls st M n kc ks) (kf : a = b → G Λ Γ X d mc ms Q pc' ls st M n kc ks) : G Λ Γ X d mc ms Q pc ls (vI b :: vI a :: st) M n kc ks := by
  intro hE p e R s m args below meth c H locs ad ad0 n0 lsA hF h1 h2 hX hW hS hL hs
  obtain ⟨hdd, rfl⟩ := e_dec hF.1 hd
  exact lv_icmp_ne hF.1.1 hF.1.2.1 hdd ht (fun h => kt ((not_congr (iI_eq ha hb)).mp h) hE p e R s m args below meth c H locs ad ad0 n0 lsA hF h1 h2 hX hW hS hL hs.2.2) (fun h => kf ((iI_eq ha hb).mp h) hE p e R s m args below meth c H locs ad ad0 n0 lsA hF h1 h2 hX hW hS hL hs.2.2)

theorem g_icmp_lt (i tgt : Nat) {off a b : Int} (hd : X.tb[i]? = some (pc, .if_icmp .lt off, pc')) (ht : (pc : Int) + off = (tgt : Int)) (ha : -2147483648 ≤ a ∧ a ≤ 2147483647) (hb : -2147483648 ≤ b ∧ b ≤ 2147483647) (kt : a < b → G Λ Γ X d mc ms Q tgt ls st M n kc ks) (kf : ¬ a < b → G Λ Γ X d mc ms Q pc' ls st M n kc ks) : G Λ Γ X d mc ms Q pc ls (vI b :: vI a :: st) M n kc ks := by
  intro hE p e R s m args below meth c H locs ad ad0 n0 lsA hF h1 h2 hX hW hS hL hs
  obtain ⟨hdd, rfl⟩ := e_dec hF.1 hd
  exact lv_icmp_lt hF.1.1 hF.1.2.1 hdd ht (fun h => kt ((iI_lt ha hb).mp h) hE p e R s m args below meth c H locs ad ad0 n0 lsA hF h1 h2 hX hW hS hL hs.2.2) (fun h => kf (fun z => h ((iI_lt ha hb).mpr z)) hE p e R s m args below meth c H locs ad ad0 n0 lsA hF h1 h2 hX hW hS hL hs.2.2)

theorem g_icmp_ge (i tgt : Nat) {off a b : Int} (hd : X.tb[i]? = some (pc, .if_icmp .ge off, pc')) (ht : (pc : Int) + off = (tgt : Int)) (ha : -2147483648 ≤ a ∧ a ≤ 2147483647) (hb : -2147483648 ≤ b ∧ b ≤ 2147483647) (kt : b ≤ a → G Λ Γ X d mc ms Q tgt ls st M n kc ks) (kf : ¬ b ≤ a → G Λ Γ X d mc ms Q pc' ls st M n kc ks) : G Λ Γ X d mc ms Q pc ls (vI b :: vI a :: st) M n kc ks := by
  intro hE p e R s m args below meth c H locs ad ad0 n0 lsA hF h1 h2 hX hW hS hL hs
  obtain ⟨hdd, rfl⟩ := e_dec hF.1 hd
  exact lv_icmp_ge hF.1.1 hF.1.2.1 hdd ht (fun h => kt ((iI_le hb ha).mp h) hE p e R s m args below meth c H locs ad ad0 n0 lsA hF h1 h2 hX hW hS hL hs.2.2) (fun h => kf (fun z => h ((iI_le hb ha).mpr z)) hE p e R s m args below meth c H locs ad ad0 n0 lsA hF h1 h2 hX hW hS hL hs.2.2)

theorem g_icmp_gt (i tgt : Nat) {off a b : Int} (hd : X.tb[i]? = some (pc, .if_icmp .gt off, pc')) (ht : (pc : Int) + off = (tgt : Int)) (ha : -2147483648 ≤ a ∧ a ≤ 2147483647) (hb : -2147483648 ≤ b ∧ b ≤ 2147483647) (kt : b < a → G Λ Γ X d mc ms Q tgt ls st M n kc ks) (kf : ¬ b < a → G Λ Γ X d mc ms Q pc' ls st M n kc ks) : G Λ Γ X d mc ms Q pc ls (vI b :: vI a :: st) M n kc ks := by
  intro hE p e R s m args below meth c H locs ad ad0 n0 lsA hF h1 h2 hX hW hS hL hs
  obtain ⟨hdd, rfl⟩ := e_dec hF.1 hd
  exact lv_icmp_gt hF.1.1 hF.1.2.1 hdd ht (fun h => kt ((iI_lt hb ha).mp h) hE p e R s m args below meth c H locs ad ad0 n0 lsA hF h1 h2 hX hW hS hL hs.2.2) (fun h => kf (fun z => h ((iI_lt hb ha).mpr z)) hE p e R s m args below meth c H locs ad ad0 n0 lsA hF h1 h2 hX hW hS hL hs.2.2)

theorem g_icmp_le (i tgt : Nat) {off a b : Int} (hd : X.tb[i]? = some (pc, .if_icmp .le off, pc')) (ht : (pc : Int) + off = (tgt : Int)) (ha : -2147483648 ≤ a ∧ a ≤ 2147483647) (hb : -2147483648 ≤ b ∧ b ≤ 2147483647) (kt : a ≤ b → G Λ Γ X d mc ms Q tgt ls st M n kc ks) (kf : ¬ a ≤ b → G Λ Γ X d mc ms Q pc' ls st M n kc ks) : G Λ Γ X d mc ms Q pc ls (vI b :: vI a :: st) M n kc ks := by
  intro hE p e R s m args below meth c H locs ad ad0 n0 lsA hF h1 h2 hX hW hS hL hs
  obtain ⟨hdd, rfl⟩ := e_dec hF.1 hd
  exact lv_icmp_le hF.1.1 hF.1.2.1 hdd ht (fun h => kt ((iI_le ha hb).mp h) hE p e R s m args below meth c H locs ad ad0 n0 lsA hF h1 h2 hX hW hS hL hs.2.2) (fun h => kf (fun z => h ((iI_le ha hb).mpr z)) hE p e R s m args below meth c H locs ad ad0 n0 lsA hF h1 h2 hX hW hS hL hs.2.2)

theorem g_if_eq (i tgt : Nat) {off a : Int} (hd : X.tb[i]? = some (pc, .ifCond .eq off, pc')) (ht : (pc : Int) + off = (tgt : Int)) (ha : -2147483648 ≤ a ∧ a ≤ 2147483647) (kt : a = 0 → G Λ Γ X d mc ms Q tgt ls st M n kc ks) (kf : ¬ a = 0 → G Λ Γ X d mc ms Q pc' ls st M n kc ks) : G Λ Γ X d mc ms Q pc ls (vI a :: st) M n kc ks := by
  intro hE p e R s m args below meth c H locs ad ad0 n0 lsA hF h1 h2 hX hW hS hL hs
  obtain ⟨hdd, rfl⟩ := e_dec hF.1 hd
  exact lv_if_eq hF.1.1 hF.1.2.1 hdd ht (fun h => kt ((iI_eq ha (by decide : -2147483648 ≤ (0 : Int) ∧ (0 : Int) ≤ 2147483647)).mp h) hE p e R s m args below meth c H locs ad ad0 n0 lsA hF h1 h2 hX hW hS hL hs.2) (fun h => kf (fun z => h ((iI_eq ha (by decide : -2147483648 ≤ (0 : Int) ∧ (0 : Int) ≤ 2147483647)).mpr z)) hE p e R s m args below meth c H locs ad ad0 n0 lsA hF h1 h2 hX hW hS hL hs.2)

theorem g_if_ne (i tgt : Nat) {off a : Int} (hd : X.tb[i]? = some (pc, .ifCond .ne off, pc')) (ht : (pc : Int) + off = (tgt : Int)) (ha : -2147483648 ≤ a ∧ a ≤ 2147483647) (kt : ¬ a = 0 → G Λ Γ X d mc ms Q tgt ls st M n kc ks) (kf : a = 0 → G Λ Γ X d mc ms Q pc' ls st M n kc ks) : G Λ Γ X d mc ms Q pc ls (vI a :: st) M n kc ks := by
  intro hE p e R s m args below meth c H locs ad ad0 n0 lsA hF h1 h2 hX hW hS hL hs
  obtain ⟨hdd, rfl⟩ := e_dec hF.1 hd
  exact lv_if_ne hF.1.1 hF.1.2.1 hdd ht (fun h => kt ((not_congr (iI_eq ha (by decide : -2147483648 ≤ (0 : Int) ∧ (0 : Int) ≤ 2147483647))).mp h) hE p e R s m args below meth c H locs ad ad0 n0 lsA hF h1 h2 hX hW hS hL hs.2) (fun h => kf ((iI_eq ha (by decide : -2147483648 ≤ (0 : Int) ∧ (0 : Int) ≤ 2147483647)).mp h) hE p e R s m args below meth c H locs ad ad0 n0 lsA hF h1 h2 hX hW hS hL hs.2)

theorem g_if_lt (i tgt : Nat) {off a : Int} (hd : X.tb[i]? = some (pc, .ifCond .lt off, pc')) (ht : (pc : Int) + off = (tgt : Int)) (ha : -2147483648 ≤ a ∧ a ≤ 2147483647) (kt : a < 0 → G Λ Γ X d mc ms Q tgt ls st M n kc ks) (kf : ¬ a < 0 → G Λ Γ X d mc ms Q pc' ls st M n kc ks) : G Λ Γ X d mc ms Q pc ls (vI a :: st) M n kc ks := by
  intro hE p e R s m args below meth c H locs ad ad0 n0 lsA hF h1 h2 hX hW hS hL hs
  obtain ⟨hdd, rfl⟩ := e_dec hF.1 hd
  exact lv_if_lt hF.1.1 hF.1.2.1 hdd ht (fun h => kt ((iI_lt ha (by decide : -2147483648 ≤ (0 : Int) ∧ (0 : Int) ≤ 2147483647)).mp h) hE p e R s m args below meth c H locs ad ad0 n0 lsA hF h1 h2 hX hW hS hL hs.2) (fun h => kf (fun z => h ((iI_lt ha (by decide : -2147483648 ≤ (0 : Int) ∧ (0 : Int) ≤ 2147483647)).mpr z)) hE p e R s m args below meth c H locs ad ad0 n0 lsA hF h1 h2 hX hW hS hL hs.2)

theorem g_if_ge (i tgt : Nat) {off a : Int} (hd : X.tb[i]? = some (pc, .ifCond .ge off, pc')) (ht : (pc : Int) + off = (tgt : Int)) (ha : -2147483648 ≤ a ∧ a ≤ 2147483647) (kt : 0 ≤ a → G Λ Γ X d mc ms Q tgt ls st M n kc ks) (kf : ¬ 0 ≤ a → G Λ Γ X d mc ms Q pc' ls st M n kc ks) : G Λ Γ X d mc ms Q pc ls (vI a :: st) M n kc ks := by
  intro hE p e R s m args below meth c H locs ad ad0 n0 lsA hF h1 h2 hX hW hS hL hs
  obtain ⟨hdd, rfl⟩ := e_dec hF.1 hd
  exact lv_if_ge hF.1.1 hF.1.2.1 hdd ht (fun h => kt ((iI_le (by decide : -2147483648 ≤ (0 : Int) ∧ (0 : Int) ≤ 2147483647) ha).mp h) hE p e R s m args below meth c H locs ad ad0 n0 lsA hF h1 h2 hX hW hS hL hs.2) (fun h => kf (fun z => h ((iI_le (by decide : -2147483648 ≤ (0 : Int) ∧ (0 : Int) ≤ 2147483647) ha).mpr z)) hE p e R s m args below meth c H locs ad ad0 n0 lsA hF h1 h2 hX hW hS hL hs.2)

theorem g_if_gt (i tgt : Nat) {off a : Int} (hd : X.tb[i]? = some (pc, .ifCond .gt off, pc')) (ht : (pc : Int) + off = (tgt : Int)) (ha : -2147483648 ≤ a ∧ a ≤ 2147483647) (kt : 0 < a → G Λ Γ X d mc ms Q tgt ls st M n kc ks) (kf : ¬ 0 < a → G Λ Γ X d mc ms Q pc' ls st M n kc ks) : G Λ Γ X d mc ms Q pc ls (vI a :: st) M n kc ks := by
  intro hE p e R s m args below meth c H locs ad ad0 n0 lsA hF h1 h2 hX hW hS hL hs
  obtain ⟨hdd, rfl⟩ := e_dec hF.1 hd
  exact lv_if_gt hF.1.1 hF.1.2.1 hdd ht (fun h => kt ((iI_lt (by decide : -2147483648 ≤ (0 : Int) ∧ (0 : Int) ≤ 2147483647) ha).mp h) hE p e R s m args below meth c H locs ad ad0 n0 lsA hF h1 h2 hX hW hS hL hs.2) (fun h => kf (fun z => h ((iI_lt (by decide : -2147483648 ≤ (0 : Int) ∧ (0 : Int) ≤ 2147483647) ha).mpr z)) hE p e R s m args below meth c H locs ad ad0 n0 lsA hF h1 h2 hX hW hS hL hs.2)

theorem g_if_le (i tgt : Nat) {off a : Int} (hd : X.tb[i]? = some (pc, .ifCond .le off, pc')) (ht : (pc : Int) + off = (tgt : Int)) (ha : -2147483648 ≤ a ∧ a ≤ 2147483647) (kt : a ≤ 0 → G Λ Γ X d mc ms Q tgt ls st M n kc ks) (kf : ¬ a ≤ 0 → G Λ Γ X d mc ms Q pc' ls st M n kc ks) : G Λ Γ X d mc ms Q pc ls (vI a :: st) M n kc ks := by
  intro hE p e R s m args below meth c H locs ad ad0 n0 lsA hF h1 h2 hX hW hS hL hs
  obtain ⟨hdd, rfl⟩ := e_dec hF.1 hd
  exact lv_if_le hF.1.1 hF.1.2.1 hdd ht (fun h => kt ((iI_le ha (by decide : -2147483648 ≤ (0 : Int) ∧ (0 : Int) ≤ 2147483647)).mp h) hE p e R s m args below meth c H locs ad ad0 n0 lsA hF h1 h2 hX hW hS hL hs.2) (fun h => kf (fun z => h ((iI_le ha (by decide : -2147483648 ≤ (0 : Int) ∧ (0 : Int) ≤ 2147483647)).mpr z)) hE p e R s m args below meth c H locs ad ad0 n0 lsA hF h1 h2 hX hW hS hL hs.2)

theorem g_ifnull (i tgt : Nat) {off : Int} {r : Option Nat} (hd : X.tb[i]? = some (pc, .ifnull off, pc')) (ht : (pc : Int) + off = (tgt : Int)) (kt : r = none → G Λ Γ X d mc ms Q tgt ls st M n kc ks) (kf : ∀ k, r = some k → G Λ Γ X d mc ms Q pc' ls st M n kc ks) : G Λ Γ X d mc ms Q pc ls (vO r :: st) M n kc ks := by
  intro hE p e R s m args below meth c H locs ad ad0 n0 lsA hF h1 h2 hX hW hS hL hs
  obtain ⟨hdd, rfl⟩ := e_dec hF.1 hd
  cases r with
  | none => exact lv_ifnullN hF.1.1 hF.1.2.1 hdd ht (kt rfl hE p e R s m args below meth c H locs ad ad0 n0 lsA hF h1 h2 hX hW hS hL hs.2)
  | some k => exact lv_ifnull hF.1.1 hF.1.2.1 hdd (kf k rfl hE p e R s m args below meth c H locs ad ad0 n0 lsA hF h1 h2 hX hW hS hL hs.2)
theorem g_ifnonnull (i tgt : Nat) {off : Int} {r : Option Nat} (hd : X.tb[i]? = some (pc, .ifnonnull off, pc')) (ht : (pc : Int) + off = (tgt : Int)) (kt : ∀ k, r = some k → G Λ Γ X d mc ms Q tgt ls st M n kc ks) (kf : r = none → G Λ Γ X d mc ms Q pc' ls st M n kc ks) : G Λ Γ X d mc ms Q pc ls (vO r :: st) M n kc ks := by
  intro hE p e R s m args below meth c H locs ad ad0 n0 lsA hF h1 h2 hX hW hS hL hs
  obtain ⟨hdd, rfl⟩ := e_dec hF.1 hd
  cases r with
  | none => exact lv_ifnonnullN hF.1.1 hF.1.2.1 hdd (kf rfl hE p e R s m args below meth c H locs ad ad0 n0 lsA hF h1 h2 hX hW hS hL hs.2)
  | some k => exact lv_ifnonnull hF.1.1 hF.1.2.1 hdd ht (kt k rfl hE p e R s m args below meth c H locs ad ad0 n0 lsA hF h1 h2 hX hW hS hL hs.2)
theorem g_idiv (i : Nat) {a b : Int} (hd : X.tb[i]? = some (pc, .idiv, pc')) (ha : 0 ≤ a ∧ a ≤ 2147483647) (hb : 0 < b ∧ b ≤ 2147483647) (kk : G Λ Γ X d mc ms Q pc' ls (vI (a / b) :: st) M n kc ks) : G Λ Γ X d mc ms Q pc ls (vI b :: vI a :: st) M n kc ks := by
  intro hE p e R s m args below meth c H locs ad ad0 n0 lsA hF h1 h2 hX hW hS hL hs
  obtain ⟨hdd, rfl⟩ := e_dec hF.1 hd
  exact lv_idiv hF.1.1 hF.1.2.1 hdd (iI_ne0 hb.1 hb.2) (W.eq (g2 := F0 m (pc + 1) lsA (.int (iI (a / b)) :: st.map (e_cv ad))) (by rw [iI_div ha hb]) (kk hE p e R s m args below meth c H locs ad ad0 n0 lsA hF h1 h2 hX hW hS hL ⟨trivial, hs.2.2⟩))
theorem g_irem (i : Nat) {a b : Int} (hd : X.tb[i]? = some (pc, .irem, pc')) (ha : 0 ≤ a ∧ a ≤ 2147483647) (hb : 0 < b ∧ b ≤ 2147483647) (kk : G Λ Γ X d mc ms Q pc' ls (vI (a % b) :: st) M n kc ks) : G Λ Γ X d mc ms Q pc ls (vI b :: vI a :: st) M n kc ks := by
  intro hE p e R s m args below meth c H locs ad ad0 n0 lsA hF h1 h2 hX hW hS hL hs
  obtain ⟨hdd, rfl⟩ := e_dec hF.1 hd
  exact lv_irem hF.1.1 hF.1.2.1 hdd (iI_ne0 hb.1 hb.2) (W.eq (g2 := F0 m (pc + 1) lsA (.int (iI (a % b)) :: st.map (e_cv ad))) (by rw [iI_rem ha hb]) (kk hE p e R s m args below meth c H locs ad ad0 n0 lsA hF h1 h2 hX hW hS hL ⟨trivial, hs.2.2⟩))
theorem g_i2l (i : Nat) {a : Int} (hd : X.tb[i]? = some (pc, .i2l, pc')) (ha : -2147483648 ≤ a ∧ a ≤ 2147483647) (kk : G Λ Γ X d mc ms Q pc' ls (vL (Int64.ofInt a) :: st) M n kc ks) : G Λ Γ X d mc ms Q pc ls (vI a :: st) M n kc ks := by
  intro hE p e R s m args below meth c H locs ad ad0 n0 lsA hF h1 h2 hX hW hS hL hs
  obtain ⟨hdd, rfl⟩ := e_dec hF.1 hd
  exact lv_i2l hF.1.1 hF.1.2.1 hdd (iI_long ha) (kk hE p e R s m args below meth c H locs ad ad0 n0 lsA hF h1 h2 hX hW hS hL ⟨trivial, hs.2⟩)
/-- an int operation with its outcome told by a row of its own -/
theorem g_iand (i : Nat) {a b z : Int} (hd : X.tb[i]? = some (pc, .iand, pc')) (hz : iI a &&& iI b = iI z) (kk : G Λ Γ X d mc ms Q pc' ls (vI z :: st) M n kc ks) : G Λ Γ X d mc ms Q pc ls (vI b :: vI a :: st) M n kc ks := by
  intro hE p e R s m args below meth c H locs ad ad0 n0 lsA hF h1 h2 hX hW hS hL hs
  obtain ⟨hdd, rfl⟩ := e_dec hF.1 hd
  exact lv_iand hF.1.1 hF.1.2.1 hdd (W.eq (g2 := F0 m (pc + 1) lsA (.int (iI z) :: st.map (e_cv ad))) (by rw [hz]) (kk hE p e R s m args below meth c H locs ad ad0 n0 lsA hF h1 h2 hX hW hS hL ⟨trivial, hs.2.2⟩))
theorem g_ishl (i : Nat) {a b z : Int} (hd : X.tb[i]? = some (pc, .ishl, pc')) (hz : iI a <<< (iI b &&& 31) = iI z) (kk : G Λ Γ X d mc ms Q pc' ls (vI z :: st) M n kc ks) : G Λ Γ X d mc ms Q pc ls (vI b :: vI a :: st) M n kc ks := by
  intro hE p e R s m args below meth c H locs ad ad0 n0 lsA hF h1 h2 hX hW hS hL hs
  obtain ⟨hdd, rfl⟩ := e_dec hF.1 hd
  exact lv_ishl hF.1.1 hF.1.2.1 hdd (W.eq (g2 := F0 m (pc + 1) lsA (.int (iI z) :: st.map (e_cv ad))) (by rw [hz]) (kk hE p e R s m args below meth c H locs ad ad0 n0 lsA hF h1 h2 hX hW hS hL ⟨trivial, hs.2.2⟩))
theorem g_ishr (i : Nat) {a b z : Int} (hd : X.tb[i]? = some (pc, .ishr, pc')) (hz : iI a >>> (iI b &&& 31) = iI z) (kk : G Λ Γ X d mc ms Q pc' ls (vI z :: st) M n kc ks) : G Λ Γ X d mc ms Q pc ls (vI b :: vI a :: st) M n kc ks := by
  intro hE p e R s m args below meth c H locs ad ad0 n0 lsA hF h1 h2 hX hW hS hL hs
  obtain ⟨hdd, rfl⟩ := e_dec hF.1 hd
  exact lv_ishr hF.1.1 hF.1.2.1 hdd (W.eq (g2 := F0 m (pc + 1) lsA (.int (iI z) :: st.map (e_cv ad))) (by rw [hz]) (kk hE p e R s m args below meth c H locs ad ad0 n0 lsA hF h1 h2 hX hW hS hL ⟨trivial, hs.2.2⟩))
theorem g_i2c (i : Nat) {a z : Int} (hd : X.tb[i]? = some (pc, .i2c, pc')) (hz : ((iI a).toUInt32 % 65536).toInt32 = iI z) (kk : G Λ Γ X d mc ms Q pc' ls (vI z :: st) M n kc ks) : G Λ Γ X d mc ms Q pc ls (vI a :: st) M n kc ks := by
  intro hE p e R s m args below meth c H locs ad ad0 n0 lsA hF h1 h2 hX hW hS hL hs
  obtain ⟨hdd, rfl⟩ := e_dec hF.1 hd
  exact lv_i2c hF.1.1 hF.1.2.1 hdd hz (kk hE p e R s m args below meth c H locs ad ad0 n0 lsA hF h1 h2 hX hW hS hL ⟨trivial, hs.2⟩)
theorem g_i2b (i : Nat) {a z : Int} (hd : X.tb[i]? = some (pc, .i2b, pc')) (hz : (iI a).toInt8.toInt32 = iI z) (kk : G Λ Γ X d mc ms Q pc' ls (vI z :: st) M n kc ks) : G Λ Γ X d mc ms Q pc ls (vI a :: st) M n kc ks := by
  intro hE p e R s m args below meth c H locs ad ad0 n0 lsA hF h1 h2 hX hW hS hL hs
  obtain ⟨hdd, rfl⟩ := e_dec hF.1 hd
  exact lv_i2b hF.1.1 hF.1.2.1 hdd hz (kk hE p e R s m args below meth c H locs ad ad0 n0 lsA hF h1 h2 hX hW hS hL ⟨trivial, hs.2⟩)
theorem g_lcmp (i : Nat) {a b : Int64} {z : Int} (hd : X.tb[i]? = some (pc, .lcmp, pc')) (hz : lg_cmp a b = iI z) (kk : G Λ Γ X d mc ms Q pc' ls (vI z :: st) M n kc ks) : G Λ Γ X d mc ms Q pc ls (vL b :: vL a :: st) M n kc ks := by
  intro hE p e R s m args below meth c H locs ad ad0 n0 lsA hF h1 h2 hX hW hS hL hs
  obtain ⟨hdd, rfl⟩ := e_dec hF.1 hd
  exact W.lcmp hF.1.1 hF.1.2.1 hdd (W.eq (g2 := F0 m (pc + 1) lsA (.int (iI z) :: st.map (e_cv ad))) (by rw [hz]) (kk hE p e R s m args below meth c H locs ad ad0 n0 lsA hF h1 h2 hX hW hS hL ⟨trivial, hs.2.2⟩))
theorem g_lconst (i : Nat) {q : Fin 2} (hd : X.tb[i]? = some (pc, .lconst q, pc')) (kk : G Λ Γ X d mc ms Q pc' ls (vL (Int64.ofNat (q : Nat)) :: st) M n kc ks) : G Λ Γ X d mc ms Q pc ls st M n kc ks := by
  intro hE p e R s m args below meth c H locs ad ad0 n0 lsA hF h1 h2 hX hW hS hL hs
  obtain ⟨hdd, rfl⟩ := e_dec hF.1 hd
  exact lv_lconst hF.1.1 hF.1.2.1 hdd rfl (kk hE p e R s m args below meth c H locs ad ad0 n0 lsA hF h1 h2 hX hW hS hL ⟨trivial, hs⟩)

theorem g_get (i : Nat) {idx ci j k : Nat} {fs : List aV} {v : aV} (hd : X.tb[i]? = some (pc, .getfield idx, pc')) (hl : e_FL X.own idx ci j) (hM : M k = cO ci fs) (hf : fs[j]? = some v) (kk : G Λ Γ X d mc ms Q pc' ls (v :: st) M n kc ks) : G Λ Γ X d mc ms Q pc ls (vR k :: st) M n kc ks := by
  intro hE p e R s m args below meth c H locs ad ad0 n0 lsA hF h1 h2 hX hW hS hL hs
  obtain ⟨hdd, rfl⟩ := e_dec hF.1 hd
  obtain ⟨C, T, N, hci, hc, hj, hlk, hin⟩ := hl
  have hk := e_newO hE hW hM hci
  have hwf : e_wfE n (M k) := hW.2.2.1 k hk hs.1
  rw [hM] at hwf
  exact va_get hF.1.1 hF.1.2.1 (Ts := e_WS) hF.1.2.2.2.2.2.2.1 hin hF.1.2.2.2.2.2.1 (e_K hE.2.1 hF) hW.2.2.2.1 (k - e_NC) (fs := fs.map (e_cv ad)) ((e_ws_get hk hs.1).trans (by rw [hM]; rfl)) hc j hj (e_w hF hlk) (fun _ h => h) (v := e_cv ad v) (by rw [List.getElem?_map, hf]; rfl) hdd (kk hE p e R s m args below meth c H locs ad ad0 n0 lsA hF h1 h2 hX hW hS hL ⟨e_wfS_mem hwf v (List.mem_of_getElem? hf), hs.2⟩)
theorem g_getC (i : Nat) {idx ci j k : Nat} {fs : List aV} {v : aV} (hd : X.tb[i]? = some (pc, .getfield idx, pc')) (hl : e_FC X.own idx ci j) (hk : k < e_NC) (hM : M k = cO ci fs) (hf : fs[j]? = some v) (kk : G Λ Γ X d mc ms Q pc' ls (v :: st) M n kc ks) : G Λ Γ X d mc ms Q pc ls (vR k :: st) M n kc ks := by
  intro hE p e R s m args below meth c H locs ad ad0 n0 lsA hF h1 h2 hX hW hS hL hs
  obtain ⟨hdd, rfl⟩ := e_dec hF.1 hd
  obtain ⟨q, hq, hlk⟩ := hl
  rw [(hW.2.1 k hk).1] at hM
  have hcs : e_cst Γ k := by
    rcases hE.2.2.2.1 k hk with h | h
    · rw [h] at hM; cases hM; cases hf
    · exact h
  unfold e_cst at hcs
  rw [hM] at hcs
  obtain ⟨-, -, hw, hv⟩ := hcs
  obtain ⟨q', hq', hO⟩ := hv j v hf
  cases hq.symm.trans hq'
  have hO' := (va_OF.moved hF.2.1.alike hO).kept (e_old hF)
  have hvw : e_wfV e_NC v := e_wfS_mem hw v (List.mem_of_getElem? hf)
  rw [← (hW.2.1 k hk).2, ← e_cv_ext (fun j hj => (hW.2.1 j hj).2) hvw] at hO'
  exact vk_getf hF.1.1 hF.1.2.1 hO' hS hF.1.2.2.2.2.2.1 (e_w hF hlk) (fun _ h => h) hdd (kk hE p e R s m args below meth c H locs ad ad0 n0 lsA hF h1 h2 hX hW hS hL ⟨e_wfV_mono hW.1 hvw, hs.2⟩)
theorem g_put (i : Nat) {idx ci j k : Nat} {ty : FieldType} {fs fs' : List aV} {v : aV} (hd : X.tb[i]? = some (pc, .putfield idx, pc')) (hl : e_FP X.own idx ci j ty false) (hM : M k = cO ci fs) (hf : e_ls fs j v (fun r => some r) = some fs') (hv : e_fit ty v) (kk : ∀ M', M' = va_up M k (cO ci fs') → G Λ Γ X d mc ms Q pc' ls st M' n kc ks) : G Λ Γ X d mc ms Q pc ls (v :: vR k :: st) M n kc ks := by
  intro hE p e R s m args below meth c H locs ad ad0 n0 lsA hF h1 h2 hX hW hS hL hs
  obtain ⟨hdd, rfl⟩ := e_dec hF.1 hd
  obtain ⟨C, T, N, hci, hc, hj, hlk, hin, hty, hfin, ⟨ty0, hty0⟩, hnm, -⟩ := hl
  have hk := e_newO hE hW hM hci
  obtain ⟨hlt, he⟩ := e_ls_ok _ _ _ _ _ hf
  cases he
  have hwf : e_wfE n (M k) := hW.2.2.1 k hk hs.2.1
  rw [hM] at hwf
  have hw2 : e_wfE n (cO ci (fs.set j v)) := e_wfS_set hwf hs.1
  refine va_put hF.1.1 hF.1.2.1 (Ts := e_WS) hF.1.2.2.2.2.2.2.1 hin ty0 hty0 hnm hF.1.2.2.2.2.2.1 (e_K hE.2.1 hF) hW.2.2.2.1 hW.2.2.2.2.1 hS (k - e_NC) (fs := fs.map (e_cv ad)) ((e_ws_get hk hs.2.1).trans (by rw [hM]; rfl)) hc j hj (e_w hF hlk) (fun _ h => h) hfin hty (v := e_cv ad v) (e_fit_ok hv).1 (e_fit_ok hv).2 (by rw [List.length_map]; exact hlt) hdd (fun H1 locs1 hP hD hS1 => ?_)
  rw [← e_map_set] at hP hD
  exact kk _ rfl hE p e R s m args below meth c H1 locs1 ad ad0 n0 lsA hF h1 h2 hX (e_Wp_set hW hk hs.2.1 hw2 hP hD hF.2.2.2.1 hF.2.2.2.2 hS1) hS1 hL hs.2.2
theorem g_putF (i : Nat) {idx ci j k : Nat} {ty : FieldType} {fs fs' : List aV} {v : aV} (hd : X.tb[i]? = some (pc, .putfield idx, pc')) (hl : e_FP X.own idx ci j ty true) (hy : X.y.name = "<init>") (hM : M k = cO ci fs) (hf : e_ls fs j v (fun r => some r) = some fs') (hv : e_fit ty v) (kk : ∀ M', M' = va_up M k (cO ci fs') → G Λ Γ X d mc ms Q pc' ls st M' n kc ks) : G Λ Γ X d mc ms Q pc ls (v :: vR k :: st) M n kc ks := by
  intro hE p e R s m args below meth c H locs ad ad0 n0 lsA hF h1 h2 hX hW hS hL hs
  obtain ⟨hdd, rfl⟩ := e_dec hF.1 hd
  obtain ⟨C, T, N, hci, hc, hj, hlk, hin, hty, hfin, ⟨ty0, hty0⟩, hnm, hown⟩ := hl
  have hk := e_newO hE hW hM hci
  obtain ⟨hlt, he⟩ := e_ls_ok _ _ _ _ _ hf
  cases he
  have hwf : e_wfE n (M k) := hW.2.2.1 k hk hs.2.1
  rw [hM] at hwf
  have hw2 : e_wfE n (cO ci (fs.set j v)) := e_wfS_set hwf hs.1
  refine va_putF hF.1.1 hF.1.2.1 (Ts := e_WS) hF.1.2.2.2.2.2.2.1 hin ty0 hty0 hnm hF.1.2.2.2.2.2.1 (e_K hE.2.1 hF) hW.2.2.2.1 hW.2.2.2.2.1 hS (k - e_NC) (fs := fs.map (e_cv ad)) ((e_ws_get hk hs.2.1).trans (by rw [hM]; rfl)) hc j hj (e_w hF hlk) (fun _ h => h) hfin ((hF.1.2.2.2.2.2.2.2.2.1.resolve_left (by rw [hy]; decide)).trans hy) (hown rfl).symm hty (v := e_cv ad v) (e_fit_ok hv).1 (e_fit_ok hv).2 (by rw [List.length_map]; exact hlt) hdd (fun H1 locs1 hP hD hS1 => ?_)
  rw [← e_map_set] at hP hD
  exact kk _ rfl hE p e R s m args below meth c H1 locs1 ad ad0 n0 lsA hF h1 h2 hX (e_Wp_set hW hk hs.2.1 hw2 hP hD hF.2.2.2.1 hF.2.2.2.2 hS1) hS1 hL hs.2.2

theorem g_iald (i j : Nat) {kd len k : Nat} {f : Nat → Int} {z : Int} (hd : X.tb[i]? = some (pc, .iaload, pc')) (hkd : e_TY kd = .int) (hM : M k = cI kd len f) (hz : z = (j : Int)) (hj : j < len) (hn : len ≤ 2147483647) (kk : G Λ Γ X d mc ms Q pc' ls (vI (f j) :: st) M n kc ks) : G Λ Γ X d mc ms Q pc ls (vI z :: vR k :: st) M n kc ks := by
  intro hE p e R s m args below meth c H locs ad ad0 n0 lsA hF h1 h2 hX hW hS hL hs
  obtain ⟨hdd, rfl⟩ := e_dec hF.1 hd
  subst hz
  have hin : vp_in (iI (j : Int)) len := iI_vp (by omega) (by omega) (by omega)
  have hcl : (iI (j : Int)).toNatClampNeg = j := by rw [iI_cl (by omega) (by omega)]; rfl
  have kk' := kk hE p e R s m args below meth c H locs ad ad0 n0 lsA hF h1 h2 hX hW hS hL ⟨trivial, hs.2.2⟩
  by_cases hk : k < e_NC
  · obtain ⟨e1, hT⟩ := e_old_arr hE hW hM hk
    rw [hkd, ← e1] at hT
    exact va_ti hF.1.1 hF.1.2.1 ((va_T.moved hF.2.1.alike hT).kept (e_old hF)) hS hin (v := .int (iI (f j))) (by rw [hcl]) hdd kk'
  · have hk : e_NC ≤ k := Nat.le_of_not_lt hk
    have hwf : e_wfE n (M k) := hW.2.2.1 k hk hs.2.1
    rw [hM] at hwf
    have hty := e_tys hE (e_wfE_kd hwf)
    rw [hkd] at hty
    refine va_iald hF.1.1 hF.1.2.1 (e_K hE.2.1 hF) hW.2.2.2.1 (k - e_NC) kd (f := fun j => iI (f j)) ((e_ws_get hk hs.2.1).trans (by rw [hM]; rfl)) hty hin hdd (W.eq (g2 := F0 m (pc + 1) lsA (.int (iI (f j)) :: st.map (e_cv ad))) (by rw [hcl]) kk')

theorem g_bald (i j : Nat) {kd len k : Nat} {f : Nat → Int} {z : Int} (hd : X.tb[i]? = some (pc, .baload, pc')) (hkd : e_TY kd = .byte) (hM : M k = cI kd len f) (hz : z = (j : Int)) (hj : j < len) (hn : len ≤ 2147483647) (kk : G Λ Γ X d mc ms Q pc' ls (vI (f j) :: st) M n kc ks) : G Λ Γ X d mc ms Q pc ls (vI z :: vR k :: st) M n kc ks := by
  intro hE p e R s m args below meth c H locs ad ad0 n0 lsA hF h1 h2 hX hW hS hL hs
  obtain ⟨hdd, rfl⟩ := e_dec hF.1 hd
  subst hz
  have hin : vp_in (iI (j : Int)) len := iI_vp (by omega) (by omega) (by omega)
  have hcl : (iI (j : Int)).toNatClampNeg = j := by rw [iI_cl (by omega) (by omega)]; rfl
  have kk' := kk hE p e R s m args below meth c H locs ad ad0 n0 lsA hF h1 h2 hX hW hS hL ⟨trivial, hs.2.2⟩
  by_cases hk : k < e_NC
  · obtain ⟨e1, hT⟩ := e_old_arr hE hW hM hk
    rw [hkd, ← e1] at hT
    exact va_tb hF.1.1 hF.1.2.1 ((va_T.moved hF.2.1.alike hT).kept (e_old hF)) hS hin (v := .int (iI (f j))) (by rw [hcl]) hdd kk'
  · have hk : e_NC ≤ k := Nat.le_of_not_lt hk
    have hwf : e_wfE n (M k) := hW.2.2.1 k hk hs.2.1
    rw [hM] at hwf
    have hty := e_tys hE (e_wfE_kd hwf)
    rw [hkd] at hty
    refine va_bald hF.1.1 hF.1.2.1 (e_K hE.2.1 hF) hW.2.2.2.1 (k - e_NC) kd (f := fun j => iI (f j)) ((e_ws_get hk hs.2.1).trans (by rw [hM]; rfl)) hty hin hdd (W.eq (g2 := F0 m (pc + 1) lsA (.int (iI (f j)) :: st.map (e_cv ad))) (by rw [hcl]) kk')

theorem g_zald (i j : Nat) {kd len k : Nat} {f : Nat → Int} {z : Int} (hd : X.tb[i]? = some (pc, .baload, pc')) (hkd : e_TY kd = .boolean) (hM : M k = cI kd len f) (hz : z = (j : Int)) (hj : j < len) (hn : len ≤ 2147483647) (kk : G Λ Γ X d mc ms Q pc' ls (vI (f j) :: st) M n kc ks) : G Λ Γ X d mc ms Q pc ls (vI z :: vR k :: st) M n kc ks := by
  intro hE p e R s m args below meth c H locs ad ad0 n0 lsA hF h1 h2 hX hW hS hL hs
  obtain ⟨hdd, rfl⟩ := e_dec hF.1 hd
  subst hz
  have hin : vp_in (iI (j : Int)) len := iI_vp (by omega) (by omega) (by omega)
  have hcl : (iI (j : Int)).toNatClampNeg = j := by rw [iI_cl (by omega) (by omega)]; rfl
  have kk' := kk hE p e R s m args below meth c H locs ad ad0 n0 lsA hF h1 h2 hX hW hS hL ⟨trivial, hs.2.2⟩
  by_cases hk : k < e_NC
  · obtain ⟨e1, hT⟩ := e_old_arr hE hW hM hk
    rw [hkd, ← e1] at hT
    exact va_tz hF.1.1 hF.1.2.1 ((va_T.moved hF.2.1.alike hT).kept (e_old hF)) hS hin (v := .int (iI (f j))) (by rw [hcl]) hdd kk'
  · have hk : e_NC ≤ k := Nat.le_of_not_lt hk
    have hwf : e_wfE n (M k) := hW.2.2.1 k hk hs.2.1
    rw [hM] at hwf
    have hty := e_tys hE (e_wfE_kd hwf)
    rw [hkd] at hty
    refine va_zald hF.1.1 hF.1.2.1 (e_K hE.2.1 hF) hW.2.2.2.1 (k - e_NC) kd (f := fun j => iI (f j)) ((e_ws_get hk hs.2.1).trans (by rw [hM]; rfl)) hty hin hdd (W.eq (g2 := F0 m (pc + 1) lsA (.int (iI (f j)) :: st.map (e_cv ad))) (by rw [hcl]) kk')

theorem g_aald (i j : Nat) {kd len k : Nat} {C : String} {g : Nat → Option Nat} {z : Int} (hd : X.tb[i]? = some (pc, .aaload, pc')) (hkd : e_TY kd = .object C) (hM : M k = cR kd len g) (hz : z = (j : Int)) (hj : j < len) (hn : len ≤ 2147483647) (kk : G Λ Γ X d mc ms Q pc' ls (vO (g j) :: st) M n kc ks) : G Λ Γ X d mc ms Q pc ls (vI z :: vR k :: st) M n kc ks := by
  intro hE p e R s m args below meth c H locs ad ad0 n0 lsA hF h1 h2 hX hW hS hL hs
  obtain ⟨hdd, rfl⟩ := e_dec hF.1 hd
  subst hz
  have hin : vp_in (iI (j : Int)) len := iI_vp (by omega) (by omega) (by omega)
  have hcl : (iI (j : Int)).toNatClampNeg = j := by rw [iI_cl (by omega) (by omega)]; rfl
  by_cases hk : k < e_NC
  · obtain ⟨e1, hT, hw⟩ := e_old_arrR hE hW hM hk
    rw [hkd, ← e1] at hT
    have hv : e_wfV n (vO (g j)) := by
      cases hg : g j with
      | none => trivial
      | some r => exact Nat.lt_of_lt_of_le (hw j r hg) hW.1
    refine vb_tq hF.1.1 hF.1.2.1 ((va_T.moved hF.2.1.alike hT).kept (e_old hF)) hS hin (v := e_cv ad (vO (g j))) ?_ hdd (kk hE p e R s m args below meth c H locs ad ad0 n0 lsA hF h1 h2 hX hW hS hL ⟨hv, hs.2.2⟩)
    rw [hcl]
    cases hg : g j with
    | none => rfl
    | some r => show Value.ref (Γ.ac r) = Value.ref (ad r); rw [(hW.2.1 r (hw j r hg)).2]
  · have hk : e_NC ≤ k := Nat.le_of_not_lt hk
    have hwf : e_wfE n (M k) := hW.2.2.1 k hk hs.2.1
    rw [hM] at hwf
    have hty := e_tys hE (e_wfE_kd hwf)
    rw [hkd] at hty
    have hv : e_wfV n (vO (g j)) := by
      cases hg : g j with
      | none => trivial
      | some r => exact hwf.2 j r hg
    have e2 : va_rf ((g j).map ad) = e_cv ad (vO (g j)) := by cases g j <;> rfl
    exact va_aldq hF.1.1 hF.1.2.1 (e_K hE.2.1 hF) hW.2.2.2.1 (k - e_NC) kd (f := fun j => (g j).map ad) ((e_ws_get hk hs.2.1).trans (by rw [hM]; rfl)) hty hin hdd (W.eq (g2 := F0 m (pc + 1) lsA (e_cv ad (vO (g j)) :: st.map (e_cv ad))) (by rw [hcl, e2]) (kk hE p e R s m args below meth c H locs ad ad0 n0 lsA hF h1 h2 hX hW hS hL ⟨hv, hs.2.2⟩))

theorem e_upd {f : Nat → Int} {j : Nat} {x : Int} : upd (fun j => iI (f j)) j (iI x) = fun i => iI (va_up f j x i) := by
  funext i
  by_cases h : i = j
  · subst h; rw [pk_us, va_up_self]
  · rw [pk_un h, va_up_ne _ _ h]
theorem e_updL {f : Nat → Int64} {j : Nat} {x : Int64} : vp_updL f j x = va_up f j x := by
  funext i
  by_cases h : i = j
  · subst h; rw [pk_uLs, va_up_self]
  · rw [pk_uLn h, va_up_ne _ _ h]
theorem e_updD {f : Nat → UInt64} {j : Nat} {x : UInt64} : vf_upd f j x = va_up f j x := by
  funext i
  by_cases h : i = j
  · subst h; simp [vf_upd, va_up]
  · simp [vf_upd, va_up, h]

theorem g_iast (i j : Nat) {kd len k : Nat} {f : Nat → Int} {z x : Int} (hd : X.tb[i]? = some (pc, .iastore, pc')) (hkd : e_TY kd = .int) (hk10 : kd < 10) (hM : M k = cI kd len f) (hz : z = (j : Int)) (hj : j < len) (hn : len ≤ 2147483647) (kk : ∀ M', M' = va_up M k (cI kd len (va_up f j x)) → G Λ Γ X d mc ms Q pc' ls st M' n kc ks) : G Λ Γ X d mc ms Q pc ls (vI x :: vI z :: vR k :: st) M n kc ks := by
  intro hE p e R s m args below meth c H locs ad ad0 n0 lsA hF h1 h2 hX hW hS hL hs
  obtain ⟨hdd, rfl⟩ := e_dec hF.1 hd
  subst hz
  have hin : vp_in (iI (j : Int)) len := iI_vp (by omega) (by omega) (by omega)
  have hcl : (iI (j : Int)).toNatClampNeg = j := by rw [iI_cl (by omega) (by omega)]; rfl
  have hk := e_newA hE hW hM hk10
  have hwf : e_wfE n (M k) := hW.2.2.1 k hk hs.2.2.1
  rw [hM] at hwf
  have hty := e_tys hE (e_wfE_kd hwf)
  rw [hkd] at hty
  
  refine va_iast hF.1.1 hF.1.2.1 (e_K hE.2.1 hF) hW.2.2.2.1 hW.2.2.2.2.1 hS (k - e_NC) kd (f := fun j => iI (f j)) (x := iI x) ((e_ws_get hk hs.2.2.1).trans (by rw [hM]; rfl)) hty hin hdd (fun H1 locs1 hP hD hS1 => ?_)
  rw [hcl, e_upd] at hP hD
  exact kk _ rfl hE p e R s m args below meth c H1 locs1 ad ad0 n0 lsA hF h1 h2 hX (e_Wp_set (c := cI kd len (va_up f j x)) hW hk hs.2.2.1 hwf hP hD hF.2.2.2.1 hF.2.2.2.2 hS1) hS1 hL hs.2.2.2

theorem g_bast (i j : Nat) {kd len k : Nat} {f : Nat → Int} {z x : Int} (hd : X.tb[i]? = some (pc, .bastore, pc')) (hkd : e_TY kd = .byte) (hk10 : kd < 10) (hM : M k = cI kd len f) (hz : z = (j : Int)) (hj : j < len) (hn : len ≤ 2147483647) (hx : -128 ≤ x ∧ x ≤ 127) (kk : ∀ M', M' = va_up M k (cI kd len (va_up f j x)) → G Λ Γ X d mc ms Q pc' ls st M' n kc ks) : G Λ Γ X d mc ms Q pc ls (vI x :: vI z :: vR k :: st) M n kc ks := by
  intro hE p e R s m args below meth c H locs ad ad0 n0 lsA hF h1 h2 hX hW hS hL hs
  obtain ⟨hdd, rfl⟩ := e_dec hF.1 hd
  subst hz
  have hin : vp_in (iI (j : Int)) len := iI_vp (by omega) (by omega) (by omega)
  have hcl : (iI (j : Int)).toNatClampNeg = j := by rw [iI_cl (by omega) (by omega)]; rfl
  have hk := e_newA hE hW hM hk10
  have hwf : e_wfE n (M k) := hW.2.2.1 k hk hs.2.2.1
  rw [hM] at hwf
  have hty := e_tys hE (e_wfE_kd hwf)
  rw [hkd] at hty
  have hnr : vp_nar .byte (iI x) = iI x := by rw [vp_nar_byte]; exact (e_nbz hx).1
  refine va_bast hF.1.1 hF.1.2.1 (e_K hE.2.1 hF) hW.2.2.2.1 hW.2.2.2.2.1 hS (k - e_NC) kd (f := fun j => iI (f j)) (x := iI x) ((e_ws_get hk hs.2.2.1).trans (by rw [hM]; rfl)) hty hin hdd (fun H1 locs1 hP hD hS1 => ?_)
  rw [hnr] at hP hD
  rw [hcl, e_upd] at hP hD
  exact kk _ rfl hE p e R s m args below meth c H1 locs1 ad ad0 n0 lsA hF h1 h2 hX (e_Wp_set (c := cI kd len (va_up f j x)) hW hk hs.2.2.1 hwf hP hD hF.2.2.2.1 hF.2.2.2.2 hS1) hS1 hL hs.2.2.2

theorem g_zast (i j : Nat) {kd len k : Nat} {f : Nat → Int} {z x : Int} (hd : X.tb[i]? = some (pc, .bastore, pc')) (hkd : e_TY kd = .boolean) (hk10 : kd < 10) (hM : M k = cI kd len f) (hz : z = (j : Int)) (hj : j < len) (hn : len ≤ 2147483647) (hx : x = 0 ∨ x = 1) (kk : ∀ M', M' = va_up M k (cI kd len (va_up f j x)) → G Λ Γ X d mc ms Q pc' ls st M' n kc ks) : G Λ Γ X d mc ms Q pc ls (vI x :: vI z :: vR k :: st) M n kc ks := by
  intro hE p e R s m args below meth c H locs ad ad0 n0 lsA hF h1 h2 hX hW hS hL hs
  obtain ⟨hdd, rfl⟩ := e_dec hF.1 hd
  subst hz
  have hin : vp_in (iI (j : Int)) len := iI_vp (by omega) (by omega) (by omega)
  have hcl : (iI (j : Int)).toNatClampNeg = j := by rw [iI_cl (by omega) (by omega)]; rfl
  have hk := e_newA hE hW hM hk10
  have hwf : e_wfE n (M k) := hW.2.2.1 k hk hs.2.2.1
  rw [hM] at hwf
  have hty := e_tys hE (e_wfE_kd hwf)
  rw [hkd] at hty
  have hnr : vp_nar .boolean (iI x) = iI x := by rcases hx with rfl | rfl <;> decide
  refine va_zast hF.1.1 hF.1.2.1 (e_K hE.2.1 hF) hW.2.2.2.1 hW.2.2.2.2.1 hS (k - e_NC) kd (f := fun j => iI (f j)) (x := iI x) ((e_ws_get hk hs.2.2.1).trans (by rw [hM]; rfl)) hty hin hdd (fun H1 locs1 hP hD hS1 => ?_)
  rw [hnr] at hP hD
  rw [hcl, e_upd] at hP hD
  exact kk _ rfl hE p e R s m args below meth c H1 locs1 ad ad0 n0 lsA hF h1 h2 hX (e_Wp_set (c := cI kd len (va_up f j x)) hW hk hs.2.2.1 hwf hP hD hF.2.2.2.1 hF.2.2.2.2 hS1) hS1 hL hs.2.2.2

theorem g_aast (i j : Nat) {kd len k v ci : Nat} {r : vw_C} {g : Nat → Option Nat} {vs : List aV} {z : Int} (hd : X.tb[i]? = some (pc, .aastore, pc')) (hkd : e_TY kd = .object r.1) (hk10 : kd < 10) (hc : vwCl[ci]? = some r) (hci : ci < 20) (hM : M k = cR kd len g) (hV : M v = cO ci vs) (hz : z = (j : Int)) (hj : j < len) (hn : len ≤ 2147483647) (kk : ∀ M', M' = va_up M k (cR kd len (va_up g j (some v))) → G Λ Γ X d mc ms Q pc' ls st M' n kc ks) : G Λ Γ X d mc ms Q pc ls (vR v :: vI z :: vR k :: st) M n kc ks := by
  intro hE p e R s m args below meth c H locs ad ad0 n0 lsA hF h1 h2 hX hW hS hL hs
  obtain ⟨hdd, rfl⟩ := e_dec hF.1 hd
  subst hz
  have hin : vp_in (iI (j : Int)) len := iI_vp (by omega) (by omega) (by omega)
  have hcl : (iI (j : Int)).toNatClampNeg = j := by rw [iI_cl (by omega) (by omega)]; rfl
  have hk := e_newA hE hW hM hk10
  have hkv := e_newO hE hW hV hci
  have hwf : e_wfE n (M k) := hW.2.2.1 k hk hs.2.2.1
  rw [hM] at hwf
  have hty := e_tys hE (e_wfE_kd hwf)
  rw [hkd] at hty
  have hw2 : e_wfE n (cR kd len (va_up g j (some v))) := ⟨hwf.1, fun i r hi => by
    by_cases h : i = j
    · subst h; rw [va_up_self] at hi; cases hi; exact hs.1
    · rw [va_up_ne _ _ h] at hi; exact hwf.2 i r hi⟩
  have eg : va_up (fun j => (g j).map ad) j (some (ad v)) = fun i => (va_up g j (some v) i).map ad := by
    funext i
    by_cases h : i = j
    · subst h; rw [va_up_self, va_up_self]; rfl
    · rw [va_up_ne _ _ h, va_up_ne _ _ h]
  refine va_astq hF.1.1 hF.1.2.1 (e_K hE.2.1 hF) hW.2.2.2.1 hW.2.2.2.2.1 hS (k - e_NC) kd (v - e_NC) ci (f := fun j => (g j).map ad) ((e_ws_get hk hs.2.2.1).trans (by rw [hM]; rfl)) hty ((e_ws_get hkv hs.1).trans (by rw [hV]; rfl)) hc hin hdd (fun H1 locs1 hP hD hS1 => ?_)
  rw [hcl, eg] at hP hD
  exact kk _ rfl hE p e R s m args below meth c H1 locs1 ad ad0 n0 lsA hF h1 h2 hX (e_Wp_set (c := cR kd len (va_up g j (some v))) hW hk hs.2.2.1 hw2 hP hD hF.2.2.2.1 hF.2.2.2.2 hS1) hS1 hL hs.2.2.2
theorem g_alen (i : Nat) {kd k : Nat} {a : aA} (hd : X.tb[i]? = some (pc, .arraylength, pc')) (hM : M k = .inl (kd, a)) (kk : G Λ Γ X d mc ms Q pc' ls (vI (a.1 : Int) :: st) M n kc ks) : G Λ Γ X d mc ms Q pc ls (vR k :: st) M n kc ks := by
  intro hE p e R s m args below meth c H locs ad ad0 n0 lsA hF h1 h2 hX hW hS hL hs
  obtain ⟨hdd, rfl⟩ := e_dec hF.1 hd
  have kk' := kk hE p e R s m args below meth c H locs ad ad0 n0 lsA hF h1 h2 hX hW hS hL ⟨trivial, hs.2⟩
  by_cases hk : k < e_NC
  · match a, hM, kk' with
    | (len, .inl f), hM, kk' =>
      obtain ⟨e1, hT⟩ := e_old_arr hE hW hM hk
      rw [← e1] at hT
      exact va_tlen hF.1.1 hF.1.2.1 ((va_T.moved hF.2.1.alike hT).kept (e_old hF)) hS (iI_nat _).symm hdd kk'
    | (len, .inr (.inr (.inr g))), hM, kk' =>
      obtain ⟨e1, hT, -⟩ := e_old_arrR hE hW hM hk
      rw [← e1] at hT
      exact va_tlen hF.1.1 hF.1.2.1 ((va_T.moved hF.2.1.alike hT).kept (e_old hF)) hS (iI_nat _).symm hdd kk'
    | (len, .inr (.inl f)), hM, _ =>
      rw [(hW.2.1 k hk).1] at hM
      rcases hE.2.2.2.1 k hk with h | h
      · rw [h] at hM; cases hM
      · unfold e_cst at h; rw [hM] at h; exact h.elim
    | (len, .inr (.inr (.inl f))), hM, _ =>
      rw [(hW.2.1 k hk).1] at hM
      rcases hE.2.2.2.1 k hk with h | h
      · rw [h] at hM; cases hM
      · unfold e_cst at h; rw [hM] at h; exact h.elim
  · have hk : e_NC ≤ k := Nat.le_of_not_lt hk
    have hwf : e_wfE n (M k) := hW.2.2.1 k hk hs.1
    rw [hM] at hwf
    have hty := e_tys hE (e_wfE_kd hwf)
    exact va_alen hF.1.1 hF.1.2.1 (e_K hE.2.1 hF) hW.2.2.2.1 (k - e_NC) kd (x := e_ca ad a) ((e_ws_get hk hs.1).trans (by rw [hM]; rfl)) hty (iI_nat _).symm hdd kk'

end R1
