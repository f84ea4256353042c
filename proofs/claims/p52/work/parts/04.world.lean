/-! ENGINE 3: the words, the surroundings, a frame at a pc (G), a method's contract (Ct) -/
def e_WS : List Cond := lw_tbl.filter goodWord
theorem e_WS_good : ∀ w ∈ e_WS, goodWord w = true := fun w h => (List.mem_filter.mp h).2
theorem e_WS_in {w : Cond} (h : w ∈ lw_tbl) (g : goodWord w = true) : w ∈ e_WS := List.mem_filter.mpr ⟨h, g⟩
theorem e_WS_tbl {args : Array Value} {s : State} (h : ∀ w ∈ lw_tbl, w.before args s = true) : ∀ w ∈ e_WS, w.before args s = true := fun w hw => h w (List.mem_filter.mp hw).1
/-- own class, name, bytes, locals, return type, handlers, instructions (pc, instruction, next pc) -/
abbrev MD : Type := String × (MethodName × (ByteArray × (Nat × (Option FieldType × (List (Nat × Nat × Nat × Nat) × List (Nat × Instr × Nat))))))
abbrev MD.own (X : MD) : String := X.1
abbrev MD.y (X : MD) : MethodName := X.2.1
abbrev MD.cc (X : MD) : ByteArray := X.2.2.1
abbrev MD.mL (X : MD) : Nat := X.2.2.2.1
abbrev MD.rt (X : MD) : Option FieldType := X.2.2.2.2.1
abbrev MD.hh (X : MD) : List (Nat × Nat × Nat × Nat) := X.2.2.2.2.2.1
abbrev MD.tb (X : MD) : List (Nat × Instr × Nat) := X.2.2.2.2.2.2
def ilen : Instr → Nat
  | .aload _ => 2 | .astore _ => 2 | .iload _ => 2 | .istore _ => 2 | .dload _ => 2 | .dstore _ => 2 | .fload _ => 2 | .fstore _ => 2 | .bipush _ => 2 | .ldc _ => 2 | .newarray _ => 2
  | .sipush _ => 3 | .getfield _ => 3 | .putfield _ => 3 | .getstatic _ => 3 | .goto _ => 3 | .if_icmp _ _ => 3 | .ifCond _ _ => 3 | .if_acmp _ _ => 3 | .ifnull _ => 3 | .ifnonnull _ => 3 | .iinc _ _ => 3
  | .invokevirtual _ => 3 | .invokespecial _ => 3 | .invokestatic _ => 3 | .new _ => 3 | .anewarray _ => 3 | .ldc_w _ => 3 | .ldc2_w _ => 3 | .checkcast _ => 3
  | _ => 1
def e_tb (cc : ByteArray) (tb : List (Nat × Instr × Nat)) : Bool := tb.all (fun q => decide (decode cc q.1 = .ok (q.2.1, ilen q.2.1)) && decide (q.2.2 = q.1 + ilen q.2.1))
theorem e_tb_at {cc : ByteArray} {tb : List (Nat × Instr × Nat)} (h : e_tb cc tb = true) {i pc pc' : Nat} {ins : Instr} (hi : tb[i]? = some (pc, ins, pc')) : decode cc pc = .ok (ins, ilen ins) ∧ pc' = pc + ilen ins := by
  have h1 := List.all_eq_true.mp h _ (List.mem_of_getElem? hi)
  simp only [Bool.and_eq_true, decide_eq_true_eq] at h1
  exact h1
theorem e_tb_mem {cc : ByteArray} {tb : List (Nat × Instr × Nat)} (h : e_tb cc tb = true) {q : Nat × Instr × Nat} (hi : q ∈ tb) : decode cc q.1 = .ok (q.2.1, ilen q.2.1) ∧ q.2.2 = q.1 + ilen q.2.1 := by
  have h1 := List.all_eq_true.mp h _ hi
  simp only [Bool.and_eq_true, decide_eq_true_eq] at h1
  exact h1
/-- launch, the state at the law's start, classes and slots, array classes, where the constants lie, what they hold -/
abbrev Cx : Type := Launch × (State × (va_G × (List (ClassId × FieldType) × ((Nat → Nat) × (Nat → aE)))))
abbrev Cx.l (Γ : Cx) : Launch := Γ.1
abbrev Cx.s0 (Γ : Cx) : State := Γ.2.1
abbrev Cx.D (Γ : Cx) : va_G := Γ.2.2.1
abbrev Cx.tys (Γ : Cx) : List (ClassId × FieldType) := Γ.2.2.2.1
abbrev Cx.ac (Γ : Cx) : Nat → Nat := Γ.2.2.2.2.1
abbrev Cx.cM (Γ : Cx) : Nat → aE := Γ.2.2.2.2.2
def e_FR (Γ : Cx) : Nat → Prop := fun q => Γ.s0.heap.size ≤ q
/-- the kinds of arrays: new ones below 10, constant ones from 10 on -/
def e_TY (k : Nat) : FieldType := match k with
  | 0 => .int | 1 => .boolean | 2 => .byte | 3 => .int | 4 => .int | 5 => .object "BiscuitLocks$Lock" | 6 => .object "BiscuitLocks$House"
  | 10 => .int | 11 => .byte | _ => .object "BiscuitLocks$Command"
/-- the constant objects' classes, from 20 on: the fields that are read -/
def e_KT (ci : Nat) : String × List (String × String × String) := match ci with
  | 20 => ("BiscuitLocks$Command", [("java/lang/Enum", "ordinal", "I"), ("BiscuitLocks$Command", "form", "Ljava/lang/String;")])
  | 21 => ("BiscuitLocks$Refusal", [("java/lang/Enum", "ordinal", "I")])
  | _ => ("java/lang/String", [("java/lang/String", "value", "[B"), ("java/lang/String", "coder", "B")])
def e_cst (Γ : Cx) (k : Nat) : Prop := match Γ.cM k with
  | .inl (kd, (len, .inl f)) => 10 ≤ kd ∧ va_T (e_TY kd) (Γ.ac k) len (fun j => .int (iI (f j))) (e_FR Γ) Γ.s0 Γ.s0.heap
  | .inl (kd, (len, .inr (.inr (.inr g)))) => 10 ≤ kd ∧ va_T (e_TY kd) (Γ.ac k) len (fun j => va_rf ((g j).map Γ.ac)) (e_FR Γ) Γ.s0 Γ.s0.heap ∧ ∀ j r, g j = some r → r < e_NC
  | .inl _ => False
  | .inr (ci, fs) => 20 ≤ ci ∧ va_O (e_KT ci).1 (Γ.ac k) (e_FR Γ) Γ.s0 Γ.s0.heap ∧ e_wfS e_NC fs ∧ ∀ (j : Nat) (v : aV), fs[j]? = some v → ∃ q : String × String × String, (e_KT ci).2[j]? = some q ∧ va_OF q.1 q.2.1 q.2.2 (e_cv Γ.ac v) (Γ.ac k) (e_FR Γ) Γ.s0 Γ.s0.heap
def e_dum : aE := cO 99 []
def e_Env (Γ : Cx) (ST : List (String × String × String × aV)) (SR : List (String × Nat × String × Nat)) (WN : List Cond) (NN : List (String × String)) : Prop :=
  Γ.l.stackTraces = false ∧ va_K Γ.D vwCl Γ.tys Γ.s0 ∧ Γ.tys.map (fun q => q.2) = [e_TY 0, e_TY 1, e_TY 2, e_TY 3, e_TY 4, e_TY 5, e_TY 6] ∧
  (∀ k, k < e_NC → Γ.cM k = e_dum ∨ e_cst Γ k) ∧
  (∀ q ∈ ST, e_wfV e_NC q.2.2.2 ∧ va_Z q.1 q.2.1 q.2.2.1 (e_cv Γ.ac q.2.2.2) (e_FR Γ) Γ.s0 Γ.s0.heap) ∧
  (∀ q ∈ SR, q.2.2.2 < e_NC ∧ vk_R q.1 q.2.1 q.2.2.1 (Γ.ac q.2.2.2) Γ.s0) ∧
  (∀ w ∈ WN, va_Nw w Γ.s0) ∧
  (∀ q ∈ NN, va_Nc q.1 q.2 Γ.s0) ∧
  vx_Zq Bundle.tN "UNASSIGNED_STACK" Bundle.steD (e_FR Γ) Γ.s0 Γ.s0.heap ∧ vx_Zq Bundle.tN "SUPPRESSED_SENTINEL" Bundle.listD (e_FR Γ) Γ.s0 Γ.s0.heap ∧
  (∀ i j, 10 ≤ i ∧ i < 15 → 10 ≤ j ∧ j < 15 → Γ.ac i = Γ.ac j → i = j)
/-- the memory M of n cells lies in the heap H -/
def e_Wp (Γ : Cx) (ad : Nat → Nat) (M : Mem) (n : Nat) (H : Heap) : Prop :=
  e_NC ≤ n ∧ (∀ k, k < e_NC → M k = Γ.cM k ∧ ad k = Γ.ac k) ∧ (∀ k, e_NC ≤ k → k < n → e_wfE n (M k)) ∧ va_P Γ.D vwCl (e_ws Γ.tys ad M n) H ∧ va_D (e_FR Γ) (e_ws Γ.tys ad M n) ∧
  Γ.s0.heap.size ≤ H.size ∧ ∀ q : Nat, q < Γ.s0.heap.size → H[q]? = Γ.s0.heap[q]?
def e_Ex (ad : Nat → Nat) (n : Nat) (ad' : Nat → Nat) (n' : Nat) : Prop := n ≤ n' ∧ ∀ k, k < n → ad' k = ad k
abbrev Rv : Type := Option aV ⊕ String
def e_wfO (n : Nat) (v : Option aV) : Prop := match v with
  | none => True
  | some v => e_wfV n v
def e_Qc (Γ : Cx) (Q : Rv → Mem → Nat → Prop) (ad0 : Nat → Nat) (n0 : Nat) : Array Value → State → Outcome → State → Prop := fun _ _ o t =>
  ∃ (v : Option aV) (M : Mem) (n : Nat) (ad : Nat → Nat), o = .returned (v.map (e_cv ad)) ∧ Q (.inl v) M n ∧ e_Ex ad0 n0 ad n ∧ e_wfO n v ∧ e_Wp Γ ad M n t.heap
def e_XC (Γ : Cx) (Q : Rv → Mem → Nat → Prop) (ad0 : Nat → Nat) (n0 : Nat) : String → State → State → Prop := fun E _ t =>
  ∃ (M : Mem) (n : Nat) (ad : Nat → Nat), Q (.inr E) M n ∧ e_Ex ad0 n0 ad n ∧ e_Wp Γ ad M n t.heap
def e_Pc (Γ : Cx) (ad : Nat → Nat) (as : List aV) (M : Mem) (n : Nat) : Array Value → State → Prop := fun a U =>
  a = (as.map (e_cv ad)).toArray ∧ e_wfS n as ∧ Γ.s0.WarmedH U.vm ∧ e_Wp Γ ad M n U.heap
def e_cw (X : MD) : Cond := match X.hh with
  | [] => .code X.y X.cc X.mL X.rt
  | _ => .codeWith X.y X.cc X.mL X.rt X.hh
def e_wsM (X : MD) : List Cond := e_cw X :: e_WS
abbrev e_rm (d mc ms : Nat) : Room := { frames := d + 16, cells := mc, slots := ms, locals := 64 * d + 400 }
/-- the lists of the surroundings: statics, texts, words, pairs not castable -/
abbrev Ls : Type := List (String × String × String × aV) × (List (String × Nat × String × Nat) × (List Cond × List (String × String)))
/-- a method's contract -/
def Ct (Λ : Ls) (Γ : Cx) (X : MD) (d mc ms : Nat) (as : List aV) (M : Mem) (n : Nat) (Q : Rv → Mem → Nat → Prop) : Prop :=
  e_Env Γ Λ.1 Λ.2.1 Λ.2.2.1 Λ.2.2.2 → ∀ ad : Nat → Nat, vx_Met Γ.l X.y (e_wsM X) (e_rm d mc ms) (e_Pc Γ ad as M n) (e_Qc Γ Q ad n) (e_XC Γ Q ad n) mc ms (e_FR Γ)
def e_Mf (X : MD) (p : Program) (s : State) (m : MethodId) (args : Array Value) (meth : Method) (c : Code) : Prop :=
  p.tables.exec = Jvm.exec ∧ c.code = X.cc ∧ c.maxLocals = X.mL ∧ meth.sig.returnType = X.rt ∧ meth.locks = false ∧ s.vm.findClass X.own = some m.cls ∧ (∀ w ∈ e_WS, w.before args s = true) ∧
  (X.hh = [(0, 0, 0, 0)] ∨ c.exceptionTable.toList = tableOf X.hh) ∧ (X.y.name = "law" ∨ meth.name = X.y.name) ∧ e_tb X.cc X.tb = true
theorem e_tab {X : MD} {p : Program} {s : State} {m : MethodId} {args : Array Value} {meth : Method} {c : Code} (h : e_Mf X p s m args meth c) (hn : X.hh ≠ [(0, 0, 0, 0)]) : c.exceptionTable.toList = tableOf X.hh := h.2.2.2.2.2.2.2.1.resolve_left hn
def e_LR (ad : Nat → Nat) (n : Nat) (ls : List (Option aV)) (lsA : Array Slot) (nL : Nat) : Prop :=
  ls.length = nL ∧ lv_has lsA nL [] ∧ ∀ (j : Nat) (v : aV), ls[j]? = some (some v) → e_wfV n v ∧ lsA[j]? = some (.val (e_cv ad v))
/-- what stands fast for a frame: the method, the room, the heap at its start -/
def e_Fx (Γ : Cx) (X : MD) (d mc ms : Nat) (p : Program) (R : Room) (s : State) (m : MethodId) (args : Array Value) (meth : Method) (c : Code) : Prop :=
  e_Mf X p s m args meth c ∧ Γ.s0.WarmedH s.vm ∧ (d + 16 ≤ R.frames ∧ 64 * d + 400 ≤ R.locals ∧ mc ≤ R.cells ∧ ms ≤ R.slots) ∧ Γ.s0.heap.size ≤ s.heap.size ∧ ∀ q : Nat, q < Γ.s0.heap.size → s.heap[q]? = Γ.s0.heap[q]?
/-- a frame of the method X at pc, locals ls, stack st, memory M of n cells, kc cells and ks slots made: it comes to an end as Q says -/
def G (Λ : Ls) (Γ : Cx) (X : MD) (d mc ms : Nat) (Q : Rv → Mem → Nat → Prop) (pc : Nat) (ls : List (Option aV)) (st : List aV) (M : Mem) (n kc ks : Nat) : Prop :=
  e_Env Γ Λ.1 Λ.2.1 Λ.2.2.1 Λ.2.2.2 → ∀ (p : Program) (e : Env) (R : Room) (s : State) (m : MethodId) (args : Array Value) (below : List Frame) (meth : Method) (c : Code) (H : Heap) (locs : List Loc) (ad ad0 : Nat → Nat) (n0 : Nat) (lsA : Array Slot),
    e_Fx Γ X d mc ms p R s m args meth c → kc ≤ mc → ks ≤ ms → e_Ex ad0 n0 ad n → e_Wp Γ ad M n H → va_S (e_FR Γ) s.heap H locs → e_LR ad n ls lsA X.mL → e_wfS n st →
    W p Γ.l e R s m args below meth c H locs kc ks (vx_MQ below (e_Qc Γ Q ad0 n0) (e_XC Γ Q ad0 n0) args s mc ms (e_FR Γ)) (F0 m pc lsA (st.map (e_cv ad)))
/-- .. and with an exception of class E thrown at pc -/
def GX (Λ : Ls) (Γ : Cx) (X : MD) (d mc ms : Nat) (Q : Rv → Mem → Nat → Prop) (E : String) (pc : Nat) (ls : List (Option aV)) (M : Mem) (n kc ks : Nat) : Prop :=
  e_Env Γ Λ.1 Λ.2.1 Λ.2.2.1 Λ.2.2.2 → ∀ (p : Program) (e : Env) (R : Room) (s : State) (m : MethodId) (args : Array Value) (below : List Frame) (meth : Method) (c : Code) (H : Heap) (locs : List Loc) (ad ad0 : Nat → Nat) (n0 : Nat) (lsA : Array Slot) (rest : List Value) (q : Addr) (ce : Cell),
    e_Fx Γ X d mc ms p R s m args meth c → kc ≤ mc → ks ≤ ms → e_Ex ad0 n0 ad n → e_Wp Γ ad M n H → va_S (e_FR Γ) s.heap H locs → e_LR ad n ls lsA X.mL → H[q]? = some ce → ce.vm = .none → s.vm.findClass E = some ce.cls →
    vx_W p Γ.l e R s m args below meth c H locs kc ks (vx_MQ below (e_Qc Γ Q ad0 n0) (e_XC Γ Q ad0 n0) args s mc ms (e_FR Γ)) (F0 m pc lsA rest) q
/-! what the surroundings give at a frame -/
section F1
variable {Γ : Cx} {X : MD} {d mc ms : Nat} {p : Program} {R : Room} {s : State} {m : MethodId} {args : Array Value} {meth : Method} {c : Code}
theorem e_K (hE : va_K Γ.D vwCl Γ.tys Γ.s0) (hF : e_Fx Γ X d mc ms p R s m args meth c) : va_K Γ.D vwCl Γ.tys s := va_K.moved hF.2.1.alike hE
theorem e_old (hF : e_Fx Γ X d mc ms p R s m args meth c) : ∀ a : Nat, a < Γ.s0.heap.size → ¬ e_FR Γ a → s.heap[a]? = Γ.s0.heap[a]? := fun a h _ => hF.2.2.2.2 a h
theorem e_A (hF : e_Fx Γ X d mc ms p R s m args meth c) : ∀ q : Nat, s.heap.size ≤ q → e_FR Γ q := fun q h => Nat.le_trans hF.2.2.2.1 h
theorem e_w (hF : e_Fx Γ X d mc ms p R s m args meth c) {w : Cond} (h : w ∈ e_WS) : w.before args s = true := hF.1.2.2.2.2.2.2.1 w h
theorem e_Wp_old {ad : Nat → Nat} {M : Mem} {n : Nat} {H : Heap} (h : e_Wp Γ ad M n H) : ∀ q : Nat, q < Γ.s0.heap.size → H[q]? = Γ.s0.heap[q]? := h.2.2.2.2.2.2
end F1
