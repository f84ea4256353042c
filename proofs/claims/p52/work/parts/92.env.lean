/-! the surroundings at the law's entry (by hand) -/
def e_ac (b : Nat) (s : State) (k : Nat) : Nat := adr #[Value.ref b] s (e_tm k)
abbrev e_cx (l : Launch) (s : State) (D : va_G) (tys : List (ClassId × FieldType)) (b L : Nat) (xs : Nat → Int32) : Cx := (l, (s, (D, (tys, (e_ac b s, e_cMem L (fun j => (xs j).toInt))))))
theorem cst_obj {Γ : Cx} {k ci : Nat} {fs : List aV} (hc : Γ.cM k = cO ci fs) (h1 : 20 ≤ ci) (h2 : va_O (e_KT ci).1 (Γ.ac k) (e_FR Γ) Γ.s0 Γ.s0.heap) (h3 : e_wfS e_NC fs) (h4 : ∀ (j : Nat) (v : aV), fs[j]? = some v → ∃ q : String × String × String, (e_KT ci).2[j]? = some q ∧ va_OF q.1 q.2.1 q.2.2 (e_cv Γ.ac v) (Γ.ac k) (e_FR Γ) Γ.s0 Γ.s0.heap) : e_cst Γ k := by
  unfold e_cst
  rw [hc]
  exact ⟨h1, h2, h3, h4⟩
theorem cst_int {Γ : Cx} {k kd len : Nat} {f : Nat → Int} (hc : Γ.cM k = cI kd len f) (h1 : 10 ≤ kd) (h2 : va_T (e_TY kd) (Γ.ac k) len (fun j => .int (iI (f j))) (e_FR Γ) Γ.s0 Γ.s0.heap) : e_cst Γ k := by
  unfold e_cst
  rw [hc]
  exact ⟨h1, h2⟩
theorem cst_ref {Γ : Cx} {k kd len : Nat} {g : Nat → Option Nat} (hc : Γ.cM k = cR kd len g) (h1 : 10 ≤ kd) (h2 : va_T (e_TY kd) (Γ.ac k) len (fun j => va_rf ((g j).map Γ.ac)) (e_FR Γ) Γ.s0 Γ.s0.heap) (h3 : ∀ j r, g j = some r → r < e_NC) : e_cst Γ k := by
  unfold e_cst
  rw [hc]
  exact ⟨h1, h2, h3⟩
theorem fs_1 {P : Nat → aV → Prop} {x : aV} (h : P 0 x) : ∀ (j : Nat) (v : aV), [x][j]? = some v → P j v := by
  intro j v hj
  match j, hj with
  | 0, hj =>
    have e : some x = some v := hj
    cases e
    exact h
  | j + 1, hj => simp at hj
theorem fs_2 {P : Nat → aV → Prop} {x y : aV} (h0 : P 0 x) (h1 : P 1 y) : ∀ (j : Nat) (v : aV), [x, y][j]? = some v → P j v := by
  intro j v hj
  match j, hj with
  | 0, hj =>
    have e : some x = some v := hj
    cases e
    exact h0
  | 1, hj =>
    have e : some y = some v := hj
    cases e
    exact h1
  | j + 2, hj => simp at hj
theorem vT_c {ty : FieldType} {t N : Nat} {f g : Nat → Value} {A : Nat → Prop} {U : State} {H : Heap} (h : va_T ty t N f A U H) (e : ∀ j, j < N → f j = g j) : va_T ty t N g A U H := by
  obtain ⟨c, h1, h2, h3, h4, h5, h6, h7⟩ := h
  exact ⟨c, h1, h2, h3, h4, h5, fun j hj => by rw [← e j hj]; exact h6 j hj, h7⟩
theorem rf_or {A : Array Value} {s : State} {t : Term} (h : (Cond.isRef t).before A s = true) : t.eval A s none [] s = some .null ∨ ∃ a, t.eval A s none [] s = some (.ref a) := by
  cases hv : t.eval A s none [] s with
  | none => simp [Cond.before, Cond.holds, Cond.value, hv] at h
  | some w =>
    simp only [Cond.before, Cond.holds, Cond.value, hv] at h
    cases w <;> simp_all
theorem ar_p {A : Array Value} {s : State} {ty : FieldType} (h : (Cond.arrayClass ty).before A s = true) : ∃ cA : ClassId, ArrOfT s cA ty ∧ s.vm.findClass ("[" ++ ty.toString) = some cA := by
  obtain ⟨c, kA, comp, h1, h2, h3⟩ := Cond.arrayClass_spec (args := A) (first := s) (o := none) (s := s) (idx := []) (type := ty) h
  exact ⟨c, fun n z => ⟨fun k hk => (by cases hk), kA, h2, comp, h3⟩, h1⟩
theorem ar_o {A : Array Value} {s : State} {C : String} (h : (Cond.arrayOver (.object C)).before A s = true) : ∃ cA : ClassId, ArrOfT s cA (.object C) ∧ va_RA s cA (.object C) := by
  obtain ⟨comp, c, kA, h1, -, h2, h3, h4⟩ := Cond.arrayOver_spec (args := A) (first := s) (o := none) (s := s) (idx := []) (n := C) h
  exact ⟨c, fun n z => ⟨fun k hk => (by cases hk), kA, h2, comp, h3⟩, kA, comp, h2, h3, h1, h4⟩
/-- classes and array classes, as the tables have them -/
theorem en_K {A : Array Value} {s : State} (hts : ∀ w ∈ lw_tbl, w.before A s = true) : ∃ (D : va_G) (tys : List (ClassId × FieldType)), va_K D vwCl tys s ∧ tys.map (fun q => q.2) = [e_TY 0, e_TY 1, e_TY 2, e_TY 3, e_TY 4, e_TY 5, e_TY 6] := by
  have hW := e_WS_tbl hts
  obtain ⟨c0, i0, h0⟩ := u_known hW u_RJ0 (wd_at hts _ in_RJ0)
  obtain ⟨c1, i1, h1⟩ := u_known hW u_RJ4 (wd_at hts _ in_RJ4)
  obtain ⟨c2, i2, h2⟩ := u_known hW u_RJx00060 (wd_at hts _ in_RJx00060)
  obtain ⟨c3, i3, h3⟩ := u_known hW u_RJx7c733 (wd_at hts _ in_RJx7c733)
  obtain ⟨c4, i4, h4⟩ := u_known hW u_RX2 (wd_at hts _ in_RX2)
  obtain ⟨c5, i5, h5⟩ := u_known hW u_RX3 (wd_at hts _ in_RX3)
  obtain ⟨c6, i6, h6⟩ := u_known hW u_RX4 (wd_at hts _ in_RX4)
  obtain ⟨c7, i7, h7⟩ := u_known hW u_RX6 (wd_at hts _ in_RX6)
  obtain ⟨c8, i8, h8⟩ := u_known hW u_RX7 (wd_at hts _ in_RX7)
  have hk : ∀ k : Nat, ∃ (cC : ClassId) (iS : Nat → Nat), ∀ q : vw_C, vwCl[k]? = some q → u_Kn s q.1 q.2.1 q.2.2 cC iS := by
    intro k
    match k with
    | 0 => exact ⟨c0, i0, fun q hq => by have e : some (RJ0, TJ0, 4) = some q := hq; cases e; exact h0⟩
    | 1 => exact ⟨c1, i1, fun q hq => by have e : some (RJ4, TJ4, 4) = some q := hq; cases e; exact h1⟩
    | 2 => exact ⟨c2, i2, fun q hq => by have e : some (RJx00060, TJx00060, 6) = some q := hq; cases e; exact h2⟩
    | 3 => exact ⟨c3, i3, fun q hq => by have e : some (RJx7c733, TJx7c733, 6) = some q := hq; cases e; exact h3⟩
    | 4 => exact ⟨c4, i4, fun q hq => by have e : some (RX2, TX2, 3) = some q := hq; cases e; exact h4⟩
    | 5 => exact ⟨c5, i5, fun q hq => by have e : some (RX3, TX3, 14) = some q := hq; cases e; exact h5⟩
    | 6 => exact ⟨c6, i6, fun q hq => by have e : some (RX4, TX4, 4) = some q := hq; cases e; exact h6⟩
    | 7 => exact ⟨c7, i7, fun q hq => by have e : some (RX6, TX6, 3) = some q := hq; cases e; exact h7⟩
    | 8 => exact ⟨c8, i8, fun q hq => by have e : some (RX7, TX7, 9) = some q := hq; cases e; exact h8⟩
    | k + 9 =>
      refine ⟨c0, i0, fun q hq => ?_⟩
      have hz : vwCl.length ≤ k + 9 := Nat.le_add_left 9 k
      rw [List.getElem?_eq_none hz] at hq
      cases hq
  obtain ⟨a0, p0, q0⟩ := ar_p (hW _ ac_I)
  obtain ⟨a1, p1, q1⟩ := ar_p (hW _ ac_Z)
  obtain ⟨a2, p2, q2⟩ := ar_p (hW _ ac_B)
  obtain ⟨a5, p5, q5⟩ := ar_o (wd_at hts _ ao_Lock)
  obtain ⟨a6, p6, q6⟩ := ar_o (wd_at hts _ ao_House)
  refine ⟨(fun k => Classical.choose (hk k), fun k => Classical.choose (Classical.choose_spec (hk k))), [(a0, .int), (a1, .boolean), (a2, .byte), (a0, .int), (a0, .int), (a5, .object "BiscuitLocks$Lock"), (a6, .object "BiscuitLocks$House")], ⟨fun k q hq => Classical.choose_spec (Classical.choose_spec (hk k)) q hq, fun k q hq => ?_⟩, rfl⟩
  match k, hq with
  | 0, hq => have e : some (a0, FieldType.int) = some q := hq; cases e; exact ⟨p0, q0⟩
  | 1, hq => have e : some (a1, FieldType.boolean) = some q := hq; cases e; exact ⟨p1, q1⟩
  | 2, hq => have e : some (a2, FieldType.byte) = some q := hq; cases e; exact ⟨p2, q2⟩
  | 3, hq => have e : some (a0, FieldType.int) = some q := hq; cases e; exact ⟨p0, q0⟩
  | 4, hq => have e : some (a0, FieldType.int) = some q := hq; cases e; exact ⟨p0, q0⟩
  | 5, hq => have e : some (a5, FieldType.object "BiscuitLocks$Lock") = some q := hq; cases e; exact ⟨p5, q5⟩
  | 6, hq => have e : some (a6, FieldType.object "BiscuitLocks$House") = some q := hq; cases e; exact ⟨p6, q6⟩
  | k + 7, hq => simp at hq
section EV
variable {l : Launch} {s : State} {D : va_G} {tys : List (ClassId × FieldType)} {b L : Nat} {xs : Nat → Int32}
theorem ev_c (hs : ∀ c ∈ e_FL0, c.before #[Value.ref b] s = true) {k : Nat} (hk : k < 10) : (e_tm k).eval #[Value.ref b] s none [] s = some (.ref (e_ac b s k)) := adr_ev (fl_at hs _ (ck_c k hk).1)
theorem ev_r (hs : ∀ c ∈ e_FL0, c.before #[Value.ref b] s = true) {k : Nat} (hk : k < 5) : (e_tm (10 + k)).eval #[Value.ref b] s none [] s = some (.ref (e_ac b s (10 + k))) := adr_ev (fl_at hs _ (ck_r k hk).1)
theorem ev_r2 (hs : ∀ c ∈ e_FL0, c.before #[Value.ref b] s = true) {k : Nat} (h1 : 10 ≤ k) (h2 : k < 15) : (e_tm k).eval #[Value.ref b] s none [] s = some (.ref (e_ac b s k)) := by
  have h := ev_r hs (k := k - 10) (by omega)
  rwa [show 10 + (k - 10) = k from by omega] at h
theorem ev_t (hs : ∀ c ∈ e_FL0, c.before #[Value.ref b] s = true) {i : Nat} (hi : i < 20) : (e_tm (tx_c i)).eval #[Value.ref b] s none [] s = some (.ref (e_ac b s (tx_c i))) := adr_ev (fl_at hs _ (ck_t i hi).1)
theorem ar_15 (hs : ∀ c ∈ e_FL0, c.before #[Value.ref b] s = true) : (e_tm 15).eval #[Value.ref b] s none [] s = some (.ref (e_ac b s 15)) ∧ va_T (.object "BiscuitLocks$Command") (e_ac b s 15) 10 (fun j => .ref (e_ac b s j)) (fun q => s.heap.size ≤ q) s s.heap :=
  en_arrR (g := e_tm) (by decide) (fl_at hs _ ck_a.1) (fl_at hs _ ck_a.2.1) (fun j hj => fl_at hs _ (ck_a.2.2 j hj)) (fun j hj => ev_c hs hj)
theorem ar_16 (hs : ∀ c ∈ e_FL0, c.before #[Value.ref b] s = true) : (e_tm 16).eval #[Value.ref b] s none [] s = some (.ref (e_ac b s 16)) ∧ va_T .int (e_ac b s 16) 10 (fun j => .int (iI (e_swC.getD j 0))) (fun q => s.heap.size ≤ q) s s.heap :=
  en_arr (f := fun j => e_swC.getD j 0) (by decide) (fl_at hs _ ck_16.1) (fl_at hs _ ck_16.2.1) (fun j hj => fl_at hs _ (ck_16.2.2 j hj))
theorem ar_17 (hs : ∀ c ∈ e_FL0, c.before #[Value.ref b] s = true) : (e_tm 17).eval #[Value.ref b] s none [] s = some (.ref (e_ac b s 17)) ∧ va_T .int (e_ac b s 17) 5 (fun j => .int (iI (e_swR.getD j 0))) (fun q => s.heap.size ≤ q) s s.heap :=
  en_arr (f := fun j => e_swR.getD j 0) (by decide) (fl_at hs _ ck_17.1) (fl_at hs _ ck_17.2.1) (fun j hj => fl_at hs _ (ck_17.2.2 j hj))
theorem ar_88 (hs : ∀ c ∈ e_FL0, c.before #[Value.ref b] s = true) : (e_tm 88).eval #[Value.ref b] s none [] s = some (.ref (e_ac b s 88)) ∧ va_T .byte (e_ac b s 88) 100 (fun j => .int (iI (48 + (j : Int) % 10))) (fun q => s.heap.size ≤ q) s s.heap :=
  en_arr (f := fun j => 48 + (j : Int) % 10) (by decide) (fl_at hs _ ck_88.1) (fl_at hs _ ck_88.2.1) (fun j hj => fl_at hs _ (ck_88.2.2 j hj))
theorem ar_89 (hs : ∀ c ∈ e_FL0, c.before #[Value.ref b] s = true) : (e_tm 89).eval #[Value.ref b] s none [] s = some (.ref (e_ac b s 89)) ∧ va_T .byte (e_ac b s 89) 100 (fun j => .int (iI (48 + (j : Int) / 10))) (fun q => s.heap.size ≤ q) s s.heap :=
  en_arr (f := fun j => 48 + (j : Int) / 10) (by decide) (fl_at hs _ ck_89.1) (fl_at hs _ ck_89.2.1) (fun j hj => fl_at hs _ (ck_89.2.2 j hj))
theorem tx_ok (hs : ∀ c ∈ e_FL0, c.before #[Value.ref b] s = true) {i : Nat} (hi : i < 20) : va_O "java/lang/String" (e_ac b s (tx_c i)) (fun q => s.heap.size ≤ q) s s.heap ∧ va_OF "java/lang/String" "value" "[B" (.ref (e_ac b s (tx_c i + 10))) (e_ac b s (tx_c i)) (fun q => s.heap.size ≤ q) s s.heap ∧ va_OF "java/lang/String" "coder" "B" (.int (iI 0)) (e_ac b s (tx_c i)) (fun q => s.heap.size ≤ q) s s.heap ∧ va_T .byte (e_ac b s (tx_c i + 10)) (tx_b i).length (fun j => .int (iI ((tx_b i).getD j 0))) (fun q => s.heap.size ≤ q) s s.heap := by
  obtain ⟨a1, a2, a3, a4, a5, a6, a7⟩ := ck_t i hi
  have h := en_str (f := fun j => (tx_b i).getD j 0) a7 (fl_at hs _ a1) (fl_at hs _ a2) (fl_at hs _ a3) (fl_at hs _ a4) (fl_at hs _ a5) (fun j hj => fl_at hs _ (ck_tj i hi j hj))
  have e10 : e_ac b s (tx_c i + 10) = adr #[Value.ref b] s (tVal (e_tm (tx_c i))) := by
    show adr _ _ (e_tm (tx_c i + 10)) = _
    rw [a6]
  rw [e10]
  exact h
theorem cM_c {f : Nat → Int} {k : Nat} (h : k < 10) : e_cMem L f k = cO 20 [vI (k : Int), vR (k + 20)] := by
  unfold e_cMem
  exact if_pos h
theorem cM_r {f : Nat → Int} {k : Nat} (h1 : 10 ≤ k) (h2 : k < 15) : e_cMem L f k = cO 21 [vI ((k : Int) - 10)] := by
  unfold e_cMem
  rw [if_neg (Nat.not_lt.mpr h1), if_pos h2]
theorem cM_x {f : Nat → Int} {k : Nat} (h : (20 ≤ k ∧ k < 30) ∨ (40 ≤ k ∧ k < 50)) : e_cMem L f k = cO 22 [vR (k + 10), vI 0] := by
  unfold e_cMem
  rw [if_neg (show ¬ k < 10 from by omega), if_neg (show ¬ k < 15 from by omega), if_neg (show ¬ k = 15 from by omega), if_neg (show ¬ k = 16 from by omega), if_neg (show ¬ k = 17 from by omega), if_neg (show ¬ k < 20 from by omega)]
  by_cases c : k < 30
  · rw [if_pos c]
  · rw [if_neg c, if_neg (show ¬ k < 40 from by omega), if_pos (show k < 50 from by omega)]
theorem cM_f {f : Nat → Int} {k : Nat} (h1 : 30 ≤ k) (h2 : k < 40) : e_cMem L f k = cI 11 (e_forms.getD (k - 30) []).length (fun j => (e_forms.getD (k - 30) []).getD j 0) := by
  unfold e_cMem
  rw [if_neg (show ¬ k < 10 from by omega), if_neg (show ¬ k < 15 from by omega), if_neg (show ¬ k = 15 from by omega), if_neg (show ¬ k = 16 from by omega), if_neg (show ¬ k = 17 from by omega), if_neg (show ¬ k < 20 from by omega), if_neg (show ¬ k < 30 from by omega), if_pos h2]
theorem cM_w {f : Nat → Int} {k : Nat} (h1 : 50 ≤ k) (h2 : k < 60) : e_cMem L f k = cI 11 (e_words.getD (k - 50) []).length (fun j => (e_words.getD (k - 50) []).getD j 0) := by
  unfold e_cMem
  rw [if_neg (show ¬ k < 10 from by omega), if_neg (show ¬ k < 15 from by omega), if_neg (show ¬ k = 15 from by omega), if_neg (show ¬ k = 16 from by omega), if_neg (show ¬ k = 17 from by omega), if_neg (show ¬ k < 20 from by omega), if_neg (show ¬ k < 30 from by omega), if_neg (show ¬ k < 40 from by omega), if_neg (show ¬ k < 50 from by omega), if_pos h2]
theorem cM_d {f : Nat → Int} {k : Nat} (h : (18 ≤ k ∧ k < 20) ∨ (60 ≤ k ∧ k ≠ 60 ∧ k ≠ 88 ∧ k ≠ 89)) : e_cMem L f k = e_dum := by
  unfold e_cMem
  rw [if_neg (show ¬ k < 10 from by omega), if_neg (show ¬ k < 15 from by omega), if_neg (show ¬ k = 15 from by omega), if_neg (show ¬ k = 16 from by omega), if_neg (show ¬ k = 17 from by omega)]
  by_cases c : k < 20
  · rw [if_pos c]
  · rw [if_neg c, if_neg (show ¬ k < 30 from by omega), if_neg (show ¬ k < 40 from by omega), if_neg (show ¬ k < 50 from by omega), if_neg (show ¬ k < 60 from by omega), if_neg (show ¬ k = 60 from by omega), if_neg (show ¬ k = 88 from by omega), if_neg (show ¬ k = 89 from by omega)]
theorem cst_c (hs : ∀ c ∈ e_FL0, c.before #[Value.ref b] s = true) {k : Nat} (hk : k < 10) : e_cst (e_cx l s D tys b L xs) k := by
  obtain ⟨a1, a2, a3⟩ := ck_c k hk
  have h1 := fl_at hs _ a1
  have e1 := ev_c hs hk
  have t1 : (e_tm (k + 20)).eval #[Value.ref b] s none [] s = some (.ref (e_ac b s (k + 20))) := by
    have h := ev_t hs (i := k) (by omega)
    rwa [show tx_c k = k + 20 from by unfold tx_c; rw [if_pos hk]; omega] at h
  refine cst_obj (cM_c hk) (by decide) (va_Oof h1 e1 fr_ok) ⟨trivial, (show k + 20 < 100 from by omega), trivial⟩ (fs_2 ⟨("java/lang/Enum", "ordinal", "I"), rfl, ?_⟩ ⟨("BiscuitLocks$Command", "form", "Ljava/lang/String;"), rfl, ?_⟩)
  · exact vk_OFof e1 (eq_int (fl_at hs _ a2)) fr_ok
  · exact vk_OFof e1 (eq_ref (fl_at hs _ a3) t1) fr_ok
theorem cst_r (hs : ∀ c ∈ e_FL0, c.before #[Value.ref b] s = true) {k : Nat} (hk : k < 5) : e_cst (e_cx l s D tys b L xs) (10 + k) := by
  obtain ⟨a1, a2⟩ := ck_r k hk
  have h1 := fl_at hs _ a1
  have e1 := ev_r hs hk
  refine cst_obj ((cM_r (by omega) (by omega)).trans (by rw [show (((10 + k : Nat) : Int) - 10) = (k : Int) from by omega] : cO 21 [vI (((10 + k : Nat) : Int) - 10)] = cO 21 [vI (k : Int)])) (by decide) (va_Oof h1 e1 fr_ok) ⟨trivial, trivial⟩ (fs_1 ⟨("java/lang/Enum", "ordinal", "I"), rfl, ?_⟩)
  exact vk_OFof e1 (eq_int (fl_at hs _ a2)) fr_ok
theorem cst_x (hs : ∀ c ∈ e_FL0, c.before #[Value.ref b] s = true) {i : Nat} (hi : i < 20) {k : Nat} (hk : tx_c i = k) (hk2 : (20 ≤ k ∧ k < 30) ∨ (40 ≤ k ∧ k < 50)) : e_cst (e_cx l s D tys b L xs) k := by
  obtain ⟨b1, b2, b3, -⟩ := tx_ok hs hi
  rw [hk] at b1 b2 b3
  exact cst_obj (cM_x hk2) (by decide) b1 ⟨(show k + 10 < 100 from by omega), trivial, trivial⟩ (fs_2 ⟨("java/lang/String", "value", "[B"), rfl, b2⟩ ⟨("java/lang/String", "coder", "B"), rfl, b3⟩)
theorem cst_v (hs : ∀ c ∈ e_FL0, c.before #[Value.ref b] s = true) {i : Nat} (hi : i < 20) {k : Nat} (hk : tx_c i + 10 = k) (hc : e_cMem L (fun j => (xs j).toInt) k = cI 11 (tx_b i).length (fun j => (tx_b i).getD j 0)) : e_cst (e_cx l s D tys b L xs) k := by
  have h := (tx_ok hs hi).2.2.2
  rw [hk] at h
  exact cst_int hc (by decide) h
theorem cst_15 (hs : ∀ c ∈ e_FL0, c.before #[Value.ref b] s = true) : e_cst (e_cx l s D tys b L xs) 15 := by
  refine cst_ref (kd := 12) (len := 10) (g := fun j => if j < 10 then some j else none) rfl (by decide) (vT_c (ar_15 hs).2 (fun j hj => ?_)) (fun j r h => ?_)
  · show Value.ref (e_ac b s j) = va_rf (Option.map (e_ac b s) (if j < 10 then some j else none))
    rw [if_pos hj]
    rfl
  · have h2 : (if j < 10 then some j else none) = some r := h
    by_cases c : j < 10
    · rw [if_pos c] at h2
      cases h2
      show j < 100
      omega
    · rw [if_neg c] at h2
      cases h2
theorem cst_60 (hX : va_X b L xs s s.heap) (hbl : b < s.heap.size) : e_cst (e_cx l s D tys b L xs) 60 := by
  obtain ⟨scr, h1, h2, h3, h4, h5⟩ := hX
  have eb : e_ac b s 60 = b := adr_of rfl
  refine cst_int (kd := 10) (len := L) (f := fun j => (xs j).toInt) rfl (by decide) ?_
  show va_T .int (e_ac b s 60) L (fun j => .int (iI ((xs j).toInt))) (fun q => s.heap.size ≤ q) s s.heap
  rw [eb]
  refine ⟨scr, h1, h2, h3, Nat.le_of_eq h4.symm, by rw [h4], fun j hj => ?_, fr_ok b hbl⟩
  show _ = some (Value.int (iI (xs j).toInt))
  rw [h5 j hj, ← iI_of]
theorem en_cells (hs : ∀ c ∈ e_FL0, c.before #[Value.ref b] s = true) (hX : va_X b L xs s s.heap) (hbl : b < s.heap.size) : ∀ k, k < e_NC → (e_cx l s D tys b L xs).cM k = e_dum ∨ e_cst (e_cx l s D tys b L xs) k := by
  intro k hk0
  have hk : k < 100 := hk0
  by_cases c1 : k < 10
  · exact Or.inr (cst_c hs c1)
  by_cases c2 : k < 15
  · have h := cst_r (l := l) (D := D) (tys := tys) (L := L) (xs := xs) hs (k := k - 10) (by omega)
    rw [show 10 + (k - 10) = k from by omega] at h
    exact Or.inr h
  by_cases c3 : k = 15
  · subst c3; exact Or.inr (cst_15 hs)
  by_cases c4 : k = 16
  · subst c4; exact Or.inr (cst_int (kd := 10) (len := 10) (f := fun j => e_swC.getD j 0) rfl (by decide) (ar_16 hs).2)
  by_cases c5 : k = 17
  · subst c5; exact Or.inr (cst_int (kd := 10) (len := 5) (f := fun j => e_swR.getD j 0) rfl (by decide) (ar_17 hs).2)
  by_cases c6 : 20 ≤ k ∧ k < 30
  · exact Or.inr (cst_x hs (i := k - 20) (by omega) (by unfold tx_c; rw [if_pos (show k - 20 < 10 from by omega)]; omega) (Or.inl c6))
  by_cases c7 : 40 ≤ k ∧ k < 50
  · exact Or.inr (cst_x hs (i := k - 30) (by omega) (by unfold tx_c; rw [if_neg (show ¬ k - 30 < 10 from by omega)]; omega) (Or.inr c7))
  by_cases c8 : 30 ≤ k ∧ k < 40
  · refine Or.inr (cst_v hs (i := k - 30) (by omega) (by unfold tx_c; rw [if_pos (show k - 30 < 10 from by omega)]; omega) ?_)
    rw [tx_f (k - 30) (by omega)]
    exact cM_f c8.1 c8.2
  by_cases c9 : 50 ≤ k ∧ k < 60
  · refine Or.inr (cst_v hs (i := k - 50 + 10) (by omega) (by unfold tx_c; rw [if_neg (show ¬ k - 50 + 10 < 10 from by omega)]; omega) ?_)
    rw [tx_w (k - 50) (by omega)]
    exact cM_w c9.1 c9.2
  by_cases d1 : k = 60
  · subst d1; exact Or.inr (cst_60 hX hbl)
  by_cases d2 : k = 88
  · subst d2; exact Or.inr (cst_int (kd := 11) (len := 100) (f := fun j => 48 + (j : Int) % 10) rfl (by decide) (ar_88 hs).2)
  by_cases d3 : k = 89
  · subst d3; exact Or.inr (cst_int (kd := 11) (len := 100) (f := fun j => 48 + (j : Int) / 10) rfl (by decide) (ar_89 hs).2)
  exact Or.inl (cM_d (by omega))
theorem st_z (hts : ∀ w ∈ lw_tbl, w.before #[Value.ref b] s = true) {C n d : String} {v : Value} {k1 k2 : Nat} (h1 : tables_1[k1]? = some (.laysStatic C n d)) (h2 : tables_1[k2]? = some (.initialized C)) (hv : (Term.static C n d).eval #[Value.ref b] s none [] s = some v) : va_Z C n d v (fun q => s.heap.size ≤ q) s s.heap := va_Zof (wd_at hts _ h1) (wd_at hts _ h2) hv fr_ok
theorem en_st (hs : ∀ c ∈ e_FL0, c.before #[Value.ref b] s = true) (hts : ∀ w ∈ lw_tbl, w.before #[Value.ref b] s = true) {r0 : Option Nat} (hr1 : e_wfV e_NC (vO r0)) (hr2 : (e_tm 99).eval #[Value.ref b] s none [] s = some (e_cv (e_ac b s) (vO r0))) : ∀ q ∈ e_ST r0, e_wfV e_NC q.2.2.2 ∧ va_Z q.1 q.2.1 q.2.2.1 (e_cv (e_ac b s) q.2.2.2) (fun q => s.heap.size ≤ q) s s.heap := by
  unfold e_ST
  exact List.forall_mem_cons.mpr ⟨⟨(show (0 : Nat) < 100 from by decide), st_z hts sl_0 si_0 (ev_c hs (k := 0) (by decide))⟩, List.forall_mem_cons.mpr ⟨⟨(show (1 : Nat) < 100 from by decide), st_z hts sl_1 si_1 (ev_c hs (k := 1) (by decide))⟩, List.forall_mem_cons.mpr ⟨⟨(show (2 : Nat) < 100 from by decide), st_z hts sl_2 si_2 (ev_c hs (k := 2) (by decide))⟩, List.forall_mem_cons.mpr ⟨⟨(show (3 : Nat) < 100 from by decide), st_z hts sl_3 si_3 (ev_c hs (k := 3) (by decide))⟩, List.forall_mem_cons.mpr ⟨⟨(show (4 : Nat) < 100 from by decide), st_z hts sl_4 si_4 (ev_c hs (k := 4) (by decide))⟩, List.forall_mem_cons.mpr ⟨⟨(show (5 : Nat) < 100 from by decide), st_z hts sl_5 si_5 (ev_c hs (k := 5) (by decide))⟩, List.forall_mem_cons.mpr ⟨⟨(show (6 : Nat) < 100 from by decide), st_z hts sl_6 si_6 (ev_c hs (k := 6) (by decide))⟩, List.forall_mem_cons.mpr ⟨⟨(show (7 : Nat) < 100 from by decide), st_z hts sl_7 si_7 (ev_c hs (k := 7) (by decide))⟩, List.forall_mem_cons.mpr ⟨⟨(show (8 : Nat) < 100 from by decide), st_z hts sl_8 si_8 (ev_c hs (k := 8) (by decide))⟩, List.forall_mem_cons.mpr ⟨⟨(show (9 : Nat) < 100 from by decide), st_z hts sl_9 si_9 (ev_c hs (k := 9) (by decide))⟩, List.forall_mem_cons.mpr ⟨⟨(show (10 : Nat) < 100 from by decide), st_z hts sl_10 si_10 (ev_r hs (k := 0) (by decide))⟩, List.forall_mem_cons.mpr ⟨⟨(show (11 : Nat) < 100 from by decide), st_z hts sl_11 si_11 (ev_r hs (k := 1) (by decide))⟩, List.forall_mem_cons.mpr ⟨⟨(show (12 : Nat) < 100 from by decide), st_z hts sl_12 si_12 (ev_r hs (k := 2) (by decide))⟩, List.forall_mem_cons.mpr ⟨⟨(show (13 : Nat) < 100 from by decide), st_z hts sl_13 si_13 (ev_r hs (k := 3) (by decide))⟩, List.forall_mem_cons.mpr ⟨⟨(show (14 : Nat) < 100 from by decide), st_z hts sl_14 si_14 (ev_r hs (k := 4) (by decide))⟩, List.forall_mem_cons.mpr ⟨⟨(show (15 : Nat) < 100 from by decide), st_z hts sl_15 si_15 (ar_15 hs).1⟩, List.forall_mem_cons.mpr ⟨⟨(show (16 : Nat) < 100 from by decide), st_z hts sl_16 si_16 (ar_16 hs).1⟩, List.forall_mem_cons.mpr ⟨⟨(show (17 : Nat) < 100 from by decide), st_z hts sl_17 si_17 (ar_17 hs).1⟩, List.forall_mem_cons.mpr ⟨⟨trivial, st_z hts sl_18 si_18 (eq_int (fl_at hs _ ck_cs))⟩, List.forall_mem_cons.mpr ⟨⟨(show (88 : Nat) < 100 from by decide), st_z hts sl_19 si_19 (ar_88 hs).1⟩, List.forall_mem_cons.mpr ⟨⟨(show (89 : Nat) < 100 from by decide), st_z hts sl_20 si_20 (ar_89 hs).1⟩, List.forall_mem_cons.mpr ⟨⟨hr1, st_z hts sl_21 si_21 hr2⟩, fun _ h => absurd h List.not_mem_nil⟩⟩⟩⟩⟩⟩⟩⟩⟩⟩⟩⟩⟩⟩⟩⟩⟩⟩⟩⟩⟩⟩
theorem en_sr (hs : ∀ c ∈ e_FL0, c.before #[Value.ref b] s = true) (hts : ∀ w ∈ lw_tbl, w.before #[Value.ref b] s = true) : ∀ q ∈ e_SR, q.2.2.2 < e_NC ∧ vk_R q.1 q.2.1 q.2.2.1 (e_ac b s q.2.2.2) s := by
  intro q hq
  obtain ⟨i, hi⟩ := List.getElem?_of_mem hq
  have hl : i < 28 := by
    have h := (List.getElem?_eq_some_iff.mp hi).1
    rwa [ln_s] at h
  obtain ⟨a1, a2, a3, a4⟩ := ck_s i hl
  have e : e_SR.getD i ("", 0, "", 0) = q := by
    show (e_SR[i]?).getD _ = q
    rw [hi]
    rfl
  rw [e] at a1 a2 a3 a4
  refine ⟨a4, vk_R.of (wd_at hts _ a2) ?_⟩
  rw [← a3]
  exact adr_ev (fl_at hs _ a1)
theorem en_nn (hs : ∀ c ∈ e_FL0, c.before #[Value.ref b] s = true) : ∀ q ∈ e_NN, va_Nc q.1 q.2 s := by
  intro q hq
  obtain ⟨i, hi⟩ := List.getElem?_of_mem hq
  have hl := (List.getElem?_eq_some_iff.mp hi).1
  rw [ln_n] at hl
  have a1 := ck_n i hl
  have e : e_NN.getD i ("", "") = q := by
    show (e_NN[i]?).getD _ = q
    rw [hi]
    rfl
  rw [e] at a1
  exact va_Nc.of (fl_at hs _ a1)
theorem en_wn (hts : ∀ w ∈ lw_tbl, w.before #[Value.ref b] s = true) : ∀ w ∈ e_WN, va_Nw w s := by
  intro w hw
  have h := hts w (List.mem_append_right _ (ck_wT w hw))
  rcases ck_w w hw with e | e | e
  · exact va_Nw.of e h
  · rw [e] at h ⊢
    exact h
  · rw [e] at h ⊢
    exact h
theorem en_d (hs : ∀ c ∈ e_FL0, c.before #[Value.ref b] s = true) : ∀ i j, 10 ≤ i ∧ i < 15 → 10 ≤ j ∧ j < 15 → e_ac b s i = e_ac b s j → i = j := by
  intro i j hi hj he
  by_cases hij : i = j
  · exact hij
  · exfalso
    obtain ⟨q, hq, hw0⟩ := List.any_eq_true.mp (ck_dd i hi.2 j hj.2 hi.1 hj.1 hij)
    have hw := of_decide_eq_true hw0
    obtain ⟨a1, b1, b2, b3, b4⟩ := ck_d q hq
    have hne := ne_adr (fl_at hs _ a1) (ev_r2 hs b1 b2) (ev_r2 hs b3 b4)
    rcases hw with ⟨w1, w2⟩ | ⟨w1, w2⟩
    · rw [w1, w2] at hne
      exact hne he
    · rw [w1, w2] at hne
      exact hne he.symm
theorem en_r0 (hs : ∀ c ∈ e_FL0, c.before #[Value.ref b] s = true) : ∃ r0 : Option Nat, e_wfV e_NC (vO r0) ∧ (e_tm 99).eval #[Value.ref b] s none [] s = some (e_cv (e_ac b s) (vO r0)) := by
  rcases rf_or (fl_at hs _ ck_sf) with h | ⟨a, h⟩
  · exact ⟨none, trivial, h⟩
  · refine ⟨some 99, (show (99 : Nat) < 100 from by decide), ?_⟩
    have e : e_ac b s 99 = a := adr_of h
    show _ = some (Value.ref (e_ac b s 99))
    rw [e]
    exact h
theorem en_env (hst : l.stackTraces = false) (hs : ∀ c ∈ e_FL0, c.before #[Value.ref b] s = true) (hts : ∀ w ∈ lw_tbl, w.before #[Value.ref b] s = true) (hX : va_X b L xs s s.heap) (hbl : b < s.heap.size) (hK : va_K D vwCl tys s) (hty : tys.map (fun q => q.2) = [e_TY 0, e_TY 1, e_TY 2, e_TY 3, e_TY 4, e_TY 5, e_TY 6]) {r0 : Option Nat} (hr1 : e_wfV e_NC (vO r0)) (hr2 : (e_tm 99).eval #[Value.ref b] s none [] s = some (e_cv (e_ac b s) (vO r0))) : e_Env (e_cx l s D tys b L xs) (e_L r0).1 (e_L r0).2.1 (e_L r0).2.2.1 (e_L r0).2.2.2 :=
  ⟨hst, hK, hty, en_cells hs hX hbl, en_st hs hts hr1 hr2, en_sr hs hts, en_wn hts, en_nn hs, vx_Zqof (wd_at hts _ tl_T0) (wd_at hts _ ti_T0) (fl_at hs _ tr_T0) fr_ok, vx_Zqof (wd_at hts _ tl_T1) (wd_at hts _ ti_T1) (fl_at hs _ tr_T1) fr_ok, en_d hs⟩
end EV
