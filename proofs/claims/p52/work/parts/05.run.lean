/-! ENGINE 4: a run of instructions on locals and stack alone, computed -/
def c2v (o : Option aV) : Bool := match o with
  | some (.inr (.inr (.inl _))) => true
  | some (.inr (.inr (.inr (.inr _)))) => true
  | _ => false
theorem c2v_cat {ad : Nat → Nat} {v : aV} (h : c2v (some v) = false) : (e_cv ad v).category = 1 := by
  match v, h with
  | .inl z, _ => rfl
  | .inr (.inl none), _ => rfl
  | .inr (.inl (some k)), _ => rfl
  | .inr (.inr (.inl z)), h => cases h
  | .inr (.inr (.inr (.inl z))), _ => rfl
  | .inr (.inr (.inr (.inr z))), h => cases h
def lset {α : Type} (ls : List (Option aV)) (i : Nat) (v : aV) (k : List (Option aV) → Option α) : Option α := match ls, i with
  | _ :: r, 0 => k (some v :: r)
  | x :: _ :: r, 1 => match c2v x with
    | true => none
    | false => k (x :: some v :: r)
  | x :: r, i + 2 => lset r (i + 1) v (fun r' => k (x :: r'))
  | _, _ => none
theorem lset_ok {α : Type} : ∀ (ls : List (Option aV)) (i : Nat) (v : aV) (k : List (Option aV) → Option α) (r : α), lset ls i v k = some r →
    ∃ ls', k ls' = some r ∧ ls'.length = ls.length ∧ i < ls.length ∧ ls'[i]? = some (some v) ∧ (∀ j, j ≠ i → ls'[j]? = ls[j]?) ∧ ∀ (j : Nat) (x : Option aV), j + 1 = i → ls[j]? = some x → c2v x = false
  | x :: t, 0, v, k, r, h => ⟨some v :: t, h, rfl, Nat.succ_pos _, rfl, fun j hj => by
      cases j with
      | zero => exact absurd rfl hj
      | succ j => rfl, fun j x hj => by omega⟩
  | x :: y :: t, 1, v, k, r, h => by
    unfold lset at h
    split at h
    · cases h
    · next hc =>
      refine ⟨x :: some v :: t, h, rfl, by simp, rfl, fun j hj => ?_, fun j z hj hz => ?_⟩
      · match j, hj with
        | 0, _ => rfl
        | j + 2, _ => rfl
      · obtain rfl : j = 0 := by omega
        cases hz
        exact hc
  | [x], 1, v, k, r, h => by cases h
  | x :: t, i + 2, v, k, r, h => by
    have h' : lset t (i + 1) v (fun r' => k (x :: r')) = some r := by
      cases t with
      | nil => exact h
      | cons y t => exact h
    obtain ⟨l', h1, h2, h3, h4, h5, h6⟩ := lset_ok t (i + 1) v _ r h'
    refine ⟨x :: l', h1, by simp [h2], by simp; omega, h4, fun j hj => ?_, fun j z hj hz => ?_⟩
    · cases j with
      | zero => rfl
      | succ j => exact h5 j (by omega)
    · cases j with
      | zero => omega
      | succ j => exact h6 j z (by omega) hz
  | [], 0, v, k, r, h => by cases h
  | [], 1, v, k, r, h => by cases h
def e_all (ls : Array Slot) : List (Nat × Value) := (List.range ls.size).filterMap (fun j => match ls[j]? with
  | some (Slot.val u) => some (j, u)
  | _ => none)
theorem e_all_mem {ls : Array Slot} {j : Nat} {u : Value} : (j, u) ∈ e_all ls ↔ ls[j]? = some (.val u) := by
  unfold e_all
  rw [List.mem_filterMap]
  constructor
  · rintro ⟨i, -, hi⟩
    split at hi
    · next w hw => cases hi; exact hw
    · cases hi
  · intro h
    refine ⟨j, List.mem_range.mpr (lv_lt h), ?_⟩
    rw [h]
theorem e_all_has {ls : Array Slot} {nL : Nat} (h : lv_has ls nL []) : lv_has ls nL (e_all ls) := ⟨h.1, h.2.1, fun q hq => e_all_mem.mp hq⟩
/-- the locals behind a store of one slot -/
theorem e_LR_store {ad : Nat → Nat} {n nL i : Nat} {ls ls' : List (Option aV)} {lsA lsB : Array Slot} {v : aV} (hL : e_LR ad n ls lsA nL) (hv : e_wfV n v)
    (hB : lv_has lsB nL ((i, e_cv ad v) :: (e_all lsA).filter (fun q => !(q.1 == i) && !(q.1 + 1 == i && q.2.category == 2))))
    (h2 : ls'.length = ls.length) (h4 : ls'[i]? = some (some v)) (h5 : ∀ j, j ≠ i → ls'[j]? = ls[j]?) (h6 : ∀ (j : Nat) (x : Option aV), j + 1 = i → ls[j]? = some x → c2v x = false) : e_LR ad n ls' lsB nL := by
  refine ⟨h2.trans hL.1, ⟨hB.1, hB.2.1, fun q hq => nomatch hq⟩, fun j w hw => ?_⟩
  by_cases hj : j = i
  · subst hj
    rw [h4] at hw
    cases hw
    exact ⟨hv, hB.2.2 _ List.mem_cons_self⟩
  · rw [h5 j hj] at hw
    obtain ⟨hw1, hw2⟩ := hL.2.2 j w hw
    refine ⟨hw1, hB.2.2 (j, e_cv ad w) (List.mem_cons_of_mem _ (List.mem_filter.mpr ⟨e_all_mem.mpr hw2, ?_⟩))⟩
    simp only [Bool.and_eq_true, Bool.not_eq_true', beq_eq_false_iff_ne, ne_eq, Bool.and_eq_false_iff]
    refine ⟨hj, ?_⟩
    by_cases hj1 : j + 1 = i
    · right
      rw [c2v_cat (h6 j _ hj1 hw)]
      decide
    · exact Or.inl hj1
def pstep {α : Type} (ins : Instr) (pc pc' : Nat) (ls : List (Option aV)) (st : List aV) (k : Nat → List (Option aV) → List aV → Option α) : Option α := match ins, st with
  | .iconst z, st => k pc' ls (vI z :: st)
  | .bipush z, st => match decide (-128 ≤ z ∧ z ≤ 127) with
    | true => k pc' ls (vI z :: st)
    | false => none
  | .sipush z, st => match decide (-32768 ≤ z ∧ z ≤ 32767) with
    | true => k pc' ls (vI z :: st)
    | false => none
  | .aconst_null, st => k pc' ls (vN :: st)
  | .iload i, st => match ls[i]? with
    | some (some (.inl z)) => k pc' ls (vI z :: st)
    | _ => none
  | .iload_n i, st => match ls[i.val]? with
    | some (some (.inl z)) => k pc' ls (vI z :: st)
    | _ => none
  | .aload i, st => match ls[i]? with
    | some (some (.inr (.inl z))) => k pc' ls (vO z :: st)
    | _ => none
  | .aload_n i, st => match ls[i.val]? with
    | some (some (.inr (.inl z))) => k pc' ls (vO z :: st)
    | _ => none
  | .istore i, .inl z :: st => lset ls i (vI z) (fun ls => k pc' ls st)
  | .istore_n i, .inl z :: st => lset ls i.val (vI z) (fun ls => k pc' ls st)
  | .astore i, .inr (.inl z) :: st => lset ls i (vO z) (fun ls => k pc' ls st)
  | .astore_n i, .inr (.inl z) :: st => lset ls i.val (vO z) (fun ls => k pc' ls st)
  | .iinc i c, st => match ls[i]? with
    | some (some (.inl z)) => lset ls i (vI (z + c)) (fun ls => k pc' ls st)
    | _ => none
  | .iadd, .inl b :: .inl a :: st => k pc' ls (vI (a + b) :: st)
  | .isub, .inl b :: .inl a :: st => k pc' ls (vI (a - b) :: st)
  | .imul, .inl b :: .inl a :: st => k pc' ls (vI (a * b) :: st)
  | .ineg, .inl a :: st => k pc' ls (vI (-a) :: st)
  | .dup, .inl a :: st => k pc' ls (vI a :: vI a :: st)
  | .dup, .inr (.inl a) :: st => k pc' ls (vO a :: vO a :: st)
  | .pop, .inl _ :: st => k pc' ls st
  | .pop, .inr (.inl _) :: st => k pc' ls st
  | .dup2, .inl b :: .inr (.inl a) :: st => k pc' ls (vI b :: vO a :: vI b :: vO a :: st)
  | .dup_x1, .inl b :: .inr (.inl a) :: st => k pc' ls (vI b :: vO a :: vI b :: st)
  | .goto off, st => match (pc : Int) + off with
    | .ofNat t => k t ls st
    | .negSucc _ => none
  | _, _ => none
section PS
variable {Λ : Ls} {Γ : Cx} {X : MD} {d mc ms : Nat} {Q : Rv → Mem → Nat → Prop} {M : Mem} {n kc ks : Nat}
set_option maxHeartbeats 4000000 in
theorem pstep_ok {α : Type} {ins : Instr} {pc pc' : Nat} {ls : List (Option aV)} {st : List aV} {k : Nat → List (Option aV) → List aV → Option α} {r : α}
    (hd : decode X.cc pc = .ok (ins, ilen ins)) (hp : pc' = pc + ilen ins) (h : pstep ins pc pc' ls st k = some r)
    (kk : ∀ pc1 ls1 st1, k pc1 ls1 st1 = some r → G Λ Γ X d mc ms Q pc1 ls1 st1 M n kc ks) : G Λ Γ X d mc ms Q pc ls st M n kc ks := by
  subst hp
  intro hE p e R s m args below meth c H locs ad ad0 n0 lsA hF h1 h2 hX hW hS hL hs
  have hx := hF.1.1
  have hb := hF.1.2.1
  unfold pstep at h
  split at h
  · exact lv_iconst hx hb hd rfl (kk _ _ _ h hE p e R s m args below meth c H locs ad ad0 n0 lsA hF h1 h2 hX hW hS hL ⟨trivial, hs⟩)
  · split at h
    · next hz => exact lv_bipush hx hb hd (iI_bipush (of_decide_eq_true hz)) (kk _ _ _ h hE p e R s m args below meth c H locs ad ad0 n0 lsA hF h1 h2 hX hW hS hL ⟨trivial, hs⟩)
    · cases h
  · split at h
    · next hz => exact lv_sipush hx hb hd (iI_sipush (of_decide_eq_true hz)) (kk _ _ _ h hE p e R s m args below meth c H locs ad ad0 n0 lsA hF h1 h2 hX hW hS hL ⟨trivial, hs⟩)
    · cases h
  · exact lv_null hx hb hd (kk _ _ _ h hE p e R s m args below meth c H locs ad ad0 n0 lsA hF h1 h2 hX hW hS hL ⟨trivial, hs⟩)
  · split at h
    · next hz => exact lv_iload hx hb hd (hL.2.2 _ _ hz).2 (kk _ _ _ h hE p e R s m args below meth c H locs ad ad0 n0 lsA hF h1 h2 hX hW hS hL ⟨trivial, hs⟩)
    · cases h
  · split at h
    · next hz => exact lv_iload_n hx hb hd rfl (hL.2.2 _ _ hz).2 (kk _ _ _ h hE p e R s m args below meth c H locs ad ad0 n0 lsA hF h1 h2 hX hW hS hL ⟨trivial, hs⟩)
    · cases h
  · split at h
    · next z hz =>
      have q := hL.2.2 _ _ hz
      have kk' := kk _ _ _ h hE p e R s m args below meth c H locs ad ad0 n0 lsA hF h1 h2 hX hW hS hL ⟨q.1, hs⟩
      cases z with
      | none => exact lv_aloadN hx hb hd q.2 kk'
      | some z => exact lv_aload hx hb hd q.2 kk'
    · cases h
  · split at h
    · next z hz =>
      have q := hL.2.2 _ _ hz
      have kk' := kk _ _ _ h hE p e R s m args below meth c H locs ad ad0 n0 lsA hF h1 h2 hX hW hS hL ⟨q.1, hs⟩
      cases z with
      | none => exact lv_aload_nN hx hb hd rfl q.2 kk'
      | some z => exact lv_aload_n hx hb hd rfl q.2 kk'
    · cases h
  · obtain ⟨l', q1, q2, q3, q4, q5, q6⟩ := lset_ok _ _ _ _ _ h
    exact lv_istore hx hb hd (e_all_has hL.2.1) (by rw [← hL.1]; exact q3) rfl (fun lsB hB => kk _ _ _ q1 hE p e R s m args below meth c H locs ad ad0 n0 lsB hF h1 h2 hX hW hS (e_LR_store (v := vI _) hL trivial hB q2 q4 q5 q6) hs.2)
  · obtain ⟨l', q1, q2, q3, q4, q5, q6⟩ := lset_ok _ _ _ _ _ h
    exact lv_istore_n hx hb hd rfl (e_all_has hL.2.1) (by rw [← hL.1]; exact q3) rfl (fun lsB hB => kk _ _ _ q1 hE p e R s m args below meth c H locs ad ad0 n0 lsB hF h1 h2 hX hW hS (e_LR_store (v := vI _) hL trivial hB q2 q4 q5 q6) hs.2)
  · next z st =>
    obtain ⟨l', q1, q2, q3, q4, q5, q6⟩ := lset_ok _ _ _ _ _ h
    cases z with
    | none => exact lv_astoreN hx hb hd (e_all_has hL.2.1) (by rw [← hL.1]; exact q3) rfl (fun lsB hB => kk _ _ _ q1 hE p e R s m args below meth c H locs ad ad0 n0 lsB hF h1 h2 hX hW hS (e_LR_store (v := vN) hL hs.1 hB q2 q4 q5 q6) hs.2)
    | some z => exact lv_astore hx hb hd (e_all_has hL.2.1) (by rw [← hL.1]; exact q3) rfl (fun lsB hB => kk _ _ _ q1 hE p e R s m args below meth c H locs ad ad0 n0 lsB hF h1 h2 hX hW hS (e_LR_store (v := vR z) hL hs.1 hB q2 q4 q5 q6) hs.2)
  · next z st =>
    obtain ⟨l', q1, q2, q3, q4, q5, q6⟩ := lset_ok _ _ _ _ _ h
    cases z with
    | none => exact lv_astore_nN hx hb hd rfl (e_all_has hL.2.1) (by rw [← hL.1]; exact q3) rfl (fun lsB hB => kk _ _ _ q1 hE p e R s m args below meth c H locs ad ad0 n0 lsB hF h1 h2 hX hW hS (e_LR_store (v := vN) hL hs.1 hB q2 q4 q5 q6) hs.2)
    | some z => exact lv_astore_n hx hb hd rfl (e_all_has hL.2.1) (by rw [← hL.1]; exact q3) rfl (fun lsB hB => kk _ _ _ q1 hE p e R s m args below meth c H locs ad ad0 n0 lsB hF h1 h2 hX hW hS (e_LR_store (v := vR z) hL hs.1 hB q2 q4 q5 q6) hs.2)
  · next st i cst =>
    split at h
    · next z hz =>
      have q := (hL.2.2 _ _ hz).2
      obtain ⟨l', q1, q2, q3, q4, q5, q6⟩ := lset_ok _ _ _ _ _ h
      obtain ⟨kq, hk⟩ := List.getElem?_of_mem (e_all_mem.mpr q)
      exact lv_iinc hx hb hd (e_all_has hL.2.1) hk (v := iI (z + cst)) (iI_add _ _).symm (by rw [← hL.1]; exact q3) rfl (fun lsB hB => kk _ _ _ q1 hE p e R s m args below meth c H locs ad ad0 n0 lsB hF h1 h2 hX hW hS (e_LR_store (v := vI _) hL trivial hB q2 q4 q5 q6) hs)
    · cases h
  · next b a st => exact lv_iadd hx hb hd (W.eq (g2 := F0 m (pc + 1) lsA (.int (iI (a + b)) :: st.map (e_cv ad))) (by rw [iI_add]) (kk _ _ _ h hE p e R s m args below meth c H locs ad ad0 n0 lsA hF h1 h2 hX hW hS hL ⟨trivial, hs.2.2⟩))
  · next b a st => exact lv_isub hx hb hd (W.eq (g2 := F0 m (pc + 1) lsA (.int (iI (a - b)) :: st.map (e_cv ad))) (by rw [iI_sub]) (kk _ _ _ h hE p e R s m args below meth c H locs ad ad0 n0 lsA hF h1 h2 hX hW hS hL ⟨trivial, hs.2.2⟩))
  · next b a st => exact lv_imul hx hb hd (W.eq (g2 := F0 m (pc + 1) lsA (.int (iI (a * b)) :: st.map (e_cv ad))) (by rw [iI_mul]) (kk _ _ _ h hE p e R s m args below meth c H locs ad ad0 n0 lsA hF h1 h2 hX hW hS hL ⟨trivial, hs.2.2⟩))
  · next a st => exact lv_ineg hx hb hd (W.eq (g2 := F0 m (pc + 1) lsA (.int (iI (-a)) :: st.map (e_cv ad))) (by rw [iI_neg]) (kk _ _ _ h hE p e R s m args below meth c H locs ad ad0 n0 lsA hF h1 h2 hX hW hS hL ⟨trivial, hs.2⟩))
  · exact lv_dup hx hb hd rfl (kk _ _ _ h hE p e R s m args below meth c H locs ad ad0 n0 lsA hF h1 h2 hX hW hS hL ⟨trivial, hs⟩)
  · next a st =>
    have kk' := kk _ _ _ h hE p e R s m args below meth c H locs ad ad0 n0 lsA hF h1 h2 hX hW hS hL ⟨hs.1, hs⟩
    cases a with
    | none => exact lv_dup hx hb hd rfl kk'
    | some a => exact lv_dup hx hb hd rfl kk'
  · exact lv_pop hx hb hd rfl (kk _ _ _ h hE p e R s m args below meth c H locs ad ad0 n0 lsA hF h1 h2 hX hW hS hL hs.2)
  · next a st =>
    have kk' := kk _ _ _ h hE p e R s m args below meth c H locs ad ad0 n0 lsA hF h1 h2 hX hW hS hL hs.2
    cases a with
    | none => exact lv_pop hx hb hd rfl kk'
    | some a => exact lv_pop hx hb hd rfl kk'
  · next b a st =>
    have kk' := kk _ _ _ h hE p e R s m args below meth c H locs ad ad0 n0 lsA hF h1 h2 hX hW hS hL ⟨trivial, hs.2.1, hs⟩
    cases a with
    | none => exact lv_dup2_11 hx hb hd rfl rfl kk'
    | some a => exact lv_dup2_11 hx hb hd rfl rfl kk'
  · next b a st =>
    have kk' := kk _ _ _ h hE p e R s m args below meth c H locs ad ad0 n0 lsA hF h1 h2 hX hW hS hL ⟨trivial, hs.2.1, trivial, hs.2.2⟩
    cases a with
    | none => exact lv_dup_x1 hx hb hd rfl rfl kk'
    | some a => exact lv_dup_x1 hx hb hd rfl rfl kk'
  · split at h
    · next t ht => exact lv_goto hx hb hd ht (kk _ _ _ h hE p e R s m args below meth c H locs ad ad0 n0 lsA hF h1 h2 hX hW hS hL hs)
    · cases h
  · cases h
def prun {α : Type} (L : List (Nat × Instr × Nat)) (pc : Nat) (ls : List (Option aV)) (st : List aV) (k : Nat → List (Option aV) → List aV → Option α) : Option α := match L with
  | [] => k pc ls st
  | (q, i, q') :: r => match Nat.beq q pc with
    | true => pstep i q q' ls st (fun pc ls st => prun r pc ls st k)
    | false => none
theorem prun_ok {α : Type} {L0 : List (Nat × Instr × Nat)} (ht : e_tb X.cc L0 = true) {k : Nat → List (Option aV) → List aV → Option α} {r : α} : ∀ (L : List (Nat × Instr × Nat)), (∀ q ∈ L, q ∈ L0) → ∀ (pc : Nat) (ls : List (Option aV)) (st : List aV), prun L pc ls st k = some r →
    (∀ pc1 ls1 st1, k pc1 ls1 st1 = some r → G Λ Γ X d mc ms Q pc1 ls1 st1 M n kc ks) → G Λ Γ X d mc ms Q pc ls st M n kc ks
  | [], _, pc, ls, st, h, kk => kk _ _ _ h
  | (q, i, q') :: t, hL, pc, ls, st, h, kk => by
    unfold prun at h
    split at h
    · next hq =>
      obtain rfl : q = pc := Nat.eq_of_beq_eq_true hq
      obtain ⟨e1, e2⟩ := e_tb_mem ht (hL _ List.mem_cons_self)
      exact pstep_ok e1 e2 h (fun pc1 ls1 st1 h1 => prun_ok ht t (fun z hz => hL z (List.mem_cons_of_mem _ hz)) pc1 ls1 st1 h1 kk)
    · cases h
/-- m instructions from the i-th on, computed -/
theorem g_run (i m : Nat) {pc pc' : Nat} {ls ls' : List (Option aV)} {st st' : List aV} (h : prun ((X.tb.drop i).take m) pc ls st (fun a b c => some (a, b, c)) = some (pc', ls', st')) (kk : G Λ Γ X d mc ms Q pc' ls' st' M n kc ks) : G Λ Γ X d mc ms Q pc ls st M n kc ks := by
  intro hE p e R s mm args below meth c H locs ad ad0 n0 lsA hF
  refine prun_ok (X := X) hF.1.2.2.2.2.2.2.2.2.2 ((X.tb.drop i).take m) (fun q hq => List.mem_of_mem_drop (List.mem_of_mem_take hq)) pc ls st h (fun pc1 ls1 st1 h1 => ?_) hE p e R s mm args below meth c H locs ad ad0 n0 lsA hF
  cases h1
  exact kk
end PS
