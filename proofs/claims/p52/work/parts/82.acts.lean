/-! the law's acts (wip/p52/gen/c_acts.py prints this part) -/
abbrev wl (j : Nat) : Nat := (e_words.getD j []).length
theorem words_ok : ∀ j, j < 10 → wl j ≤ 8 ∧ ∀ i, i < wl j → 32 ≤ (e_words.getD j []).getD i 0 ∧ (e_words.getD j []).getD i 0 ≤ 126 := by decide
section AC
variable {r0 : Option Nat} {Γ : Cx} {M M' : Mem} {n n' n0 b c kc ks : Nat} {B : Int} {σ ρ : HS} {r : Nat → HS} {f c5 : Nat} {sv : Int} {Q : Rv → Mem → Nat → Prop} {ls : List (Option aV)} {st : List aV} {pc pc1 pc2 pc3 : Nat}
theorem STR_c (hS : KS Γ) (hl : ∀ k, k < 100 → M k = Γ.cM k) (lo hi j : Nat) (hj : j < 10) : STR M lo hi (40 + j) (wl j) (fun i => (e_words.getD j []).getD i 0) := by
  obtain ⟨L, xs, e, -⟩ := hS
  refine ⟨by have := (words_ok j hj).1; omega, Or.inl ⟨by omega, ?_, ?_⟩⟩
  · rw [hl _ (by omega), e]
    match j, hj with
    | 0, _ => rfl | 1, _ => rfl | 2, _ => rfl | 3, _ => rfl | 4, _ => rfl | 5, _ => rfl | 6, _ => rfl | 7, _ => rfl | 8, _ => rfl | 9, _ => rfl
  · rw [hl _ (by omega), e]
    match j, hj with
    | 0, _ => rfl | 1, _ => rfl | 2, _ => rfl | 3, _ => rfl | 4, _ => rfl | 5, _ => rfl | 6, _ => rfl | 7, _ => rfl | 8, _ => rfl | 9, _ => rfl
theorem SB_obj (S : SB M n n0 b c) : ∃ fs : List aV, M b = cO 1 fs := by
  obtain ⟨v, cap, f, -, -, ⟨-, -, -, -, -, ⟨x, -, hx⟩, -, -⟩, -⟩ := S
  exact ⟨_, hx⟩
theorem SB_fr (S : SB M n n0 b c) (hf : ∀ q, q < n → M' q = M q) (hn : n ≤ n') : SB M' n' n0 b c := by
  obtain ⟨v, cap, f, h1, h2, H, h3, h4⟩ := S
  exact ⟨v, cap, f, ⟨h1.1, by omega⟩, ⟨h2.1, by omega⟩, BM_fr H (hf _ h1.2) (hf _ h2.2), h3, h4⟩
/-- a constant text is appended -/
theorem aq_S (i j : Nat) {idx : Nat} {tx : String} (hP : PV Γ) (hS : KS Γ) (hd : mL_acts.tb[i]? = some (pc, .ldc idx, pc1)) (hd2 : mL_acts.tb[i + 1]? = some (pc1, .invokevirtual 142, pc2)) (hq : ("BiscuitLocksLaw", idx, tx, 40 + j) ∈ e_SR) (hj : j < 10) (S : SB M n n0 b c) (h34 : c + wl j ≤ 34) (hst : e_sum st ≤ 8) (hkc : kc + 1 ≤ 100) (hks : ks + 34 ≤ 4000)
    (kk : ∀ M' n', n ≤ n' → n' ≤ n + 1 → SB M' n' n0 b (c + wl j) → (∀ q, q < n0 → M' q = M q) → G (e_L r0) Γ mL_acts 12 100 4000 Q pc2 ls (vR b :: st) M' n' (kc + 1) (ks + 34)) : G (e_L r0) Γ mL_acts 12 100 4000 Q pc ls (vR b :: st) M n kc ks := by
  refine g_low (fun hl => ?_)
  obtain ⟨fs, hb⟩ := SB_obj S
  refine g_ldcS i hd hq ?_
  refine g_callV (i + 1) hd2 cv_RL_142 hb (j_appS hP S (STR_c hS hl b n j hj) (words_ok j hj).2 h34) rfl rfl (by decide) hkc hks hst (fun v9 M1 n1 h9 _ => ?_) (fun E M1 n1 h9 _ => by cases h9.1)
  obtain ⟨e9, h1, h2, h3, h4⟩ := h9
  cases e9
  exact kk M1 n1 h1 h2 h3 h4
/-- a number is appended -/
theorem aq_I (i : Nat) (hP : PV Γ) (hS : KS Γ) (hd : mL_acts.tb[i]? = some (pc, .invokevirtual 146, pc2)) (z : Int) (hz : 0 ≤ z ∧ z ≤ 99) (S : SB M n n0 b c) (h34 : c + sL z ≤ 34) (hst : e_sum st ≤ 8) (hkc : kc + 1 ≤ 100) (hks : ks + 34 ≤ 4000)
    (kk : ∀ M' n', n ≤ n' → n' ≤ n + 1 → SB M' n' n0 b (c + sL z) → (∀ q, q < n0 → M' q = M q) → G (e_L r0) Γ mL_acts 12 100 4000 Q pc2 ls (vR b :: st) M' n' (kc + 1) (ks + 34)) : G (e_L r0) Γ mL_acts 12 100 4000 Q pc ls (vI z :: vR b :: st) M n kc ks := by
  obtain ⟨fs, hb⟩ := SB_obj S
  refine g_callV i hd cv_RL_146 hb (j_appIS (KS_KM hS) hP S z hz h34) rfl rfl (by decide) hkc hks hst (fun v9 M1 n1 h9 _ => ?_) (fun E M1 n1 h9 _ => by cases h9.1)
  obtain ⟨e9, h1, h2, h3, h4⟩ := h9
  cases e9
  exact kk M1 n1 h1 h2 h3 h4
/-- a new builder -/
theorem aq_N (i : Nat) (hn : 100 ≤ n) (hd : mL_acts.tb[i]? = some (pc, .new 137, pc1)) (hd2 : mL_acts.tb[i + 1]? = some (pc1, .dup, pc2)) (hd3 : mL_acts.tb[i + 2]? = some (pc2, .invokespecial 139, pc3)) (hst : e_sum st ≤ 6) (hkc : kc + 2 ≤ 100) (hks : ks + 20 ≤ 4000)
    (kk : ∀ M', SB M' (n + 2) n n 0 → (∀ q, q < n → M' q = M q) → G (e_L r0) Γ mL_acts 12 100 4000 Q pc3 ls (vR n :: st) M' (n + 2) (kc + 1 + 1) (ks + 4 + 16)) (hrun : ∀ M', G (e_L r0) Γ mL_acts 12 100 4000 Q pc2 ls (vR n :: vR n :: st) M' (n + 1) (kc + 1) (ks + 4) → G (e_L r0) Γ mL_acts 12 100 4000 Q pc1 ls (vR n :: st) M' (n + 1) (kc + 1) (ks + 4)) : G (e_L r0) Γ mL_acts 12 100 4000 Q pc ls st M n kc ks := by
  refine g_new i hd nw_RL_137 (by omega) (by omega) (fun M0 hM0 => ?_)
  refine hrun M0 ?_
  refine g_callI (i + 2) hd3 ci_RL_139 (j_initS hn rfl ((congrFun hM0 n).trans (va_up_self _ _ _))) rfl rfl (by decide) (by omega) (by omega) (by show e_ct (vR n) + e_sum st ≤ 8; have : e_ct (vR n) = 1 := rfl; omega) (e_kw fun M1 hq => ?_) e_kwx
  exact kk M1 hq.1 (fun q hq9 => (hq.2 q hq9).trans (by rw [hM0, va_up_ne _ _ (by omega)]))
/-- the text is taken -/
theorem aq_T (i : Nat) (hd : mL_acts.tb[i]? = some (pc, .invokevirtual 153, pc2)) (S : SB M n n0 b c) (h34 : c ≤ 34) (hst : e_sum st ≤ 8) (hkc : kc + 2 ≤ 100) (hks : ks + 38 ≤ 4000)
    (kk : ∀ (M' : Mem) (g : Nat → Int), M' n = cO 0 [vR (n + 1), vI 0, vI 0, vI 0] → M' (n + 1) = cI 2 c g → (∀ j, j < c → 32 ≤ g j ∧ g j ≤ 126) → (∀ q, q < n → M' q = M q) → G (e_L r0) Γ mL_acts 12 100 4000 Q pc2 ls (vR n :: st) M' (n + 2) (kc + 2) (ks + 38)) : G (e_L r0) Γ mL_acts 12 100 4000 Q pc ls (vR b :: st) M n kc ks := by
  obtain ⟨fs, hb⟩ := SB_obj S
  refine g_callV i hd cv_RL_153 hb (j_toS S h34) rfl rfl (by decide) hkc hks hst (e_kw fun M1 hq => ?_) e_kwx
  obtain ⟨g, h1, h2, h3, h4⟩ := hq
  exact kk M1 g h1 h2 h3 h4
theorem PXv_of {a k : Nat} (h : PX M n σ ρ r f c5 sv 0) (hn : 373 ≤ n) (hf : ∀ q, q < n → M' q = M q) (hn' : n ≤ n') (ha : n ≤ a) (hk : n ≤ k) : PXv M' n' σ ρ r f c5 sv 0 a k := by
  obtain ⟨τ, ep, fp, v, cap, t, nm, pl, s, a1, a2, a3, a4, a5, a6, a7, a8, a9⟩ := h
  exact ⟨τ, ep, fp, v, cap, t, nm, pl, s, ⟨by omega, by omega⟩, (hf _ (by omega)).trans a1, HM_e (fun k h1 h2 => hf k (by omega)) a2, HM_e (fun k h1 h2 => hf k (by omega)) a3, HM_e (fun k h1 h2 => hf k (by omega)) a4, YM_e (fun k h1 h2 => hf k (by omega)) a5, SM_fr a6 (fun k hk => hf k (by omega)), BM_fr a7 (hf _ (by omega)) (hf _ (by omega)), by omega, a9⟩
theorem DE_back {z : Int} {M2 : Mem} {n2 : Nat} (hf : ∀ q, q < n → M' q = M q) (hn : n ≤ n') (q : DEp B M' n' σ ρ r f c5 sv z M2 n2) : DEp B M n σ ρ r f c5 sv z M2 n2 := ⟨Nat.le_trans hn q.1, fun k g h1 h2 h3 => (q.2.1 k g h1 (by omega) ((hf k h2).trans h3)).trans (hf k h2), q.2.2⟩
end AC
section AD
variable {r0 : Option Nat} {Γ : Cx} {M : Mem} {n : Nat} {B : Int} {σ ρ : HS} {r : Nat → HS} {f c5 : Nat} {sv : Int}
theorem at_end (hP : PV Γ) (hS : KS Γ) (h : PZ B M n σ ρ r f c5 sv) (hB : B + 2400 ≤ 100000) (i a b c : Int) (ha : 0 ≤ a ∧ a < 7) (hb : 0 ≤ b ∧ b < 10) (hc : 0 ≤ c ∧ c < 60) {M1 : Mem} {n1 kc ks no ni nk L l : Nat} {g : Nat → Int} (hn1 : n ≤ no) (S : SB M1 n1 n no L) (hno : no < nk) (hnk : nk + 1 < n1) (hL : L ≤ 7) (hl : l ≤ 20) (hM : M1 nk = cO 0 [vR (nk + 1), vI 0, vI 0, vI 0]) (hV : M1 (nk + 1) = cI 2 l g) (hg : ∀ j, j < l → 32 ≤ g j ∧ g j ≤ 126) (hf : ∀ q, q < n → M1 q = M q) (hkc : kc ≤ 40) (hks : ks ≤ 1500) : G (e_L r0) Γ mL_acts 12 100 4000 (DE B M n σ ρ r f c5 sv) 495 [some (vR 100), some (vR 60), some (vI i), some (vI a), some (vI b), some (vI c)] [vR nk, vR no, vR 100] M1 n1 kc ks := by
  have hZ := h
  obtain ⟨hn, pb, hX⟩ := h
  obtain ⟨fs, hob⟩ := SB_obj S
  refine g_callV 214 rfl cv_RL_142 hob (j_appS hP S (k := nk) (len := l) (g := g) ⟨by omega, Or.inr ⟨nk + 1, ⟨⟨by omega, by omega⟩, ⟨by omega, by omega⟩⟩, hM, hV⟩⟩ hg (by omega)) rfl rfl (by decide) (by omega) (by omega) (Nat.le_of_ble_eq_true rfl) (fun v9 M2 n2 h9 _ => ?_) (fun E M2 n2 h9 _ => by cases h9.1)
  obtain ⟨e9, k1, k2, k3, k4⟩ := h9
  cases e9
  refine aq_T 215 rfl k3 (by omega) (Nat.le_of_ble_eq_true rfl) (by omega) (by omega) (fun M3 g3 x1 x2 x3 x4 => ?_)
  have hf3 : ∀ q, q < n → M3 q = M q := fun q hq => (x4 q (by omega)).trans ((k4 q hq).trans (hf q hq))
  refine g_callS 216 rfl cs_RL_171 (l_does (KS_KM hS) hP (by omega) pb hB (PXv_of hX hn hf3 (by omega) (by omega) (by omega)) x2 x1 x3 (by omega) (by omega) (by omega)) rfl rfl (by decide) (by omega) (by omega) (Nat.le_of_ble_eq_true rfl) (e_kz fun z M4 n4 q => ?_) e_kzx
  exact g_iret 217 rfl rfl trivial ⟨z, rfl, DE_back hf3 (by omega) q⟩
theorem at_0 (hP : PV Γ) (hS : KS Γ) (h : PZ B M n σ ρ r f c5 sv) (hB : B + 2400 ≤ 100000) (i a b c : Int) (ha : 0 ≤ a ∧ a < 7) (hb : 0 ≤ b ∧ b < 10) (hc : 0 ≤ c ∧ c < 60) {M1 : Mem} {n1 kc ks no L : Nat} (hn1 : n ≤ no) (S : SB M1 n1 n no L) (hno : no < n1) (hL : L ≤ 7) (hf : ∀ q, q < n → M1 q = M q) (hkc : kc ≤ 6) (hks : ks ≤ 150) : G (e_L r0) Γ mL_acts 12 100 4000 (DE B M n σ ρ r f c5 sv) 322 [some (vR 100), some (vR 60), some (vI i), some (vI a), some (vI b), some (vI c)] [vR no, vR 100] M1 n1 kc ks := by
  have hn := h.1
  have sa : sL a = 1 := if_pos (by omega)
  have sb : sL b = 1 := if_pos (by omega)
  have sb3 : sL (b % 3) = 1 := if_pos (by omega)
  have sc1 : sL (c % 10) = 1 := if_pos (by omega)
  refine aq_N 137 (by omega) rfl rfl rfl (Nat.le_of_ble_eq_true rfl) (by omega) (by omega) (fun M2 S2 f2 => ?_) (fun M9 kk => g_run 138 1 rfl kk)
  refine aq_S 140 1 hP hS rfl rfl (show ("BiscuitLocksLaw", 149, ";try ", 40 + 1) ∈ e_SR by decide +kernel) (by decide) S2 (by simp only [wl, e_words, List.getD_cons_zero, List.getD_cons_succ, List.length_cons, List.length_nil, sa, sb, sb3, sc1]; omega) (Nat.le_of_ble_eq_true rfl) (by omega) (by omega) (fun M3 n3 u3 w3 S3 f3 => ?_)
  refine g_run 142 1 rfl ?_
  refine aq_I 143 hP hS rfl (a) (by omega) S3 (by simp only [wl, e_words, List.getD_cons_zero, List.getD_cons_succ, List.length_cons, List.length_nil, sa, sb, sb3, sc1]; omega) (Nat.le_of_ble_eq_true rfl) (by omega) (by omega) (fun M4 n4 u4 w4 S4 f4 => ?_)
  refine aq_S 144 2 hP hS rfl rfl (show ("BiscuitLocksLaw", 151, ";shut ", 40 + 2) ∈ e_SR by decide +kernel) (by decide) S4 (by simp only [wl, e_words, List.getD_cons_zero, List.getD_cons_succ, List.length_cons, List.length_nil, sa, sb, sb3, sc1]; omega) (Nat.le_of_ble_eq_true rfl) (by omega) (by omega) (fun M5 n5 u5 w5 S5 f5 => ?_)
  refine g_run 146 1 rfl ?_
  refine aq_I 147 hP hS rfl (a) (by omega) S5 (by simp only [wl, e_words, List.getD_cons_zero, List.getD_cons_succ, List.length_cons, List.length_nil, sa, sb, sb3, sc1]; omega) (Nat.le_of_ble_eq_true rfl) (by omega) (by omega) (fun M6 n6 u6 w6 S6 f6 => ?_)
  simp only [wl, e_words, List.getD_cons_zero, List.getD_cons_succ, List.length_cons, List.length_nil, sa, sb, sb3, sc1] at S6
  refine aq_T 148 rfl S6 (by omega) (Nat.le_of_ble_eq_true rfl) (by omega) (by omega) (fun MT g x1 x2 x3 x4 => ?_)
  have hfi : ∀ q, q < n1 → MT q = M1 q := fun q hq => (x4 q (by omega)).trans ((f6 q hq).trans ((f5 q hq).trans ((f4 q hq).trans ((f3 q hq).trans (f2 q hq)))))
  refine g_run 149 1 rfl ?_
  exact at_end hP hS h hB i a b c ha hb hc (ni := 0) hn1 (SB_fr S hfi (by omega)) (by omega) (by omega) hL (by omega) x1 x2 x3 (fun q hq => (hfi q (by omega)).trans (hf q hq)) (by omega) (by omega)
theorem at_1 (hP : PV Γ) (hS : KS Γ) (h : PZ B M n σ ρ r f c5 sv) (hB : B + 2400 ≤ 100000) (i a b c : Int) (ha : 0 ≤ a ∧ a < 7) (hb : 0 ≤ b ∧ b < 10) (hc : 0 ≤ c ∧ c < 60) {M1 : Mem} {n1 kc ks no L : Nat} (hn1 : n ≤ no) (S : SB M1 n1 n no L) (hno : no < n1) (hL : L ≤ 7) (hf : ∀ q, q < n → M1 q = M q) (hkc : kc ≤ 6) (hks : ks ≤ 150) : G (e_L r0) Γ mL_acts 12 100 4000 (DE B M n σ ρ r f c5 sv) 361 [some (vR 100), some (vR 60), some (vI i), some (vI a), some (vI b), some (vI c)] [vR no, vR 100] M1 n1 kc ks := by
  have hn := h.1
  have sa : sL a = 1 := if_pos (by omega)
  have sb : sL b = 1 := if_pos (by omega)
  have sb3 : sL (b % 3) = 1 := if_pos (by omega)
  have sc1 : sL (c % 10) = 1 := if_pos (by omega)
  refine aq_N 155 (by omega) rfl rfl rfl (Nat.le_of_ble_eq_true rfl) (by omega) (by omega) (fun M2 S2 f2 => ?_) (fun M9 kk => g_run 156 1 rfl kk)
  refine aq_S 158 3 hP hS rfl rfl (show ("BiscuitLocksLaw", 157, ";turn ", 40 + 3) ∈ e_SR by decide +kernel) (by decide) S2 (by simp only [wl, e_words, List.getD_cons_zero, List.getD_cons_succ, List.length_cons, List.length_nil, sa, sb, sb3, sc1]; omega) (Nat.le_of_ble_eq_true rfl) (by omega) (by omega) (fun M3 n3 u3 w3 S3 f3 => ?_)
  refine g_run 160 1 rfl ?_
  refine aq_I 161 hP hS rfl (a) (by omega) S3 (by simp only [wl, e_words, List.getD_cons_zero, List.getD_cons_succ, List.length_cons, List.length_nil, sa, sb, sb3, sc1]; omega) (Nat.le_of_ble_eq_true rfl) (by omega) (by omega) (fun M4 n4 u4 w4 S4 f4 => ?_)
  refine g_run 162 2 rfl ?_
  refine g_irem 164 rfl (by omega) (by omega) ?_
  refine aq_I 165 hP hS rfl (b % 3) (by omega) S4 (by simp only [wl, e_words, List.getD_cons_zero, List.getD_cons_succ, List.length_cons, List.length_nil, sa, sb, sb3, sc1]; omega) (Nat.le_of_ble_eq_true rfl) (by omega) (by omega) (fun M5 n5 u5 w5 S5 f5 => ?_)
  refine aq_S 166 4 hP hS rfl rfl (show ("BiscuitLocksLaw", 159, "-", 40 + 4) ∈ e_SR by decide +kernel) (by decide) S5 (by simp only [wl, e_words, List.getD_cons_zero, List.getD_cons_succ, List.length_cons, List.length_nil, sa, sb, sb3, sc1]; omega) (Nat.le_of_ble_eq_true rfl) (by omega) (by omega) (fun M6 n6 u6 w6 S6 f6 => ?_)
  refine g_run 168 1 rfl ?_
  refine aq_I 169 hP hS rfl (b) (by omega) S6 (by simp only [wl, e_words, List.getD_cons_zero, List.getD_cons_succ, List.length_cons, List.length_nil, sa, sb, sb3, sc1]; omega) (Nat.le_of_ble_eq_true rfl) (by omega) (by omega) (fun M7 n7 u7 w7 S7 f7 => ?_)
  refine aq_S 170 1 hP hS rfl rfl (show ("BiscuitLocksLaw", 149, ";try ", 40 + 1) ∈ e_SR by decide +kernel) (by decide) S7 (by simp only [wl, e_words, List.getD_cons_zero, List.getD_cons_succ, List.length_cons, List.length_nil, sa, sb, sb3, sc1]; omega) (Nat.le_of_ble_eq_true rfl) (by omega) (by omega) (fun M8 n8 u8 w8 S8 f8 => ?_)
  refine g_run 172 1 rfl ?_
  refine aq_I 173 hP hS rfl (a) (by omega) S8 (by simp only [wl, e_words, List.getD_cons_zero, List.getD_cons_succ, List.length_cons, List.length_nil, sa, sb, sb3, sc1]; omega) (Nat.le_of_ble_eq_true rfl) (by omega) (by omega) (fun M9 n9 u9 w9 S9 f9 => ?_)
  simp only [wl, e_words, List.getD_cons_zero, List.getD_cons_succ, List.length_cons, List.length_nil, sa, sb, sb3, sc1] at S9
  refine aq_T 174 rfl S9 (by omega) (Nat.le_of_ble_eq_true rfl) (by omega) (by omega) (fun MT g x1 x2 x3 x4 => ?_)
  have hfi : ∀ q, q < n1 → MT q = M1 q := fun q hq => (x4 q (by omega)).trans ((f9 q hq).trans ((f8 q hq).trans ((f7 q hq).trans ((f6 q hq).trans ((f5 q hq).trans ((f4 q hq).trans ((f3 q hq).trans (f2 q hq))))))))
  refine g_run 175 1 rfl ?_
  exact at_end hP hS h hB i a b c ha hb hc (ni := 0) hn1 (SB_fr S hfi (by omega)) (by omega) (by omega) hL (by omega) x1 x2 x3 (fun q hq => (hfi q (by omega)).trans (hf q hq)) (by omega) (by omega)
theorem at_2 (hP : PV Γ) (hS : KS Γ) (h : PZ B M n σ ρ r f c5 sv) (hB : B + 2400 ≤ 100000) (i a b c : Int) (ha : 0 ≤ a ∧ a < 7) (hb : 0 ≤ b ∧ b < 10) (hc : 0 ≤ c ∧ c < 60) {M1 : Mem} {n1 kc ks no L : Nat} (hn1 : n ≤ no) (S : SB M1 n1 n no L) (hno : no < n1) (hL : L ≤ 7) (hf : ∀ q, q < n → M1 q = M q) (hkc : kc ≤ 6) (hks : ks ≤ 150) : G (e_L r0) Γ mL_acts 12 100 4000 (DE B M n σ ρ r f c5 sv) 417 [some (vR 100), some (vR 60), some (vI i), some (vI a), some (vI b), some (vI c)] [vR no, vR 100] M1 n1 kc ks := by
  have hn := h.1
  have sa : sL a = 1 := if_pos (by omega)
  have sb : sL b = 1 := if_pos (by omega)
  have sb3 : sL (b % 3) = 1 := if_pos (by omega)
  have sc1 : sL (c % 10) = 1 := if_pos (by omega)
  refine aq_N 181 (by omega) rfl rfl rfl (Nat.le_of_ble_eq_true rfl) (by omega) (by omega) (fun M2 S2 f2 => ?_) (fun M9 kk => g_run 182 1 rfl kk)
  refine aq_S 184 5 hP hS rfl rfl (show ("BiscuitLocksLaw", 161, ";bake ", 40 + 5) ∈ e_SR by decide +kernel) (by decide) S2 (by simp only [wl, e_words, List.getD_cons_zero, List.getD_cons_succ, List.length_cons, List.length_nil, sa, sb, sb3, sc1]; omega) (Nat.le_of_ble_eq_true rfl) (by omega) (by omega) (fun M3 n3 u3 w3 S3 f3 => ?_)
  refine g_run 186 1 rfl ?_
  refine aq_I 187 hP hS rfl (a) (by omega) S3 (by simp only [wl, e_words, List.getD_cons_zero, List.getD_cons_succ, List.length_cons, List.length_nil, sa, sb, sb3, sc1]; omega) (Nat.le_of_ble_eq_true rfl) (by omega) (by omega) (fun M4 n4 u4 w4 S4 f4 => ?_)
  refine aq_S 188 6 hP hS rfl rfl (show ("BiscuitLocksLaw", 163, " 1;hour", 40 + 6) ∈ e_SR by decide +kernel) (by decide) S4 (by simp only [wl, e_words, List.getD_cons_zero, List.getD_cons_succ, List.length_cons, List.length_nil, sa, sb, sb3, sc1]; omega) (Nat.le_of_ble_eq_true rfl) (by omega) (by omega) (fun M5 n5 u5 w5 S5 f5 => ?_)
  simp only [wl, e_words, List.getD_cons_zero, List.getD_cons_succ, List.length_cons, List.length_nil, sa, sb, sb3, sc1] at S5
  refine aq_T 190 rfl S5 (by omega) (Nat.le_of_ble_eq_true rfl) (by omega) (by omega) (fun MT g x1 x2 x3 x4 => ?_)
  have hfi : ∀ q, q < n1 → MT q = M1 q := fun q hq => (x4 q (by omega)).trans ((f5 q hq).trans ((f4 q hq).trans ((f3 q hq).trans (f2 q hq))))
  refine g_run 191 1 rfl ?_
  exact at_end hP hS h hB i a b c ha hb hc (ni := 0) hn1 (SB_fr S hfi (by omega)) (by omega) (by omega) hL (by omega) x1 x2 x3 (fun q hq => (hfi q (by omega)).trans (hf q hq)) (by omega) (by omega)
theorem at_3 (hP : PV Γ) (hS : KS Γ) (h : PZ B M n σ ρ r f c5 sv) (hB : B + 2400 ≤ 100000) (i a b c : Int) (ha : 0 ≤ a ∧ a < 7) (hb : 0 ≤ b ∧ b < 10) (hc : 0 ≤ c ∧ c < 60) {M1 : Mem} {n1 kc ks no L : Nat} (hn1 : n ≤ no) (S : SB M1 n1 n no L) (hno : no < n1) (hL : L ≤ 7) (hf : ∀ q, q < n → M1 q = M q) (hkc : kc ≤ 6) (hks : ks ≤ 150) : G (e_L r0) Γ mL_acts 12 100 4000 (DE B M n σ ρ r f c5 sv) 444 [some (vR 100), some (vR 60), some (vI i), some (vI a), some (vI b), some (vI c)] [vR no, vR 100] M1 n1 kc ks := by
  have hn := h.1
  have sa : sL a = 1 := if_pos (by omega)
  have sb : sL b = 1 := if_pos (by omega)
  have sb3 : sL (b % 3) = 1 := if_pos (by omega)
  have sc1 : sL (c % 10) = 1 := if_pos (by omega)
  refine aq_N 192 (by omega) rfl rfl rfl (Nat.le_of_ble_eq_true rfl) (by omega) (by omega) (fun M2 S2 f2 => ?_) (fun M9 kk => g_run 193 1 rfl kk)
  refine aq_S 195 7 hP hS rfl rfl (show ("BiscuitLocksLaw", 165, ";damp ", 40 + 7) ∈ e_SR by decide +kernel) (by decide) S2 (by simp only [wl, e_words, List.getD_cons_zero, List.getD_cons_succ, List.length_cons, List.length_nil, sa, sb, sb3, sc1]; omega) (Nat.le_of_ble_eq_true rfl) (by omega) (by omega) (fun M3 n3 u3 w3 S3 f3 => ?_)
  refine g_run 197 1 rfl ?_
  refine aq_I 198 hP hS rfl (b) (by omega) S3 (by simp only [wl, e_words, List.getD_cons_zero, List.getD_cons_succ, List.length_cons, List.length_nil, sa, sb, sb3, sc1]; omega) (Nat.le_of_ble_eq_true rfl) (by omega) (by omega) (fun M4 n4 u4 w4 S4 f4 => ?_)
  refine aq_S 199 8 hP hS rfl rfl (show ("BiscuitLocksLaw", 167, ";set ", 40 + 8) ∈ e_SR by decide +kernel) (by decide) S4 (by simp only [wl, e_words, List.getD_cons_zero, List.getD_cons_succ, List.length_cons, List.length_nil, sa, sb, sb3, sc1]; omega) (Nat.le_of_ble_eq_true rfl) (by omega) (by omega) (fun M5 n5 u5 w5 S5 f5 => ?_)
  refine g_run 201 1 rfl ?_
  refine aq_I 202 hP hS rfl (a) (by omega) S5 (by simp only [wl, e_words, List.getD_cons_zero, List.getD_cons_succ, List.length_cons, List.length_nil, sa, sb, sb3, sc1]; omega) (Nat.le_of_ble_eq_true rfl) (by omega) (by omega) (fun M6 n6 u6 w6 S6 f6 => ?_)
  refine aq_S 203 9 hP hS rfl rfl (show ("BiscuitLocksLaw", 169, " ", 40 + 9) ∈ e_SR by decide +kernel) (by decide) S6 (by simp only [wl, e_words, List.getD_cons_zero, List.getD_cons_succ, List.length_cons, List.length_nil, sa, sb, sb3, sc1]; omega) (Nat.le_of_ble_eq_true rfl) (by omega) (by omega) (fun M7 n7 u7 w7 S7 f7 => ?_)
  refine g_run 205 1 rfl ?_
  refine aq_I 206 hP hS rfl (a) (by omega) S7 (by simp only [wl, e_words, List.getD_cons_zero, List.getD_cons_succ, List.length_cons, List.length_nil, sa, sb, sb3, sc1]; omega) (Nat.le_of_ble_eq_true rfl) (by omega) (by omega) (fun M8 n8 u8 w8 S8 f8 => ?_)
  refine g_run 207 1 rfl ?_
  refine aq_I 208 hP hS rfl (b) (by omega) S8 (by simp only [wl, e_words, List.getD_cons_zero, List.getD_cons_succ, List.length_cons, List.length_nil, sa, sb, sb3, sc1]; omega) (Nat.le_of_ble_eq_true rfl) (by omega) (by omega) (fun M9 n9 u9 w9 S9 f9 => ?_)
  refine g_run 209 2 rfl ?_
  refine g_irem 211 rfl (by omega) (by omega) ?_
  refine aq_I 212 hP hS rfl (c % 10) (by omega) S9 (by simp only [wl, e_words, List.getD_cons_zero, List.getD_cons_succ, List.length_cons, List.length_nil, sa, sb, sb3, sc1]; omega) (Nat.le_of_ble_eq_true rfl) (by omega) (by omega) (fun M10 n10 u10 w10 S10 f10 => ?_)
  simp only [wl, e_words, List.getD_cons_zero, List.getD_cons_succ, List.length_cons, List.length_nil, sa, sb, sb3, sc1] at S10
  refine aq_T 213 rfl S10 (by omega) (Nat.le_of_ble_eq_true rfl) (by omega) (by omega) (fun MT g x1 x2 x3 x4 => ?_)
  have hfi : ∀ q, q < n1 → MT q = M1 q := fun q hq => (x4 q (by omega)).trans ((f10 q hq).trans ((f9 q hq).trans ((f8 q hq).trans ((f7 q hq).trans ((f6 q hq).trans ((f5 q hq).trans ((f4 q hq).trans ((f3 q hq).trans (f2 q hq)))))))))
  exact at_end hP hS h hB i a b c ha hb hc (ni := 0) hn1 (SB_fr S hfi (by omega)) (by omega) (by omega) hL (by omega) x1 x2 x3 (fun q hq => (hfi q (by omega)).trans (hf q hq)) (by omega) (by omega)
theorem at_t (hP : PV Γ) (hS : KS Γ) (h : PZ B M n σ ρ r f c5 sv) (hB : B + 2400 ≤ 100000) (i a b c : Int) (ha : 0 ≤ a ∧ a < 7) (hb : 0 ≤ b ∧ b < 10) (hc : 0 ≤ c ∧ c < 60) : G (e_L r0) Γ mL_acts 12 100 4000 (DE B M n σ ρ r f c5 sv) 295 [some (vR 100), some (vR 60), some (vI i), some (vI a), some (vI b), some (vI c)] [] M n 0 0 := by
  have hn := h.1
  have sc : sL (1 + c) ≤ 2 := (sL_rng _).2
  refine g_run 123 1 rfl ?_
  refine aq_N 124 (by omega) rfl rfl rfl (Nat.le_of_ble_eq_true rfl) (by omega) (by omega) (fun M2 S2 f2 => ?_) (fun M9 kk => g_run 125 1 rfl kk)
  refine aq_S 127 0 hP hS rfl rfl (show ("BiscuitLocksLaw", 140, "hour ", 40 + 0) ∈ e_SR by decide +kernel) (by decide) S2 (by simp only [wl, e_words, List.getD_cons_zero, List.length_cons, List.length_nil]; omega) (Nat.le_of_ble_eq_true rfl) (by omega) (by omega) (fun M3 n3 u3 w3 S3 f3 => ?_)
  refine g_run 129 3 rfl ?_
  simp only [wl, e_words, List.getD_cons_zero, List.length_cons, List.length_nil] at S3
  refine aq_I 132 hP hS rfl (1 + c) (by omega) S3 (by omega) (Nat.le_of_ble_eq_true rfl) (by omega) (by omega) (fun M4 n4 u4 w4 S4 f4 => ?_)
  have hf : ∀ q, q < n → M4 q = M q := fun q hq => (f4 q hq).trans ((f3 q hq).trans (f2 q hq))
  refine g_run 133 2 rfl ?_
  refine g_irem 135 rfl (by omega) (by omega) ?_
  refine g_if_ne 136 353 rfl rfl (by omega) (fun c1 => ?_) (fun c1 => ?_)
  · refine g_run 150 2 rfl ?_
    refine g_irem 152 rfl (by omega) (by omega) ?_
    refine g_run 153 1 rfl ?_
    refine g_icmp_ne 154 409 rfl rfl (by omega) (by omega) (fun c2 => ?_) (fun c2 => ?_)
    · refine g_run 176 2 rfl ?_
      refine g_irem 178 rfl (by omega) (by omega) ?_
      refine g_run 179 1 rfl ?_
      refine g_icmp_ne 180 444 rfl rfl (by omega) (by omega) (fun c3 => ?_) (fun c3 => ?_)
      · exact at_3 hP hS h hB i a b c ha hb hc (Nat.le_refl _) S4 (by omega) (by omega) hf (by omega) (by omega)
      · exact at_2 hP hS h hB i a b c ha hb hc (Nat.le_refl _) S4 (by omega) (by omega) hf (by omega) (by omega)
    · exact at_1 hP hS h hB i a b c ha hb hc (Nat.le_refl _) S4 (by omega) (by omega) hf (by omega) (by omega)
  · exact at_0 hP hS h hB i a b c ha hb hc (Nat.le_refl _) S4 (by omega) (by omega) hf (by omega) (by omega)
end AD
