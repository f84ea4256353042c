/-! floating point (wip/whole/gen/c_fp.py prints this part) -/
theorem n32_mod (r : UInt32) : vf_n32 r ↔ r.toNat % 2147483648 ≤ 2139095040 := by
  unfold vf_n32
  rw [UInt32.le_iff_toNat_le, UInt32.toNat_and]
  show r.toNat &&& (2 ^ 31 - 1) ≤ 2139095040 ↔ _
  rw [Nat.and_two_pow_sub_one_eq_mod]
theorem n64_mod (r : UInt64) : vf_n64 r ↔ r.toNat % 9223372036854775808 ≤ 9218868437227405312 := by
  unfold vf_n64
  rw [UInt64.le_iff_toNat_le, UInt64.toNat_and]
  show r.toNat &&& (2 ^ 63 - 1) ≤ 9218868437227405312 ↔ _
  rw [Nat.and_two_pow_sub_one_eq_mod]
/-- a datum that is a number or an infinity, of the format's size -/
def dOK (p : Nat) (qx : Int) (d : FP.Core.Datum) : Prop := match d with
  | .nan => False
  | .inf _ => True
  | .fin _ c q => c < 2 ^ p ∧ q ≤ qx
theorem enc32 {d : FP.Core.Datum} (h : dOK 24 104 d) : (FP.Core.encode FP.Core.b32 d) < 4294967296 ∧ (FP.Core.encode FP.Core.b32 d) % 2147483648 ≤ 2139095040 := by
  match d, h with
  | .inf s, _ => cases s <;> decide
  | .fin s c q, h =>
    have h1 : c < 16777216 := h.1
    have h2 : q ≤ 104 := h.2
    show (if c < 8388608 then (s.toNat * 256 + 0) * 8388608 + c else (s.toNat * 256 + ((q - (-149)).toNat + 1)) * 8388608 + (c - 8388608)) < 4294967296 ∧ (if c < 8388608 then (s.toNat * 256 + 0) * 8388608 + c else (s.toNat * 256 + ((q - (-149)).toNat + 1)) * 8388608 + (c - 8388608)) % 2147483648 ≤ 2139095040
    have hs : s.toNat = 0 ∨ s.toNat = 1 := by cases s <;> decide
    rcases hs with hs | hs <;> rw [hs] <;> split <;> omega
theorem enc64 {d : FP.Core.Datum} (h : dOK 53 971 d) : (FP.Core.encode FP.Core.b64 d) < 18446744073709551616 ∧ (FP.Core.encode FP.Core.b64 d) % 9223372036854775808 ≤ 9218868437227405312 := by
  match d, h with
  | .inf s, _ => cases s <;> decide
  | .fin s c q, h =>
    have h1 : c < 9007199254740992 := h.1
    have h2 : q ≤ 971 := h.2
    show (if c < 4503599627370496 then (s.toNat * 2048 + 0) * 4503599627370496 + c else (s.toNat * 2048 + ((q - (-1074)).toNat + 1)) * 4503599627370496 + (c - 4503599627370496)) < 18446744073709551616 ∧ (if c < 4503599627370496 then (s.toNat * 2048 + 0) * 4503599627370496 + c else (s.toNat * 2048 + ((q - (-1074)).toNat + 1)) * 4503599627370496 + (c - 4503599627370496)) % 9223372036854775808 ≤ 9218868437227405312
    have hs : s.toNat = 0 ∨ s.toNat = 1 := by cases s <;> decide
    rcases hs with hs | hs <;> rw [hs] <;> split <;> omega
theorem rr32 (s : Bool) (n d : Nat) (e : Int) : dOK 24 104 (FP.Core.roundRatio FP.Core.b32 s n d e) := by
  unfold FP.Core.roundRatio FP.Core.roundAt FP.Core.settle FP.Core.bound
  split
  · exact ⟨by decide, by decide⟩
  · split
    · next h => split
                · next h2 => exact ⟨h, h2⟩
                · trivial
    · split
      · next h2 => exact ⟨by decide, h2⟩
      · trivial
theorem rr64 (s : Bool) (n d : Nat) (e : Int) : dOK 53 971 (FP.Core.roundRatio FP.Core.b64 s n d e) := by
  unfold FP.Core.roundRatio FP.Core.roundAt FP.Core.settle FP.Core.bound
  split
  · exact ⟨by decide, by decide⟩
  · split
    · next h => split
                · next h2 => exact ⟨h, h2⟩
                · trivial
    · split
      · next h2 => exact ⟨by decide, h2⟩
      · trivial
/-- a small whole number keeps its value -/
theorem rrN (f : FP.Core.Fmt) (hp : 1 ≤ f.p) (hq : f.qmin ≤ 1 - (f.p : Int)) (hx : 0 ≤ f.qmax) {n : Nat} (h0 : 0 < n) (h1 : n < 2 ^ f.p) : FP.Core.roundRatio f false n 1 0 = .fin false (n * 2 ^ (f.p - 1 - n.log2)) ((n.log2 : Int) - ((f.p : Int) - 1)) ∧ f.tails ≤ n * 2 ^ (f.p - 1 - n.log2) ∧ n * 2 ^ (f.p - 1 - n.log2) < 2 ^ f.p ∧ n.log2 ≤ f.p - 1 := by
  have a1 : 2 ^ n.log2 ≤ n := Nat.log2_self_le (by omega)
  have a2 : n < 2 ^ (n.log2 + 1) := Nat.lt_log2_self
  have a3 : n.log2 ≤ f.p - 1 := by
    have : n.log2 < f.p := (Nat.pow_lt_pow_iff_right (a := 2) (by decide)).mp (Nat.lt_of_le_of_lt a1 h1)
    omega
  have b1 : 2 ^ n.log2 * 2 ^ (f.p - 1 - n.log2) = 2 ^ (f.p - 1) := by rw [← Nat.pow_add]; congr 1; omega
  have b2 : 2 ^ (n.log2 + 1) * 2 ^ (f.p - 1 - n.log2) = 2 ^ f.p := by rw [← Nat.pow_add]; congr 1; omega
  have c1 : f.tails ≤ n * 2 ^ (f.p - 1 - n.log2) := by
    show 2 ^ (f.p - 1) ≤ _
    rw [← b1]
    exact Nat.mul_le_mul_right _ a1
  have c2 : n * 2 ^ (f.p - 1 - n.log2) < 2 ^ f.p := by
    rw [← b2]
    exact Nat.mul_lt_mul_of_pos_right a2 (Nat.two_pow_pos _)
  refine ⟨?_, c1, c2, a3⟩
  have e1 : FP.Core.leading n 1 = (n.log2 : Int) := by
    unfold FP.Core.leading
    have l1 : Nat.log2 1 = 0 := by decide
    simp only [l1]
    rw [if_pos]
    · omega
    · have t1 : ((n.log2 : Int) - ((0 : Nat) : Int)).toNat = n.log2 := by omega
      have t2 : (-((n.log2 : Int) - ((0 : Nat) : Int))).toNat = 0 := by omega
      rw [t1, t2]
      omega
  have e2 : FP.Core.quantum f n 1 0 = (n.log2 : Int) - ((f.p : Int) - 1) := by
    unfold FP.Core.quantum
    rw [e1]
    omega
  unfold FP.Core.roundRatio
  rw [if_neg (by omega), e2]
  unfold FP.Core.roundAt FP.Core.unitsNum FP.Core.unitsDen
  have t1 : (0 - ((n.log2 : Int) - ((f.p : Int) - 1))).toNat = f.p - 1 - n.log2 := by omega
  have t2 : ((n.log2 : Int) - ((f.p : Int) - 1) - 0).toNat = 0 := by omega
  rw [t1, t2]
  have e3 : FP.Core.nearest (n * 2 ^ (f.p - 1 - n.log2)) (1 * 2 ^ 0) = n * 2 ^ (f.p - 1 - n.log2) := by
    unfold FP.Core.nearest
    rw [show 1 * 2 ^ 0 = 1 from rfl, Nat.mod_one, if_pos (by decide), Nat.div_one]
  rw [e3]
  unfold FP.Core.settle FP.Core.bound
  rw [if_pos c2, if_pos (by omega)]
theorem i2f_dec {z : Int} (h : 0 ≤ z ∧ z < 16777216) : ∃ (c : Nat) (q : Int), FP.Core.decode FP.Core.b32 (FP.i2f (iI z)).toNat = .fin false c q ∧ (z ≠ 0 → c ≠ 0) := by
  by_cases e : z = 0
  · subst e
    exact ⟨0, -149, by decide, fun h => absurd rfl h⟩
  · have hr := rrN FP.Core.b32 (by decide) (by decide) (by decide) (n := z.natAbs) (by omega) (by show _ < 16777216; omega)
    obtain ⟨r1, r2, r3, r4⟩ := hr
    generalize hN : z.natAbs * 2 ^ (FP.Core.b32.p - 1 - z.natAbs.log2) = N at r1 r2 r3
    replace r2 : 8388608 ≤ N := r2
    replace r3 : N < 16777216 := r3
    replace r4 : z.natAbs.log2 ≤ 23 := r4
    have hv : (FP.i2f (iI z)).toNat = (0 * 256 + (((z.natAbs.log2 : Int) - ((24 : Nat) - 1) - (-149)).toNat + 1)) * 8388608 + (N - 8388608) := by
      show (UInt32.ofNat (FP.Core.encode FP.Core.b32 (FP.Core.round FP.Core.b32 (FP.Core.ofInt (iI z).toInt)))).toNat = _
      rw [iI_toInt (by omega)]
      unfold FP.Core.ofInt
      rw [show decide (z < 0) = false from decide_eq_false (by omega)]
      show (UInt32.ofNat (FP.Core.encode FP.Core.b32 (FP.Core.roundRatio FP.Core.b32 false z.natAbs 1 0))).toNat = _
      rw [r1, UInt32.toNat_ofNat']
      show (if N < 8388608 then (0 * 256 + 0) * 8388608 + N else (0 * 256 + (((z.natAbs.log2 : Int) - ((24 : Nat) - 1) - (-149)).toNat + 1)) * 8388608 + (N - 8388608)) % 4294967296 = _
      rw [if_neg (by omega)]
      exact Nat.mod_eq_of_lt (by omega)
    generalize hR : (FP.i2f (iI z)).toNat = R at hv ⊢
    refine ⟨8388608 + (N - 8388608), FP.Core.b32.qmin + ((FP.Core.fieldE FP.Core.b32 R : Int) - 1), ?_, fun _ => by omega⟩
    unfold FP.Core.decode
    rw [if_neg (c := FP.Core.fieldE FP.Core.b32 R = FP.Core.b32.exps - 1) (by show ¬ R / 8388608 % 256 = 255; omega), if_neg (c := FP.Core.fieldE FP.Core.b32 R = 0) (by show ¬ R / 8388608 % 256 = 0; omega)]
    rw [show FP.Core.fieldS FP.Core.b32 R = false from (by show (R / 8388608 / 256 % 2 == 1) = false; exact beq_eq_false_iff_ne.mpr (by omega)), show FP.Core.b32.tails + FP.Core.fieldT FP.Core.b32 R = 8388608 + (N - 8388608) from (by show 8388608 + R % 8388608 = _; omega)]
theorem i2d_dec {z : Int} (h : 0 ≤ z ∧ z < 16777216) : ∃ (c : Nat) (q : Int), FP.Core.decode FP.Core.b64 (FP.i2d (iI z)).toNat = .fin false c q ∧ (z ≠ 0 → c ≠ 0) := by
  by_cases e : z = 0
  · subst e
    exact ⟨0, -1074, by decide, fun h => absurd rfl h⟩
  · have hr := rrN FP.Core.b64 (by decide) (by decide) (by decide) (n := z.natAbs) (by omega) (by show _ < 9007199254740992; omega)
    obtain ⟨r1, r2, r3, r4⟩ := hr
    generalize hN : z.natAbs * 2 ^ (FP.Core.b64.p - 1 - z.natAbs.log2) = N at r1 r2 r3
    replace r2 : 4503599627370496 ≤ N := r2
    replace r3 : N < 9007199254740992 := r3
    replace r4 : z.natAbs.log2 ≤ 52 := r4
    have hv : (FP.i2d (iI z)).toNat = (0 * 2048 + (((z.natAbs.log2 : Int) - ((53 : Nat) - 1) - (-1074)).toNat + 1)) * 4503599627370496 + (N - 4503599627370496) := by
      show (UInt64.ofNat (FP.Core.encode FP.Core.b64 (FP.Core.round FP.Core.b64 (FP.Core.ofInt (iI z).toInt)))).toNat = _
      rw [iI_toInt (by omega)]
      unfold FP.Core.ofInt
      rw [show decide (z < 0) = false from decide_eq_false (by omega)]
      show (UInt64.ofNat (FP.Core.encode FP.Core.b64 (FP.Core.roundRatio FP.Core.b64 false z.natAbs 1 0))).toNat = _
      rw [r1, UInt64.toNat_ofNat']
      show (if N < 4503599627370496 then (0 * 2048 + 0) * 4503599627370496 + N else (0 * 2048 + (((z.natAbs.log2 : Int) - ((53 : Nat) - 1) - (-1074)).toNat + 1)) * 4503599627370496 + (N - 4503599627370496)) % 18446744073709551616 = _
      rw [if_neg (by omega)]
      exact Nat.mod_eq_of_lt (by omega)
    generalize hR : (FP.i2d (iI z)).toNat = R at hv ⊢
    refine ⟨4503599627370496 + (N - 4503599627370496), FP.Core.b64.qmin + ((FP.Core.fieldE FP.Core.b64 R : Int) - 1), ?_, fun _ => by omega⟩
    unfold FP.Core.decode
    rw [if_neg (c := FP.Core.fieldE FP.Core.b64 R = FP.Core.b64.exps - 1) (by show ¬ R / 4503599627370496 % 2048 = 2047; omega), if_neg (c := FP.Core.fieldE FP.Core.b64 R = 0) (by show ¬ R / 4503599627370496 % 2048 = 0; omega)]
    rw [show FP.Core.fieldS FP.Core.b64 R = false from (by show (R / 4503599627370496 / 2048 % 2 == 1) = false; exact beq_eq_false_iff_ne.mpr (by omega)), show FP.Core.b64.tails + FP.Core.fieldT FP.Core.b64 R = 4503599627370496 + (N - 4503599627370496) from (by show 4503599627370496 + R % 4503599627370496 = _; omega)]
/-- the two divisions -/
abbrev fQ (a b : Int) : UInt32 := FP.fdiv (FP.i2f (iI a)) (FP.i2f (iI b))
abbrev dQ (a b : Int) : UInt64 := FP.ddiv (FP.i2d (iI a)) (FP.i2d (iI b))
theorem fQ_n {a b : Int} (ha : 0 ≤ a ∧ a < 16777216) (hb : 0 < b ∧ b < 16777216) : vf_n32 (fQ a b) := by
  obtain ⟨c, q, e1, -⟩ := i2f_dec ha
  obtain ⟨c2, q2, e2, n2⟩ := i2f_dec (z := b) ⟨by omega, hb.2⟩
  rw [n32_mod]
  have h : FP.Core.encode FP.Core.b32 (FP.Core.quotient FP.Core.b32 (FP.Core.decode FP.Core.b32 (FP.i2f (iI a)).toNat) (FP.Core.decode FP.Core.b32 (FP.i2f (iI b)).toNat)) = FP.Core.encode FP.Core.b32 (FP.Core.roundRatio FP.Core.b32 (false != false) c c2 (q - q2)) := by
    rw [e1, e2]
    unfold FP.Core.quotient
    dsimp only
    rw [if_neg (n2 (by omega))]
  have k := enc32 (rr32 (false != false) c c2 (q - q2))
  rw [← h] at k
  show (UInt32.ofNat (FP.Core.encode FP.Core.b32 (FP.Core.quotient FP.Core.b32 (FP.Core.decode FP.Core.b32 (FP.i2f (iI a)).toNat) (FP.Core.decode FP.Core.b32 (FP.i2f (iI b)).toNat)))).toNat % 2147483648 ≤ 2139095040
  rw [UInt32.toNat_ofNat', Nat.mod_eq_of_lt (a := FP.Core.encode FP.Core.b32 _) k.1]
  exact k.2
theorem dQ_n {a b : Int} (ha : 0 ≤ a ∧ a < 16777216) (hb : 0 < b ∧ b < 16777216) : vf_n64 (dQ a b) := by
  obtain ⟨c, q, e1, -⟩ := i2d_dec ha
  obtain ⟨c2, q2, e2, n2⟩ := i2d_dec (z := b) ⟨by omega, hb.2⟩
  rw [n64_mod]
  have h : FP.Core.encode FP.Core.b64 (FP.Core.quotient FP.Core.b64 (FP.Core.decode FP.Core.b64 (FP.i2d (iI a)).toNat) (FP.Core.decode FP.Core.b64 (FP.i2d (iI b)).toNat)) = FP.Core.encode FP.Core.b64 (FP.Core.roundRatio FP.Core.b64 (false != false) c c2 (q - q2)) := by
    rw [e1, e2]
    unfold FP.Core.quotient
    dsimp only
    rw [if_neg (n2 (by omega))]
  have k := enc64 (rr64 (false != false) c c2 (q - q2))
  rw [← h] at k
  show (UInt64.ofNat (FP.Core.encode FP.Core.b64 (FP.Core.quotient FP.Core.b64 (FP.Core.decode FP.Core.b64 (FP.i2d (iI a)).toNat) (FP.Core.decode FP.Core.b64 (FP.i2d (iI b)).toNat)))).toNat % 9223372036854775808 ≤ 9218868437227405312
  rw [UInt64.toNat_ofNat', Nat.mod_eq_of_lt (a := FP.Core.encode FP.Core.b64 _) k.1]
  exact k.2
theorem dec32_n {r : UInt32} (h : vf_n32 r) : FP.Core.decode FP.Core.b32 r.toNat ≠ .nan := by
  rw [n32_mod] at h
  unfold FP.Core.decode
  split
  · next h2 =>
    replace h2 : r.toNat / 8388608 % 256 = 255 := h2
    rw [if_pos (c := FP.Core.fieldT FP.Core.b32 r.toNat = 0) (show r.toNat % 8388608 = 0 by omega)]
    intro h; cases h
  · split <;> (intro h; cases h)
theorem dec64_n {r : UInt64} (h : vf_n64 r) : FP.Core.decode FP.Core.b64 r.toNat ≠ .nan := by
  rw [n64_mod] at h
  unfold FP.Core.decode
  split
  · next h2 =>
    replace h2 : r.toNat / 4503599627370496 % 2048 = 2047 := h2
    rw [if_pos (c := FP.Core.fieldT FP.Core.b64 r.toNat = 0) (show r.toNat % 4503599627370496 = 0 by omega)]
    intro h; cases h
  · split <;> (intro h; cases h)
theorem ord_self {d : FP.Core.Datum} (h : d ≠ .nan) : FP.Core.order d d = some .eq := by
  have hc : ∀ i : Int, compare i i = .eq := fun i => by
    unfold compare
    show compareOfLessAndEq i i = .eq
    unfold compareOfLessAndEq
    rw [if_neg (by omega), if_pos rfl]
  match d, h with
  | .nan, h => exact absurd rfl h
  | .inf s, _ => exact congrArg some (hc _)
  | .fin s c q, _ => exact congrArg some (hc _)
theorem dcmp_self {r : UInt64} (h : vf_n64 r) : FP.dcmp r r = some .eq := ord_self (dec64_n h)
theorem fcmp_self {r : UInt32} (h : vf_n32 r) : FP.fcmp r r = some .eq := ord_self (dec32_n h)
theorem f2d_n {r : UInt32} (h : vf_n32 r) : vf_n64 (FP.f2d r) := by
  have h1 := dec32_n h
  have h2 : FP.f2d r = FP.Core.f2d r := by
    show (if decide (FP.Core.decode FP.Core.b32 r.toNat = .nan) = true then _ else _) = _
    rw [decide_eq_false h1]
    rfl
  rw [h2, n64_mod]
  have h3 : dOK 53 971 (FP.Core.round FP.Core.b64 (FP.Core.decode FP.Core.b32 r.toNat)) := by
    generalize FP.Core.decode FP.Core.b32 r.toNat = d at h1
    match d, h1 with
    | .nan, h => exact absurd rfl h
    | .inf s, _ => trivial
    | .fin s c q, _ => exact rr64 s c 1 q
  have k := enc64 h3
  show (UInt64.ofNat (FP.Core.encode FP.Core.b64 (FP.Core.round FP.Core.b64 (FP.Core.decode FP.Core.b32 r.toNat)))).toNat % 9223372036854775808 ≤ 9218868437227405312
  rw [UInt64.toNat_ofNat', Nat.mod_eq_of_lt (a := FP.Core.encode FP.Core.b64 _) k.1]
  exact k.2
section FR
variable {Λ : Ls} {Γ : Cx} {X : MD} {d mc ms : Nat} {Q : Rv → Mem → Nat → Prop} {pc pc' : Nat} {ls : List (Option aV)} {st : List aV} {M : Mem} {n kc ks : Nat}
theorem g_i2d (i : Nat) {a : Int} (hd : X.tb[i]? = some (pc, .i2d, pc')) (kk : G Λ Γ X d mc ms Q pc' ls (vD (FP.i2d (iI a)) :: st) M n kc ks) : G Λ Γ X d mc ms Q pc ls (vI a :: st) M n kc ks := by
  intro hE p e R s m args below meth c H locs ad ad0 n0 lsA hF h1 h2 hX hW hS hL hs
  obtain ⟨hdd, rfl⟩ := e_dec hF.1 hd
  exact lv_i2d hF.1.1 hF.1.2.1 hdd (kk hE p e R s m args below meth c H locs ad ad0 n0 lsA hF h1 h2 hX hW hS hL ⟨trivial, hs.2⟩)
theorem g_i2f (i : Nat) {a : Int} (hd : X.tb[i]? = some (pc, .i2f, pc')) (kk : G Λ Γ X d mc ms Q pc' ls (vF (FP.i2f (iI a)) :: st) M n kc ks) : G Λ Γ X d mc ms Q pc ls (vI a :: st) M n kc ks := by
  intro hE p e R s m args below meth c H locs ad ad0 n0 lsA hF h1 h2 hX hW hS hL hs
  obtain ⟨hdd, rfl⟩ := e_dec hF.1 hd
  exact lv_i2f hF.1.1 hF.1.2.1 hdd (kk hE p e R s m args below meth c H locs ad ad0 n0 lsA hF h1 h2 hX hW hS hL ⟨trivial, hs.2⟩)
theorem g_ddiv (i : Nat) {x y : UInt64} (hd : X.tb[i]? = some (pc, .ddiv, pc')) (hn : vf_n64 (FP.ddiv x y)) (kk : G Λ Γ X d mc ms Q pc' ls (vD (FP.ddiv x y) :: st) M n kc ks) : G Λ Γ X d mc ms Q pc ls (vD y :: vD x :: st) M n kc ks := by
  intro hE p e R s m args below meth c H locs ad ad0 n0 lsA hF h1 h2 hX hW hS hL hs
  obtain ⟨hdd, rfl⟩ := e_dec hF.1 hd
  exact lv_ddiv hF.1.1 hF.1.2.1 hdd hn (kk hE p e R s m args below meth c H locs ad ad0 n0 lsA hF h1 h2 hX hW hS hL ⟨trivial, hs.2.2⟩)
theorem g_fdiv (i : Nat) {x y : UInt32} (hd : X.tb[i]? = some (pc, .fdiv, pc')) (hn : vf_n32 (FP.fdiv x y)) (kk : G Λ Γ X d mc ms Q pc' ls (vF (FP.fdiv x y) :: st) M n kc ks) : G Λ Γ X d mc ms Q pc ls (vF y :: vF x :: st) M n kc ks := by
  intro hE p e R s m args below meth c H locs ad ad0 n0 lsA hF h1 h2 hX hW hS hL hs
  obtain ⟨hdd, rfl⟩ := e_dec hF.1 hd
  exact lv_fdiv hF.1.1 hF.1.2.1 hdd hn (kk hE p e R s m args below meth c H locs ad ad0 n0 lsA hF h1 h2 hX hW hS hL ⟨trivial, hs.2.2⟩)
theorem g_f2d (i : Nat) {x : UInt32} (hd : X.tb[i]? = some (pc, .f2d, pc')) (hn : vf_n64 (FP.f2d x)) (kk : G Λ Γ X d mc ms Q pc' ls (vD (FP.f2d x) :: st) M n kc ks) : G Λ Γ X d mc ms Q pc ls (vF x :: st) M n kc ks := by
  intro hE p e R s m args below meth c H locs ad ad0 n0 lsA hF h1 h2 hX hW hS hL hs
  obtain ⟨hdd, rfl⟩ := e_dec hF.1 hd
  exact lv_f2d hF.1.1 hF.1.2.1 hdd hn (kk hE p e R s m args below meth c H locs ad ad0 n0 lsA hF h1 h2 hX hW hS hL ⟨trivial, hs.2⟩)
theorem g_dconst0 (i : Nat) (hd : X.tb[i]? = some (pc, .dconst 0, pc')) (kk : G Λ Γ X d mc ms Q pc' ls (vD FP.dconst0 :: st) M n kc ks) : G Λ Γ X d mc ms Q pc ls (st) M n kc ks := by
  intro hE p e R s m args below meth c H locs ad ad0 n0 lsA hF h1 h2 hX hW hS hL hs
  obtain ⟨hdd, rfl⟩ := e_dec hF.1 hd
  exact lv_dconst0 hF.1.1 hF.1.2.1 hdd (kk hE p e R s m args below meth c H locs ad ad0 n0 lsA hF h1 h2 hX hW hS hL ⟨trivial, hs⟩)
theorem g_fconst0 (i : Nat) (hd : X.tb[i]? = some (pc, .fconst 0, pc')) (kk : G Λ Γ X d mc ms Q pc' ls (vF FP.fconst0 :: st) M n kc ks) : G Λ Γ X d mc ms Q pc ls (st) M n kc ks := by
  intro hE p e R s m args below meth c H locs ad ad0 n0 lsA hF h1 h2 hX hW hS hL hs
  obtain ⟨hdd, rfl⟩ := e_dec hF.1 hd
  exact lv_fconst0 hF.1.1 hF.1.2.1 hdd (kk hE p e R s m args below meth c H locs ad ad0 n0 lsA hF h1 h2 hX hW hS hL ⟨trivial, hs⟩)
theorem g_dcmp (i : Nat) {x : UInt64} {op : CmpOp} (hd : X.tb[i]? = some (pc, .dcmp op, pc')) (h : FP.dcmp x x = some .eq) (kk : G Λ Γ X d mc ms Q pc' ls (vI 0 :: st) M n kc ks) : G Λ Γ X d mc ms Q pc ls (vD x :: vD x :: st) M n kc ks := by
  intro hE p e R s m args below meth c H locs ad ad0 n0 lsA hF h1 h2 hX hW hS hL hs
  obtain ⟨hdd, rfl⟩ := e_dec hF.1 hd
  exact lv_dcmp hF.1.1 hF.1.2.1 hdd (W.eq (g2 := F0 m (pc + 1) lsA (.int (iI 0) :: st.map (e_cv ad))) (by rw [h]; rfl) (kk hE p e R s m args below meth c H locs ad ad0 n0 lsA hF h1 h2 hX hW hS hL ⟨trivial, hs.2.2⟩))
theorem g_dload (i : Nat) {k : Nat} {z : UInt64} (hd : X.tb[i]? = some (pc, .dload k, pc')) (hz : ls[k]? = some (some (vD z))) (kk : G Λ Γ X d mc ms Q pc' ls (vD z :: st) M n kc ks) : G Λ Γ X d mc ms Q pc ls (st) M n kc ks := by
  intro hE p e R s m args below meth c H locs ad ad0 n0 lsA hF h1 h2 hX hW hS hL hs
  obtain ⟨hdd, rfl⟩ := e_dec hF.1 hd
  exact lv_dload hF.1.1 hF.1.2.1 hdd (hL.2.2 _ _ hz).2 (kk hE p e R s m args below meth c H locs ad ad0 n0 lsA hF h1 h2 hX hW hS hL ⟨trivial, hs⟩)
theorem g_fcmp (i : Nat) {x : UInt32} {op : CmpOp} (hd : X.tb[i]? = some (pc, .fcmp op, pc')) (h : FP.fcmp x x = some .eq) (kk : G Λ Γ X d mc ms Q pc' ls (vI 0 :: st) M n kc ks) : G Λ Γ X d mc ms Q pc ls (vF x :: vF x :: st) M n kc ks := by
  intro hE p e R s m args below meth c H locs ad ad0 n0 lsA hF h1 h2 hX hW hS hL hs
  obtain ⟨hdd, rfl⟩ := e_dec hF.1 hd
  exact lv_fcmp hF.1.1 hF.1.2.1 hdd (W.eq (g2 := F0 m (pc + 1) lsA (.int (iI 0) :: st.map (e_cv ad))) (by rw [h]; rfl) (kk hE p e R s m args below meth c H locs ad ad0 n0 lsA hF h1 h2 hX hW hS hL ⟨trivial, hs.2.2⟩))
theorem g_fload (i : Nat) {k : Nat} {z : UInt32} (hd : X.tb[i]? = some (pc, .fload k, pc')) (hz : ls[k]? = some (some (vF z))) (kk : G Λ Γ X d mc ms Q pc' ls (vF z :: st) M n kc ks) : G Λ Γ X d mc ms Q pc ls (st) M n kc ks := by
  intro hE p e R s m args below meth c H locs ad ad0 n0 lsA hF h1 h2 hX hW hS hL hs
  obtain ⟨hdd, rfl⟩ := e_dec hF.1 hd
  exact lv_fload hF.1.1 hF.1.2.1 hdd (hL.2.2 _ _ hz).2 (kk hE p e R s m args below meth c H locs ad ad0 n0 lsA hF h1 h2 hX hW hS hL ⟨trivial, hs⟩)
theorem g_fstore (i : Nat) {k : Nat} {z : UInt32} {ls' : List (Option aV)} (hd : X.tb[i]? = some (pc, .fstore k, pc')) (hk : k < ls.length) (hls : ls.set k (some (vF z)) = ls') (h6 : ∀ x, k ≠ 0 → ls[k - 1]? = some x → c2v x = false) (kk : G Λ Γ X d mc ms Q pc' ls' st M n kc ks) : G Λ Γ X d mc ms Q pc ls (vF z :: st) M n kc ks := by
  intro hE p e R s m args below meth c H locs ad ad0 n0 lsA hF h1 h2 hX hW hS hL hs
  obtain ⟨hdd, rfl⟩ := e_dec hF.1 hd
  subst hls
  exact lv_fstore hF.1.1 hF.1.2.1 hdd (e_all_has hL.2.1) (by rw [← hL.1]; exact hk) rfl (fun lsB hB => kk hE p e R s m args below meth c H locs ad ad0 n0 lsB hF h1 h2 hX hW hS (e_LR_store (v := vF z) hL trivial hB List.length_set (List.getElem?_set_self hk) (fun j hj => List.getElem?_set_ne (fun e => hj e.symm)) (fun j x e h => h6 x (by omega) (by rw [show k - 1 = j from by omega]; exact h))) hs.2)
theorem e_LR_store2 {ad : Nat → Nat} {n nL i : Nat} {ls : List (Option aV)} {lsA lsB : Array Slot} {z : UInt64} (hL : e_LR ad n ls lsA nL)
    (hB : lv_has lsB nL ((i, Value.double z) :: (e_all lsA).filter (fun q => !(q.1 == i) && (!(q.1 == i + 1) && !(q.1 + 1 == i && q.2.category == 2))))) (hi : i + 1 < ls.length)
    (h6 : ∀ x, i ≠ 0 → ls[i - 1]? = some x → c2v x = false) : e_LR ad n ((ls.set i (some (vD z))).set (i + 1) none) lsB nL := by
  refine ⟨by rw [List.length_set, List.length_set]; exact hL.1, ⟨hB.1, hB.2.1, fun q hq => nomatch hq⟩, fun j w hw => ?_⟩
  by_cases hj2 : j = i + 1
  · subst hj2
    rw [List.getElem?_set_self (by rw [List.length_set]; exact hi)] at hw
    cases hw
  · rw [List.getElem?_set_ne (fun e => hj2 e.symm)] at hw
    by_cases hj : j = i
    · subst hj
      rw [List.getElem?_set_self (by omega)] at hw
      cases hw
      exact ⟨trivial, hB.2.2 _ List.mem_cons_self⟩
    · rw [List.getElem?_set_ne (fun e => hj e.symm)] at hw
      obtain ⟨hw1, hw2⟩ := hL.2.2 j w hw
      refine ⟨hw1, hB.2.2 (j, e_cv ad w) (List.mem_cons_of_mem _ (List.mem_filter.mpr ⟨e_all_mem.mpr hw2, ?_⟩))⟩
      simp only [Bool.and_eq_true, Bool.not_eq_true', beq_eq_false_iff_ne, ne_eq, Bool.and_eq_false_iff]
      refine ⟨hj, hj2, ?_⟩
      by_cases hj1 : j + 1 = i
      · right
        rw [c2v_cat (h6 (some w) (by omega) (by rw [show i - 1 = j from by omega]; exact hw))]
        decide
      · exact Or.inl hj1
theorem g_dstore (i : Nat) {k : Nat} {z : UInt64} {ls' : List (Option aV)} (hd : X.tb[i]? = some (pc, .dstore k, pc')) (hk : k + 1 < ls.length) (hls : (ls.set k (some (vD z))).set (k + 1) none = ls') (h6 : ∀ x, k ≠ 0 → ls[k - 1]? = some x → c2v x = false) (kk : G Λ Γ X d mc ms Q pc' ls' st M n kc ks) : G Λ Γ X d mc ms Q pc ls (vD z :: st) M n kc ks := by
  intro hE p e R s m args below meth c H locs ad ad0 n0 lsA hF h1 h2 hX hW hS hL hs
  obtain ⟨hdd, rfl⟩ := e_dec hF.1 hd
  subst hls
  exact lv_dstore hF.1.1 hF.1.2.1 hdd (e_all_has hL.2.1) (by rw [← hL.1]; exact hk) rfl (fun lsB hB => kk hE p e R s m args below meth c H locs ad ad0 n0 lsB hF h1 h2 hX hW hS (e_LR_store2 hL hB hk h6) hs.2)
end FR
def sCr (lk : Nat → LkS) : Nat → Int
  | 0 => 0
  | k + 1 => sCr lk k + (lk k).cr
theorem sCr_rng {B : Int} {σ : HS} (hr : Hok B σ) : ∀ k : Nat, k ≤ 6 → 0 ≤ sCr σ.lk k ∧ sCr σ.lk k ≤ 20 * (k : Int)
  | 0, _ => ⟨by show (0 : Int) ≤ 0; omega, by show (0 : Int) ≤ 20 * 0; omega⟩
  | k + 1, h => by
    have h1 := sCr_rng hr k (by omega)
    have h2 := (hr.2.2.2.2 k (by omega)).2.1
    show 0 ≤ sCr σ.lk k + (σ.lk k).cr ∧ sCr σ.lk k + (σ.lk k).cr ≤ 20 * ((k + 1 : Nat) : Int)
    omega
def vSm (v : Nat → Int) : Nat → Int
  | 0 => 0
  | k + 1 => vSm v k + v (7 + 9 * k + 7)
theorem vSm_rng {B : Int} {v : Nat → Int} (hv : Vok B v) : ∀ k : Nat, k ≤ 6 → 0 ≤ vSm v k ∧ vSm v k ≤ 20 * (k : Int)
  | 0, _ => ⟨by show (0 : Int) ≤ 0; omega, by show (0 : Int) ≤ 20 * 0; omega⟩
  | k + 1, h => by
    have h1 := vSm_rng hv k (by omega)
    have h2 := hv.2.2.2.2.2.2.1 k (by omega)
    show 0 ≤ vSm v k + v (7 + 9 * k + 7) ∧ vSm v k + v (7 + 9 * k + 7) ≤ 20 * ((k + 1 : Nat) : Int)
    omega
section FX
variable {r0 : Option Nat} {Γ : Cx} {M : Mem} {n x : Nat} {σ τ : HS} {B : Int} {sv ep fp : Int}
theorem x_meanCrumbs (hx : XO M x sv ep fp) (hH : HM M (x + 1) σ) (hr : Hok B σ) (h : σ.sc 0 ≠ 0) : Ct (e_L r0) Γ mX7_meanCrumbs 2 0 0 [vR x] M n (e_rt (.inl (some (vD (dQ (sCr σ.lk (σ.sc 0).toNat) (σ.sc 0))))) M n) := by
  have q2 := hr.2.1
  have q0 := hr.1 0 (by decide)
  refine g_start ok_X7_meanCrumbs rfl rfl ?_
  refine g_run 0 1 rfl ?_
  refine g_get 1 rfl fl_RX7_10 hx rfl ?_
  refine g_get 2 rfl fl_RX7_134 hH.2.1 rfl ?_
  refine g_if_ne 3 21 rfl rfl (by omega) (fun c7 => ?_) (fun c7 => ?_)
  · refine g_run 9 4 rfl ?_
    refine e_down (P := fun k => G (e_L r0) Γ mX7_meanCrumbs 2 0 0 (e_rt (.inl (some (vD (dQ (sCr σ.lk (σ.sc 0).toNat) (σ.sc 0))))) M n) 25 [some (vR x), some (vI (sCr σ.lk k)), some (vI (k : Int))] [] M n 0 0) (σ.sc 0).toNat ?_ 0 (by omega)
    intro k hk ih
    refine g_run 13 2 rfl ?_
    refine g_get 15 rfl fl_RX7_10 hx rfl ?_
    refine g_get 16 rfl fl_RX7_134 hH.2.1 rfl ?_
    refine g_icmp_ge 17 57 rfl rfl (by omega) (by omega) (fun c33 => ?_) (fun c33 => ?_)
    · have ek : k = (σ.sc 0).toNat := by omega
      subst ek
      have sr := sCr_rng hr (σ.sc 0).toNat (by omega)
      refine g_run 29 1 rfl ?_
      refine g_i2d 30 rfl ?_
      refine g_run 31 1 rfl ?_
      refine g_get 32 rfl fl_RX7_10 hx rfl ?_
      refine g_get 33 rfl fl_RX7_134 hH.2.1 rfl ?_
      refine g_i2d 34 rfl ?_
      refine g_ddiv 35 rfl (dQ_n (by omega) (by omega)) ?_
      exact g_dret 36 rfl rfl ⟨rfl, rfl, rfl⟩
    · refine g_run 18 2 rfl ?_
      refine g_get 20 rfl fl_RX7_10 hx rfl ?_
      refine g_get 21 rfl fl_RX7_172 hH.2.1 rfl ?_
      refine g_run 22 1 rfl ?_
      refine g_aald 23 k rfl rfl hH.2.2.1 rfl (by omega) (by decide) ?_
      rw [lkR_at (by omega)]
      have kl45 := hH.2.2.2.2.2.2.2 k (by omega)
      refine g_get 24 rfl fl_RX7_160 kl45.2.1 rfl ?_
      refine g_run 25 3 rfl ?_
      refine g_run 28 1 rfl ?_
      exact ih (by omega)
  · exact absurd c7 h
theorem x_meanCrumbsX (hx : XO M x sv ep fp) (hH : HM M (x + 1) σ) (hr : Hok B σ) (h : σ.sc 0 = 0) : Ct (e_L r0) Γ mX7_meanCrumbs 2 1 6 [vR x] M n (e_rt (.inr "java/lang/ArithmeticException") M n) := by
  have q2 := hr.2.1
  have q0 := hr.1 0 (by decide)
  refine g_start ok_X7_meanCrumbs rfl rfl ?_
  refine g_run 0 1 rfl ?_
  refine g_get 1 rfl fl_RX7_10 hx rfl ?_
  refine g_get 2 rfl fl_RX7_134 hH.2.1 rfl ?_
  refine g_if_ne 3 21 rfl rfl (by omega) (fun c7 => ?_) (fun c7 => ?_)
  · exact absurd h c7
  · exact g_throwW 4 (th_RX7_276_278_280 r0) rfl rfl rfl rfl rfl rfl (Nat.le_of_ble_eq_true rfl) (by omega) (by omega) ⟨rfl, rfl, rfl⟩
theorem x_openedShare (hx : XO M x sv ep fp) (hH : HM M (x + 1) σ) (hr : Hok B σ) (hB : B < 16777216) (h : σ.sc 3 ≠ 0) : Ct (e_L r0) Γ mX7_openedShare 2 0 0 [vR x] M n (e_rt (.inl (some (vF (fQ (σ.sc 4) (σ.sc 3))))) M n) := by
  have q3 := hr.1 3 (by decide)
  have q4 := hr.1 4 (by decide)
  refine g_start ok_X7_openedShare rfl rfl ?_
  refine g_run 0 1 rfl ?_
  refine g_get 1 rfl fl_RX7_10 hx rfl ?_
  refine g_get 2 rfl fl_RX7_267 hH.2.1 rfl ?_
  refine g_if_ne 3 21 rfl rfl (by omega) (fun c7 => ?_) (fun c7 => ?_)
  · refine g_run 9 1 rfl ?_
    refine g_get 10 rfl fl_RX7_10 hx rfl ?_
    refine g_get 11 rfl fl_RX7_270 hH.2.1 rfl ?_
    refine g_i2f 12 rfl ?_
    refine g_run 13 1 rfl ?_
    refine g_get 14 rfl fl_RX7_10 hx rfl ?_
    refine g_get 15 rfl fl_RX7_267 hH.2.1 rfl ?_
    refine g_i2f 16 rfl ?_
    refine g_fdiv 17 rfl (fQ_n (by omega) (by omega)) ?_
    exact g_fret 18 rfl rfl ⟨rfl, rfl, rfl⟩
  · exact absurd c7 h
theorem x_openedShareX (hx : XO M x sv ep fp) (hH : HM M (x + 1) σ) (hr : Hok B σ) (h : σ.sc 3 = 0) : Ct (e_L r0) Γ mX7_openedShare 2 1 6 [vR x] M n (e_rt (.inr "java/lang/ArithmeticException") M n) := by
  have q3 := hr.1 3 (by decide)
  have q4 := hr.1 4 (by decide)
  refine g_start ok_X7_openedShare rfl rfl ?_
  refine g_run 0 1 rfl ?_
  refine g_get 1 rfl fl_RX7_10 hx rfl ?_
  refine g_get 2 rfl fl_RX7_267 hH.2.1 rfl ?_
  refine g_if_ne 3 21 rfl rfl (by omega) (fun c7 => ?_) (fun c7 => ?_)
  · exact absurd h c7
  · exact g_throwW 4 (th_RX7_276_281_280 r0) rfl rfl rfl rfl rfl rfl (Nat.le_of_ble_eq_true rfl) (by omega) (by omega) ⟨rfl, rfl, rfl⟩
end FX
section FM2
variable {r0 : Option Nat} {Γ : Cx} {M : Mem} {n m : Nat} {q : Nat → Int} {A : Nat → Nat → Int} {B : Int}
theorem m_meanCrumbs (H : MM M m q A) (hv : Vok B (A 0)) : Ct (e_L r0) Γ mX8_meanCrumbs 2 0 0 [vR m] M n (e_wr (some (vD (if A 0 2 = 0 then FP.dconst0 else dQ (vSm (A 0) (A 0 2).toNat) (A 0 2)))) n fun M' => MM M' m (va_up q 6 (if A 0 2 = 0 then 1 else 0)) A ∧ e_fr m (m + 9) M M') := by
  have fr0 : e_fr m (m + 9) M M := e_fr_refl
  have v2 := hv.2.2.1
  refine g_start ok_X8_meanCrumbs rfl rfl ?_
  refine g_run 0 4 rfl ?_
  refine e_down (P := fun k => G (e_L r0) Γ mX8_meanCrumbs 2 0 0 (e_wr (some (vD (if A 0 2 = 0 then FP.dconst0 else dQ (vSm (A 0) (A 0 2).toNat) (A 0 2)))) n fun M' => MM M' m (va_up q 6 (if A 0 2 = 0 then 1 else 0)) A ∧ e_fr m (m + 9) M M') 4 [some (vR m), some (vI (vSm (A 0) k)), some (vI (k : Int))] [] M n 0 0) (A 0 2).toNat ?_ 0 (by omega)
  intro k hk ih
  refine g_run 4 2 rfl ?_
  refine g_get 6 rfl fl_RX8_9 H.2.1 rfl ?_
  refine g_run 7 1 rfl ?_
  refine g_iald 8 2 rfl rfl H.2.2.1 (by first | rfl | omega) (by omega) (by decide) ?_
  refine g_icmp_ge 9 30 rfl rfl (by omega) (by omega) (fun c11 => ?_) (fun c11 => ?_)
  · have ek : k = (A 0 2).toNat := by omega
    subst ek
    have sr := vSm_rng hv (A 0 2).toNat (by omega)
    refine g_run 19 2 rfl ?_
    refine g_get 21 rfl fl_RX8_9 H.2.1 rfl ?_
    refine g_run 22 1 rfl ?_
    refine g_iald 23 2 rfl rfl H.2.2.1 (by first | rfl | omega) (by omega) (by decide) ?_
    refine g_if_ne 24 44 rfl rfl (by omega) (fun c37 => ?_) (fun c37 => ?_)
    · rw [if_neg c37, if_neg c37]
      refine g_run 27 2 rfl ?_
      refine g_callV 29 rfl cv_RX8_73 H.2.1 (m_isThrown H _ 1 (by first | exact Or.inl rfl | exact Or.inr rfl | exact b_01)) rfl rfl (by decide) (by omega) (by omega) (Nat.le_of_ble_eq_true rfl) (e_kw fun M46 hq46 => ?_) e_kwx
      have fr46 := e_fr_tr fr0 (e_fr_w hq46.2 (by omega))
      refine g_if_eq 30 56 rfl rfl (by decide) (fun _ => ?_) (fun c49 => absurd c49 (by decide))
      refine g_run 33 1 rfl ?_
      refine g_i2d 34 rfl ?_
      refine g_run 35 1 rfl ?_
      refine g_get 36 rfl fl_RX8_9 hq46.1.2.1 rfl ?_
      refine g_run 37 1 rfl ?_
      refine g_iald 38 2 rfl rfl hq46.1.2.2.1 (by first | rfl | omega) (by omega) (by decide) ?_
      refine g_i2d 39 rfl ?_
      refine g_ddiv 40 rfl (dQ_n (by omega) (by omega)) ?_
      exact g_dret 41 rfl rfl ⟨rfl, rfl, hq46.1, fr46⟩
    · rw [if_pos (by omega), if_pos (by omega)]
      refine g_run 25 2 rfl ?_
      refine g_run 28 1 rfl ?_
      refine g_callV 29 rfl cv_RX8_73 H.2.1 (m_isThrown H _ 1 (by first | exact Or.inl rfl | exact Or.inr rfl | exact b_01)) rfl rfl (by decide) (by omega) (by omega) (Nat.le_of_ble_eq_true rfl) (e_kw fun M46 hq46 => ?_) e_kwx
      have fr46 := e_fr_tr fr0 (e_fr_w hq46.2 (by omega))
      refine g_if_eq 30 56 rfl rfl (by decide) (fun c49 => absurd c49 (by decide)) (fun _ => ?_)
      refine g_dconst0 31 rfl ?_
      refine g_run 32 1 rfl ?_
      exact g_dret 41 rfl rfl ⟨rfl, rfl, hq46.1, fr46⟩
  · refine g_run 10 4 rfl ?_
    refine g_callV 14 rfl cv_RX8_55 H.2.1 (m_of H (k : Int) 7 k 7 rfl rfl (by omega)) rfl rfl (by decide) (by omega) (by omega) (Nat.le_of_ble_eq_true rfl) (e_kr ?_) e_kx
    refine g_run 15 3 rfl ?_
    refine g_run 18 1 rfl ?_
    exact ih (by omega)
theorem m_openedShare (H : MM M m q A) (h3 : 0 ≤ A 0 3 ∧ A 0 3 < 16777216) (h4 : 0 ≤ A 0 4 ∧ A 0 4 < 16777216) : Ct (e_L r0) Γ mX8_openedShare 2 0 0 [vR m] M n (e_wr (some (vF (if A 0 3 = 0 then FP.fconst0 else fQ (A 0 4) (A 0 3)))) n fun M' => MM M' m (va_up q 6 (if A 0 3 = 0 then 1 else 0)) A ∧ e_fr m (m + 9) M M') := by
  have fr0 : e_fr m (m + 9) M M := e_fr_refl
  refine g_start ok_X8_openedShare rfl rfl ?_
  refine g_run 0 2 rfl ?_
  refine g_get 2 rfl fl_RX8_9 H.2.1 rfl ?_
  refine g_run 3 1 rfl ?_
  refine g_iald 4 3 rfl rfl H.2.2.1 (by first | rfl | omega) (by omega) (by decide) ?_
  refine g_if_ne 5 14 rfl rfl (by omega) (fun c7 => ?_) (fun c7 => ?_)
  · rw [if_neg c7, if_neg c7]
    refine g_run 8 2 rfl ?_
    refine g_callV 10 rfl cv_RX8_73 H.2.1 (m_isThrown H _ 1 (by first | exact Or.inl rfl | exact Or.inr rfl | exact b_01)) rfl rfl (by decide) (by omega) (by omega) (Nat.le_of_ble_eq_true rfl) (e_kw fun M16 hq16 => ?_) e_kwx
    have fr16 := e_fr_tr fr0 (e_fr_w hq16.2 (by omega))
    refine g_if_eq 11 26 rfl rfl (by decide) (fun _ => ?_) (fun c19 => absurd c19 (by decide))
    refine g_run 14 1 rfl ?_
    refine g_get 15 rfl fl_RX8_9 hq16.1.2.1 rfl ?_
    refine g_run 16 1 rfl ?_
    refine g_iald 17 4 rfl rfl hq16.1.2.2.1 (by first | rfl | omega) (by omega) (by decide) ?_
    refine g_i2f 18 rfl ?_
    refine g_run 19 1 rfl ?_
    refine g_get 20 rfl fl_RX8_9 hq16.1.2.1 rfl ?_
    refine g_run 21 1 rfl ?_
    refine g_iald 22 3 rfl rfl hq16.1.2.2.1 (by first | rfl | omega) (by omega) (by decide) ?_
    refine g_i2f 23 rfl ?_
    refine g_fdiv 24 rfl (fQ_n (by omega) (by omega)) ?_
    exact g_fret 25 rfl rfl ⟨rfl, rfl, hq16.1, fr16⟩
  · rw [if_pos (by omega), if_pos (by omega)]
    refine g_run 6 2 rfl ?_
    refine g_run 9 1 rfl ?_
    refine g_callV 10 rfl cv_RX8_73 H.2.1 (m_isThrown H _ 1 (by first | exact Or.inl rfl | exact Or.inr rfl | exact b_01)) rfl rfl (by decide) (by omega) (by omega) (Nat.le_of_ble_eq_true rfl) (e_kw fun M16 hq16 => ?_) e_kwx
    have fr16 := e_fr_tr fr0 (e_fr_w hq16.2 (by omega))
    refine g_if_eq 11 26 rfl rfl (by decide) (fun c19 => absurd c19 (by decide)) (fun _ => ?_)
    refine g_fconst0 12 rfl ?_
    refine g_run 13 1 rfl ?_
    exact g_fret 25 rfl rfl ⟨rfl, rfl, hq16.1, fr16⟩
end FM2
