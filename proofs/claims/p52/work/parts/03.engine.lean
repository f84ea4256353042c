/-! ENGINE 1: numbers -/
def iI (z : Int) : Int32 := Int32.ofInt z
theorem iI_add (a b : Int) : iI (a + b) = iI a + iI b := Int32.ofInt_add a b
theorem iI_sub (a b : Int) : iI (a - b) = iI a - iI b := Int32.ofInt_sub a b
theorem iI_mul (a b : Int) : iI (a * b) = iI a * iI b := Int32.ofInt_mul a b
theorem iI_neg (a : Int) : iI (-a) = -iI a := Int32.ofInt_neg a
theorem iI_of (x : Int32) : x = iI x.toInt := (Int32.ofInt_toInt x).symm
theorem iI_toInt {z : Int} (h : -2147483648 ≤ z ∧ z ≤ 2147483647) : (iI z).toInt = z := Int32.toInt_ofInt_of_le (by omega) (by omega)
theorem iI_eq {a b : Int} (ha : -2147483648 ≤ a ∧ a ≤ 2147483647) (hb : -2147483648 ≤ b ∧ b ≤ 2147483647) : iI a = iI b ↔ a = b :=
  ⟨fun h => by rw [← iI_toInt ha, ← iI_toInt hb, h], fun h => by rw [h]⟩
theorem iI_lt {a b : Int} (ha : -2147483648 ≤ a ∧ a ≤ 2147483647) (hb : -2147483648 ≤ b ∧ b ≤ 2147483647) : iI a < iI b ↔ a < b := by
  rw [Int32.lt_iff_toInt_lt, iI_toInt ha, iI_toInt hb]
theorem iI_le {a b : Int} (ha : -2147483648 ≤ a ∧ a ≤ 2147483647) (hb : -2147483648 ≤ b ∧ b ≤ 2147483647) : iI a ≤ iI b ↔ a ≤ b := by
  rw [Int32.le_iff_toInt_le, iI_toInt ha, iI_toInt hb]
theorem iI_0 : iI 0 = 0 := rfl
theorem iI_cl {z : Int} (h0 : 0 ≤ z) (h1 : z < 2147483648) : (iI z).toNatClampNeg = z.toNat := Int32.toNatClampNeg_ofInt_of_le (by omega) (by omega)
theorem iI_nat (k : Nat) : iI (k : Int) = Int32.ofNat k := Int32.ofInt_eq_ofNat
theorem iI_vp {z : Int} {n : Nat} (h0 : 0 ≤ z) (h1 : z < n) (hn : n < 2147483648) : vp_in (iI z) n := by
  rw [vp_in_iff, iI_toInt (by omega)]; omega
theorem iI_ne0 {b : Int} (h0 : 0 < b) (h1 : b ≤ 2147483647) : ¬ iI b = 0 := by
  rw [← iI_0, iI_eq (by omega) (by omega)]; omega
theorem iI_div {a b : Int} (ha : 0 ≤ a ∧ a ≤ 2147483647) (hb : 0 < b ∧ b ≤ 2147483647) : iI a / iI b = iI (a / b) := by
  apply Int32.toInt_inj.mp
  have hq : a / b ≤ a := Int.ediv_le_self b ha.1
  have hq0 : 0 ≤ a / b := Int.ediv_nonneg ha.1 (by omega)
  rw [Int32.toInt_div_of_ne_right _ _ (fun h => by have h2 : (iI b).toInt = (-1 : Int32).toInt := by rw [h]
                                                   rw [iI_toInt (by omega)] at h2; rw [show ((-1 : Int32).toInt) = -1 by decide] at h2; omega),
    iI_toInt (by omega), iI_toInt (by omega), iI_toInt (by omega), Int.tdiv_eq_ediv_of_nonneg ha.1]
theorem iI_rem {a b : Int} (ha : 0 ≤ a ∧ a ≤ 2147483647) (hb : 0 < b ∧ b ≤ 2147483647) : iI a - iI a / iI b * iI b = iI (a % b) := by
  rw [iI_div ha hb, ← iI_mul, ← iI_sub]
  congr 1
  rw [Int.emod_def, Int.mul_comm]
theorem iI_bip : ∀ k : Nat, k < 256 → (Int8.ofInt ((k : Int) - 128)).toInt32 = iI ((k : Int) - 128) := by decide +kernel
theorem iI_bipush {z : Int} (h : -128 ≤ z ∧ z ≤ 127) : (Int8.ofInt z).toInt32 = iI z := by
  have h1 := iI_bip (z + 128).toNat (by omega)
  rwa [show (((z + 128).toNat : Nat) : Int) - 128 = z by omega] at h1
theorem iI_sipush {z : Int} (h : -32768 ≤ z ∧ z ≤ 32767) : (Int16.ofInt z).toInt32 = iI z := by
  apply Int32.toInt_inj.mp
  rw [Int16.toInt_toInt32, Int16.toInt_ofInt_of_le (by omega) (by omega), iI_toInt (by omega)]
theorem iI_long {z : Int} (h : -2147483648 ≤ z ∧ z ≤ 2147483647) : (iI z).toInt64 = Int64.ofInt z := by
  apply Int64.toInt_inj.mp
  rw [Int32.toInt_toInt64, iI_toInt h, Int64.toInt_ofInt_of_le (by omega) (by omega)]
/-! ENGINE 2: abstract values, cells, memory. A cell is called by a number; numbers below e_NC are constants (old cells), the others are the cells made since the law began, in their order -/
abbrev aV : Type := Int ⊕ (Option Nat ⊕ (Int64 ⊕ (UInt32 ⊕ UInt64)))
abbrev vI (z : Int) : aV := Sum.inl z
abbrev vO (r : Option Nat) : aV := Sum.inr (Sum.inl r)
abbrev vR (k : Nat) : aV := Sum.inr (Sum.inl (some k))
abbrev vN : aV := Sum.inr (Sum.inl none)
abbrev vL (z : Int64) : aV := Sum.inr (Sum.inr (Sum.inl z))
abbrev vF (z : UInt32) : aV := Sum.inr (Sum.inr (Sum.inr (Sum.inl z)))
abbrev vD (z : UInt64) : aV := Sum.inr (Sum.inr (Sum.inr (Sum.inr z)))
abbrev aA : Type := Nat × ((Nat → Int) ⊕ ((Nat → Int64) ⊕ ((Nat → UInt64) ⊕ (Nat → Option Nat))))
abbrev aE : Type := (Nat × aA) ⊕ (Nat × List aV)
abbrev Mem : Type := Nat → aE
abbrev cI (kd len : Nat) (f : Nat → Int) : aE := Sum.inl (kd, (len, Sum.inl f))
abbrev cL (kd len : Nat) (f : Nat → Int64) : aE := Sum.inl (kd, (len, Sum.inr (Sum.inl f)))
abbrev cD (kd len : Nat) (f : Nat → UInt64) : aE := Sum.inl (kd, (len, Sum.inr (Sum.inr (Sum.inl f))))
abbrev cR (kd len : Nat) (f : Nat → Option Nat) : aE := Sum.inl (kd, (len, Sum.inr (Sum.inr (Sum.inr f))))
abbrev cO (ci : Nat) (fs : List aV) : aE := Sum.inr (ci, fs)
abbrev e_NC : Nat := 100
def e_cv (ad : Nat → Nat) (v : aV) : Value := match v with
  | .inl z => .int (iI z)
  | .inr (.inl none) => .null
  | .inr (.inl (some k)) => .ref (ad k)
  | .inr (.inr (.inl z)) => .long z
  | .inr (.inr (.inr (.inl z))) => .float z
  | .inr (.inr (.inr (.inr z))) => .double z
def e_wfV (n : Nat) (v : aV) : Prop := match v with
  | .inr (.inl (some k)) => k < n
  | _ => True
def e_wfS (n : Nat) (st : List aV) : Prop := match st with
  | [] => True
  | v :: r => e_wfV n v ∧ e_wfS n r
theorem e_cv_ext {ad ad' : Nat → Nat} {n : Nat} (h : ∀ k, k < n → ad' k = ad k) {v : aV} (hv : e_wfV n v) : e_cv ad' v = e_cv ad v := by
  match v, hv with
  | .inl z, _ => rfl
  | .inr (.inl none), _ => rfl
  | .inr (.inl (some k)), hv => show Value.ref (ad' k) = Value.ref (ad k); rw [h k hv]
  | .inr (.inr (.inl z)), _ => rfl
  | .inr (.inr (.inr (.inl z))), _ => rfl
  | .inr (.inr (.inr (.inr z))), _ => rfl
theorem e_wfV_mono {n n' : Nat} (h : n ≤ n') {v : aV} (hv : e_wfV n v) : e_wfV n' v := by
  match v, hv with
  | .inl z, _ => trivial
  | .inr (.inl none), _ => trivial
  | .inr (.inl (some k)), hv => exact Nat.lt_of_lt_of_le hv h
  | .inr (.inr (.inl z)), _ => trivial
  | .inr (.inr (.inr (.inl z))), _ => trivial
  | .inr (.inr (.inr (.inr z))), _ => trivial
theorem e_wfS_mono {n n' : Nat} (h : n ≤ n') : ∀ {st : List aV}, e_wfS n st → e_wfS n' st
  | [], _ => trivial
  | _ :: _, hs => ⟨e_wfV_mono h hs.1, e_wfS_mono h hs.2⟩
theorem e_wfS_app {n : Nat} : ∀ {a b : List aV}, e_wfS n (a ++ b) ↔ e_wfS n a ∧ e_wfS n b
  | [], b => ⟨fun h => ⟨trivial, h⟩, fun h => h.2⟩
  | v :: a, b => ⟨fun h => ⟨⟨h.1, (e_wfS_app.mp h.2).1⟩, (e_wfS_app.mp h.2).2⟩, fun h => ⟨h.1.1, e_wfS_app.mpr ⟨h.1.2, h.2⟩⟩⟩
theorem e_wfS_rev {n : Nat} : ∀ {a : List aV}, e_wfS n a.reverse → e_wfS n a
  | [], _ => trivial
  | v :: a, h => by
    rw [List.reverse_cons] at h
    have h2 := e_wfS_app.mp h
    exact ⟨h2.2.1, e_wfS_rev h2.1⟩
theorem e_wfS_mem {n : Nat} : ∀ {a : List aV}, e_wfS n a → ∀ v ∈ a, e_wfV n v
  | [], _, v, h => nomatch h
  | _ :: a, hs, v, h => by
    rcases List.mem_cons.mp h with rfl | h
    · exact hs.1
    · exact e_wfS_mem hs.2 v h
theorem e_wfS_of {n : Nat} : ∀ {a : List aV}, (∀ v ∈ a, e_wfV n v) → e_wfS n a
  | [], _ => trivial
  | _ :: _, h => ⟨h _ List.mem_cons_self, e_wfS_of fun v hv => h v (List.mem_cons_of_mem _ hv)⟩
theorem e_map_ext {ad ad' : Nat → Nat} {n : Nat} (h : ∀ k, k < n → ad' k = ad k) : ∀ {st : List aV}, e_wfS n st → st.map (e_cv ad') = st.map (e_cv ad)
  | [], _ => rfl
  | v :: r, hs => by
    show e_cv ad' v :: r.map (e_cv ad') = e_cv ad v :: r.map (e_cv ad)
    rw [e_cv_ext h hs.1, e_map_ext h hs.2]
def e_ca (ad : Nat → Nat) (a : aA) : vp_A := (a.1, match a.2 with
  | .inl f => .inl (fun j => iI (f j))
  | .inr (.inl f) => .inr (.inl f)
  | .inr (.inr (.inl f)) => .inr (.inr (.inr (.inl f)))
  | .inr (.inr (.inr g)) => .inr (.inr (.inr (.inr (fun j => (g j).map ad)))))
def e_ce (tys : List (ClassId × FieldType)) (ad : Nat → Nat) (c : aE) : va_E := match c with
  | .inl (k, a) => .inl ((tys.getD k (0, .int)).1, e_ca ad a)
  | .inr (ci, fs) => .inr (ci, fs.map (e_cv ad))
def e_wfE (n : Nat) (c : aE) : Prop := match c with
  | .inl (kd, (_, .inr (.inr (.inr g)))) => kd < 7 ∧ ∀ j r, g j = some r → r < n
  | .inl (kd, _) => kd < 7
  | .inr (_, fs) => e_wfS n fs
theorem e_wfE_kd {n kd : Nat} {a : aA} (h : e_wfE n (.inl (kd, a))) : kd < 7 := by
  match a, h with
  | (_, .inr (.inr (.inr g))), h => exact h.1
  | (_, .inl f), h => exact h
  | (_, .inr (.inl f)), h => exact h
  | (_, .inr (.inr (.inl f))), h => exact h
theorem e_wfE_mono {n n' : Nat} (h : n ≤ n') {c : aE} (hc : e_wfE n c) : e_wfE n' c := by
  match c, hc with
  | .inl (_, (_, .inr (.inr (.inr g)))), hc => exact ⟨hc.1, fun j r hj => Nat.lt_of_lt_of_le (hc.2 j r hj) h⟩
  | .inl (_, (_, .inl f)), hc => exact hc
  | .inl (_, (_, .inr (.inl f))), hc => exact hc
  | .inl (_, (_, .inr (.inr (.inl f)))), hc => exact hc
  | .inr (_, fs), hc => exact e_wfS_mono h (show e_wfS n fs from hc)
theorem e_ce_ext {tys : List (ClassId × FieldType)} {ad ad' : Nat → Nat} {n : Nat} (h : ∀ k, k < n → ad' k = ad k) {c : aE} (hc : e_wfE n c) : e_ce tys ad' c = e_ce tys ad c := by
  match c, hc with
  | .inl (k, (len, .inr (.inr (.inr g)))), hc =>
    have e : (fun j => (g j).map ad') = (fun j => (g j).map ad) := by
      funext j
      cases hj : g j with
      | none => rfl
      | some r => show some (ad' r) = some (ad r); rw [h r (hc.2 j r hj)]
    show (Sum.inl (_, (len, Sum.inr (Sum.inr (Sum.inr (Sum.inr (fun j => (g j).map ad')))))) : va_E) = _
    rw [e]; rfl
  | .inl (_, (_, .inl f)), _ => rfl
  | .inl (_, (_, .inr (.inl f))), _ => rfl
  | .inl (_, (_, .inr (.inr (.inl f)))), _ => rfl
  | .inr (ci, fs), hc =>
    show (Sum.inr (ci, fs.map (e_cv ad')) : va_E) = Sum.inr (ci, fs.map (e_cv ad))
    rw [e_map_ext h (show e_wfS n fs from hc)]
/-- the list of all new cells, as the kit's rows want it -/
def e_ws (tys : List (ClassId × FieldType)) (ad : Nat → Nat) (M : Mem) (n : Nat) : va_W := (List.range (n - e_NC)).map (fun j => (ad (e_NC + j), e_ce tys ad (M (e_NC + j))))
theorem e_ws_get {tys : List (ClassId × FieldType)} {ad : Nat → Nat} {M : Mem} {n k : Nat} (h1 : e_NC ≤ k) (h2 : k < n) : (e_ws tys ad M n)[k - e_NC]? = some (ad k, e_ce tys ad (M k)) := by
  unfold e_ws
  rw [List.getElem?_map, List.getElem?_range (by omega), Option.map_some]
  have e : e_NC + (k - e_NC) = k := by omega
  rw [e]
theorem e_ws_at {tys : List (ClassId × FieldType)} {ad : Nat → Nat} {M : Mem} {n i : Nat} {q : Nat × va_E} (h : (e_ws tys ad M n)[i]? = some q) : e_NC + i < n ∧ q = (ad (e_NC + i), e_ce tys ad (M (e_NC + i))) := by
  unfold e_ws at h
  rw [List.getElem?_map] at h
  by_cases hi : i < n - e_NC
  · rw [List.getElem?_range hi, Option.map_some] at h
    exact ⟨by omega, (Option.some.inj h).symm⟩
  · rw [List.getElem?_eq_none (by simp; omega)] at h
    cases h
theorem e_ws_len {tys : List (ClassId × FieldType)} {ad : Nat → Nat} {M : Mem} {n : Nat} : (e_ws tys ad M n).length = n - e_NC := by simp [e_ws]
theorem e_ws_set {tys : List (ClassId × FieldType)} {ad : Nat → Nat} {M : Mem} {n k : Nat} {c : aE} (h1 : e_NC ≤ k) (h2 : k < n) : (e_ws tys ad M n).set (k - e_NC) (ad k, e_ce tys ad c) = e_ws tys ad (va_up M k c) n := by
  apply List.ext_getElem?
  intro i
  by_cases hi : i = k - e_NC
  · subst hi
    rw [List.getElem?_set_self (by rw [e_ws_len]; omega), e_ws_get h1 h2, va_up_self]
  · rw [List.getElem?_set_ne (fun h => hi h.symm)]
    unfold e_ws
    rw [List.getElem?_map, List.getElem?_map]
    by_cases h3 : i < n - e_NC
    · rw [List.getElem?_range h3, Option.map_some, Option.map_some, va_up_ne _ _ (by omega)]
    · rw [List.getElem?_eq_none (by simp; omega)]; rfl
theorem e_ws_push {tys : List (ClassId × FieldType)} {ad : Nat → Nat} {M : Mem} {n q : Nat} {c : aE} (h1 : e_NC ≤ n) (hw : ∀ k, e_NC ≤ k → k < n → e_wfE n (M k)) : e_ws tys (va_up ad n q) (va_up M n c) (n + 1) = e_ws tys ad M n ++ [(q, e_ce tys (va_up ad n q) c)] := by
  unfold e_ws
  rw [show n + 1 - e_NC = (n - e_NC) + 1 by omega, List.range_succ, List.map_append]
  congr 1
  · apply List.map_congr_left
    intro j hj
    have hj2 : j < n - e_NC := List.mem_range.mp hj
    rw [va_up_ne _ _ (by omega : e_NC + j ≠ n), va_up_ne _ _ (by omega : e_NC + j ≠ n), e_ce_ext (n := n) (ad := ad) (fun k hk => va_up_ne _ _ (by omega)) (hw _ (by omega) (by omega))]
  · show [(va_up ad n q (e_NC + (n - e_NC)), e_ce tys (va_up ad n q) (va_up M n c (e_NC + (n - e_NC))))] = [(q, e_ce tys (va_up ad n q) c)]
    rw [show e_NC + (n - e_NC) = n by omega, va_up_self, va_up_self]
