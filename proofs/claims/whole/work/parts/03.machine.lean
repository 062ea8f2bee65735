/-! THE ABSTRACT MACHINE: numbers are whole numbers, references are (kind, instance), memory is a function -/
abbrev zV : Type := Int ⊕ (Int ⊕ (Nat × Nat))
abbrev zi (z : Int) : zV := .inl z
abbrev zl (z : Int) : zV := .inr (.inl z)
abbrev zr (k i : Nat) : zV := .inr (.inr (k, i))
abbrev zM : Type := Nat → Nat → Nat → Int
abbrev zL : Type := List (Option zV)
abbrev zC : Type := Nat × zL × List zV × zM
theorem zble_t {n m : Nat} (h : n ≤ m) : Nat.ble n m = true := Nat.ble_eq.mpr h
theorem zble_f {n m : Nat} (h : m < n) : Nat.ble n m = false := Bool.eq_false_iff.mpr (fun hb => absurd (Nat.ble_eq.mp hb) (by omega))
def zsml (b : Nat) (z x : Int) : Int := match z with
  | .ofNat n => cond (Nat.ble n b) z x
  | .negSucc n => cond (Nat.ble n b) z x
theorem zsml_in {b : Nat} {z x : Int} (h1 : -(b : Int) - 1 ≤ z) (h2 : z ≤ b) : zsml b z x = z := by
  cases z with
  | ofNat n => simp only [zsml, zble_t (show n ≤ b by simp at h2; omega), cond_true]
  | negSucc n => simp only [zsml, zble_t (show n ≤ b by omega), cond_true]
theorem zsml_out {b : Nat} {z x : Int} (h : ¬ (-(b : Int) - 1 ≤ z ∧ z ≤ b)) : zsml b z x = x := by
  cases z with
  | ofNat n =>
    have e : b < n := by simp at h; omega
    simp only [zsml, zble_f e, cond_false]
  | negSucc n =>
    have e : b < n := by omega
    simp only [zsml, zble_f e, cond_false]
/-- the number as an int has it -/
def zw (z : Int) : Int := zsml 2147483647 z (Int32.ofInt z).toInt
def zwl (z : Int) : Int := zsml 9223372036854775807 z (Int64.ofInt z).toInt
theorem zw_id {z : Int} (h1 : -2147483648 ≤ z) (h2 : z < 2147483648) : zw z = z := zsml_in (by omega) (by omega)
theorem zwl_id {z : Int} (h1 : -9223372036854775808 ≤ z) (h2 : z < 9223372036854775808) : zwl z = z := zsml_in (by omega) (by omega)
theorem zw_eq (z : Int) : zw z = (Int32.ofInt z).toInt := by
  by_cases h : -2147483648 ≤ z ∧ z < 2147483648
  · rw [zw_id h.1 h.2, Int32.toInt_ofInt_of_le (by have := h.1; omega) (by have := h.2; omega)]
  · exact zsml_out (by omega)
theorem zwl_eq (z : Int) : zwl z = (Int64.ofInt z).toInt := by
  by_cases h : -9223372036854775808 ≤ z ∧ z < 9223372036854775808
  · rw [zwl_id h.1 h.2, Int64.toInt_ofInt_of_le (by have := h.1; omega) (by have := h.2; omega)]
  · exact zsml_out (by omega)
theorem zw_of (z : Int) : Int32.ofInt (zw z) = Int32.ofInt z := by rw [zw_eq, Int32.ofInt_toInt]
theorem zwl_of (z : Int) : Int64.ofInt (zwl z) = Int64.ofInt z := by rw [zwl_eq, Int64.ofInt_toInt]
theorem zw_lo (z : Int) : -2147483648 ≤ zw z := by rw [zw_eq]; exact Int32.le_toInt _
theorem zw_hi (z : Int) : zw z < 2147483648 := by rw [zw_eq]; exact Int32.toInt_lt _
def zput (M : zM) (k i j : Nat) (v : Int) : zM := fun k' i' j' => if k' = k ∧ i' = i ∧ j' = j then v else M k' i' j'
/-- n elements of (k1, i1) from sp on come to (k2, i2) from dp on -/
def zcopy (M : zM) (k1 i1 sp k2 i2 dp n : Nat) : zM := fun k i j => if k = k2 ∧ i = i2 ∧ dp ≤ j ∧ j < dp + n then M k1 i1 (sp + (j - dp)) else M k i j
def zad (adr : Nat → Nat) (k i : Nat) : Nat := adr (zoff k + i)
def zc (adr : Nat → Nat) : zV → Value
  | .inl z => .int (Int32.ofInt z)
  | .inr (.inl z) => .long (Int64.ofInt z)
  | .inr (.inr (k, i)) => .ref (zad adr k i)
def zft (k j : Nat) : Nat := (zfts k).getD j 0
/-- instance: by the factor f of the instance i, the index j (if u counts), the offset o -/
def zaff (f u o i j : Nat) : Nat := match f, u with
  | 0, 0 => o
  | 0, _ => j + o
  | 1, 0 => i + o
  | 1, _ => j + i + o
  | f, 0 => f * i + o
  | f, _ => j + f * i + o
def zrtO (k i j : Nat) : Nat × Nat := match (zrfs k).getD j (0, 0, 0, 0) with | (t, f, u, o) => (t, zaff f u o i j)
def zrtA (k i j : Nat) : Nat × Nat := match (zrfs k).getD 0 (0, 0, 0, 0) with | (t, f, u, o) => (t, zaff f u o i j)
def zfv (adr : Nat → Nat) (k i : Nat) (f : Nat → Int) (j : Nat) : Value := match zft k j with
  | 0 => .int (Int32.ofInt (f j))
  | 1 => .int (Int32.ofInt (f j % 2))
  | 2 => .ref (zad adr (zrtO k i j).1 (zrtO k i j).2)
  | _ => if f j < 0 then .null else .ref (zad adr 2 (f j).toNat)
def zarr (adr : Nat → Nat) (k i : Nat) (f : Nat → Int) : (Nat → Int32) ⊕ (Nat → Int64) ⊕ (Nat → UInt32) ⊕ (Nat → UInt64) ⊕ (Nat → Option Nat) := match ztag k with
  | 0 => .inl (fun j => Int32.ofInt (f j))
  | 1 => .inl (fun j => Int32.ofInt (Int.bmod (f j) 256))
  | 2 => .inl (fun j => Int32.ofInt (f j % 2))
  | 3 => .inr (.inl (fun j => Int64.ofInt (f j)))
  | _ => .inr (.inr (.inr (.inr (fun j => some (zad adr (zrtA k i j).1 (zrtA k i j).2)))))
def zcell (adr : Nat → Nat) (cA : Nat → ClassId) (k i : Nat) (f : Nat → Int) : va_E := match zobj k with
  | some ci => .inr (ci, (List.range (zlen k)).map (zfv adr k i f))
  | none => .inl (cA (ztag k), zlen k, zarr adr k i f)
def zpl : List Nat → Nat → Nat → Nat × Nat
  | [], q, k => (k, q)
  | c :: cs, q, k => if q < c then (k, q) else zpl cs (q - c) (k + 1)
def zlay (adr : Nat → Nat) (cA : Nat → ClassId) (M : zM) : va_W := (List.range zNP).map (fun q => (adr q, zcell adr cA (zpl zcnts q 0).1 (zpl zcnts q 0).2 (M (zpl zcnts q 0).1 (zpl zcnts q 0).2)))
theorem zpl_all : (List.range zNK).all (fun k => (List.range (zcnt k)).all (fun i => decide (zpl zcnts (zoff k + i) 0 = (k, i)) && decide (zoff k + i < zNP))) = true := by decide +kernel
theorem zpl_ok {k i : Nat} (hk : k < zNK) (hi : i < zcnt k) : zpl zcnts (zoff k + i) 0 = (k, i) ∧ zoff k + i < zNP := by
  have h := List.all_eq_true.mp (List.all_eq_true.mp zpl_all k (List.mem_range.mpr hk)) i (List.mem_range.mpr hi)
  simp only [Bool.and_eq_true, decide_eq_true_eq] at h
  exact h
theorem zpl_inv_all : (List.range zNP).all (fun q => decide (zoff (zpl zcnts q 0).1 + (zpl zcnts q 0).2 = q)) = true := by decide +kernel
theorem zpl_inv {q : Nat} (h : q < zNP) : zoff (zpl zcnts q 0).1 + (zpl zcnts q 0).2 = q := by
  have h := List.all_eq_true.mp zpl_inv_all q (List.mem_range.mpr h)
  simpa using h
theorem zlay_at {adr : Nat → Nat} {cA : Nat → ClassId} {M : zM} {q : Nat} (h : q < zNP) : (zlay adr cA M)[q]? = some (adr q, zcell adr cA (zpl zcnts q 0).1 (zpl zcnts q 0).2 (M (zpl zcnts q 0).1 (zpl zcnts q 0).2)) := by
  simp only [zlay, List.getElem?_map, List.getElem?_range h, Option.map_some]
theorem zlay_none {adr : Nat → Nat} {cA : Nat → ClassId} {M : zM} {q : Nat} (h : ¬ q < zNP) : (zlay adr cA M)[q]? = none := by
  rw [List.getElem?_eq_none_iff]
  simp only [zlay, List.length_map, List.length_range]
  omega
theorem zlay_get {adr : Nat → Nat} {cA : Nat → ClassId} {M : zM} {k i : Nat} (hk : k < zNK) (hi : i < zcnt k) : (zlay adr cA M)[zoff k + i]? = some (zad adr k i, zcell adr cA k i (M k i)) := by
  obtain ⟨h1, h2⟩ := zpl_ok hk hi
  rw [zlay_at h2, h1]
  rfl
theorem zlay_set {adr : Nat → Nat} {cA : Nat → ClassId} {M M' : zM} {k i : Nat} (hk : k < zNK) (hi : i < zcnt k) (hM : ∀ k' i', ¬ (k' = k ∧ i' = i) → M' k' i' = M k' i') :
    (zlay adr cA M).set (zoff k + i) (zad adr k i, zcell adr cA k i (M' k i)) = zlay adr cA M' := by
  obtain ⟨h1, h2⟩ := zpl_ok hk hi
  have hlen : (zlay adr cA M).length = zNP := by simp only [zlay, List.length_map, List.length_range]
  refine List.ext_getElem? fun q => ?_
  by_cases hq : q = zoff k + i
  · subst hq
    rw [List.getElem?_set_self (by rw [hlen]; exact h2), zlay_get hk hi]
  · rw [List.getElem?_set_ne (fun h => hq h.symm)]
    by_cases hlt : q < zNP
    · rw [zlay_at hlt, zlay_at hlt, hM]
      intro h
      refine hq ?_
      rw [← zpl_inv hlt, h.1, h.2]
    · rw [zlay_none hlt, zlay_none hlt]
def zA (adr : Nat → Nat) : Nat → Prop := fun q => ∃ j, j < zNP ∧ q = adr j
def zDj (adr : Nat → Nat) : Prop := ∀ i j, i < zNP → j < zNP → adr i = adr j → i = j
def zWd (D : va_G) (cA : Nat → ClassId) (adr : Nat → Nat) (M : zM) (H : Heap) : Prop := va_P D vwCl (zlay adr cA M) H
theorem zD_of {adr : Nat → Nat} (cA : Nat → ClassId) (M : zM) (h : zDj adr) {A : Nat → Prop} (hA : ∀ q, zA adr q → A q) : va_D A (zlay adr cA M) := by
  have key : ∀ (k : Nat) (q : Nat × va_E), (zlay adr cA M)[k]? = some q → k < zNP ∧ q.1 = adr k := by
    intro k q hk
    by_cases hlt : k < zNP
    · rw [zlay_at hlt] at hk
      cases hk
      exact ⟨hlt, rfl⟩
    · rw [zlay_none hlt] at hk
      cases hk
  refine ⟨fun i j x y hx hy hxy => ?_, fun k q hk => ?_⟩
  · obtain ⟨a1, a2⟩ := key i x hx
    obtain ⟨b1, b2⟩ := key j y hy
    exact h i j a1 b1 (by rw [← a2, ← b2, hxy])
  · obtain ⟨a1, a2⟩ := key k q hk
    exact hA _ ⟨k, a1, a2⟩
/-- a reference to a cell of the world, or to a String constant -/
def zokr (k i : Nat) : Prop := (k < zNK ∧ i < zcnt k) ∨ (k = 90 ∧ i < 100)
def zok : zV → Prop
  | .inr (.inr (k, i)) => zokr k i
  | _ => True
/-- which locals stand where -/
def zll (adr : Nat → Nat) (lv : zL) : List (Nat × Value) := lv.zipIdx.filterMap (fun q => q.1.map (fun v => (q.2, zc adr v)))
theorem zll_mem {adr : Nat → Nat} {lv : zL} {q : Nat × Value} : q ∈ zll adr lv ↔ ∃ i v, lv[i]? = some (some v) ∧ q = (i, zc adr v) := by
  unfold zll
  rw [List.mem_filterMap]
  constructor
  · rintro ⟨⟨o, i⟩, h1, h2⟩
    rw [List.mem_zipIdx_iff_getElem?] at h1
    cases o with
    | none => simp at h2
    | some v =>
      simp only [Option.map_some, Option.some.injEq] at h2
      exact ⟨i, v, h1, h2.symm⟩
  · rintro ⟨i, v, h1, rfl⟩
    exact ⟨(some v, i), by rw [List.mem_zipIdx_iff_getElem?]; exact h1, rfl⟩
def zkill (lv : zL) (i : Nat) : zL := match i with
  | 0 => lv
  | j + 1 => match lv[j]? with
    | some (some (.inr (.inl _))) => lv.set j none
    | _ => lv
def zst1 (lv : zL) (i : Nat) (v : zV) : zL := (zkill lv i).set i (some v)
def zst2 (lv : zL) (i : Nat) (v : zV) : zL := ((zkill lv i).set i (some v)).set (i + 1) none
theorem zkill_len (lv : zL) (i : Nat) : (zkill lv i).length = lv.length := by
  cases i with
  | zero => rfl
  | succ j =>
    simp only [zkill]
    split <;> simp
theorem zkill_mem {lv : zL} {i j : Nat} {v : zV} (h : (zkill lv i)[j]? = some (some v)) : lv[j]? = some (some v) ∧ (j + 1 = i → ∀ z, v ≠ zl z) := by
  cases i with
  | zero => exact ⟨h, fun q => absurd q (by omega)⟩
  | succ n =>
    simp only [zkill] at h
    split at h
    · rename_i z hz
      by_cases hj : n = j
      · subst hj
        have hl : n < lv.length := (List.getElem?_eq_some_iff.mp hz).1
        rw [List.getElem?_set_self hl] at h
        cases h
      · rw [List.getElem?_set_ne hj] at h
        exact ⟨h, fun q => absurd q (by omega)⟩
    · rename_i hz
      refine ⟨h, fun q z e => ?_⟩
      have : j = n := by omega
      subst this
      subst e
      exact hz z h
theorem zc_cat1 {adr : Nat → Nat} {v : zV} (h : ∀ z, v ≠ zl z) : (zc adr v).category = 1 := by
  rcases v with z | z | ⟨k, i⟩
  · rfl
  · exact absurd rfl (h z)
  · rfl
theorem zll_st1 {adr : Nat → Nat} {lv : zL} {i : Nat} {v : zV} : ∀ q ∈ zll adr (zst1 lv i v), q ∈ (i, zc adr v) :: (zll adr lv).filter (fun q => !(q.1 == i) && !(q.1 + 1 == i && q.2.category == 2)) := by
  intro q hq
  obtain ⟨j, w, h1, rfl⟩ := zll_mem.mp hq
  unfold zst1 at h1
  by_cases hj : j = i
  · subst hj
    have hl : j < (zkill lv j).length := by
      have := (List.getElem?_eq_some_iff.mp h1).1
      simpa using this
    rw [List.getElem?_set_self hl] at h1
    cases h1
    exact List.mem_cons_self
  · rw [List.getElem?_set_ne (fun z => hj z.symm)] at h1
    obtain ⟨h2, h3⟩ := zkill_mem h1
    refine List.mem_cons_of_mem _ (List.mem_filter.mpr ⟨zll_mem.mpr ⟨j, w, h2, rfl⟩, ?_⟩)
    by_cases hji : j + 1 = i
    · have := zc_cat1 (adr := adr) (h3 hji)
      simp [hj, this]
    · simp [hj, hji]
theorem zll_st2 {adr : Nat → Nat} {lv : zL} {i : Nat} {v : zV} : ∀ q ∈ zll adr (zst2 lv i v), q ∈ (i, zc adr v) :: (zll adr lv).filter (fun q => !(q.1 == i) && (!(q.1 == i + 1) && !(q.1 + 1 == i && q.2.category == 2))) := by
  intro q hq
  obtain ⟨j, w, h1, rfl⟩ := zll_mem.mp hq
  unfold zst2 at h1
  by_cases hj1 : j = i + 1
  · subst hj1
    have hl : i + 1 < ((zkill lv i).set i (some v)).length := by
      have := (List.getElem?_eq_some_iff.mp h1).1
      simpa using this
    rw [List.getElem?_set_self hl] at h1
    cases h1
  · rw [List.getElem?_set_ne (fun z => hj1 z.symm)] at h1
    by_cases hj : j = i
    · subst hj
      have hl : j < (zkill lv j).length := by
        have := (List.getElem?_eq_some_iff.mp h1).1
        simpa using this
      rw [List.getElem?_set_self hl] at h1
      cases h1
      exact List.mem_cons_self
    · rw [List.getElem?_set_ne (fun z => hj z.symm)] at h1
      obtain ⟨h2, h3⟩ := zkill_mem h1
      refine List.mem_cons_of_mem _ (List.mem_filter.mpr ⟨zll_mem.mpr ⟨j, w, h2, rfl⟩, ?_⟩)
      by_cases hji : j + 1 = i
      · have := zc_cat1 (adr := adr) (h3 hji)
        simp [hj, hj1, this]
      · simp [hj, hj1, hji]
theorem zlv_sub {ls : Array Slot} {n : Nat} {l l' : List (Nat × Value)} (h : lv_has ls n l) (hs : ∀ q ∈ l', q ∈ l) : lv_has ls n l' := ⟨h.1, h.2.1, fun q hq => h.2.2 q (hs q hq)⟩
theorem zlv_at {adr : Nat → Nat} {ls : Array Slot} {n : Nat} {lv : zL} (h : lv_has ls n (zll adr lv)) {i : Nat} {v : zV} (hi : lv[i]? = some (some v)) : ls[i]? = some (.val (zc adr v)) := h.2.2 (i, zc adr v) (zll_mem.mpr ⟨i, v, hi, rfl⟩)
/-! numbers -/
def zand (a b : Int) : Int := (Int32.ofInt a &&& Int32.ofInt b).toInt
def zor (a b : Int) : Int := (Int32.ofInt a ||| Int32.ofInt b).toInt
def zshl (a b : Int) : Int := (Int32.ofInt a <<< (Int32.ofInt b &&& 31)).toInt
def zshr (a b : Int) : Int := (Int32.ofInt a >>> (Int32.ofInt b &&& 31)).toInt
def zlcmp (a b : Int) : Int := if b < a then 1 else if a = b then 0 else -1
def zrem (a b : Int) : Int := a - a.tdiv b * b
theorem z_div {a b : Int} (_h : ¬ zw b = 0) : Int32.ofInt ((zw a).tdiv (zw b)) = Int32.ofInt a / Int32.ofInt b := by
  rw [← Int32.toInt_inj, Int32.toInt_div, Int32.toInt_ofInt, zw_eq, zw_eq]
theorem z_ldiv {a b : Int} (_h : ¬ zwl b = 0) : Int64.ofInt ((zwl a).tdiv (zwl b)) = Int64.ofInt a / Int64.ofInt b := by
  rw [← Int64.toInt_inj, Int64.toInt_div, Int64.toInt_ofInt, zwl_eq, zwl_eq]
theorem z_rem {a b : Int} (h : ¬ zw b = 0) : Int32.ofInt (zrem (zw a) (zw b)) = Int32.ofInt a - Int32.ofInt a / Int32.ofInt b * Int32.ofInt b := by
  unfold zrem
  rw [Int32.ofInt_sub, Int32.ofInt_mul, z_div h, zw_of, zw_of]
theorem z_lrem {a b : Int} (h : ¬ zwl b = 0) : Int64.ofInt (zrem (zwl a) (zwl b)) = Int64.ofInt a - Int64.ofInt a / Int64.ofInt b * Int64.ofInt b := by
  unfold zrem
  rw [Int64.ofInt_sub, Int64.ofInt_mul, z_ldiv h, zwl_of, zwl_of]
theorem z_ne0 {b : Int} (h : ¬ zw b = 0) : ¬ Int32.ofInt b = 0 := by
  intro e
  refine h ?_
  rw [zw_eq, e]
  rfl
theorem zl_ne0 {b : Int} (h : ¬ zwl b = 0) : ¬ Int64.ofInt b = 0 := by
  intro e
  refine h ?_
  rw [zwl_eq, e]
  rfl
theorem z_lt (a b : Int) : Int32.ofInt a < Int32.ofInt b ↔ zw a < zw b := by rw [Int32.lt_iff_toInt_lt, zw_eq, zw_eq]
theorem z_le (a b : Int) : Int32.ofInt a ≤ Int32.ofInt b ↔ zw a ≤ zw b := by rw [Int32.le_iff_toInt_le, zw_eq, zw_eq]
theorem z_eq (a b : Int) : Int32.ofInt a = Int32.ofInt b ↔ zw a = zw b := by rw [← Int32.toInt_inj, zw_eq, zw_eq]
theorem z_0 : (0 : Int32) = Int32.ofInt 0 := rfl
theorem zw_0 : zw 0 = 0 := rfl
theorem z_lcmp (a b : Int) : Int32.ofInt (zlcmp (zwl a) (zwl b)) = lg_cmp (Int64.ofInt a) (Int64.ofInt b) := by
  unfold zlcmp lg_cmp
  rw [zwl_eq, zwl_eq]
  simp only [gt_iff_lt, Int64.lt_iff_toInt_lt, ← Int64.toInt_inj]
  split
  · rfl
  · split <;> rfl
def zix (z : Int) : Nat := (zw z).toNat
theorem z_ix (z : Int) : (Int32.ofInt z).toNatClampNeg = zix z := by
  unfold zix
  rw [zw_eq]
  rfl
def zin (z : Int) (n : Nat) : Prop := 0 ≤ zw z ∧ zw z < n
theorem z_in {z : Int} {n : Nat} (h : 0 ≤ zw z ∧ zw z < n) : vp_in (Int32.ofInt z) n := by
  rw [vp_in_iff, ← zw_eq]
  exact h
theorem zix_lt {z : Int} {n : Nat} (h : 0 ≤ zw z ∧ zw z < n) : zix z < n := by
  unfold zix
  omega
/-! the step of one instruction (calls, returns and switches aside) -/
def zfget (M : zM) (k i x : Nat) : Option zV := match zft k x with
  | 0 => some (zi (M k i x))
  | 1 => some (zi (M k i x % 2))
  | 2 => some (zr (zrtO k i x).1 (zrtO k i x).2)
  | _ => if 0 ≤ M k i x ∧ M k i x < 4 then some (zr 2 (M k i x).toNat) else none
def zfput (M : zM) (k i x : Nat) (v : zV) : Option zM := match zft k x, v with
  | 0, .inl a => some (zput M k i x a)
  | 1, .inl a => if a = 0 ∨ a = 1 then some (zput M k i x a) else none
  | 3, .inr (.inr (2, j)) => some (zput M k i x (j : Int))
  | _, _ => none
def zaget (M : zM) (k i : Nat) (j : Int) : Option zV := match ztag k with
  | 0 => some (zi (M k i (zix j)))
  | 1 => some (zi (Int.bmod (M k i (zix j)) 256))
  | 2 => some (zi (M k i (zix j) % 2))
  | 3 => some (zl (M k i (zix j)))
  | _ => some (zr (zrtA k i (zix j)).1 (zrtA k i (zix j)).2)
def zisA (k t : Nat) : Bool := match zobj k with
  | none => Nat.beq (ztag k) t
  | some _ => false
def zisO (k c : Nat) : Bool := match zobj k with
  | none => false
  | some d => Nat.beq d c
def zjump (c : Bool) (t n : Nat) : Nat := cond c t n
def zstep (E : zE) (pc : Nat) (lv : zL) (st : List zV) (M : zM) : Option zC := match E with
  | (ins, _, x, y, _, z) => match ins with
    | .iconst n => some (pc + 1, lv, zi n :: st, M)
    | .bipush n => some (pc + 2, lv, zi n :: st, M)
    | .sipush n => some (pc + 3, lv, zi n :: st, M)
    | .lconst n => some (pc + 1, lv, zl (n.val : Int) :: st, M)
    | .ldc _ => cond (Nat.beq y 0) (some (pc + 2, lv, zi z :: st, M)) (some (pc + 2, lv, zr 90 x :: st, M))
    | .ldc_w _ => some (pc + 3, lv, zi z :: st, M)
    | .ldc2_w _ => some (pc + 3, lv, zl z :: st, M)
    | .iload i => match lv[i]? with
      | some (some (.inl a)) => some (pc + 2, lv, zi a :: st, M)
      | _ => none
    | .iload_n i => match lv[i.val]? with
      | some (some (.inl a)) => some (pc + 1, lv, zi a :: st, M)
      | _ => none
    | .lload i => match lv[i]? with
      | some (some (.inr (.inl a))) => some (pc + 2, lv, zl a :: st, M)
      | _ => none
    | .lload_n i => match lv[i.val]? with
      | some (some (.inr (.inl a))) => some (pc + 1, lv, zl a :: st, M)
      | _ => none
    | .aload i => match lv[i]? with
      | some (some (.inr (.inr (k, j)))) => some (pc + 2, lv, zr k j :: st, M)
      | _ => none
    | .aload_n i => match lv[i.val]? with
      | some (some (.inr (.inr (k, j)))) => some (pc + 1, lv, zr k j :: st, M)
      | _ => none
    | .istore i => match st with
      | .inl a :: r => cond (Nat.ble (i + 1) lv.length) (some (pc + 2, zst1 lv i (zi a), r, M)) none
      | _ => none
    | .istore_n i => match st with
      | .inl a :: r => cond (Nat.ble (i.val + 1) lv.length) (some (pc + 1, zst1 lv i.val (zi a), r, M)) none
      | _ => none
    | .lstore i => match st with
      | .inr (.inl a) :: r => cond (Nat.ble (i + 2) lv.length) (some (pc + 2, zst2 lv i (zl a), r, M)) none
      | _ => none
    | .lstore_n i => match st with
      | .inr (.inl a) :: r => cond (Nat.ble (i.val + 2) lv.length) (some (pc + 1, zst2 lv i.val (zl a), r, M)) none
      | _ => none
    | .astore i => match st with
      | .inr (.inr (k, j)) :: r => cond (Nat.ble (i + 1) lv.length) (some (pc + 2, zst1 lv i (zr k j), r, M)) none
      | _ => none
    | .astore_n i => match st with
      | .inr (.inr (k, j)) :: r => cond (Nat.ble (i.val + 1) lv.length) (some (pc + 1, zst1 lv i.val (zr k j), r, M)) none
      | _ => none
    | .iinc i n => match lv[i]? with
      | some (some (.inl a)) => some (pc + 3, zst1 lv i (zi (a + n)), st, M)
      | _ => none
    | .iadd => match st with
      | .inl b :: .inl a :: r => some (pc + 1, lv, zi (a + b) :: r, M)
      | _ => none
    | .isub => match st with
      | .inl b :: .inl a :: r => some (pc + 1, lv, zi (a - b) :: r, M)
      | _ => none
    | .imul => match st with
      | .inl b :: .inl a :: r => some (pc + 1, lv, zi (a * b) :: r, M)
      | _ => none
    | .ineg => match st with
      | .inl a :: r => some (pc + 1, lv, zi (-a) :: r, M)
      | _ => none
    | .idiv => match st with
      | .inl b :: .inl a :: r => if zw b = 0 then none else some (pc + 1, lv, zi ((zw a).tdiv (zw b)) :: r, M)
      | _ => none
    | .irem => match st with
      | .inl b :: .inl a :: r => if zw b = 0 then none else some (pc + 1, lv, zi (zrem (zw a) (zw b)) :: r, M)
      | _ => none
    | .ladd => match st with
      | .inr (.inl b) :: .inr (.inl a) :: r => some (pc + 1, lv, zl (a + b) :: r, M)
      | _ => none
    | .lsub => match st with
      | .inr (.inl b) :: .inr (.inl a) :: r => some (pc + 1, lv, zl (a - b) :: r, M)
      | _ => none
    | .lmul => match st with
      | .inr (.inl b) :: .inr (.inl a) :: r => some (pc + 1, lv, zl (a * b) :: r, M)
      | _ => none
    | .lneg => match st with
      | .inr (.inl a) :: r => some (pc + 1, lv, zl (-a) :: r, M)
      | _ => none
    | .ldiv => match st with
      | .inr (.inl b) :: .inr (.inl a) :: r => if zwl b = 0 then none else some (pc + 1, lv, zl ((zwl a).tdiv (zwl b)) :: r, M)
      | _ => none
    | .lrem => match st with
      | .inr (.inl b) :: .inr (.inl a) :: r => if zwl b = 0 then none else some (pc + 1, lv, zl (zrem (zwl a) (zwl b)) :: r, M)
      | _ => none
    | .lcmp => match st with
      | .inr (.inl b) :: .inr (.inl a) :: r => some (pc + 1, lv, zi (zlcmp (zwl a) (zwl b)) :: r, M)
      | _ => none
    | .iand => match st with
      | .inl b :: .inl a :: r => some (pc + 1, lv, zi (zand a b) :: r, M)
      | _ => none
    | .ior => match st with
      | .inl b :: .inl a :: r => some (pc + 1, lv, zi (zor a b) :: r, M)
      | _ => none
    | .ishl => match st with
      | .inl b :: .inl a :: r => some (pc + 1, lv, zi (zshl a b) :: r, M)
      | _ => none
    | .ishr => match st with
      | .inl b :: .inl a :: r => some (pc + 1, lv, zi (zshr a b) :: r, M)
      | _ => none
    | .i2l => match st with
      | .inl a :: r => some (pc + 1, lv, zl (zw a) :: r, M)
      | _ => none
    | .l2i => match st with
      | .inr (.inl a) :: r => some (pc + 1, lv, zi a :: r, M)
      | _ => none
    | .i2b => match st with
      | .inl a :: r => some (pc + 1, lv, zi (Int.bmod a 256) :: r, M)
      | _ => none
    | .dup => match st with
      | .inl a :: r => some (pc + 1, lv, zi a :: zi a :: r, M)
      | .inr (.inr (k, j)) :: r => some (pc + 1, lv, zr k j :: zr k j :: r, M)
      | _ => none
    | .dup2 => match st with
      | .inl b :: .inr (.inr (k, j)) :: r => some (pc + 1, lv, zi b :: zr k j :: zi b :: zr k j :: r, M)
      | _ => none
    | .pop => match st with
      | .inl _ :: r => some (pc + 1, lv, r, M)
      | _ => none
    | .goto _ => some (x, lv, st, M)
    | .if_icmp .eq _ => match st with
      | .inl b :: .inl a :: r => if zw a = zw b then some (x, lv, r, M) else some (pc + 3, lv, r, M)
      | _ => none
    | .if_icmp .ne _ => match st with
      | .inl b :: .inl a :: r => if ¬ zw a = zw b then some (x, lv, r, M) else some (pc + 3, lv, r, M)
      | _ => none
    | .if_icmp .lt _ => match st with
      | .inl b :: .inl a :: r => if zw a < zw b then some (x, lv, r, M) else some (pc + 3, lv, r, M)
      | _ => none
    | .if_icmp .ge _ => match st with
      | .inl b :: .inl a :: r => if zw b ≤ zw a then some (x, lv, r, M) else some (pc + 3, lv, r, M)
      | _ => none
    | .if_icmp .gt _ => match st with
      | .inl b :: .inl a :: r => if zw b < zw a then some (x, lv, r, M) else some (pc + 3, lv, r, M)
      | _ => none
    | .if_icmp .le _ => match st with
      | .inl b :: .inl a :: r => if zw a ≤ zw b then some (x, lv, r, M) else some (pc + 3, lv, r, M)
      | _ => none
    | .ifCond .eq _ => match st with
      | .inl a :: r => if zw a = 0 then some (x, lv, r, M) else some (pc + 3, lv, r, M)
      | _ => none
    | .ifCond .ne _ => match st with
      | .inl a :: r => if ¬ zw a = 0 then some (x, lv, r, M) else some (pc + 3, lv, r, M)
      | _ => none
    | .ifCond .lt _ => match st with
      | .inl a :: r => if zw a < 0 then some (x, lv, r, M) else some (pc + 3, lv, r, M)
      | _ => none
    | .ifCond .ge _ => match st with
      | .inl a :: r => if 0 ≤ zw a then some (x, lv, r, M) else some (pc + 3, lv, r, M)
      | _ => none
    | .ifCond .gt _ => match st with
      | .inl a :: r => if 0 < zw a then some (x, lv, r, M) else some (pc + 3, lv, r, M)
      | _ => none
    | .ifCond .le _ => match st with
      | .inl a :: r => if zw a ≤ 0 then some (x, lv, r, M) else some (pc + 3, lv, r, M)
      | _ => none
    | .getfield _ => match st with
      | .inr (.inr (k, i)) :: r => cond (zisO k y) ((zfget M k i x).map (fun v => (pc + 3, lv, v :: r, M))) none
      | _ => none
    | .putfield _ => match st with
      | v :: .inr (.inr (k, i)) :: r => cond (zisO k y) ((zfput M k i x v).map (fun M' => (pc + 3, lv, r, M'))) none
      | _ => none
    | .iaload => match st with
      | .inl j :: .inr (.inr (k, i)) :: r => cond (zisA k 0) (if 0 ≤ zw j ∧ zw j < zlen k then some (pc + 1, lv, zi (M k i (zix j)) :: r, M) else none) none
      | _ => none
    | .baload => match st with
      | .inl j :: .inr (.inr (k, i)) :: r => cond (zisA k 1) (if 0 ≤ zw j ∧ zw j < zlen k then some (pc + 1, lv, zi (Int.bmod (M k i (zix j)) 256) :: r, M) else none) (cond (zisA k 2) (if 0 ≤ zw j ∧ zw j < zlen k then some (pc + 1, lv, zi (M k i (zix j) % 2) :: r, M) else none) none)
      | _ => none
    | .laload => match st with
      | .inl j :: .inr (.inr (k, i)) :: r => cond (zisA k 3) (if 0 ≤ zw j ∧ zw j < zlen k then some (pc + 1, lv, zl (M k i (zix j)) :: r, M) else none) none
      | _ => none
    | .aaload => match st with
      | .inl j :: .inr (.inr (k, i)) :: r => cond (zisA k 4 || zisA k 5 || zisA k 6) (if 0 ≤ zw j ∧ zw j < zlen k then some (pc + 1, lv, zr (zrtA k i (zix j)).1 (zrtA k i (zix j)).2 :: r, M) else none) none
      | _ => none
    | .iastore => match st with
      | .inl v :: .inl j :: .inr (.inr (k, i)) :: r => cond (zisA k 0) (if 0 ≤ zw j ∧ zw j < zlen k then some (pc + 1, lv, r, zput M k i (zix j) v) else none) none
      | _ => none
    | .bastore => match st with
      | .inl v :: .inl j :: .inr (.inr (k, i)) :: r => cond (zisA k 1 || zisA k 2) (if 0 ≤ zw j ∧ zw j < zlen k then some (pc + 1, lv, r, zput M k i (zix j) v) else none) none
      | _ => none
    | .lastore => match st with
      | .inr (.inl v) :: .inl j :: .inr (.inr (k, i)) :: r => cond (zisA k 3) (if 0 ≤ zw j ∧ zw j < zlen k then some (pc + 1, lv, r, zput M k i (zix j) v) else none) none
      | _ => none
    | .arraylength => match st with
      | .inr (.inr (k, _)) :: r => cond (Nat.ble 1 (zlen k) && zisA k 0) (some (pc + 1, lv, zi (zlen k : Int) :: r, M)) none
      | _ => none
    | _ => none
