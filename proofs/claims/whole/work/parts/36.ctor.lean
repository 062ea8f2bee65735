/-! where the constructors lay each place's cell; what stands there at first -/
def zpi : List Nat := [0, 1, 2, 11, 20, 29, 3, 12, 21, 30, 4, 13, 22, 31, 5, 14, 23, 32, 6, 15, 24, 33, 7, 16, 25, 34, 8, 17, 26, 35, 9, 18, 27, 36, 10, 19, 28, 37, 41, 54, 67, 42, 55, 68, 43, 56, 69, 44, 57, 70, 45, 58, 71, 46, 47, 48, 49, 50, 51, 52, 53, 59, 60, 61, 62, 63, 64, 65, 66, 72, 73, 74, 75, 76, 77, 78, 79, 38, 39, 40, 80, 112, 81, 113, 82, 83, 84, 85, 86, 87, 88, 89, 90, 91, 92, 93, 94, 95, 96, 97, 98, 99, 100, 101, 102, 103, 104, 105, 106, 107, 108, 109, 110, 111, 114, 115, 116, 117, 118, 119, 120, 121, 122, 123, 124, 125, 126, 127, 128, 129, 130, 131, 132, 133, 134, 135, 136, 137, 138, 139, 140, 141, 142, 143, 162, 163, 164, 144, 152, 145, 153, 146, 154, 147, 155, 148, 156, 149, 157, 150, 158, 151, 159, 160, 161, 165, 166, 167, 168, 169, 170, 171, 172, 173, 174, 175, 176, 177, 178, 179, 180, 181, 182, 183, 184, 185, 186, 187, 188, 189, 190, 191, 192, 193, 194, 195, 196, 197, 198, 199, 200, 201, 202]
def zM0 : zM := fun k _ j => match k with
  | 42 => if j = 4 ∨ j = 5 then -1 else 0
  | 37 => if j = 1 ∨ j = 5 then -1 else 0
  | 11 => if j = 9 then 9 else if j = 11 then 89 else if j = 13 then -1 else 0
  | _ => 0
def cpl (k i : Nat) : Nat := zpi.getD (zoff k + i) 0
def cfm (k i x : Nat) (o : Option zV) : Bool := match zft k x with
  | 0 => decide (o = some (zi (zM0 k i x)))
  | 1 => decide (o = some (zi (zM0 k i x % 2)))
  | 2 => decide (o = some (zr 0 (cpl (zrtO k i x).1 (zrtO k i x).2))) && decide ((zrtO k i x).1 < zNK ∧ (zrtO k i x).2 < zcnt (zrtO k i x).1)
  | _ => decide (o = none) && decide (zM0 k i x < 0)
def cmatch (k i : Nat) (ce : cE) : Bool := match zobj k, ce with
  | some ci, .inl (ci', fs) => Nat.beq ci ci' && Nat.beq fs.length (zlen k) && (List.range (zlen k)).all (fun x => cfm k i x (fs.getD x none))
  | none, .inr (.inl (t, n)) => Nat.beq (ztag k) t && Nat.beq (zlen k) n && Nat.blt t 4 && decide (k ≠ 42 ∧ k ≠ 37 ∧ k ≠ 11)
  | none, .inr (.inr (t, l)) => Nat.beq (ztag k) t && Nat.ble 4 t && Nat.beq l.length (zlen k) && (List.range (zlen k)).all (fun x => decide (l.getD x none = some (cpl (zrtA k i x).1 (zrtA k i x).2)) && decide ((zrtA k i x).1 < zNK ∧ (zrtA k i x).2 < zcnt (zrtA k i x).1))
  | _, _ => false
def cmall (hl : List cE) : Bool := (List.range zNP).all (fun q => match hl[zpi.getD q 0]? with
  | some ce => cmatch (zpl zcnts q 0).1 (zpl zcnts q 0).2 ce
  | none => false)
section CTZ
variable {D : va_G} {cA : Nat → ClassId} {n0 : Nat} {adr : Nat → Nat} {H : Heap}
theorem cpl_adr (hadr : ∀ q, q < zNP → adr q = n0 + zpi.getD q 0) {k i : Nat} (h : k < zNK ∧ i < zcnt k) : zad adr k i = n0 + cpl k i := hadr _ (zpl_ok h.1 h.2).2
theorem cfm_ok (hadr : ∀ q, q < zNP → adr q = n0 + zpi.getD q 0) {k i x : Nat} {o : Option zV} (h : cfm k i x o = true) : cfv n0 o = zfv adr k i (zM0 k i) x := by
  unfold cfm at h
  unfold zfv
  split at h
  · rename_i e
    rw [of_decide_eq_true h, e]
    rfl
  · rename_i e
    rw [of_decide_eq_true h, e]
    rfl
  · rename_i e
    rw [Bool.and_eq_true, decide_eq_true_eq, decide_eq_true_eq] at h
    rw [h.1, e]
    show zc (cad n0) (zr 0 _) = _
    rw [crf]
    exact congrArg Value.ref (cpl_adr hadr h.2).symm
  · rename_i e0 e1 e2
    rw [Bool.and_eq_true, decide_eq_true_eq, decide_eq_true_eq] at h
    rw [h.1]
    split
    · rename_i q; exact absurd q e0
    · rename_i q; exact absurd q e1
    · rename_i q; exact absurd q e2
    · rw [if_pos h.2]; rfl
theorem zM0_arr {k : Nat} (h : k ≠ 42 ∧ k ≠ 37 ∧ k ≠ 11) (i j : Nat) : zM0 k i j = 0 := by
  unfold zM0
  split
  · exact absurd rfl h.1
  · exact absurd rfl h.2.1
  · exact absurd rfl h.2.2
  · rfl
theorem carr {c : ClassId} {n : Nat} {a b : (Nat → Int32) ⊕ (Nat → Int64) ⊕ (Nat → UInt32) ⊕ (Nat → UInt64) ⊕ (Nat → Option Nat)} (h : a = b) : vp_cell c (n, a) = vp_cell c (n, b) := by rw [h]
theorem cmatch_ok (hadr : ∀ q, q < zNP → adr q = n0 + zpi.getD q 0) {k i a : Nat} {ce : cE} (h : cmatch k i ce = true) (hat : va_at D vwCl (a, ccell n0 cA ce) H) : va_at D vwCl (a, zcell adr cA k i (zM0 k i)) H := by
  unfold cmatch at h
  split at h
  · rename_i ci ci' fs ho
    simp only [Bool.and_eq_true] at h
    obtain ⟨⟨h1, h2⟩, h3⟩ := h
    have h1 := Nat.eq_of_beq_eq_true h1
    have h2 := Nat.eq_of_beq_eq_true h2
    subst h1
    have e : ccell n0 cA (.inl (ci, fs)) = zcell adr cA k i (zM0 k i) := by
      unfold zcell
      rw [ho]
      show Sum.inr (ci, fs.map (cfv n0)) = Sum.inr (ci, _)
      congr 2
      refine List.ext_getElem? fun x => ?_
      by_cases hx : x < zlen k
      · have h4 := List.all_eq_true.mp h3 x (List.mem_range.mpr hx)
        rw [List.getElem?_map, List.getElem?_map, List.getElem?_range hx, Option.map_some, ← cfm_ok hadr h4, List.getD_eq_getElem?_getD, List.getElem?_eq_getElem (by omega)]
        rfl
      · rw [List.getElem?_eq_none_iff.mpr (by simp; omega), List.getElem?_eq_none_iff.mpr (by simp; omega)]
    rw [← e]
    exact hat
  · rename_i t n ho
    simp only [Bool.and_eq_true, decide_eq_true_eq] at h
    obtain ⟨⟨⟨h1, h2⟩, h3⟩, h4⟩ := h
    have h1 := Nat.eq_of_beq_eq_true h1
    have h2 := Nat.eq_of_beq_eq_true h2
    have h3 : t < 4 := by
      unfold Nat.blt at h3
      exact Nat.ble_eq.mp h3
    have e : ccell n0 cA (.inr (.inl (t, n))) = zcell adr cA k i (zM0 k i) := by
      unfold zcell zarr
      rw [ho, h1, h2]
      show Sum.inl (cA t, n, cprim t) = Sum.inl (cA t, n, _)
      congr 3
      match t, h3 with
      | 0, _ => show Sum.inl _ = Sum.inl _; congr 1; funext j; rw [zM0_arr h4]; rfl
      | 1, _ => show Sum.inl _ = Sum.inl _; congr 1; funext j; rw [zM0_arr h4]; rfl
      | 2, _ => show Sum.inl _ = Sum.inl _; congr 1; funext j; rw [zM0_arr h4]; rfl
      | 3, _ => show Sum.inr (Sum.inl _) = Sum.inr (Sum.inl _); congr 2; funext j; rw [zM0_arr h4]; rfl
      | n + 4, h => omega
    rw [← e]
    exact hat
  · rename_i t l ho
    simp only [Bool.and_eq_true] at h
    obtain ⟨⟨⟨h1, h2⟩, h3⟩, h4⟩ := h
    have h1 := Nat.eq_of_beq_eq_true h1
    have h2 := zNat_ble h2
    have h3 := Nat.eq_of_beq_eq_true h3
    have e : zcell adr cA k i (zM0 k i) = .inl (cA t, l.length, .inr (.inr (.inr (.inr (fun j => some (zad adr (zrtA k i j).1 (zrtA k i j).2)))))) := by
      unfold zcell zarr
      rw [ho, h1, h3]
      dsimp only
      split
      · omega
      · omega
      · omega
      · omega
      · rfl
    rw [e]
    refine Eq.trans hat ?_
    show some (vp_cell (cA t) (l.length, .inr (.inr (.inr (.inr (cref n0 l)))))) = some (vp_cell (cA t) (l.length, .inr (.inr (.inr (.inr (fun j => some (zad adr (zrtA k i j).1 (zrtA k i j).2)))))))
    rw [vp_cell_q, vp_cell_q]
    unfold arrV
    congr 3
    funext ⟨j, hj⟩
    have h5 := List.all_eq_true.mp h4 j (List.mem_range.mpr (by omega))
    rw [Bool.and_eq_true, decide_eq_true_eq, decide_eq_true_eq] at h5
    show va_rf (cref n0 l j) = va_rf _
    unfold cref
    rw [h5.1, cpl_adr hadr h5.2]
    rfl
  · cases h
theorem ctoz (hadr : ∀ q, q < zNP → adr q = n0 + zpi.getD q 0) {hl : List cE} (hck : cmall hl = true) (h : cWd D n0 cA hl H) : zWd D cA adr zM0 H := by
  intro q x hx
  by_cases hlt : q < zNP
  · rw [zlay_at hlt] at hx
    cases hx
    have h1 := List.all_eq_true.mp hck q (List.mem_range.mpr hlt)
    split at h1
    · rename_i ce hce
      have h2 := h.1 _ _ (clay_get (n0 := n0) (cA := cA) hce)
      rw [hadr q hlt]
      exact cmatch_ok hadr h1 h2
    · cases h1
  · rw [zlay_none hlt] at hx
    cases hx
end CTZ
