theorem in_yes {v lo hi : Int} {M : zM} (h1 : lo ≤ v) (h2 : v ≤ hi) (hv : -2147483648 ≤ v ∧ v ≤ 2147483647) (hl : -2147483648 ≤ lo ∧ lo ≤ 2147483647) (hh : -2147483648 ≤ hi ∧ hi ≤ 2147483647) : f_X11_in v lo hi M = some (1, M) := by
  unfold f_X11_in
  simp (disch := omega) only [zw_id, if_neg]
theorem in_no {v lo hi : Int} {M : zM} (h : v < lo ∨ hi < v) (hv : -2147483648 ≤ v ∧ v ≤ 2147483647) (hl : -2147483648 ≤ lo ∧ lo ≤ 2147483647) (hh : -2147483648 ≤ hi ∧ hi ≤ 2147483647) : f_X11_in v lo hi M = some (0, M) := by
  unfold f_X11_in
  simp (disch := omega) only [zw_id]
  by_cases h1 : v < lo
  · simp (disch := omega) only [if_pos]
  · simp (disch := omega) only [if_pos, if_neg]
theorem zw01 : zw 0 = 0 ∧ zw 1 = 1 ∧ zw (-1) = -1 := by decide
theorem ownerR_yes {M : zM} {a : Nat → Int} {v : Int} (ha : M 43 0 = a) (hO : headOK a) (hv : -2147483648 ≤ v ∧ v ≤ 2147483647) (h : 0 ≤ v ∧ v ≤ 10 ∧ a 0 < 6) : f_X11_owner v M = some (a 0, zput (zput M 43 0 (10 + a 0).toNat v) 43 0 0 (a 0 + 1)) := by
  have h0 := hO.own
  have hz : M 43 0 0 = a 0 := by rw [ha]
  unfold f_X11_owner
  rw [in_yes h.1 h.2.1 hv (by omega) (by omega)]
  simp (disch := omega) only [Option.bind_some, zw_id, hz, if_neg, if_pos, zlet, zix, zput_j]
theorem ownerR_no {M : zM} {a : Nat → Int} {v : Int} (ha : M 43 0 = a) (hO : headOK a) (hv : -2147483648 ≤ v ∧ v ≤ 2147483647) (h : ¬ (0 ≤ v ∧ v ≤ 10 ∧ a 0 < 6)) : f_X11_owner v M = some (-1, M) := by
  have h0 := hO.own
  have hz : M 43 0 0 = a 0 := by rw [ha]
  unfold f_X11_owner
  by_cases hb : 0 ≤ v ∧ v ≤ 10
  · rw [in_yes hb.1 hb.2 hv (by omega) (by omega)]
    simp (disch := omega) only [Option.bind_some, zw_id, hz, if_neg, if_pos, zlet, zix, zput_j]
  · rw [in_no (by omega) hv (by omega) (by omega)]
    simp (disch := omega) only [Option.bind_some, zw_id, if_pos, if_true]
theorem ownerX_yes {M : zM} {a w : Nat → Int} {v : Int} (hO : headOK a) (hc : cityR M 0 a w) (hv : -2147483648 ≤ v ∧ v ≤ 2147483647) (h : 0 ≤ v ∧ v ≤ 10 ∧ a 0 < 6) : f_X10_owner v M = some (a 0, zput (zput (zput M 12 0 (a 0).toNat v) 13 0 (a 0).toNat 0) 11 0 6 (a 0 + 1)) := by
  have h0 := hO.own
  have hz := hc.own
  unfold f_X10_owner
  simp (disch := omega) only [zw_id, hz, if_neg, if_pos, zlet, zix, zput_k, zput_eq, Int.add_sub_cancel]
theorem ownerX_no {M : zM} {a w : Nat → Int} {v : Int} (hO : headOK a) (hc : cityR M 0 a w) (hv : -2147483648 ≤ v ∧ v ≤ 2147483647) (h : ¬ (0 ≤ v ∧ v ≤ 10 ∧ a 0 < 6)) : f_X10_owner v M = some (-1, M) := by
  have h0 := hO.own
  have hz := hc.own
  unfold f_X10_owner
  by_cases h1 : v < 0
  · simp (disch := omega) only [zw_id, if_pos]
  · by_cases h2 : 10 < v
    · simp (disch := omega) only [zw_id, if_pos, if_neg]
    · simp (disch := omega) only [zw_id, hz, if_neg]
