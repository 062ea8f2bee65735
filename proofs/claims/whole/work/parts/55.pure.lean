/-! the city, and the reference's row: questions -/
theorem zi0 {t : Nat} (h : t < 100000) : zix (0 + (t : Int)) = t := zix_id (by omega) (by omega)
theorem zi6 {t : Nat} (h : t < 100000) : zix (6 + (t : Int)) = 6 + t := zix_id (by omega) (by omega)
theorem zi10 {t : Nat} (h : t < 100000) : zix (10 + (t : Int)) = 10 + t := zix_id (by omega) (by omega)
theorem zi14 {t : Nat} (h : t < 100000) : zix (14 + (t : Int)) = 14 + t := zix_id (by omega) (by omega)
theorem zi16 {t : Nat} (h : t < 100000) : zix (16 + (t : Int)) = 16 + t := zix_id (by omega) (by omega)
theorem zi22 {t : Nat} (h : t < 100000) : zix (22 + (t : Int)) = 22 + t := zix_id (by omega) (by omega)
theorem zi24 {t : Nat} (h : t < 100000) : zix (24 + (t : Int)) = 24 + t := zix_id (by omega) (by omega)
theorem zi30 {t : Nat} (h : t < 100000) : zix (30 + (t : Int)) = 30 + t := zix_id (by omega) (by omega)
theorem zi32 {t : Nat} (h : t < 100000) : zix (32 + (t : Int)) = 32 + t := zix_id (by omega) (by omega)
theorem zi41 {t : Nat} (h : t < 100000) : zix (41 + (t : Int)) = 41 + t := zix_id (by omega) (by omega)
theorem zi48 {t : Nat} (h : t < 100000) : zix (48 + (t : Int)) = 48 + t := zix_id (by omega) (by omega)
theorem zi57 {t : Nat} (h : t < 100000) : zix (57 + (t : Int)) = 57 + t := zix_id (by omega) (by omega)
theorem zi90 {t : Nat} (h : t < 100000) : zix (90 + (t : Int)) = 90 + t := zix_id (by omega) (by omega)
theorem zi104 {t : Nat} (h : t < 100000) : zix (104 + (t : Int)) = 104 + t := zix_id (by omega) (by omega)
/-- an int -/
def i32 (v : Int) : Prop := -2147483648 ≤ v ∧ v ≤ 2147483647
theorem X_hasOwner {M : zM} {j : Nat} {A w : Nat → Int} {v : Int} (hc : cityR M j A w) (hA : headOK A) (hv : -2147483648 ≤ v ∧ v ≤ 2147483647) : f_X0_hasOwner j v M = some (if 0 ≤ v ∧ v < A 0 then 1 else 0, M) := by
  have h0 := hA.own
  unfold f_X0_hasOwner
  rw [hc.own]
  simp (disch := omega) only [if_true, if_false, true_or, or_true, true_and, and_true, not_true_eq_false, not_false_eq_true, zw_id]
  all_goals (repeat' split) <;> first | rfl | omega | (simp only [Option.some.injEq, Prod.mk.injEq, and_true, true_and] <;> omega) | (exfalso; omega)
theorem X_hasThing {M : zM} {j : Nat} {A w : Nat → Int} {v : Int} (hc : cityR M j A w) (hA : headOK A) (hv : -2147483648 ≤ v ∧ v ≤ 2147483647) : f_X0_hasThing j v M = some (if 0 ≤ v ∧ v < A 1 then 1 else 0, M) := by
  have h0 := hA.thg
  unfold f_X0_hasThing
  rw [hc.thg]
  simp (disch := omega) only [if_true, if_false, true_or, or_true, true_and, and_true, not_true_eq_false, not_false_eq_true, zw_id]
  all_goals (repeat' split) <;> first | rfl | omega | (simp only [Option.some.injEq, Prod.mk.injEq, and_true, true_and] <;> omega) | (exfalso; omega)
theorem X_isKept {M : zM} {j : Nat} {A w : Nat → Int} {v : Int} (hc : cityR M j A w) (hA : headOK A) (hw : rowOK A w) (hv : -2147483648 ≤ v ∧ v ≤ 2147483647) : f_X0_isKept j v M = some (if (0 ≤ v ∧ v < A 1) ∧ w (14 + v.toNat) = -1 then 1 else 0, M) := by
  have h0 := hA.thg
  have h1 := hA.own
  unfold f_X0_isKept
  rw [X_hasThing hc hA hv]
  by_cases hr : 0 ≤ v ∧ v < A 1
  · obtain ⟨t, rfl⟩ := Int.eq_ofNat_of_zero_le hr.1
    have h2 := hc.with_ t hr.2
    have h3 := hw.at_ t hr.2
    simp (disch := omega) only [if_true, if_false, true_or, or_true, true_and, and_true, not_true_eq_false, not_false_eq_true, if_pos, zbs, zw_id, if_neg, zix_nat, h2, Int.toNat_natCast]
    all_goals (repeat' split) <;> first | rfl | omega | (simp only [Option.some.injEq, Prod.mk.injEq, and_true, true_and] <;> omega) | (exfalso; omega)
  · simp (disch := omega) only [if_true, if_false, true_or, or_true, true_and, and_true, not_true_eq_false, not_false_eq_true, if_neg, zbs, zw_id, if_pos]
    all_goals (repeat' split) <;> first | rfl | omega | (simp only [Option.some.injEq, Prod.mk.injEq, and_true, true_and] <;> omega) | (exfalso; omega)
/-- whose things, as bits -/
def pW (w : Nat → Int) (o : Int) : Nat → Bool := fun t => decide (w (14 + t) = o)
theorem X_thingsWith {M : zM} {j : Nat} {A w : Nat → Int} {o : Int} (hc : cityR M j A w) (hA : headOK A) (hw : rowOK A w) (hv : -2147483648 ≤ o ∧ o ≤ 2147483647) : f_X0_thingsWith j o M = some (((bS (pW w o) (A 1).toNat : Nat) : Int), M) := by
  have h0 := hA.thg
  have h1 := hA.own
  obtain ⟨n, hn⟩ := Int.eq_ofNat_of_zero_le h0.1
  have key := zlp_fun (body := fun s : Int × Int => f_X0_thingsWith_L4 j o s.1 s.2 M) (fun i => (((bS (pW w o) i : Nat) : Int), (i : Int))) n ((bS (pW w o) n : Nat) : Int) (fun i hi => by
    have h2 := hc.with_ i (by omega)
    have h3 := hw.at_ i (by omega)
    unfold f_X0_thingsWith_L4 f_X0_thingsWith_j31
    dsimp only
    rw [hc.thg]
    simp (disch := omega) only [if_true, if_false, true_or, or_true, true_and, and_true, not_true_eq_false, not_false_eq_true, zw_id, if_neg, if_pos, zix_nat, h2]
    by_cases hq : w (14 + i) = o
    · rw [if_neg (fun q => q hq), bS_step (by omega) (by unfold pW; simp [hq])]
      rfl
    · rw [if_pos hq, bS_none (by unfold pW; simp [hq])]
      rfl) (by
    unfold f_X0_thingsWith_L4
    dsimp only
    rw [hc.thg]
    simp (disch := omega) only [if_true, if_false, true_or, or_true, true_and, and_true, not_true_eq_false, not_false_eq_true, zw_id, if_pos]) (m := zF) (by unfold zF; omega)
  unfold f_X0_thingsWith
  have e : (A 1).toNat = n := by omega
  rw [e]
  have k2 : zlp (fun s : Int × Int => f_X0_thingsWith_L4 j o s.1 s.2 M) zF (0, 0) = some ((bS (pW w o) n : Nat) : Int) := key
  rw [k2]
  rfl
/-- what of a set is bulky -/
theorem X_bulkOf {M : zM} {j : Nat} {A w : Nat → Int} {p : Nat → Bool} {m : Nat} (hc : cityR M j A w) (hA : headOK A) (hm : m ≤ 8) (hm2 : A 1 ≤ m) : f_X0_bulkOf j ((bS p m : Nat) : Int) M = some (sumN (fun t => if p t then A (24 + t) else 0) (A 1).toNat, M) := by
  have h0 := hA.thg
  obtain ⟨n, hn⟩ := Int.eq_ofNat_of_zero_le h0.1
  have key := zlp_fun (body := fun s : Int × Int => f_X0_bulkOf_L4 j ((bS p m : Nat) : Int) s.1 s.2 M) (fun i => (sumN (fun t => if p t then A (24 + t) else 0) i, (i : Int))) n (sumN (fun t => if p t then A (24 + t) else 0) n) (fun i hi => by
    have h2 := hc.bulk i (by omega)
    unfold f_X0_bulkOf_L4
    dsimp only
    rw [hc.thg]
    simp (disch := omega) only [if_true, if_false, true_or, or_true, true_and, and_true, not_true_eq_false, not_false_eq_true, zw_id, if_neg, if_pos, zix_nat, h2, bS_bit8]
    show _ = some (Sum.inl (sumN _ i + (if p i then A (24 + i) else 0), ((i + 1 : Nat) : Int)))
    cases p i <;> simp) (by
    unfold f_X0_bulkOf_L4
    dsimp only
    rw [hc.thg]
    simp (disch := omega) only [if_true, if_false, true_or, or_true, true_and, and_true, not_true_eq_false, not_false_eq_true, zw_id, if_pos]) (m := zF) (by unfold zF; omega)
  unfold f_X0_bulkOf
  have e : (A 1).toNat = n := by omega
  rw [e]
  have k2 : zlp (fun s : Int × Int => f_X0_bulkOf_L4 j ((bS p m : Nat) : Int) s.1 s.2 M) zF (0, 0) = some (sumN (fun t => if p t then A (24 + t) else 0) n) := key
  rw [k2]
  rfl
def sKB (A w : Nat → Int) : Int := sumN (fun t => if w (14 + t) = -1 then A (24 + t) else 0) (A 1).toNat
theorem sKB_le {A w : Nat → Int} (hA : headOK A) : 0 ≤ sKB A w ∧ sKB A w ≤ 72 := by
  have h0 := hA.thg
  have h := sumN_le (f := fun t => if w (14 + t) = -1 then A (24 + t) else 0) (n := (A 1).toNat) (b := 9) (fun i hi => by
    have := hA.bulk i (by omega)
    split <;> omega)
  unfold sKB
  omega
theorem X_keptBulk {M : zM} {j : Nat} {A w : Nat → Int} (hc : cityR M j A w) (hA : headOK A) (hw : rowOK A w) : f_X0_keptBulk j M = some (sKB A w, M) := by
  have h0 := hA.thg
  unfold f_X0_keptBulk
  rw [X_thingsWith hc hA hw (by omega)]
  simp only [zbs]
  rw [X_bulkOf hc hA (by omega) (by omega)]
  simp only [zbs, Option.some.injEq, Prod.mk.injEq, and_true]
  refine sumN_congr (fun i hi => ?_)
  unfold pW
  by_cases h : w (14 + i) = -1 <;> simp [h]
/-- it can be stolen -/
def sMay (A w : Nat → Int) (t : Nat) : Prop := w (14 + t) ≠ -1 ∧ sKB A w + A (24 + t) ≤ A 2
theorem X_canTake {M : zM} {j : Nat} {A w : Nat → Int} {t : Nat} (hc : cityR M j A w) (hA : headOK A) (hw : rowOK A w) (ht : (t : Int) < A 1) : (sMay A w t → f_X0_canTake j t M = some (1, M)) ∧ (¬ sMay A w t → f_X0_canTake j t M = some (0, M)) := by
  have h0 := hA.thg
  have h1 := hA.own
  have h2 := hc.with_ t ht
  have h3 := hw.at_ t ht
  have h4 := hc.bulk t ht
  have h5 := hA.bulk t ht
  have h6 := hA.room
  have h7 := sKB_le (w := w) hA
  unfold sMay f_X0_canTake
  rw [X_hasThing hc hA (by omega)]
  simp (disch := omega) only [if_true, if_false, true_or, or_true, true_and, and_true, not_true_eq_false, not_false_eq_true, if_pos, zbs, zw_id, if_neg, zix_nat, h2]
  by_cases hq : w (14 + t) = -1
  · rw [if_pos hq]
    exact ⟨fun h => absurd hq h.1, fun _ => rfl⟩
  · rw [if_neg hq, X_keptBulk hc hA hw]
    simp (disch := omega) only [if_true, if_false, true_or, or_true, true_and, and_true, not_true_eq_false, not_false_eq_true, if_pos, zbs, zw_id, zix_nat, h4, hc.room]
    constructor
    · intro h
      rw [if_neg (by omega)]
    · intro h
      rw [if_pos (by omega)]
theorem X_canTake_no {M : zM} {j : Nat} {A w : Nat → Int} {v : Int} (hc : cityR M j A w) (hA : headOK A) (hv : -2147483648 ≤ v ∧ v ≤ 2147483647) (h : ¬ (0 ≤ v ∧ v < A 1)) : f_X0_canTake j v M = some (0, M) := by
  unfold f_X0_canTake
  rw [X_hasThing hc hA hv]
  simp (disch := omega) only [if_true, if_false, true_or, or_true, true_and, and_true, not_true_eq_false, not_false_eq_true, if_neg h, zbs, zw_id, if_pos]
/-! the reference -/
theorem R_isOwner {M : zM} {A : Nat → Int} {v : Int} (hM : M 43 0 = A) (hA : headOK A) (hv : -2147483648 ≤ v ∧ v ≤ 2147483647) : f_X11_isOwner v M = some (if 0 ≤ v ∧ v < A 0 then 1 else 0, M) := by
  have h0 := hA.own
  unfold f_X11_isOwner
  simp only [hM]
  by_cases h : 0 ≤ v ∧ v < A 0
  · rw [in_yes h.1 (by omega) hv (by omega) (by omega)]
    simp (disch := omega) only [if_true, if_false, true_or, or_true, true_and, and_true, not_true_eq_false, not_false_eq_true, zbs, if_pos]
  · rw [in_no (by omega) hv (by omega) (by omega)]
    simp (disch := omega) only [if_true, if_false, true_or, or_true, true_and, and_true, not_true_eq_false, not_false_eq_true, zbs, if_pos, if_neg h]
theorem R_isThing {M : zM} {A : Nat → Int} {v : Int} (hM : M 43 0 = A) (hA : headOK A) (hv : -2147483648 ≤ v ∧ v ≤ 2147483647) : f_X11_isThing v M = some (if 0 ≤ v ∧ v < A 1 then 1 else 0, M) := by
  have h0 := hA.thg
  unfold f_X11_isThing
  simp only [hM]
  by_cases h : 0 ≤ v ∧ v < A 1
  · rw [in_yes h.1 (by omega) hv (by omega) (by omega)]
    simp (disch := omega) only [if_true, if_false, true_or, or_true, true_and, and_true, not_true_eq_false, not_false_eq_true, zbs, if_pos]
  · rw [in_no (by omega) hv (by omega) (by omega)]
    simp (disch := omega) only [if_true, if_false, true_or, or_true, true_and, and_true, not_true_eq_false, not_false_eq_true, zbs, if_pos, if_neg h]
theorem R_isKept {M : zM} {A w : Nat → Int} {t : Nat} (hW : M 68 0 = w) (hw : rowOK A w) (hA : headOK A) (ht : (t : Int) < A 1) : f_X11_isKept t M = some (if w (14 + t) = -1 then 1 else 0, M) := by
  have h0 := hA.thg
  have h1 := hA.own
  have h3 := hw.at_ t ht
  unfold f_X11_isKept
  simp only [hW]
  simp (disch := omega) only [if_true, if_false, true_or, or_true, true_and, and_true, not_true_eq_false, not_false_eq_true, if_pos, zw_id, zi14]
  all_goals (repeat' split) <;> first | rfl | omega | (simp only [Option.some.injEq, Prod.mk.injEq, and_true, true_and] <;> omega) | (exfalso; omega)
theorem R_keptBulk {M : zM} {A w : Nat → Int} (hM : M 43 0 = A) (hW : M 68 0 = w) (hw : rowOK A w) (hA : headOK A) : f_X11_keptBulk M = some (sKB A w, M) := by
  have h0 := hA.thg
  obtain ⟨n, hn⟩ := Int.eq_ofNat_of_zero_le h0.1
  have e : (A 1).toNat = n := by omega
  unfold f_X11_keptBulk sKB
  rw [e]
  have key : zlp (fun s : Int × Int × zM => f_X11_keptBulk_L4 s.1 s.2.1 s.2.2) zF (0, 0, M) = some (sumN (fun t => if w (14 + t) = -1 then A (24 + t) else 0) n, M) := zlp_fun (body := fun s : Int × Int × zM => f_X11_keptBulk_L4 s.1 s.2.1 s.2.2) (fun i => (sumN (fun t => if w (14 + t) = -1 then A (24 + t) else 0) i, (i : Int), M)) n _ (fun i hi => by
    unfold f_X11_keptBulk_L4 f_X11_keptBulk_j36
    dsimp only
    simp only [hM, R_isKept hW hw hA (show ((i : Nat) : Int) < A 1 by omega)]
    simp (disch := omega) only [if_true, if_false, true_or, or_true, true_and, and_true, not_true_eq_false, not_false_eq_true, zw_id, if_neg, zbs, zi24]
    by_cases hq : w (14 + i) = -1
    · simp (disch := omega) only [if_true, if_false, true_or, or_true, true_and, and_true, not_true_eq_false, not_false_eq_true, if_pos hq, zw_id, if_neg, if_pos, sumN, hM]
      rfl
    · simp (disch := omega) only [if_true, if_false, true_or, or_true, true_and, and_true, not_true_eq_false, not_false_eq_true, if_neg hq, zw_id, if_pos, sumN, hM]
      rfl) (by
    unfold f_X11_keptBulk_L4
    dsimp only
    simp only [hM]
    simp (disch := omega) only [if_true, if_false, true_or, or_true, true_and, and_true, not_true_eq_false, not_false_eq_true, zw_id, if_pos]) (by unfold zF; omega)
  rw [key]
  rfl
set_option maxRecDepth 8000 in
theorem R_may {M : zM} {A w : Nat → Int} {t : Nat} (hM : M 43 0 = A) (hW : M 68 0 = w) (hw : rowOK A w) (hA : headOK A) (ht : (t : Int) < A 1) : (sMay A w t → f_X11_mayStealNow t M = some (1, M)) ∧ (¬ sMay A w t → f_X11_mayStealNow t M = some (0, M)) := by
  have h0 := hA.thg
  have h5 := hA.bulk t ht
  have h6 := hA.room
  have h7 := sKB_le (w := w) hA
  unfold sMay f_X11_mayStealNow
  rw [R_isKept hW hw hA ht]
  by_cases hq : w (14 + t) = -1
  · refine ⟨fun h => absurd hq h.1, fun _ => ?_⟩
    simp (disch := omega) only [if_true, if_false, true_or, or_true, true_and, and_true, not_true_eq_false, not_false_eq_true, if_pos hq, zbs, zw_id, if_pos]
  · simp (disch := omega) only [if_true, if_false, true_or, or_true, true_and, and_true, not_true_eq_false, not_false_eq_true, if_neg hq, zbs, zw_id, if_neg]
    simp only [R_keptBulk hM hW hw hA]
    simp (disch := omega) only [if_true, if_false, true_or, or_true, true_and, and_true, not_true_eq_false, not_false_eq_true, if_pos, zbs, zw_id, zi24, hM]
    constructor
    · intro h
      rw [if_neg (by omega)]
    · intro h
      rw [if_pos (by omega)]
