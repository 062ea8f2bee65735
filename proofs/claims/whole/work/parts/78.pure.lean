/-! calls: twice, worth -/
/-- a thing came back twice to one owner, by the first n cards -/
def twB (w : Nat → Int) (n : Nat) (t : Nat) : Bool := decide (∃ i : Nat, i < n ∧ ∃ j : Nat, j < i ∧ w (42 + 4 * i) = t ∧ w (42 + 4 * j) = t ∧ w (43 + 4 * i) = w (43 + 4 * j))
set_option maxRecDepth 8000 in
set_option maxHeartbeats 2000000 in
theorem cntB_two {w : Nat → Int} {t o : Int} : ∀ n, 2 ≤ cntB w t o n ↔ ∃ i : Nat, i < n ∧ ∃ j : Nat, j < i ∧ (w (42 + 4 * i) = t ∧ w (43 + 4 * i) = o) ∧ (w (42 + 4 * j) = t ∧ w (43 + 4 * j) = o) := by
  have one : ∀ n, 1 ≤ cntB w t o n ↔ ∃ j : Nat, j < n ∧ (w (42 + 4 * j) = t ∧ w (43 + 4 * j) = o) := by
    intro n
    induction n with
    | zero =>
      constructor
      · intro h; exact absurd h (by show ¬ 1 ≤ 0; omega)
      · rintro ⟨j, hj, _⟩; omega
    | succ n ih =>
      rw [cntB_one, ih]
      constructor
      · rintro (⟨j, hj, h⟩ | h)
        · exact ⟨j, by omega, h⟩
        · exact ⟨n, by omega, h⟩
      · rintro ⟨j, hj, h⟩
        by_cases hjn : j = n
        · subst hjn; exact Or.inr h
        · exact Or.inl ⟨j, by omega, h⟩
  intro n
  induction n with
  | zero =>
    constructor
    · intro h; exact absurd h (by show ¬ 2 ≤ 0; omega)
    · rintro ⟨i, hi, _⟩; omega
  | succ n ih =>
    show 2 ≤ cntB w t o n + (if w (42 + 4 * n) = t ∧ w (43 + 4 * n) = o then 1 else 0) ↔ _
    by_cases h : w (42 + 4 * n) = t ∧ w (43 + 4 * n) = o
    · rw [if_pos h]
      constructor
      · intro h2
        obtain ⟨j, hj, h3⟩ := (one n).mp (by omega)
        exact ⟨n, by omega, j, hj, h, h3⟩
      · rintro ⟨i, hi, j, hj, h3, h4⟩
        have := (one n).mpr ⟨j, by omega, h4⟩
        omega
    · rw [if_neg h, Nat.add_zero, ih]
      constructor
      · rintro ⟨i, hi, h3⟩
        exact ⟨i, by omega, h3⟩
      · rintro ⟨i, hi, j, hj, h3, h4⟩
        by_cases hin : i = n
        · subst hin; exact absurd h3 h
        · exact ⟨i, by omega, j, hj, h3, h4⟩
def twP (w : Nat → Int) (n : Nat) (t : Int) : Prop := ∃ i : Nat, i < n ∧ ∃ j : Nat, j < i ∧ w (42 + 4 * i) = t ∧ w (42 + 4 * j) = t ∧ w (43 + 4 * i) = w (43 + 4 * j)
set_option maxRecDepth 8000 in
set_option maxHeartbeats 2000000 in
theorem twB_iff {w : Nat → Int} {n t : Nat} : twB w n t = true ↔ twP w n t := by
  unfold twB twP
  rw [decide_eq_true_eq]
def inB (w : Nat → Int) (i j : Nat) : Nat → Bool := fun q => twB w i q || decide (w (42 + 4 * i) = q ∧ ∃ k : Nat, k < j ∧ w (42 + 4 * k) = w (42 + 4 * i) ∧ w (43 + 4 * k) = w (43 + 4 * i))
set_option maxRecDepth 8000 in
set_option maxHeartbeats 2000000 in
theorem inB_zero {w : Nat → Int} {i q : Nat} : inB w i 0 q = twB w i q := by
  unfold inB
  rw [decide_eq_false (by rintro ⟨_, k, hk, _⟩; omega), Bool.or_false]
set_option maxRecDepth 8000 in
set_option maxHeartbeats 2000000 in
theorem inB_all {w : Nat → Int} {i q : Nat} : inB w i i q = twB w (i + 1) q := by
  rw [Bool.eq_iff_iff]
  unfold inB
  rw [Bool.or_eq_true, decide_eq_true_eq, twB_iff, twB_iff]
  unfold twP
  constructor
  · rintro (⟨i', hi', j, hj, h⟩ | ⟨h1, k, hk, h2, h3⟩)
    · exact ⟨i', by omega, j, hj, h⟩
    · exact ⟨i, by omega, k, hk, h1, h2.trans h1, h3.symm⟩
  · rintro ⟨i', hi', j, hj, h1, h2, h3⟩
    by_cases hii : i' = i
    · subst hii
      exact Or.inr ⟨h1, j, hj, h2.trans h1.symm, h3.symm⟩
    · exact Or.inl ⟨i', by omega, j, hj, h1, h2, h3⟩
set_option maxRecDepth 8000 in
set_option maxHeartbeats 2000000 in
theorem inB_yes {w : Nat → Int} {i j t q : Nat} (ht : w (42 + 4 * i) = t) (h1 : w (42 + 4 * j) = w (42 + 4 * i)) (h2 : w (43 + 4 * j) = w (43 + 4 * i)) : (inB w i j q || decide (q = t)) = inB w i (j + 1) q := by
  rw [Bool.eq_iff_iff]
  unfold inB
  rw [Bool.or_eq_true, Bool.or_eq_true, Bool.or_eq_true, decide_eq_true_eq, decide_eq_true_eq, decide_eq_true_eq]
  constructor
  · rintro ((h | ⟨h, k, hk, h3⟩) | h)
    · exact Or.inl h
    · exact Or.inr ⟨h, k, by omega, h3⟩
    · exact Or.inr ⟨by omega, j, by omega, h1, h2⟩
  · rintro (h | ⟨h, k, hk, h3⟩)
    · exact Or.inl (Or.inl h)
    · exact Or.inr (by omega)
set_option maxRecDepth 8000 in
set_option maxHeartbeats 2000000 in
theorem inB_no {w : Nat → Int} {i j q : Nat} (h : ¬ (w (42 + 4 * j) = w (42 + 4 * i) ∧ w (43 + 4 * j) = w (43 + 4 * i))) : inB w i j q = inB w i (j + 1) q := by
  rw [Bool.eq_iff_iff]
  unfold inB
  rw [Bool.or_eq_true, Bool.or_eq_true, decide_eq_true_eq, decide_eq_true_eq]
  constructor
  · rintro (h2 | ⟨h2, k, hk, h3⟩)
    · exact Or.inl h2
    · exact Or.inr ⟨h2, k, by omega, h3⟩
  · rintro (h2 | ⟨h2, k, hk, h3⟩)
    · exact Or.inl h2
    · by_cases hkj : k = j
      · subst hkj; exact absurd h3 h
      · exact Or.inr ⟨h2, k, by omega, h3⟩
set_option maxRecDepth 8000 in
set_option maxHeartbeats 2000000 in
theorem X_twice {M : zM} {A : Nat → Int} (h : worldR M 0 A) : f_X10_twice M = some (((bS (twB (rw_ A 90) (A 130).toNat) 8 : Nat) : Int), M) := by
  have h0 := h.head.thg
  have h1 := h.head.own
  have hb := h.row.book
  have e40 : rw_ A 90 40 = A 130 := rfl
  have hwr := h.city.wrt
  rw [e40] at hb hwr
  obtain ⟨m, hm⟩ := Int.eq_ofNat_of_zero_le hb.1
  have pg := fun (i : Nat) (hi : i < m) => h.row.page i (by rw [e40]; omega)
  have cd := fun (i : Nat) (hi : i < m) => h.city.card i (by rw [e40]; omega)
  have xc := fun (i : Nat) (hi : i < m) => X_card (M := M) h.head h.row (i := i) (by rw [e40]; omega)
  have inner : ∀ i : Nat, i < m → zlp (fun s : Int × Int × zM => f_X10_twice_L45 (i : Int) (rw_ A 90 (42 + 4 * i)) (rw_ A 90 (43 + 4 * i)) s.1 s.2.1 s.2.2) zF (((bS (inB (rw_ A 90) i 0) 8 : Nat) : Int), ((0 : Nat) : Int), M) = some (((bS (inB (rw_ A 90) i i) 8 : Nat) : Int), M) := by
    intro i hi
    obtain ⟨p1, p2, p3, p4⟩ := pg i hi
    obtain ⟨t, ht⟩ := Int.eq_ofNat_of_zero_le p2.1
    refine zlp_fun (body := fun s : Int × Int × zM => f_X10_twice_L45 (i : Int) (rw_ A 90 (42 + 4 * i)) (rw_ A 90 (43 + 4 * i)) s.1 s.2.1 s.2.2) (fun j => (((bS (inB (rw_ A 90) i j) 8 : Nat) : Int), (j : Int), M)) i _ (fun j hj => ?_) ?_ (m := zF) (by unfold zF; omega)
    · obtain ⟨q1, q2, q3, q4⟩ := pg j (by omega)
      have hc := cd j (by omega)
      obtain ⟨x1, x2, x3, x4⟩ := xc j (by omega)
      unfold f_X10_twice_L45 f_X10_twice_j92
      dsimp only
      simp (disch := omega) only [if_true, if_false, true_or, or_true, true_and, and_true, not_true_eq_false, not_false_eq_true, zix_nat, hc, x2, x3, zw_id, if_neg, if_pos, zbs]
      by_cases hq : rw_ A 90 (42 + 4 * j) = rw_ A 90 (42 + 4 * i)
      · by_cases hq2 : rw_ A 90 (43 + 4 * j) = rw_ A 90 (43 + 4 * i)
        · rw [if_neg (nn_ hq), if_neg (nn_ hq2), ht, zor_bS (by omega) (by omega), bS_congr (fun q _ => inB_yes ht hq hq2)]
          rfl
        · rw [if_neg (nn_ hq), if_pos hq2, bS_congr (fun q _ => inB_no (fun z => hq2 z.2))]
          rfl
      · rw [if_pos hq, bS_congr (fun q _ => inB_no (fun z => hq z.1))]
        rfl
    · unfold f_X10_twice_L45
      dsimp only
      simp (disch := omega) only [if_true, if_false, true_or, or_true, true_and, and_true, not_true_eq_false, not_false_eq_true, zw_id, if_pos]
  have hz : bS (twB (rw_ A 90) 1) 8 = 0 := bS_pos.mpr (fun q _ => by
    cases hh : twB (rw_ A 90) 1 q
    · rfl
    · obtain ⟨i, hi, j, hj, _⟩ := twB_iff.mp hh; omega)
  have hz0 : bS (twB (rw_ A 90) 0) 8 = 0 := bS_pos.mpr (fun q _ => by
    cases hh : twB (rw_ A 90) 0 q
    · rfl
    · obtain ⟨i, hi, j, hj, _⟩ := twB_iff.mp hh; omega)
  have key : zlp (fun s : Int × Int × zM => f_X10_twice_L4 s.1 s.2.1 s.2.2) zF (((bS (twB (rw_ A 90) (1 + 0)) 8 : Nat) : Int), ((1 + 0 : Nat) : Int), M) = some (((bS (twB (rw_ A 90) m) 8 : Nat) : Int), M) := by
    by_cases hm0 : m = 0
    · have e : bS (twB (rw_ A 90) m) 8 = bS (twB (rw_ A 90) (1 + 0)) 8 := by rw [hm0, hz0]; exact hz.symm
      rw [e]
      refine zlp_fun (body := fun s : Int × Int × zM => f_X10_twice_L4 s.1 s.2.1 s.2.2) (fun _ => (((bS (twB (rw_ A 90) (1 + 0)) 8 : Nat) : Int), ((1 + 0 : Nat) : Int), M)) 0 _ (fun i hi => by omega) ?_ (m := zF) (by unfold zF; omega)
      unfold f_X10_twice_L4
      dsimp only
      simp (disch := omega) only [if_true, if_false, true_or, or_true, true_and, and_true, not_true_eq_false, not_false_eq_true, hwr, zw_id, if_pos]
    · refine zlp_fun (body := fun s : Int × Int × zM => f_X10_twice_L4 s.1 s.2.1 s.2.2) (fun i => (((bS (twB (rw_ A 90) (1 + i)) 8 : Nat) : Int), ((1 + i : Nat) : Int), M)) (m - 1) _ (fun i hi => ?_) ?_ (m := zF) (by unfold zF; omega)
      · have hi2 : 1 + i < m := by omega
        obtain ⟨p1, p2, p3, p4⟩ := pg (1 + i) hi2
        have hc := cd (1 + i) hi2
        obtain ⟨x1, x2, x3, x4⟩ := xc (1 + i) hi2
        have hin := inner (1 + i) hi2
        rw [bS_congr (fun q _ => inB_zero), bS_congr (fun q _ => inB_all)] at hin
        unfold f_X10_twice_L4
        dsimp only
        simp (disch := omega) only [if_true, if_false, true_or, or_true, true_and, and_true, not_true_eq_false, not_false_eq_true, hwr, zix_nat, hc, x2, x3, zw_id, if_neg, if_pos, zbs]
        rw [show zlp (fun s : Int × Int × zM => f_X10_twice_L45 ((1 + i : Nat) : Int) (rw_ A 90 (42 + 4 * (1 + i))) (rw_ A 90 (43 + 4 * (1 + i))) s.1 s.2.1 s.2.2) zF (((bS (twB (rw_ A 90) (1 + i)) 8 : Nat) : Int), 0, M) = _ from hin]
        simp only [zbs]
        rw [show 1 + (i + 1) = 1 + i + 1 by omega, show ((1 + i : Nat) : Int) + 1 = ((1 + i + 1 : Nat) : Int) by omega]
      · unfold f_X10_twice_L4
        dsimp only
        have e : 1 + (m - 1) = m := by omega
        simp (disch := omega) only [if_true, if_false, true_or, or_true, true_and, and_true, not_true_eq_false, not_false_eq_true, hwr, zw_id, if_pos, e]
  rw [show 1 + 0 = 1 from rfl, hz] at key
  have key : zlp (fun s : Int × Int × zM => f_X10_twice_L4 s.1 s.2.1 s.2.2) zF (0, 1, M) = _ := key
  unfold f_X10_twice
  rw [key]
  simp only [zbs]
  rw [show (A 130).toNat = m by omega]
set_option maxRecDepth 8000 in
set_option maxHeartbeats 2000000 in
theorem call_twice {M : zM} (h : zI M) : zCall (f_X10_twice M) (fun N => f_X11_twice N) := by
  have hz := h
  obtain ⟨T, hI⟩ := h
  have w0 := hI.w0
  generalize hAA : M 43 0 = A at w0
  have hA := w0.head
  have h0 := hA.thg
  have h1 := hA.own
  have hb := w0.row.book
  have e40 : rw_ A 90 40 = A 130 := rfl
  rw [e40] at hb
  obtain ⟨n, hn⟩ := Int.eq_ofNat_of_zero_le h0.1
  obtain ⟨m, hm⟩ := Int.eq_ofNat_of_zero_le hb.1
  have em : (A 130).toNat = m := by omega
  have m1 : M 43 0 1 = A 1 := by rw [hAA]
  have pg := fun (i : Nat) (hi : i < m) => w0.row.page i (by rw [e40]; omega)
  have hX := X_twice w0
  rw [em] at hX
  have key : zlp (fun s : Int × Int × zM => f_X11_twice_L4 s.1 s.2.1 s.2.2) zF (0, 0, M) = some (((bS (twB (rw_ A 90) m) n : Nat) : Int), M) := zlp_fun (body := fun s : Int × Int × zM => f_X11_twice_L4 s.1 s.2.1 s.2.2) (fun i => (((bS (twB (rw_ A 90) m) i : Nat) : Int), (i : Int), M)) n _ (fun t hi => by
    have hB := R_backTo (times := 2) hAA hA w0.row (show t < 8 by omega) (by omega)
    rw [em] at hB
    have hB : f_X11_backTo (t : Int) 2 M = _ := hB
    have hlt := bS_lt8 (fun o => decide (2 ≤ cntB (rw_ A 90) t o m)) (show (A 0).toNat ≤ 8 by omega)
    have hiff : (bS (fun o => decide (2 ≤ cntB (rw_ A 90) t o m)) (A 0).toNat = 0) ↔ twB (rw_ A 90) m t = false := by
      rw [bS_pos]
      constructor
      · intro hall
        cases hh : twB (rw_ A 90) m t
        · rfl
        · obtain ⟨i, hi', j, hj, q1, q2, q3⟩ := twB_iff.mp hh
          obtain ⟨p1, p2, p3, p4⟩ := pg i hi'
          obtain ⟨o, ho⟩ := Int.eq_ofNat_of_zero_le p3.1
          have := hall o (by omega)
          rw [decide_eq_false_iff_not] at this
          exact absurd ((cntB_two m).mpr ⟨i, hi', j, hj, ⟨q1, ho⟩, ⟨q2, by rw [← q3]; exact ho⟩⟩) this
      · intro hf o ho
        rw [decide_eq_false_iff_not]
        intro hc
        obtain ⟨i, hi', j, hj, ⟨q1, q2⟩, q3, q4⟩ := (cntB_two m).mp hc
        have : twB (rw_ A 90) m t = true := twB_iff.mpr ⟨i, hi', j, hj, q1, q3, q2.trans q4.symm⟩
        rw [hf] at this
        cases this
    unfold f_X11_twice_L4 f_X11_twice_j31
    dsimp only
    simp (disch := omega) only [if_true, if_false, true_or, or_true, true_and, and_true, not_true_eq_false, not_false_eq_true, m1, hB, zw_id, if_neg, zbs]
    by_cases hq : bS (fun o => decide (2 ≤ cntB (rw_ A 90) t o m)) (A 0).toNat = 0
    · have hb8 := bS_lt8 (twB (rw_ A 90) m) (show t ≤ 8 by omega)
      have e0 : zor ((bS (twB (rw_ A 90) m) t : Nat) : Int) 0 = ((bS (twB (rw_ A 90) m) t : Nat) : Int) := by
        have := zor_nat (a := bS (twB (rw_ A 90) m) t) (b := 0) (by omega) (by omega)
        rw [Nat.or_zero] at this
        exact this
      rw [if_pos (by omega), e0, bS_none (hiff.mp hq)]
      rfl
    · have ht : twB (rw_ A 90) m t = true := by
        cases hh : twB (rw_ A 90) m t
        · exact absurd (hiff.mpr hh) hq
        · rfl
      rw [if_neg (by omega), bS_step (by omega) ht]
      rfl) (by
    unfold f_X11_twice_L4
    dsimp only
    simp (disch := omega) only [if_true, if_false, true_or, or_true, true_and, and_true, not_true_eq_false, not_false_eq_true, m1, zw_id, if_pos]) (m := zF) (by unfold zF; omega)
  refine zCall.same hz hX ?_
  unfold f_X11_twice
  rw [key]
  simp only [zbs]
  congr 1
  congr 1
  congr 1
  apply Nat.eq_of_testBit_eq
  intro q
  rw [bS_bit, bS_bit]
  by_cases hq : q < n
  · have hq8 : q < 8 := by omega
    simp [hq, hq8]
  · cases hh : twB (rw_ A 90) m q
    · simp
    · obtain ⟨i, hi', j, hj, q1, q2, q3⟩ := twB_iff.mp hh
      obtain ⟨p1, p2, p3, p4⟩ := pg i hi'
      omega
