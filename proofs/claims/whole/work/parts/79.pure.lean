/-! call: worth -/
set_option maxRecDepth 8000 in
set_option maxHeartbeats 2000000 in
theorem bS_self {s : Nat} (h : s < 256) : bS (fun i => s.testBit i) 8 = s := by
  apply Nat.eq_of_testBit_eq
  intro i
  rw [bS_bit]
  by_cases hi : i < 8
  · simp [hi]
  · have : s.testBit i = false := Nat.testBit_lt_two_pow (Nat.lt_of_lt_of_le h (Nat.pow_le_pow_right (n := 2) (by omega) (show 8 ≤ i by omega)))
    simp [hi, this]
set_option maxRecDepth 8000 in
set_option maxHeartbeats 2000000 in
theorem X_dearOf {M : zM} {A w : Nat → Int} {p : Nat → Bool} (hc : cityR M 0 A w) (hA : headOK A) (hw : rowOK A w) : f_X0_dearOf 0 ((bS p 8 : Nat) : Int) M = some (sumN (fun t => if p t then w (6 + t) else 0) (A 1).toNat, M) := by
  have h0 := hA.thg
  obtain ⟨n, hn⟩ := Int.eq_ofNat_of_zero_le h0.1
  have key : zlp (fun s : Int × Int => f_X0_dearOf_L4 0 ((bS p 8 : Nat) : Int) s.1 s.2 M) zF (0, 0) = some (sumN (fun t => if p t then w (6 + t) else 0) n) := zlp_fun (body := fun s : Int × Int => f_X0_dearOf_L4 0 ((bS p 8 : Nat) : Int) s.1 s.2 M) (fun i => (sumN (fun t => if p t then w (6 + t) else 0) i, (i : Int))) n (sumN (fun t => if p t then w (6 + t) else 0) n) (fun i hi => by
    have h2 := hc.dear i (by omega)
    unfold f_X0_dearOf_L4
    dsimp only
    simp (disch := omega) only [if_true, if_false, true_or, or_true, true_and, and_true, not_true_eq_false, not_false_eq_true, hc.thg, zw_id, if_neg, if_pos, zix_nat, h2, bS_bit8]
    show _ = some (Sum.inl (sumN _ i + (if p i then w (6 + i) else 0), ((i + 1 : Nat) : Int)))
    cases p i <;> simp) (by
    unfold f_X0_dearOf_L4
    dsimp only
    simp (disch := omega) only [if_true, if_false, true_or, or_true, true_and, and_true, not_true_eq_false, not_false_eq_true, hc.thg, zw_id, if_pos]) (m := zF) (by unfold zF; omega)
  unfold f_X0_dearOf
  rw [show (A 1).toNat = n by omega, key]
  simp only [zbs]
def wDear (w : Nat → Int) (n s : Nat) : Int := sumN (fun t => if s.testBit t then w (6 + t) else 0) n
def wBulk (A : Nat → Int) (n s : Nat) : Int := sumN (fun t => if s.testBit t then A (24 + t) else 0) n
def wB (A w : Nat → Int) (room : Int) (n : Nat) : Nat → Int × Int
  | 0 => (0, 0)
  | s + 1 => if wBulk A n s ≤ room ∧ (wB A w room n s).2 < wDear w n s then ((s : Int), wDear w n s) else wB A w room n s
set_option maxRecDepth 8000 in
set_option maxHeartbeats 2000000 in
theorem wDear_le {A w : Nat → Int} {n s : Nat} (hw : rowOK A w) (hn : (n : Int) ≤ A 1) (hn8 : n ≤ 8) : 0 ≤ wDear w n s ∧ wDear w n s ≤ 792 := by
  have h := sumN_le (f := fun t => if s.testBit t then w (6 + t) else 0) (n := n) (b := 99) (fun i hi => by
    have := hw.dear i (by omega)
    cases s.testBit i
    · simp
    · simp; omega)
  unfold wDear
  omega
set_option maxRecDepth 8000 in
set_option maxHeartbeats 2000000 in
theorem wBulk_le {A : Nat → Int} {n s : Nat} (hA : headOK A) (hn : (n : Int) ≤ A 1) (hn8 : n ≤ 8) : 0 ≤ wBulk A n s ∧ wBulk A n s ≤ 72 := by
  have h := sumN_le (f := fun t => if s.testBit t then A (24 + t) else 0) (n := n) (b := 9) (fun i hi => by
    have := hA.bulk i (by omega)
    cases s.testBit i
    · simp
    · simp; omega)
  unfold wBulk
  omega
set_option maxRecDepth 8000 in
set_option maxHeartbeats 2000000 in
theorem wB_le {A w : Nat → Int} {room : Int} {n : Nat} (hw : rowOK A w) (hn : (n : Int) ≤ A 1) (hn8 : n ≤ 8) : ∀ s, 0 ≤ (wB A w room n s).2 ∧ (wB A w room n s).2 ≤ 792 := by
  intro s
  induction s with
  | zero => exact ⟨Int.le_refl _, by show (0 : Int) ≤ 792; omega⟩
  | succ s ih =>
    unfold wB
    split
    · exact wDear_le hw hn hn8
    · exact ih
set_option maxRecDepth 8000 in
set_option maxHeartbeats 2000000 in
theorem wDear_0 {w : Nat → Int} : ∀ n, wDear w n 0 = 0 := by
  intro n
  unfold wDear
  induction n with
  | zero => rfl
  | succ n ih =>
    show sumN _ n + _ = 0
    rw [ih]
    simp
set_option maxRecDepth 8000 in
set_option maxHeartbeats 2000000 in
theorem call_worth {M : zM} {v : Int} (h : zI M) (hv : -2147483648 ≤ v ∧ v ≤ 2147483647) : zCall (f_X10_worth v M) (fun N => f_X11_worth v N) := by
  have hz := h
  obtain ⟨T, hI⟩ := h
  have w0 := hI.w0
  generalize hAA : M 43 0 = A at w0
  have hA := w0.head
  have hw := w0.row
  have h0 := hA.thg
  obtain ⟨n, hn⟩ := Int.eq_ofNat_of_zero_le h0.1
  by_cases hr : 0 ≤ v ∧ v ≤ 99
  case neg =>
    refine zCall.same hz (v := -1) ?_ ?_
    · unfold f_X10_worth
      rw [wth_no (by omega) hv (by omega) (by omega)]
      simp only [zbs]
      rw [if_neg (nn_ zw_0)]
    · unfold f_X11_worth
      rw [in_no (by omega) hv (by omega) (by omega)]
      simp only [zbs]
      rw [if_neg (nn_ zw_0)]
  have hp : 2 ^ n ≤ 2 ^ 8 := Nat.pow_le_pow_right (by omega) (by omega)
  have hp : 2 ^ n ≤ 256 := hp
  have hp1 : 1 ≤ 2 ^ n := Nat.two_pow_pos n
  have e1 : zshl 1 (A 1) = ((2 ^ n : Nat) : Int) := by rw [hn]; exact zshl_1 n (by omega)
  have hthg := w0.city.thg
  have m1 : M 43 0 1 = A 1 := by rw [hAA]
  have d0 : wB A (rw_ A 90) v n (1 + 0) = (0, 0) := by
    show (if _ ∧ (wB A (rw_ A 90) v n 0).2 < wDear (rw_ A 90) n 0 then _ else wB A (rw_ A 90) v n 0) = _
    rw [if_neg (fun z => by have := z.2; rw [wDear_0] at this; exact absurd this (by show ¬ (0 : Int) < 0; omega))]
    rfl
  have keyX : zlp (fun s : Int × Int × Int × zM => f_X10_worth_L19 v s.1 s.2.1 s.2.2.1 s.2.2.2) zF ((wB A (rw_ A 90) v n (1 + 0)).1, (wB A (rw_ A 90) v n (1 + 0)).2, ((1 + 0 : Nat) : Int), M) = some ((wB A (rw_ A 90) v n (2 ^ n)).1, M) := by
    refine zlp_fun (body := fun s : Int × Int × Int × zM => f_X10_worth_L19 v s.1 s.2.1 s.2.2.1 s.2.2.2) (fun i => ((wB A (rw_ A 90) v n (1 + i)).1, (wB A (rw_ A 90) v n (1 + i)).2, ((1 + i : Nat) : Int), M)) (2 ^ n - 1) _ (fun i hi => ?_) ?_ (m := zF) (by unfold zF; omega)
    · have hs : 1 + i < 256 := by omega
      have b1 := wDear_le (s := 1 + i) hw (show (n : Int) ≤ A 1 by omega) (by omega)
      have b2 := wBulk_le (s := 1 + i) hA (show (n : Int) ≤ A 1 by omega) (by omega)
      have b3 := wB_le (room := v) hw (show (n : Int) ≤ A 1 by omega) (by omega) (1 + i)
      have x1 : f_X0_dearOf 0 ((1 + i : Nat) : Int) M = some (wDear (rw_ A 90) n (1 + i), M) := by
        have := X_dearOf (p := fun k => (1 + i).testBit k) w0.city hA hw
        rw [bS_self hs, show (A 1).toNat = n by omega] at this
        exact this
      have x2 : f_X0_bulkOf 0 ((1 + i : Nat) : Int) M = some (wBulk A n (1 + i), M) := by
        have := X_bulkOf (p := fun k => (1 + i).testBit k) (m := 8) w0.city hA (by omega) (by omega)
        rw [bS_self hs, show (A 1).toNat = n by omega] at this
        exact this
      have hstep : wB A (rw_ A 90) v n (1 + (i + 1)) = if wBulk A n (1 + i) ≤ v ∧ (wB A (rw_ A 90) v n (1 + i)).2 < wDear (rw_ A 90) n (1 + i) then (((1 + i : Nat) : Int), wDear (rw_ A 90) n (1 + i)) else wB A (rw_ A 90) v n (1 + i) := by
        rw [show 1 + (i + 1) = 1 + i + 1 by omega]; rfl
      rw [hstep]
      generalize wB A (rw_ A 90) v n (1 + i) = q at b3 ⊢
      unfold f_X10_worth_L19 f_X10_worth_j69
      dsimp only
      simp (disch := omega) only [if_true, if_false, true_or, or_true, true_and, and_true, not_true_eq_false, not_false_eq_true, hthg, e1, x1, x2, zw_id, if_neg, zbs]
      by_cases c1 : wDear (rw_ A 90) n (1 + i) ≤ q.2
      · rw [if_pos c1, if_neg (by omega)]
        rfl
      · rw [if_neg c1]
        by_cases c2 : v < wBulk A n (1 + i)
        · rw [if_pos c2, if_neg (by omega)]
          rfl
        · rw [if_neg c2, if_pos (by omega)]
          rfl
    · have e2 : 1 + (2 ^ n - 1) = 2 ^ n := by omega
      unfold f_X10_worth_L19
      dsimp only
      rw [e2]
      simp (disch := omega) only [if_true, if_false, true_or, or_true, true_and, and_true, not_true_eq_false, not_false_eq_true, hthg, e1, zw_id, if_pos]
  rw [d0] at keyX
  have keyX : zlp (fun s : Int × Int × Int × zM => f_X10_worth_L19 v s.1 s.2.1 s.2.2.1 s.2.2.2) zF (0, 0, 1, M) = _ := keyX
  have innerR : ∀ (s : Nat) (b m : Int), s < 256 → zlp (fun q : Int × Int × Int × zM => f_X11_worth_L41 v b m (s : Int) q.1 q.2.1 q.2.2.1 q.2.2.2) zF (0, 0, 0, M) = some (wBulk A n s, wDear (rw_ A 90) n s, M) := by
    intro s b m hs
    refine zlp_fun (body := fun q : Int × Int × Int × zM => f_X11_worth_L41 v b m (s : Int) q.1 q.2.1 q.2.2.1 q.2.2.2) (fun t => (wBulk A t s, wDear (rw_ A 90) t s, (t : Int), M)) n _ (fun t ht => ?_) ?_ (m := zF) (by unfold zF; omega)
    · have zb := zbit s hs t (by omega)
      have e24 : M 43 0 (24 + t) = A (24 + t) := by rw [hAA]
      have e96 : M 43 0 (96 + t) = rw_ A 90 (6 + t) := by rw [hAA]; unfold rw_; rw [show 90 + (6 + t) = 96 + t by omega]
      have z96 : zix (96 + (t : Int)) = 96 + t := zix_id (by omega) (by omega)
      have s1 : wBulk A (t + 1) s = wBulk A t s + (if s.testBit t then A (24 + t) else 0) := rfl
      have s2 : wDear (rw_ A 90) (t + 1) s = wDear (rw_ A 90) t s + (if s.testBit t then rw_ A 90 (6 + t) else 0) := rfl
      unfold f_X11_worth_L41 f_X11_worth_j78 f_X11_worth_j107 f_X11_has
      dsimp only
      rw [s1, s2, zb]
      cases s.testBit t
      · simp (disch := omega) only [if_true, if_false, true_or, or_true, true_and, and_true, not_true_eq_false, not_false_eq_true, m1, zw_id, if_neg, if_pos, zbs, Bool.false_eq_true]
        rfl
      · simp (disch := omega) only [if_true, if_false, true_or, or_true, true_and, and_true, not_true_eq_false, not_false_eq_true, m1, zw_id, if_neg, if_pos, zbs, zi24, z96, e24, e96]
        rfl
    · unfold f_X11_worth_L41
      dsimp only
      simp (disch := omega) only [if_true, if_false, true_or, or_true, true_and, and_true, not_true_eq_false, not_false_eq_true, m1, zw_id, if_pos]
  have keyR : zlp (fun s : Int × Int × Int × zM => f_X11_worth_L19 v s.1 s.2.1 s.2.2.1 s.2.2.2) zF (0, 0, 0, M) = some ((wB A (rw_ A 90) v n (2 ^ n)).1, M) := by
    refine zlp_fun (body := fun s : Int × Int × Int × zM => f_X11_worth_L19 v s.1 s.2.1 s.2.2.1 s.2.2.2) (fun i => ((wB A (rw_ A 90) v n i).1, (wB A (rw_ A 90) v n i).2, (i : Int), M)) (2 ^ n) _ (fun i hi => ?_) ?_ (m := zF) (by unfold zF; omega)
    · have hs : i < 256 := by omega
      have b1 := wDear_le (s := i) hw (show (n : Int) ≤ A 1 by omega) (by omega)
      have b2 := wBulk_le (s := i) hA (show (n : Int) ≤ A 1 by omega) (by omega)
      have b3 := wB_le (room := v) hw (show (n : Int) ≤ A 1 by omega) (by omega) i
      have hstep : wB A (rw_ A 90) v n (i + 1) = if wBulk A n i ≤ v ∧ (wB A (rw_ A 90) v n i).2 < wDear (rw_ A 90) n i then ((i : Int), wDear (rw_ A 90) n i) else wB A (rw_ A 90) v n i := rfl
      rw [hstep]
      generalize wB A (rw_ A 90) v n i = q at b3 ⊢
      have hin := innerR i q.1 q.2 hs
      unfold f_X11_worth_L19 f_X11_worth_j134
      dsimp only
      simp (disch := omega) only [if_true, if_false, true_or, or_true, true_and, and_true, not_true_eq_false, not_false_eq_true, m1, e1, hin, zw_id, if_neg, zbs]
      by_cases c2 : v < wBulk A n i
      · rw [if_pos c2, if_neg (by omega)]
        rfl
      · rw [if_neg c2]
        by_cases c1 : wDear (rw_ A 90) n i ≤ q.2
        · rw [if_pos c1, if_neg (by omega)]
          rfl
        · rw [if_neg c1, if_pos (by omega)]
          rfl
    · unfold f_X11_worth_L19
      dsimp only
      simp (disch := omega) only [if_true, if_false, true_or, or_true, true_and, and_true, not_true_eq_false, not_false_eq_true, m1, e1, zw_id, if_pos]
  refine zCall.same hz (v := (wB A (rw_ A 90) v n (2 ^ n)).1) ?_ ?_
  · unfold f_X10_worth
    rw [wth_yes hr.1 hr.2 hv (by omega) (by omega)]
    simp only [zbs]
    rw [if_pos (by rw [zw01.2.1]; omega), keyX]
    simp only [zbs]
  · unfold f_X11_worth
    rw [in_yes hr.1 hr.2 hv (by omega) (by omega)]
    simp only [zbs]
    rw [if_pos (by rw [zw01.2.1]; omega), keyR]
    simp only [zbs]
