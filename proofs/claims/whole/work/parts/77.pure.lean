/-! calls: book, whose, twice, worth -/
set_option maxRecDepth 8000 in
set_option maxHeartbeats 2000000 in
theorem card_split {d t o e : Int} (hd : 0 ≤ d ∧ d ≤ 10060) (ht : 0 ≤ t ∧ t < 8) (ho : 0 ≤ o ∧ o < 6) (he : 0 ≤ e ∧ e ≤ 99) : (0 ≤ ((d * 8 + t) * 6 + o) * 100 + e ∧ ((d * 8 + t) * 6 + o) * 100 + e < 100000000) ∧ (((d * 8 + t) * 6 + o) * 100 + e) / 4800 = d ∧ (((d * 8 + t) * 6 + o) * 100 + e) / 600 % 8 = t ∧ (((d * 8 + t) * 6 + o) * 100 + e) / 100 % 6 = o ∧ (((d * 8 + t) * 6 + o) * 100 + e) % 100 = e := by omega
set_option maxRecDepth 8000 in
set_option maxHeartbeats 2000000 in
theorem X_card {M : zM} {A w : Nat → Int} {i : Nat} (hA : headOK A) (hw : rowOK A w) (hi : (i : Int) < w 40) : f_X10_cardDay (cardOf w i) M = some (w (41 + 4 * i), M) ∧ f_X10_cardThing (cardOf w i) M = some (w (42 + 4 * i), M) ∧ f_X10_cardTo (cardOf w i) M = some (w (43 + 4 * i), M) ∧ f_X10_cardDear (cardOf w i) M = some (w (44 + 4 * i), M) := by
  obtain ⟨p1, p2, p3, p4⟩ := hw.page i hi
  have a0 := hA.own
  have a1 := hA.thg
  obtain ⟨s0, s1, s2, s3, s4⟩ := card_split p1 (show 0 ≤ w (42 + 4 * i) ∧ w (42 + 4 * i) < 8 by omega) (show 0 ≤ w (43 + 4 * i) ∧ w (43 + 4 * i) < 6 by omega) p4
  unfold f_X10_cardDay f_X10_cardThing f_X10_cardTo f_X10_cardDear cardOf
  generalize ((w (41 + 4 * i) * 8 + w (42 + 4 * i)) * 6 + w (43 + 4 * i)) * 100 + w (44 + 4 * i) = c at s0 s1 s2 s3 s4
  rw [zw_id (z := c) (by omega) (by omega), Int.tdiv_eq_ediv_of_nonneg s0.1, Int.tdiv_eq_ediv_of_nonneg s0.1, Int.tdiv_eq_ediv_of_nonneg s0.1, zw_id (z := c / 600) (by omega) (by omega), zw_id (z := c / 100) (by omega) (by omega), zrem_pos (by omega), zrem_pos (by omega), zrem_pos (by omega), s1, s2, s3, s4]
  exact ⟨rfl, rfl, rfl, rfl⟩
set_option maxRecDepth 8000 in
set_option maxHeartbeats 2000000 in
theorem call_book {M : zM} {v k : Int} (h : zI M) (hv : -2147483648 ≤ v ∧ v ≤ 2147483647) (hk : -2147483648 ≤ k ∧ k ≤ 2147483647) : zCall (f_X10_book v k M) (fun N => f_X11_book v k N) := by
  have hz := h
  obtain ⟨T, hI⟩ := h
  have w0 := hI.w0
  generalize hAA : M 43 0 = A at w0
  have hb := w0.row.book
  have e40 : rw_ A 90 40 = A 130 := rfl
  have hwr := w0.city.wrt
  have m130 : M 43 0 130 = A 130 := by rw [hAA]
  by_cases h1 : v = -1
  · refine zCall.same hz (v := A 130) ?_ ?_
    · unfold f_X10_book
      rw [zw_id (z := v) (by omega) (by omega), if_neg (nn_ h1), hwr, e40]
    · unfold f_X11_book
      rw [zw_id (z := v) (by omega) (by omega), if_neg (nn_ h1), m130]
  rw [e40] at hb hwr
  by_cases hr : 0 ≤ v ∧ v < A 130
  case neg =>
    refine zCall.same hz (v := -2) ?_ ?_
    · unfold f_X10_book
      rw [zw_id (z := v) (by omega) (by omega), if_pos h1, hwr, wth_no (by omega) hv (by omega) (by omega)]
      simp only [zbs]
      rw [if_neg (nn_ zw_0)]
    · unfold f_X11_book
      rw [zw_id (z := v) (by omega) (by omega), if_pos h1, m130, in_no (by omega) hv (by omega) (by omega)]
      simp only [zbs]
      rw [if_pos zw_0]
  obtain ⟨i, rfl⟩ := Int.eq_ofNat_of_zero_le hr.1
  have hc := w0.city.card i (by rw [e40]; omega)
  obtain ⟨x1, x2, x3, x4⟩ := X_card (M := M) w0.head w0.row (i := i) (by rw [e40]; omega)
  have f1 : rw_ A 90 (41 + 4 * i) = A (131 + 4 * i) := by unfold rw_; rw [show 90 + (41 + 4 * i) = 131 + 4 * i by omega]
  have f2 : rw_ A 90 (42 + 4 * i) = A (132 + 4 * i) := by unfold rw_; rw [show 90 + (42 + 4 * i) = 132 + 4 * i by omega]
  have f3 : rw_ A 90 (43 + 4 * i) = A (133 + 4 * i) := by unfold rw_; rw [show 90 + (43 + 4 * i) = 133 + 4 * i by omega]
  have f4 : rw_ A 90 (44 + 4 * i) = A (134 + 4 * i) := by unfold rw_; rw [show 90 + (44 + 4 * i) = 134 + 4 * i by omega]
  have X : f_X10_book i k M = (if k = 0 then some (A (131 + 4 * i), M) else if k = 1 then some (A (132 + 4 * i), M) else if k = 2 then some (A (133 + 4 * i), M) else if k = 3 then some (A (134 + 4 * i), M) else some (-2, M)) := by
    unfold f_X10_book
    rw [zw_nat (by omega), if_pos h1, hwr, wth_yes hr.1 (by omega) hv (by omega) (by omega)]
    simp only [zbs]
    rw [if_pos (by rw [zw01.2.1]; omega), if_pos (show 0 ≤ (i : Int) ∧ (i : Int) < 30 by omega), zix_nat (by omega), hc, x1, x2, x3, x4, zw_id (z := k) (by omega) (by omega), f1, f2, f3, f4]
    simp only [zbs]
  by_cases hk3 : 0 ≤ k ∧ k ≤ 3
  · obtain ⟨kn, rfl⟩ := Int.eq_ofNat_of_zero_le hk3.1
    refine zCall.same hz (v := A (131 + 4 * i + kn)) ?_ ?_
    · rw [X]
      have hk4 : kn = 0 ∨ kn = 1 ∨ kn = 2 ∨ kn = 3 := by omega
      rcases hk4 with rfl | rfl | rfl | rfl
      · rfl
      · rw [show 131 + 4 * i + 1 = 132 + 4 * i by omega]; rfl
      · rw [show 131 + 4 * i + 2 = 133 + 4 * i by omega]; rfl
      · rw [show 131 + 4 * i + 3 = 134 + 4 * i by omega]; rfl
    · have e1 : zix (131 + 4 * (i : Int) + (kn : Int)) = 131 + 4 * i + kn := zix_id (by omega) (by omega)
      unfold f_X11_book
      rw [zw_nat (by omega), if_pos h1, m130, in_yes hr.1 (by omega) hv (by omega) (by omega)]
      simp only [zbs]
      rw [if_neg (by rw [zw01.2.1]; omega), in_yes hk3.1 hk3.2 hk (by omega) (by omega)]
      simp only [zbs]
      rw [if_neg (by rw [zw01.2.1]; omega), zw_id (by omega) (by omega), if_pos (by omega), e1, hAA]
  · refine zCall.same hz (v := -2) ?_ ?_
    · rw [X, if_neg (by omega), if_neg (by omega), if_neg (by omega), if_neg (by omega)]
    · unfold f_X11_book
      rw [zw_nat (by omega), if_pos h1, m130, in_yes hr.1 (by omega) hv (by omega) (by omega)]
      simp only [zbs]
      rw [if_neg (by rw [zw01.2.1]; omega), in_no (by omega) hk (by omega) (by omega)]
      simp only [zbs]
      rw [if_pos zw_0]
/-! whose, twice -/
/-- to how many cards of the first n a thing came back to an owner -/
def cntB (w : Nat → Int) (t o : Int) : Nat → Nat
  | 0 => 0
  | n + 1 => cntB w t o n + (if w (42 + 4 * n) = t ∧ w (43 + 4 * n) = o then 1 else 0)
set_option maxRecDepth 8000 in
set_option maxHeartbeats 2000000 in
theorem cntB_le {w : Nat → Int} {t o : Int} : ∀ n, cntB w t o n ≤ n := by
  intro n
  induction n with
  | zero => exact Nat.le_refl _
  | succ n ih => unfold cntB; split <;> omega
set_option maxRecDepth 8000 in
set_option maxHeartbeats 2000000 in
theorem R_backTo {M : zM} {A : Nat → Int} {t : Nat} {times : Nat} (hM : M 43 0 = A) (hA : headOK A) (hw : rowOK A (rw_ A 90)) (ht : t < 8) (htm : times < 10) : f_X11_backTo t times M = some (((bS (fun o => decide (times ≤ cntB (rw_ A 90) t o (A 130).toNat)) (A 0).toNat : Nat) : Int), M) := by
  have h1 := hA.own
  have h0 := hA.thg
  have hb := hw.book
  have e40 : rw_ A 90 40 = A 130 := rfl
  rw [e40] at hb
  obtain ⟨n, hn⟩ := Int.eq_ofNat_of_zero_le h1.1
  obtain ⟨m, hm⟩ := Int.eq_ofNat_of_zero_le hb.1
  have m0 : M 43 0 0 = A 0 := by rw [hM]
  have m130 : M 43 0 130 = A 130 := by rw [hM]
  have inner : ∀ (o : Nat) (v3 : Int), o < 6 → zlp (fun s : Int × Int => f_X11_backTo_L22 (t : Int) times v3 o s.1 s.2 M) zF (0, 0) = some ((cntB (rw_ A 90) t o m : Nat) : Int) := by
    intro o v3 ho
    refine zlp_fun (body := fun s : Int × Int => f_X11_backTo_L22 (t : Int) times v3 o s.1 s.2 M) (fun i => (((cntB (rw_ A 90) t o i : Nat) : Int), (i : Int))) m _ (fun i hi => ?_) ?_ (by unfold zF; omega)
    · obtain ⟨p1, p2, p3, p4⟩ := hw.page i (by rw [e40]; omega)
      have e1 : zix (131 + 4 * (i : Int) + 1) = 132 + 4 * i := zix_id (by omega) (by omega)
      have e2 : zix (131 + 4 * (i : Int) + 2) = 133 + 4 * i := zix_id (by omega) (by omega)
      have f2 : M 43 0 (132 + 4 * i) = rw_ A 90 (42 + 4 * i) := by rw [hM]; unfold rw_; rw [show 90 + (42 + 4 * i) = 132 + 4 * i by omega]
      have f3 : M 43 0 (133 + 4 * i) = rw_ A 90 (43 + 4 * i) := by rw [hM]; unfold rw_; rw [show 90 + (43 + 4 * i) = 133 + 4 * i by omega]
      unfold f_X11_backTo_L22 f_X11_backTo_j78 f_X11_backTo_j79
      dsimp only
      rw [m130, e1, e2, f2, f3]
      simp (disch := omega) only [if_true, if_false, true_or, or_true, true_and, and_true, not_true_eq_false, not_false_eq_true, zw_id, if_neg, if_pos]
      by_cases hq1 : rw_ A 90 (42 + 4 * i) = t
      · rw [if_neg (nn_ hq1)]
        by_cases hq2 : rw_ A 90 (43 + 4 * i) = o
        · rw [if_neg (nn_ hq2), show cntB (rw_ A 90) t o (i + 1) = cntB (rw_ A 90) t o i + 1 by show _ + _ = _; rw [if_pos ⟨hq1, hq2⟩]]
          rfl
        · rw [if_pos hq2, show cntB (rw_ A 90) t o (i + 1) = cntB (rw_ A 90) t o i by show _ + _ = _; rw [if_neg (fun z => hq2 z.2)]; rfl]
          simp only [Int.add_zero]
          rfl
      · rw [if_pos hq1, show cntB (rw_ A 90) t o (i + 1) = cntB (rw_ A 90) t o i by show _ + _ = _; rw [if_neg (fun z => hq1 z.1)]; rfl]
        simp only [Int.add_zero]
        rfl
    · unfold f_X11_backTo_L22
      dsimp only
      rw [m130]
      simp (disch := omega) only [if_true, if_false, true_or, or_true, true_and, and_true, not_true_eq_false, not_false_eq_true, zw_id, if_pos]
  unfold f_X11_backTo
  rw [show (A 0).toNat = n by omega, show (A 130).toNat = m by omega]
  have key : zlp (fun s : Int × Int => f_X11_backTo_L5 (t : Int) times s.1 s.2 M) zF (0, 0) = some ((bS (fun o => decide (times ≤ cntB (rw_ A 90) t o m)) n : Nat) : Int) := zlp_fun (body := fun s : Int × Int => f_X11_backTo_L5 (t : Int) times s.1 s.2 M) (fun i => (((bS (fun o => decide (times ≤ cntB (rw_ A 90) t o m)) i : Nat) : Int), (i : Int))) n _ (fun i hi => by
    have hcl := cntB_le (w := rw_ A 90) (t := t) (o := i) m
    unfold f_X11_backTo_L5 f_X11_backTo_j103
    dsimp only
    rw [m0, inner i _ (by omega)]
    simp (disch := omega) only [if_true, if_false, true_or, or_true, true_and, and_true, not_true_eq_false, not_false_eq_true, zw_id, if_neg, zbs]
    by_cases hq : times ≤ cntB (rw_ A 90) t i m
    · rw [if_neg (by omega), bS_step (by omega) (by simp [hq])]
      rfl
    · have hb := bS_lt8 (fun o => decide (times ≤ cntB (rw_ A 90) t o m)) (show i ≤ 8 by omega)
      have e0 : zor ((bS (fun o => decide (times ≤ cntB (rw_ A 90) t o m)) i : Nat) : Int) 0 = ((bS (fun o => decide (times ≤ cntB (rw_ A 90) t o m)) i : Nat) : Int) := by
        have := zor_nat (a := bS (fun o => decide (times ≤ cntB (rw_ A 90) t o m)) i) (b := 0) (by omega) (by omega)
        rw [Nat.or_zero] at this
        exact this
      rw [if_pos (by omega), bS_none (by simp [hq]), e0]
      rfl) (by
    unfold f_X11_backTo_L5
    dsimp only
    rw [m0]
    simp (disch := omega) only [if_true, if_false, true_or, or_true, true_and, and_true, not_true_eq_false, not_false_eq_true, zw_id, if_pos]) (by unfold zF; omega)
  rw [key]
  simp only [zbs]
set_option maxRecDepth 8000 in
set_option maxHeartbeats 2000000 in
/-- a set of owners, of cards as they come -/
theorem bS_pos {p : Nat → Bool} {n : Nat} : (bS p n = 0) ↔ ∀ i, i < n → p i = false := by
  constructor
  · intro h i hi
    have := bS_bit p n i
    rw [h, Nat.zero_testBit] at this
    cases hp : p i
    · rfl
    · rw [hp] at this; simp [hi] at this
  · intro h
    apply Nat.eq_of_testBit_eq
    intro i
    rw [bS_bit, Nat.zero_testBit]
    by_cases hi : i < n
    · simp [h i hi]
    · simp [hi]
set_option maxRecDepth 8000 in
set_option maxHeartbeats 2000000 in
theorem cntB_one {w : Nat → Int} {t o : Int} {n : Nat} : 1 ≤ cntB w t o (n + 1) ↔ (1 ≤ cntB w t o n ∨ (w (42 + 4 * n) = t ∧ w (43 + 4 * n) = o)) := by
  show 1 ≤ cntB w t o n + (if w (42 + 4 * n) = t ∧ w (43 + 4 * n) = o then 1 else 0) ↔ _
  by_cases h : w (42 + 4 * n) = t ∧ w (43 + 4 * n) = o
  · rw [if_pos h]
    exact ⟨fun _ => Or.inr h, fun _ => by omega⟩
  · rw [if_neg h]
    exact ⟨fun z => Or.inl (by omega), fun z => z.elim (fun q => by omega) (fun q => absurd q h)⟩
set_option maxRecDepth 8000 in
set_option maxHeartbeats 2000000 in
theorem cntB_cast {w : Nat → Int} {t o : Int} {i n : Nat} (hi : i < n) (h1 : w (42 + 4 * i) = t) (h2 : w (43 + 4 * i) = o) : 1 ≤ cntB w t o n := by
  induction n with
  | zero => omega
  | succ n ih =>
    rw [cntB_one]
    by_cases hin : i = n
    · subst hin; exact Or.inr ⟨h1, h2⟩
    · exact Or.inl (ih (by omega))
set_option maxRecDepth 8000 in
set_option maxHeartbeats 2000000 in
theorem X_whose {M : zM} {A : Nat → Int} {t : Nat} (h : worldR M 0 A) (ht : (t : Int) < A 1) : f_X10_whose t M = some (((bS (fun o => decide (1 ≤ cntB (rw_ A 90) t o (A 130).toNat)) (A 0).toNat : Nat) : Int), M) := by
  have h0 := h.head.thg
  have h1 := h.head.own
  have hb := h.row.book
  have e40 : rw_ A 90 40 = A 130 := rfl
  have hwr := h.city.wrt
  rw [e40] at hb hwr
  obtain ⟨n, hn⟩ := Int.eq_ofNat_of_zero_le h1.1
  obtain ⟨m, hm⟩ := Int.eq_ofNat_of_zero_le hb.1
  have h_row_page := fun (i : Nat) (hi : i < m) => h.row.page i (by rw [e40]; omega)
  have hz0 : bS (fun o => decide (1 ≤ cntB (rw_ A 90) t o 0)) 6 = 0 := bS_pos.mpr (fun q _ => decide_eq_false (by show ¬ 1 ≤ 0; omega))
  have key : zlp (fun s : Int × Int × zM => f_X10_whose_L17 (t : Int) s.1 s.2.1 s.2.2) zF (((bS (fun o => decide (1 ≤ cntB (rw_ A 90) t o 0)) 6 : Nat) : Int), 0, M) = some (((bS (fun o => decide (1 ≤ cntB (rw_ A 90) t o m)) 6 : Nat) : Int), M) := zlp_fun (body := fun s : Int × Int × zM => f_X10_whose_L17 (t : Int) s.1 s.2.1 s.2.2) (fun i => (((bS (fun o => decide (1 ≤ cntB (rw_ A 90) t o i)) 6 : Nat) : Int), (i : Int), M)) m (((bS (fun o => decide (1 ≤ cntB (rw_ A 90) t o m)) 6 : Nat) : Int), M) (fun i hi => by
    obtain ⟨p1, p2, p3, p4⟩ := h.row.page i (by rw [e40]; omega)
    have hc := h.city.card i (by rw [e40]; omega)
    obtain ⟨x1, x2, x3, x4⟩ := X_card (M := M) h.head h.row (i := i) (by rw [e40]; omega)
    unfold f_X10_whose_L17 f_X10_whose_j61
    dsimp only
    simp (disch := omega) only [if_true, if_false, true_or, or_true, true_and, and_true, not_true_eq_false, not_false_eq_true, hwr, zix_nat, hc, x2, x3, zw_id, if_neg, if_pos, zbs]
    by_cases hq : rw_ A 90 (42 + 4 * i) = t
    · obtain ⟨o, ho⟩ := Int.eq_ofNat_of_zero_le p3.1
      rw [if_neg (nn_ hq), ho, zor_bS (by omega) (by omega)]
      rw [bS_congr (p := fun q => (fun o => decide (1 ≤ cntB (rw_ A 90) t o i)) q || decide (q = o)) (q := fun o => decide (1 ≤ cntB (rw_ A 90) t o (i + 1))) (fun q _ => by
        rw [Bool.eq_iff_iff]
        simp only [Bool.or_eq_true, decide_eq_true_eq, cntB_one]
        constructor
        · rintro (h | h)
          · exact Or.inl h
          · exact Or.inr ⟨hq, by omega⟩
        · rintro (h | h)
          · exact Or.inl h
          · exact Or.inr (by omega))]
      rfl
    · rw [if_pos hq, bS_congr (p := fun o => decide (1 ≤ cntB (rw_ A 90) t o i)) (q := fun o => decide (1 ≤ cntB (rw_ A 90) t o (i + 1))) (fun q _ => by
        rw [Bool.eq_iff_iff]
        simp only [decide_eq_true_eq, cntB_one]
        constructor
        · exact Or.inl
        · rintro (h | h)
          · exact h
          · exact absurd h.1 hq)]
      rfl) (by
    unfold f_X10_whose_L17
    dsimp only
    simp (disch := omega) only [if_true, if_false, true_or, or_true, true_and, and_true, not_true_eq_false, not_false_eq_true, hwr, zw_id, if_pos]) (m := zF) (by unfold zF; omega)
  rw [hz0] at key
  have key : zlp (fun s : Int × Int × zM => f_X10_whose_L17 (t : Int) s.1 s.2.1 s.2.2) zF (0, 0, M) = _ := key
  unfold f_X10_whose
  rw [X_hasThing h.city h.head (by omega), if_pos (by omega)]
  simp only [zbs]
  rw [if_pos (by rw [zw01.2.1]; omega), key]
  simp only [zbs]
  rw [show (A 0).toNat = n by omega, show (A 130).toNat = m by omega]
  congr 1
  congr 1
  congr 1
  apply Nat.eq_of_testBit_eq
  intro q
  rw [bS_bit, bS_bit]
  by_cases hq : q < n
  · have hq6 : q < 6 := by omega
    simp [hq, hq6]
  · have hz : ¬ 1 ≤ cntB (rw_ A 90) t q m := by
      intro hc
      have : ∀ k, k ≤ m → 1 ≤ cntB (rw_ A 90) t q k → False := by
        intro k
        induction k with
        | zero => intro _ h; exact absurd h (by show ¬ 1 ≤ 0; omega)
        | succ k ih =>
          intro hk h
          rcases cntB_one.mp h with h | h
          · exact ih (by omega) h
          · obtain ⟨p1, p2, p3, p4⟩ := h_row_page k (by omega)
            omega
      exact this m (by omega) hc
    simp [hq, hz]
set_option maxRecDepth 8000 in
set_option maxHeartbeats 2000000 in
theorem call_whose {M : zM} {v : Int} (h : zI M) (hv : -2147483648 ≤ v ∧ v ≤ 2147483647) : zCall (f_X10_whose v M) (fun N => f_X11_whose v N) := by
  have hz := h
  obtain ⟨T, hI⟩ := h
  have w0 := hI.w0
  generalize hAA : M 43 0 = A at w0
  have hA := w0.head
  have h0 := hA.thg
  by_cases hr : 0 ≤ v ∧ v < A 1
  · obtain ⟨t, rfl⟩ := Int.eq_ofNat_of_zero_le hr.1
    refine zCall.same hz (X_whose w0 hr.2) ?_
    unfold f_X11_whose
    rw [R_isThing hAA hA hv, if_pos hr]
    simp only [zbs]
    rw [if_neg (by rw [zw01.2.1]; omega), show f_X11_backTo (t : Int) 1 M = _ from R_backTo (times := 1) hAA hA w0.row (by omega) (by omega)]
    simp only [zbs]
  · refine zCall.same hz (v := -1) ?_ ?_
    · unfold f_X10_whose
      rw [X_hasThing w0.city hA hv, if_neg hr]
      simp only [zbs]
      rw [if_neg (nn_ zw_0)]
    · unfold f_X11_whose
      rw [R_isThing hAA hA hv, if_neg hr]
      simp only [zbs]
      rw [if_pos zw_0]
