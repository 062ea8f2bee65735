/-! what is tried: foretold, pence -/
/-- cells that tries may change -/
def sc2 (k i : Nat) : Prop := (i = 2 ∧ (k = 11 ∨ k = 12 ∨ k = 13 ∨ k = 15)) ∨ (k = 16 ∧ 16 ≤ i) ∨ (k = 22 ∧ 60 ≤ i) ∨ k = 18 ∨ k = 19 ∨ (31 ≤ k ∧ k ≤ 34)
def fr2 (M M' : zM) : Prop := ∀ k i, ¬ sc2 k i → M' k i = M k i
set_option maxRecDepth 8000 in
set_option maxHeartbeats 2000000 in
theorem fr2.rfl_ {M : zM} : fr2 M M := fun _ _ _ => rfl
set_option maxRecDepth 8000 in
set_option maxHeartbeats 2000000 in
theorem fr2.trans {M M' M2 : zM} (h : fr2 M M') (h2 : fr2 M' M2) : fr2 M M2 := fun k i a => by rw [h2 k i a, h k i a]
set_option maxRecDepth 8000 in
set_option maxHeartbeats 2000000 in
theorem fr2.w {M M' : zM} (h : fr2 M M') : frW M M' := fun k i a => h k i (by unfold sc0 at a; unfold sc2; omega)
set_option maxRecDepth 8000 in
set_option maxHeartbeats 2000000 in
theorem frX.two {M M' : zM} (h : frX 2 M M') : fr2 M M' := fun k i a => h.1 k i (by unfold sc2 at a; omega) (by unfold sc2 at a; omega) (by unfold sc2 at a; omega) (by unfold sc2 at a; omega) (by unfold sc2 at a; omega) (by unfold sc2 at a; omega)
set_option maxRecDepth 8000 in
set_option maxHeartbeats 2000000 in
theorem fr2.world {M M' : zM} {A : Nat → Int} (h : fr2 M M') (w : worldR M 0 A) : worldR M' 0 A := by
  have f : ∀ k, k ≠ 18 → k ≠ 19 → k < 31 → k ≠ 16 → k ≠ 22 → M' k 0 = M k 0 := fun k a b c d e => h k 0 (by unfold sc2; omega)
  exact w.congr (fun s _ _ => by rw [f 11 (by omega) (by omega) (by omega) (by omega) (by omega)]) (fun q _ => by rw [f 12 (by omega) (by omega) (by omega) (by omega) (by omega), f 13 (by omega) (by omega) (by omega) (by omega) (by omega)]; exact ⟨rfl, rfl⟩) (fun q _ => by rw [f 15 (by omega) (by omega) (by omega) (by omega) (by omega)]) (fun t s _ _ => by rw [h 16 _ (by unfold sc2; omega)]) (by rw [f 20 (by omega) (by omega) (by omega) (by omega) (by omega)]; exact ⟨rfl, rfl⟩) (fun r q _ _ => by rw [h 22 _ (by unfold sc2; omega)]) (by rw [f 23 (by omega) (by omega) (by omega) (by omega) (by omega)]; exact ⟨rfl, rfl, rfl⟩) (fun q _ => by rw [f 24 (by omega) (by omega) (by omega) (by omega) (by omega), f 25 (by omega) (by omega) (by omega) (by omega) (by omega)]; exact ⟨rfl, rfl⟩) (fun q _ => by rw [f 26 (by omega) (by omega) (by omega) (by omega) (by omega), f 28 (by omega) (by omega) (by omega) (by omega) (by omega), f 29 (by omega) (by omega) (by omega) (by omega) (by omega), f 30 (by omega) (by omega) (by omega) (by omega) (by omega)]; exact ⟨rfl, rfl, rfl, rfl⟩) (fun q _ => rfl)
set_option maxRecDepth 8000 in
set_option maxHeartbeats 2000000 in
theorem holdsI.try_ {M M1 M2 : zM} {T : Nat → Nat → Option zLw} (h : holdsI M T) (f1 : fr2 M M1) (f2 : frV M1 M2) (hA : M2 43 0 = M 43 0) : holdsI M2 T := h.step f1.w (f1.world h.w0) f2 hA rfl
set_option maxRecDepth 8000 in
set_option maxHeartbeats 2000000 in
theorem fr2.txt {M M' : zM} {n : Int} {T : Nat → Nat → Option zLw} (h : fr2 M M') (hT : textsOK M n T) : textsOK M' n T := hT.frame (fun k i hk => h k i (by unfold txK at hk; unfold sc2; omega))
set_option maxRecDepth 8000 in
set_option maxHeartbeats 2000000 in
/-- the trial is the city -/
theorem X_trial {M : zM} {A W : Nat → Int} (h : worldR M 0 A) : ∃ M', f_X0_copy 2 0 M = some M' ∧ cityR M' 2 A (sLay A W) ∧ fr2 M M' ∧ M' 11 0 = M 11 0 := by
  obtain ⟨M', e1, e2, e3, e4, e5, e6⟩ := X_copy M (j := 0) (j' := 2) (by omega)
  obtain ⟨l1, l2, l3⟩ := h.lay (W := W)
  refine ⟨M', e1, l1.copied h.head l2 e3 e4 e5 e6, fun k i a => e2 k i (by unfold sc2 at a; omega) (by unfold sc2 at a; omega) (by unfold sc2 at a; omega) (by unfold sc2 at a; omega) (by unfold sc2 at a; omega), e2 11 0 (by omega) (by omega) (by omega) (by omega) (by omega)⟩
set_option maxRecDepth 8000 in
set_option maxHeartbeats 2000000 in
theorem X_thru {M : zM} {T : Nat → Nat → Option zLw} {A w : Nat → Int} {n : Nat} (hc : cityR M 2 A w) (hA : headOK A) (hw : rowOK A w) (hT : textsOK M (A 3) T) (hn : n ≤ 60) (hd : w 38 + n ≤ 9999) : zT (zlp (fun s : Int × zM => f_X10_tryDays_L29 (n : Int) s.1 s.2) zF (0, M)) (fun N => cityR N 2 A (sThru T A w n) ∧ frX 2 M N) := by
  refine zT_cnt0 (body := fun s : Int × zM => f_X10_tryDays_L29 (n : Int) s.1 s.2) (fun i N => cityR N 2 A (sThru T A w i) ∧ frX 2 M N) n ?_ ?_ (by unfold zF; omega) ⟨hc, frX.rfl_⟩
  · rintro i N hi ⟨g1, g2⟩
    dsimp only
    obtain ⟨o1, o2, o3⟩ := sThru_ok (T := T) hA hw (by omega) i
    have hp : sThru T A w i 38 < 9999 := by rw [o3]; split <;> omega
    obtain ⟨N', r1, r2, r3⟩ := X_passOne (T := T) g1 hA o1 (g2.txt hT) (by omega)
    unfold f_X10_tryDays_L29
    rw [zw_nat (by omega), zw_nat (by omega), if_neg (by omega), r1]
    simp only [zbs]
    refine zT_some (Or.inl ⟨_, rfl, ?_, g2.trans r3⟩)
    show cityR _ 2 A (if sThru T A w i 38 < 9999 then _ else _)
    rw [if_pos hp]
    exact r2
  · rintro N ⟨g1, g2⟩
    dsimp only
    unfold f_X10_tryDays_L29
    rw [zw_nat (by omega), if_pos (by omega)]
    exact zT_some ⟨N, rfl, g1, g2⟩
set_option maxRecDepth 8000 in
set_option maxHeartbeats 2000000 in
theorem sThru_min {T : Nat → Nat → Option zLw} {A w : Nat → Int} (hA : headOK A) (hw : rowOK A w) {n m : Nat} (hm : (m : Int) = 9999 - w 38) (h : m ≤ n) : sThru T A w n = sThru T A w m := by
  obtain ⟨o1, o2, o3⟩ := sThru_ok (T := T) hA hw (by omega) m
  rw [show n = m + (n - m) by omega]
  refine sThru_stop ?_ _
  rw [o3]
  split <;> omega
set_option maxRecDepth 8000 in
set_option maxHeartbeats 2000000 in
theorem X_tryDays {M : zM} {T : Nat → Nat → Option zLw} {A W : Nat → Int} {n : Nat} (h : worldR M 0 A) (hT : textsOK M (A 3) T) (hn : n ≤ 60) : ∃ M', f_X10_tryDays n M = some M' ∧ cityR M' 2 A (sThru T A (sLay A W) n) ∧ fr2 M M' := by
  have hA := h.head
  have hd := h.day
  have hrd := h.row.day
  have h128 : rw_ A 90 38 = A 128 := rfl
  have hcd := h.city.day
  rw [h128] at hcd hrd
  obtain ⟨l1, l2, l3⟩ := h.lay (W := W)
  have l38 : sLay A W 38 = A 128 := sLay_lo (by omega)
  obtain ⟨M1, e1, e2, e3, e4⟩ := X_trial (W := W) h
  have e5 : M1 11 0 10 = A 128 := by rw [e4]; exact hcd
  unfold f_X10_tryDays
  rw [e1]
  simp only [zbs]
  rw [e5, zw_id (z := 9999 - A 128) (by omega) (by omega), zw_nat (by omega)]
  by_cases hc : 9999 - A 128 < n
  · obtain ⟨m, hm⟩ := Int.eq_ofNat_of_zero_le (show 0 ≤ 9999 - A 128 by omega)
    rw [if_pos hc, hm]
    obtain ⟨N, k1, k2, k3⟩ := X_thru (T := T) (n := m) e2 hA l2 (e3.txt hT) (by omega) (by omega)
    rw [k1]
    simp only [zbs]
    refine ⟨N, rfl, ?_, e3.trans k3.two⟩
    rw [sThru_min hA l2 (n := n) (m := m) (by omega) (by omega)]
    exact k2
  · rw [if_neg hc]
    obtain ⟨N, k1, k2, k3⟩ := X_thru (T := T) (n := n) e2 hA l2 (e3.txt hT) (by omega) (by omega)
    rw [k1]
    simp only [zbs]
    exact ⟨N, rfl, k2, e3.trans k3.two⟩
set_option maxRecDepth 8000 in
set_option maxHeartbeats 2000000 in
theorem call_foretold {M : zM} {n v k : Int} (h : zI M) (hn : -2147483648 ≤ n ∧ n ≤ 2147483647) (hv : -2147483648 ≤ v ∧ v ≤ 2147483647) (hk : -2147483648 ≤ k ∧ k ≤ 2147483647) : zCall (f_X10_foretold n v k M) (fun N => f_X11_foretold n v k N) := by
  have hz := h
  obtain ⟨T, hI⟩ := h
  have w0 := hI.w0
  have hT := hI.txt
  generalize hAA : M 43 0 = A at w0 hT
  have hA := w0.head
  have h0 := hA.thg
  have h1 := hA.own
  generalize hWW : M 68 0 = W
  obtain ⟨l1, l2, l3⟩ := w0.lay (W := W)
  by_cases hr : 1 ≤ n ∧ n ≤ 60
  case neg =>
    refine zCall.same hz (v := -2) ?_ ?_
    · unfold f_X10_foretold
      rw [wth_no (by omega) hn (by omega) (by omega)]
      simp only [zbs]
      rw [if_pos zw_0]
    · unfold f_X11_foretold
      rw [in_no (by omega) hn (by omega) (by omega)]
      simp only [zbs]
      rw [if_pos zw_0]
  by_cases hq : 0 ≤ v ∧ v < A 1
  case neg =>
    refine zCall.same hz (v := -2) ?_ ?_
    · unfold f_X10_foretold
      rw [wth_yes hr.1 hr.2 hn (by omega) (by omega)]
      simp only [zbs]
      rw [if_neg (by rw [zw01.2.1]; omega), X_hasThing l1 hA hv, if_neg hq]
      simp only [zbs]
      rw [if_pos zw_0]
    · unfold f_X11_foretold
      rw [in_yes hr.1 hr.2 hn (by omega) (by omega)]
      simp only [zbs]
      rw [if_neg (by rw [zw01.2.1]; omega), R_isThing hAA hA hv, if_neg hq]
      simp only [zbs]
      rw [if_pos zw_0]
  by_cases hkk : 0 ≤ k ∧ k ≤ 1
  case neg =>
    refine zCall.same hz (v := -2) ?_ ?_
    · unfold f_X10_foretold
      rw [wth_yes hr.1 hr.2 hn (by omega) (by omega)]
      simp only [zbs]
      rw [if_neg (by rw [zw01.2.1]; omega), X_hasThing l1 hA hv, if_pos hq]
      simp only [zbs]
      rw [if_neg (by rw [zw01.2.1]; omega), wth_no (by omega) hk (by omega) (by omega)]
      simp only [zbs]
      rw [if_neg (nn_ zw_0)]
    · unfold f_X11_foretold
      rw [in_yes hr.1 hr.2 hn (by omega) (by omega)]
      simp only [zbs]
      rw [if_neg (by rw [zw01.2.1]; omega), R_isThing hAA hA hv, if_pos hq]
      simp only [zbs]
      rw [if_neg (by rw [zw01.2.1]; omega), in_no (by omega) hk (by omega) (by omega)]
      simp only [zbs]
      rw [if_neg (nn_ zw_0)]
  obtain ⟨t, rfl⟩ := Int.eq_ofNat_of_zero_le hq.1
  obtain ⟨m, rfl⟩ := Int.eq_ofNat_of_zero_le (show 0 ≤ n by omega)
  obtain ⟨M1, e1, e2, e3⟩ := X_tryDays (W := W) (n := m) w0 hT (by omega)
  have hA1 : M1 43 0 = A := by rw [e3 43 0 (by unfold sc2; omega)]; exact hAA
  have hW1 : M1 68 0 = W := by rw [e3 68 0 (by unfold sc2; omega)]; exact hWW
  obtain ⟨N1, p1, p2, p3⟩ := R_lay hA1
  rw [hW1] at p3
  have hN1 : N1 43 0 = A := by rw [p2 43 0 (by omega)]; exact hA1
  have hTN : textsOK N1 (A 3) T := (e3.txt hT).frame (fun k i hk => p2 k i (by unfold txK at hk; omega))
  obtain ⟨N2, q1, q2, q3⟩ := R_thru (T := T) (n := m) hN1 p3 hA l2 l3 hTN (by omega)
  have hN2 : N2 43 0 = A := by rw [q3 43 0 (by omega) (by omega) (by omega)]; exact hN1
  have hI2 : holdsI N2 T := hI.try_ e3 ((frV.of68 p2).trans q3.v) (by rw [hN2, hAA])
  refine zCall.mk (M1 := M1) (M2 := N2) (v := if k = 0 then sThru T A (sLay A W) m (6 + t) else sThru T A (sLay A W) m (14 + t)) ?_ ?_ ⟨T, hI2⟩
  · unfold f_X10_foretold
    rw [wth_yes hr.1 hr.2 hn (by omega) (by omega)]
    simp only [zbs]
    rw [if_neg (by rw [zw01.2.1]; omega), X_hasThing l1 hA hv, if_pos hq]
    simp only [zbs]
    rw [if_neg (by rw [zw01.2.1]; omega), wth_yes hkk.1 hkk.2 hk (by omega) (by omega)]
    simp only [zbs]
    rw [if_pos (by rw [zw01.2.1]; omega), e1]
    simp only [zbs]
    have g1 := e2.dear t (by omega)
    have g2 := e2.with_ t (by omega)
    rw [zw_nat (by omega), if_pos (by omega), zix_nat (by omega), zw_id (z := k) (by omega) (by omega)]
    by_cases hk0 : k = 0
    · rw [if_neg (nn_ hk0), if_pos hk0, show t + 16 = t + 8 * 2 by omega, g1]
    · rw [if_pos hk0, if_neg hk0, show t + 16 = t + 8 * 2 by omega, g2]
  · unfold f_X11_foretold
    rw [in_yes hr.1 hr.2 hn (by omega) (by omega)]
    simp only [zbs]
    rw [if_neg (by rw [zw01.2.1]; omega), R_isThing hA1 hA hv, if_pos hq]
    simp only [zbs]
    rw [if_neg (by rw [zw01.2.1]; omega), in_yes hkk.1 hkk.2 hk (by omega) (by omega)]
    simp only [zbs]
    rw [if_pos (by rw [zw01.2.1]; omega), p1]
    simp only [zbs]
    rw [q1]
    simp only [zbs]
    have g1 : N2 68 0 (6 + t) = sThru T A (sLay A W) m (6 + t) := by rw [q2]
    have g2 : N2 68 0 (14 + t) = sThru T A (sLay A W) m (14 + t) := by rw [q2]
    rw [zi6 (by omega), zi14 (by omega), zw_id (z := 6 + (t : Int)) (by omega) (by omega), zw_id (z := 14 + (t : Int)) (by omega) (by omega), zw_id (z := k) (by omega) (by omega), g1, g2]
    by_cases hk0 : k = 0
    · rw [if_neg (nn_ hk0), if_pos hk0, if_pos (by omega)]
    · rw [if_pos hk0, if_neg hk0, if_pos (by omega)]
set_option maxRecDepth 8000 in
set_option maxHeartbeats 2000000 in
theorem call_pence {M : zM} {n v : Int} (h : zI M) (hn : -2147483648 ≤ n ∧ n ≤ 2147483647) (hv : -2147483648 ≤ v ∧ v ≤ 2147483647) : zCall (f_X10_pence n v M) (fun N => f_X11_pence n v N) := by
  have hz := h
  obtain ⟨T, hI⟩ := h
  have w0 := hI.w0
  have hT := hI.txt
  generalize hAA : M 43 0 = A at w0 hT
  have hA := w0.head
  have h0 := hA.thg
  have h1 := hA.own
  generalize hWW : M 68 0 = W
  obtain ⟨l1, l2, l3⟩ := w0.lay (W := W)
  by_cases hr : 1 ≤ n ∧ n ≤ 60
  case neg =>
    refine zCall.same hz (v := -2000000) ?_ ?_
    · unfold f_X10_pence
      rw [wth_no (by omega) hn (by omega) (by omega)]
      simp only [zbs]
      rw [if_pos zw_0]
    · unfold f_X11_pence
      rw [in_no (by omega) hn (by omega) (by omega)]
      simp only [zbs]
      rw [if_pos zw_0]
  by_cases hq : 0 ≤ v ∧ v < A 0
  case neg =>
    refine zCall.same hz (v := -2000000) ?_ ?_
    · unfold f_X10_pence
      rw [wth_yes hr.1 hr.2 hn (by omega) (by omega)]
      simp only [zbs]
      rw [if_neg (by rw [zw01.2.1]; omega), X_hasOwner l1 hA hv, if_neg hq]
      simp only [zbs]
      rw [if_neg (nn_ zw_0)]
    · unfold f_X11_pence
      rw [in_yes hr.1 hr.2 hn (by omega) (by omega)]
      simp only [zbs]
      rw [if_neg (by rw [zw01.2.1]; omega), R_isOwner hAA hA hv, if_neg hq]
      simp only [zbs]
      rw [if_neg (nn_ zw_0)]
  obtain ⟨o, rfl⟩ := Int.eq_ofNat_of_zero_le hq.1
  obtain ⟨m, rfl⟩ := Int.eq_ofNat_of_zero_le (show 0 ≤ n by omega)
  obtain ⟨M1, e1, e2, e3⟩ := X_tryDays (W := W) (n := m) w0 hT (by omega)
  have hA1 : M1 43 0 = A := by rw [e3 43 0 (by unfold sc2; omega)]; exact hAA
  have hW1 : M1 68 0 = W := by rw [e3 68 0 (by unfold sc2; omega)]; exact hWW
  obtain ⟨N1, p1, p2, p3⟩ := R_lay hA1
  rw [hW1] at p3
  have hN1 : N1 43 0 = A := by rw [p2 43 0 (by omega)]; exact hA1
  have hTN : textsOK N1 (A 3) T := (e3.txt hT).frame (fun k i hk => p2 k i (by unfold txK at hk; omega))
  obtain ⟨N2, q1, q2, q3⟩ := R_thru (T := T) (n := m) hN1 p3 hA l2 l3 hTN (by omega)
  have hN2 : N2 43 0 = A := by rw [q3 43 0 (by omega) (by omega) (by omega)]; exact hN1
  have hI2 : holdsI N2 T := hI.try_ e3 ((frV.of68 p2).trans q3.v) (by rw [hN2, hAA])
  refine zCall.mk (M1 := M1) (M2 := N2) (v := sThru T A (sLay A W) m o) ?_ ?_ ⟨T, hI2⟩
  · unfold f_X10_pence
    rw [wth_yes hr.1 hr.2 hn (by omega) (by omega)]
    simp only [zbs]
    rw [if_neg (by rw [zw01.2.1]; omega), X_hasOwner l1 hA hv, if_pos hq]
    simp only [zbs]
    rw [if_pos (by rw [zw01.2.1]; omega), e1]
    simp only [zbs]
    rw [zw_nat (by omega), if_pos (by omega), zix_nat (by omega), e2.pence o (by omega)]
  · unfold f_X11_pence
    rw [in_yes hr.1 hr.2 hn (by omega) (by omega)]
    simp only [zbs]
    rw [if_neg (by rw [zw01.2.1]; omega), R_isOwner hA1 hA hv, if_pos hq]
    simp only [zbs]
    rw [if_pos (by rw [zw01.2.1]; omega), p1]
    simp only [zbs]
    rw [q1]
    simp only [zbs]
    have g1 : N2 68 0 o = sThru T A (sLay A W) m o := by rw [q2]
    rw [zi0 (by omega), zw_id (z := 0 + (o : Int)) (by omega) (by omega), g1, if_pos (by omega)]
