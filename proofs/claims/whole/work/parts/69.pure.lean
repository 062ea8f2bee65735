/-! calls: undo, steal, send, give -/
set_option maxRecDepth 8000 in
set_option maxHeartbeats 2000000 in
theorem sLay_keep {A W : Nat → Int} : sLay (sKeep A) W = sLay A W := by
  funext q
  unfold sLay
  by_cases h : q < 161
  · rw [if_pos h, if_pos h, sKeep_lo (by omega) (by omega)]
  · rw [if_neg h, if_neg h]
set_option maxRecDepth 8000 in
set_option maxHeartbeats 2000000 in
theorem sKB_congr {A A' w : Nat → Int} (h : ∀ q, q < 32 → q ≠ 5 → A' q = A q) (h8 : A 1 ≤ 8) : sKB A' w = sKB A w := by
  unfold sKB
  rw [h 1 (by omega) (by omega)]
  exact sumN_congr (fun i hi => by rw [h (24 + i) (by omega) (by omega)])
set_option maxRecDepth 8000 in
set_option maxHeartbeats 2000000 in
theorem stepX {M : zM} {A W : Nat → Int} {T : Nat → Nat → Option zLw} (h : worldR M 0 A) (hT : textsOK M (A 3) T) : ∃ M', f_X5_keep 0 0 M = some M' ∧ worldR M' 0 (sKeep A) ∧ frW M M' ∧ textsOK M' (sKeep A 3) T ∧ cityR M' 0 (sKeep A) (sLay A W) ∧ rowOK (sKeep A) (sLay A W) ∧ sLay A W 38 ≤ 9999 := by
  obtain ⟨M', e1, e2, e3⟩ := X_keep h
  have hl := e2.lay (W := W)
  rw [sLay_keep] at hl
  refine ⟨M', e1, e2, fun k i a => e3 k i (by unfold sc0 at a; omega) (by unfold sc0 at a; omega), ?_, hl.1, hl.2.1, hl.2.2⟩
  · rw [sKeep_lo (by omega) (by omega)]
    exact hT.frame (fun k i hk => e3 k i (by unfold txK at hk; omega) (by unfold txK at hk; omega))
set_option maxRecDepth 8000 in
set_option maxHeartbeats 2000000 in
theorem call_undo {M : zM} (h : zI M) : zCall (f_X10_undo M) (fun N => f_X11_undo N) := by
  obtain ⟨T, hI⟩ := h
  have h5 := hI.w0.head.stp
  have hh := hI.w0.steps.held
  by_cases hz : M 43 0 5 = 0
  · refine zCall.same ⟨T, hI⟩ ?_ (R_undo_no rfl hz)
    have hc : ¬ ¬ zw (M 20 0 1) = 0 := by rw [hh, hz]; exact fun z => z rfl
    unfold f_X10_undo
    rw [if_neg hc]
  · obtain ⟨n, hn⟩ := Int.eq_ofNat_of_zero_le (show 0 ≤ M 43 0 5 - 1 by omega)
    have hn1 : M 43 0 5 = (n : Int) + 1 := by omega
    obtain ⟨M1, e1, e2, e3, e4⟩ := X_takeBack hI.w0 hn1
    have f43 : M1 43 0 = M 43 0 := e3 43 0 (by omega) (by omega) (by omega) (by omega) (by omega) (by omega) (by omega)
    obtain ⟨M2, g1, g2, g3⟩ := R_undo f43 hn1 (by omega)
    have hc : ¬ zw (M 20 0 1) = 0 := by rw [hh, zw_id (by omega) (by omega)]; exact hz
    refine zCall.mk (M1 := M1) (M2 := M2) (v := n) ?_ g1 ⟨T, hI.step (fun k i a => e3 k i (by unfold sc0 at a; omega) (by unfold sc0 at a; omega) (by unfold sc0 at a; omega) (by unfold sc0 at a; omega) (by unfold sc0 at a; omega) (by unfold sc0 at a; omega) (by unfold sc0 at a; omega)) e2 (frV.of43 g2) g3 (sUndo_out (by omega) (by omega))⟩
    unfold f_X10_undo
    rw [if_pos hc, e1]
    simp only [zbs, e4]
set_option maxRecDepth 8000 in
set_option maxHeartbeats 2000000 in
theorem call_steal {M : zM} {v : Int} (h : zI M) (hv : -2147483648 ≤ v ∧ v ≤ 2147483647) : zCall (f_X10_steal v M) (fun N => f_X11_steal v N) := by
  have hz := h
  obtain ⟨T, hI⟩ := h
  have w0 := hI.w0
  have hT := hI.txt
  generalize hAA : M 43 0 = A at w0 hT
  have hA := w0.head
  have h0 := hA.thg
  generalize hWW : M 68 0 = W
  by_cases hr : 0 ≤ v ∧ v < A 1
  case neg =>
    refine zCall.same hz (v := -1) ?_ ?_
    · unfold f_X10_steal
      rw [X_canTake_no w0.city hA hv hr]
      simp (disch := omega) only [if_true, if_false, true_or, or_true, true_and, and_true, not_true_eq_false, not_false_eq_true, zbs, zw_id, if_neg]
    · unfold f_X11_steal
      rw [R_isThing hAA hA hv, if_neg hr]
      simp (disch := omega) only [if_true, if_false, true_or, or_true, true_and, and_true, not_true_eq_false, not_false_eq_true, zbs, zw_id, if_neg]
  obtain ⟨t, rfl⟩ := Int.eq_ofNat_of_zero_le hr.1
  obtain ⟨l1, l2, l3⟩ := w0.lay (W := W)
  obtain ⟨Ma, a1, a2, a3⟩ := R_lay hAA
  rw [hWW] at a3
  by_cases hm : sMay A (sLay A W) t
  · obtain ⟨M1, b1, b2, b3, b4, b5, b6, b7⟩ := stepX (W := W) w0 hT
    have hA1 := b2.head
    have hk1 : sKeep A 1 = A 1 := sKeep_lo (by omega) (by omega)
    obtain ⟨M2, c1, c2, c3⟩ := X_take b5 hA1 (t := t) (by omega)
    have hws := b6.steal (t := t) hA1 (by omega) hm.1
    have hd : sSteal (sLay A W) t 38 = sLay A W 38 := by unfold sSteal; rw [wup_ne (by omega), wup_ne (by omega), wup_ne (by omega)]
    have hw2 := b2.now c2 hws (by rw [hd]; exact b7) c3
    -- the reference, on what the class has left
    have f12 : frW M M2 := b3.trans c3.w0
    have hA2 : M2 43 0 = A := by rw [f12 43 0 (by unfold sc0; omega)]; exact hAA
    have hW2 : M2 68 0 = W := by rw [f12 68 0 (by unfold sc0; omega)]; exact hWW
    obtain ⟨N1, d1, d2, d3⟩ := R_lay hA2
    rw [hW2] at d3
    have hN1 : N1 43 0 = A := by rw [d2 43 0 (by omega)]; exact hA2
    obtain ⟨N2, e1, e2, e3⟩ := R_keepsStep hN1 hA.stp
    have hN2 : N2 68 0 = sLay A W := by rw [e2 68 0 (by omega)]; exact d3
    obtain ⟨N3, g1, g2, g3⟩ := R_steals hN2 (t := t) (by omega)
    have hN3 : N3 43 0 = sKeep A := by rw [g3 43 0 (by omega)]; exact e3
    obtain ⟨N4, k1, k2, k3⟩ := R_now hN3 g2
    have hN4 : N4 68 0 = sSteal (sLay A W) t := by rw [k2 68 0 (by omega)]; exact g2
    refine zCall.mk (M1 := M2) (M2 := N4) (v := sKB (sKeep A) (sSteal (sLay A W) t)) ?_ ?_ ⟨T, hI.step f12 hw2 ((frV.of68 d2).trans ((frV.of43 e2).trans ((frV.of68 g3).trans (frV.of43 k2)))) k3 ?_⟩
    · unfold f_X10_steal
      rw [(X_canTake l1 hA l2 hr.2).1 hm]
      simp (disch := omega) only [if_true, if_false, true_or, or_true, true_and, and_true, not_true_eq_false, not_false_eq_true, zbs, zw_id, if_pos]
      rw [b1]
      simp only [zbs]
      rw [c1]
      simp only [zbs]
      rw [X_keptBulk c2 hA1 hws]
      simp only [zbs]
    · unfold f_X11_steal
      rw [R_isThing hA2 hA hv, if_pos hr]
      simp (disch := omega) only [if_true, if_false, true_or, or_true, true_and, and_true, not_true_eq_false, not_false_eq_true, zbs, zw_id, if_pos]
      rw [d1]
      simp only [zbs]
      rw [(R_may hN1 d3 l2 hA hr.2).1 hm]
      simp (disch := omega) only [if_true, if_false, true_or, or_true, true_and, and_true, not_true_eq_false, not_false_eq_true, zbs, zw_id, if_pos]
      rw [e1]
      simp only [zbs]
      rw [g1]
      simp only [zbs]
      rw [k1]
      simp only [zbs]
      rw [R_keptBulk k3 hN4 (hws.congr (by omega) (fun q hq => sNow_out (by omega)) (fun q hq => rfl)) hA1.now]
      simp only [zbs]
      rw [sKB_congr (fun q hq _ => sNow_out (by omega)) (by omega)]
    · rw [sNow_out (by omega), sKeep_lo (by omega) (by omega), hAA]
  · have hA2 : Ma 43 0 = A := by rw [a2 43 0 (by omega)]; exact hAA
    refine zCall.mk (M1 := M) (M2 := Ma) (v := -1) ?_ ?_ ⟨T, hI.step frW.rfl_ w0 (frV.of68 a2) hA2 (by rw [hAA])⟩
    · unfold f_X10_steal
      rw [(X_canTake l1 hA l2 hr.2).2 hm]
      simp (disch := omega) only [if_true, if_false, true_or, or_true, true_and, and_true, not_true_eq_false, not_false_eq_true, zbs, zw_id, if_neg]
    · unfold f_X11_steal
      rw [R_isThing hAA hA hv, if_pos hr]
      simp (disch := omega) only [if_true, if_false, true_or, or_true, true_and, and_true, not_true_eq_false, not_false_eq_true, zbs, zw_id, if_pos]
      rw [a1]
      simp only [zbs]
      rw [(R_may hA2 a3 l2 hA hr.2).2 hm]
      simp (disch := omega) only [if_true, if_false, true_or, or_true, true_and, and_true, not_true_eq_false, not_false_eq_true, zbs, zw_id, if_neg]
set_option maxRecDepth 8000 in
set_option maxHeartbeats 2000000 in
theorem call_send {M : zM} {v : Int} (h : zI M) (hv : -2147483648 ≤ v ∧ v ≤ 2147483647) : zCall (f_X10_send v M) (fun N => f_X11_send v N) := by
  have hz := h
  obtain ⟨T, hI⟩ := h
  have w0 := hI.w0
  have hT := hI.txt
  generalize hAA : M 43 0 = A at w0 hT
  have hA := w0.head
  have h0 := hA.thg
  have h1 := hA.own
  generalize hWW : M 68 0 = W
  obtain ⟨l1, l2, l3⟩ := w0.lay (W := W)
  by_cases hr : 0 ≤ v ∧ v < A 1
  case neg =>
    refine zCall.same hz (v := -1) ?_ ?_
    · unfold f_X10_send
      rw [X_isKept l1 hA l2 hv, if_neg (fun z => hr z.1)]
      simp (disch := omega) only [if_true, if_false, true_or, or_true, true_and, and_true, not_true_eq_false, not_false_eq_true, zbs, zw_id, if_neg]
    · unfold f_X11_send
      rw [R_isThing hAA hA hv, if_neg hr]
      simp (disch := omega) only [if_true, if_false, true_or, or_true, true_and, and_true, not_true_eq_false, not_false_eq_true, zbs, zw_id, if_pos]
  obtain ⟨t, rfl⟩ := Int.eq_ofNat_of_zero_le hr.1
  have hat := l2.at_ t hr.2
  have hlo : sLay A W (14 + t) = A (104 + t) := by rw [sLay_lo (by omega), show 90 + (14 + t) = 104 + t by omega]
  rw [hlo] at hat
  by_cases hk : A (104 + t) = -1
  · obtain ⟨M1, b1, b2, b3, b4, b5, b6, b7⟩ := stepX (W := W) w0 hT
    have hA1 := b2.head
    have hk1 : sKeep A 1 = A 1 := sKeep_lo (by omega) (by omega)
    have hkk : sLay A W (14 + t) = -1 := by rw [hlo]; exact hk
    obtain ⟨M2, c1, c2, c3⟩ := X_comeBack b5 hA1 b6 b4 (t := t) (by omega) hkk
    have hws := b6.back (T := T) (t := t) hA1 (by omega) hkk
    have hd := sBack_38 (T := T) hA1 b6 (t := t) (by omega) hkk
    have hw2 := b2.now c2 hws (by rw [hd]; exact b7) c3
    have f12 : frW M M2 := b3.trans c3.w0
    have hA2 : M2 43 0 = A := by rw [f12 43 0 (by unfold sc0; omega)]; exact hAA
    have hW2 : M2 68 0 = W := by rw [f12 68 0 (by unfold sc0; omega)]; exact hWW
    have hT2 : textsOK M2 (sKeep A 3) T := by
      rw [sKeep_lo (by omega) (by omega)]
      exact hT.frame (fun k i hk => f12 k i (by unfold txK at hk; unfold sc0; omega))
    obtain ⟨N1, d1, d2, d3⟩ := R_keepsStep hA2 hA.stp
    obtain ⟨N2, e1, e2, e3⟩ := R_lay d3
    have hN168 : N1 68 0 = W := by rw [d2 68 0 (by omega)]; exact hW2
    rw [hN168, sLay_keep] at e3
    have hN2 : N2 43 0 = sKeep A := by rw [e2 43 0 (by omega)]; exact d3
    have fN : frV M2 N2 := (frV.of43 d2).trans (frV.of68 e2)
    obtain ⟨N3, g1, g2, g3⟩ := R_comesBack hN2 e3 hA1 b6 (hT2.frame (fun k i hk => fN k i (by unfold txK at hk; omega) (by unfold txK at hk; omega))) (t := t) (by omega) hkk
    have hN3 : N3 43 0 = sKeep A := by rw [g3 43 0 (by omega) (by omega) (by omega)]; exact hN2
    obtain ⟨N4, k1, k2, k3⟩ := R_now hN3 g2
    refine zCall.mk (M1 := M2) (M2 := N4) (v := sLaw T (sKeep A) (sLay A W) t 2 0) ?_ ?_ ⟨T, hI.step f12 hw2 (fN.trans (g3.v.trans (frV.of43 k2))) k3 ?_⟩
    · unfold f_X10_send
      rw [X_isKept l1 hA l2 hv, if_pos ⟨hr, by rw [Int.toNat_natCast]; exact hkk⟩]
      simp (disch := omega) only [if_true, if_false, true_or, or_true, true_and, and_true, not_true_eq_false, not_false_eq_true, zbs, zw_id, if_pos]
      rw [b1]
      simp only [zbs]
      rw [c1]
      simp only [zbs]
    · unfold f_X11_send
      rw [R_isThing hA2 hA hv, if_pos hr]
      simp (disch := omega) only [if_true, if_false, true_or, or_true, true_and, and_true, not_true_eq_false, not_false_eq_true, zbs, zw_id, if_neg, if_pos, zi104, hA2, hk]
      rw [d1]
      simp only [zbs]
      rw [e1]
      simp only [zbs]
      rw [g1]
      simp only [zbs]
      rw [k1]
      simp only [zbs]
    · rw [sNow_out (by omega), sKeep_lo (by omega) (by omega), hAA]
  · refine zCall.same hz (v := -1) ?_ ?_
    · unfold f_X10_send
      rw [X_isKept l1 hA l2 hv, if_neg (fun z => hk (by rw [Int.toNat_natCast] at z; rw [← hlo]; exact z.2))]
      simp (disch := omega) only [if_true, if_false, true_or, or_true, true_and, and_true, not_true_eq_false, not_false_eq_true, zbs, zw_id, if_neg]
    · unfold f_X11_send
      rw [R_isThing hAA hA hv, if_pos hr]
      simp (disch := omega) only [if_true, if_false, true_or, or_true, true_and, and_true, not_true_eq_false, not_false_eq_true, zbs, zw_id, if_neg, if_pos, zi104, hAA]
set_option maxRecDepth 8000 in
set_option maxHeartbeats 2000000 in
theorem X_canHand {M : zM} {j t o : Nat} {A w : Nat → Int} (hc : cityR M j A w) (hA : headOK A) (hw : rowOK A w) (ht : (t : Int) < A 1) (ho : (o : Int) < A 0) : (w (14 + t) ≠ -1 ∧ w (14 + t) ≠ o → f_X0_canHand j t o M = some (1, M)) ∧ (¬ (w (14 + t) ≠ -1 ∧ w (14 + t) ≠ o) → f_X0_canHand j t o M = some (0, M)) := by
  have h0 := hA.thg
  have h1 := hA.own
  have h2 := hc.with_ t ht
  have h3 := hw.at_ t ht
  unfold f_X0_canHand
  rw [X_hasThing hc hA (by omega), if_pos (by omega)]
  simp (disch := omega) only [if_true, if_false, true_or, or_true, true_and, and_true, not_true_eq_false, not_false_eq_true, zbs, zw_id, if_neg]
  rw [X_hasOwner hc hA (by omega), if_pos (by omega)]
  simp (disch := omega) only [if_true, if_false, true_or, or_true, true_and, and_true, not_true_eq_false, not_false_eq_true, zbs, zw_id, if_neg, if_pos, zix_nat, h2]
  by_cases hq : w (14 + t) = -1
  · rw [if_pos hq]
    exact ⟨fun h => absurd hq h.1, fun _ => rfl⟩
  · rw [if_neg hq]
    by_cases hq2 : w (14 + t) = o
    · rw [if_pos hq2]
      exact ⟨fun h => absurd hq2 h.2, fun _ => rfl⟩
    · rw [if_neg hq2]
      exact ⟨fun _ => rfl, fun h => absurd ⟨hq, hq2⟩ h⟩
set_option maxRecDepth 8000 in
set_option maxHeartbeats 2000000 in
theorem X_canHand_no {M : zM} {j : Nat} {v o : Int} {A w : Nat → Int} (hc : cityR M j A w) (hA : headOK A) (hv : -2147483648 ≤ v ∧ v ≤ 2147483647) (ho : -2147483648 ≤ o ∧ o ≤ 2147483647) (h : ¬ ((0 ≤ v ∧ v < A 1) ∧ 0 ≤ o ∧ o < A 0)) : f_X0_canHand j v o M = some (0, M) := by
  unfold f_X0_canHand
  rw [X_hasThing hc hA hv]
  by_cases h1 : 0 ≤ v ∧ v < A 1
  · rw [if_pos h1]
    simp (disch := omega) only [if_true, if_false, true_or, or_true, true_and, and_true, not_true_eq_false, not_false_eq_true, zbs, zw_id, if_neg]
    rw [X_hasOwner hc hA ho, if_neg (fun z => h ⟨h1, z⟩)]
    simp (disch := omega) only [if_true, if_false, true_or, or_true, true_and, and_true, not_true_eq_false, not_false_eq_true, zbs, zw_id, if_pos]
  · rw [if_neg h1]
    simp (disch := omega) only [if_true, if_false, true_or, or_true, true_and, and_true, not_true_eq_false, not_false_eq_true, zbs, zw_id, if_pos]
set_option maxRecDepth 8000 in
set_option maxHeartbeats 2000000 in
/-- a THING is with an OWNER -/
theorem X_hand {M : zM} {j t o : Nat} {A w : Nat → Int} (hc : cityR M j A w) (hA : headOK A) (ht : (t : Int) < A 1) : cityR (zput M 16 (t + 8 * j) 4 (o : Int)) j A (wup w (14 + t) o) := by
  have h0 := hA.thg
  refine hc.setThing h0.2 (by omega) (t := t) (fun k i h => zput_rowk (by omega)) (fun q a b c d => wup_ne b) (zput_j (by omega)) (zput_j (by omega)) ?_ ?_ ?_ ?_
  · rw [zput_j (by omega), wup_ne (by omega)]; exact hc.dear t ht
  · rw [zput_eq, wup_eq]
  · rw [wup_eq]; intro h; omega
  · rw [wup_eq]; intro h; omega
set_option maxRecDepth 8000 in
set_option maxHeartbeats 2000000 in
theorem rowOK.hand {t o : Nat} {A w : Nat → Int} (hw : rowOK A w) (hA : headOK A) (ht : (t : Int) < A 1) (ho : (o : Int) < A 0) (hk : w (14 + t) ≠ -1) : rowOK A (wup w (14 + t) o) := by
  have h0 := hA.thg
  refine hw.setThing h0.2 (by omega) (t := t) (fun q a b c d => wup_ne b) ?_ ?_ ?_ ?_
  · rw [wup_ne (by omega)]; exact hw.dear t ht
  · rw [wup_eq]; omega
  · rw [wup_eq]; intro h; omega
  · rw [wup_eq, wup_ne (by omega), wup_ne (by omega)]
    intro _; exact hw.free t ht hk
set_option maxRecDepth 8000 in
set_option maxHeartbeats 2000000 in
theorem call_give {M : zM} {v o : Int} (h : zI M) (hv : -2147483648 ≤ v ∧ v ≤ 2147483647) (ho : -2147483648 ≤ o ∧ o ≤ 2147483647) : zCall (f_X10_give v o M) (fun N => f_X11_give v o N) := by
  have hz := h
  obtain ⟨T, hI⟩ := h
  have w0 := hI.w0
  have hT := hI.txt
  generalize hAA : M 43 0 = A at w0 hT
  have hA := w0.head
  have h0 := hA.thg
  have h1 := hA.own
  generalize hWW : M 68 0 = W
  obtain ⟨l1, l2, l3⟩ := w0.lay (W := W)
  by_cases hr : (0 ≤ v ∧ v < A 1) ∧ 0 ≤ o ∧ o < A 0
  case neg =>
    refine zCall.same hz (v := 0) ?_ ?_
    · unfold f_X10_give
      rw [X_canHand_no l1 hA hv ho hr]
      simp (disch := omega) only [if_true, if_false, true_or, or_true, true_and, and_true, not_true_eq_false, not_false_eq_true, zbs, zw_id, if_neg]
    · unfold f_X11_give
      rw [R_isThing hAA hA hv]
      by_cases h2 : 0 ≤ v ∧ v < A 1
      · rw [if_pos h2]
        simp (disch := omega) only [if_true, if_false, true_or, or_true, true_and, and_true, not_true_eq_false, not_false_eq_true, zbs, zw_id, if_neg]
        rw [R_isOwner hAA hA ho, if_neg (fun z => hr ⟨h2, z⟩)]
        simp (disch := omega) only [if_true, if_false, true_or, or_true, true_and, and_true, not_true_eq_false, not_false_eq_true, zbs, zw_id, if_pos]
      · rw [if_neg h2]
        simp (disch := omega) only [if_true, if_false, true_or, or_true, true_and, and_true, not_true_eq_false, not_false_eq_true, zbs, zw_id, if_pos]
  obtain ⟨hrt, hro⟩ := hr
  obtain ⟨t, rfl⟩ := Int.eq_ofNat_of_zero_le hrt.1
  obtain ⟨o, rfl⟩ := Int.eq_ofNat_of_zero_le hro.1
  have hat := l2.at_ t hrt.2
  have hlo : sLay A W (14 + t) = A (104 + t) := by rw [sLay_lo (by omega), show 90 + (14 + t) = 104 + t by omega]
  have hch := X_canHand l1 hA l2 hrt.2 hro.2
  rw [hlo] at hat hch
  by_cases hk : A (104 + t) ≠ -1 ∧ A (104 + t) ≠ o
  · obtain ⟨M1, b1, b2, b3, b4, b5, b6, b7⟩ := stepX (W := W) w0 hT
    have hA1 := b2.head
    have hk1 : sKeep A 1 = A 1 := sKeep_lo (by omega) (by omega)
    have hk0 : sKeep A 0 = A 0 := sKeep_lo (by omega) (by omega)
    have c2 := X_hand (o := o) b5 hA1 (t := t) (by omega)
    have hws := b6.hand (t := t) (o := o) hA1 (by omega) (by omega) (by rw [hlo]; exact hk.1)
    have c3 : frX 0 M1 (zput M1 16 (t + 8 * 0) 4 (o : Int)) := frX.put16 (by omega) (by omega)
    have hw2 := b2.now c2 hws (by rw [wup_ne (by omega)]; exact b7) c3
    have f12 : frW M (zput M1 16 (t + 8 * 0) 4 (o : Int)) := b3.trans c3.w0
    have hX : f_X10_give t o M = some (1, zput M1 16 (t + 8 * 0) 4 (o : Int)) := by
      unfold f_X10_give
      rw [hch.1 hk]
      simp (disch := omega) only [if_true, if_false, true_or, or_true, true_and, and_true, not_true_eq_false, not_false_eq_true, zbs, zw_id, if_pos]
      rw [b1]
      simp (disch := omega) only [if_true, if_false, true_or, or_true, true_and, and_true, not_true_eq_false, not_false_eq_true, zbs, zw_id, if_pos, zix_nat, zlt_, Nat.mul_zero, Nat.add_zero]
    generalize zput M1 16 (t + 8 * 0) 4 (o : Int) = M2 at hX hw2 f12
    have hA2 : M2 43 0 = A := by rw [f12 43 0 (by unfold sc0; omega)]; exact hAA
    obtain ⟨N1, d1, d2, d3⟩ := R_keepsStep hA2 hA.stp
    have hfin : zput N1 43 0 (104 + t) (o : Int) 43 0 = sNow (sKeep A) (wup (sLay A W) (14 + t) o) := by
      rw [zput_wup, d3]
      funext q
      unfold sNow
      by_cases hq : q = 104 + t
      · subst hq
        rw [wup_eq, if_pos (by omega), show 104 + t - 90 = 14 + t by omega, wup_eq]
      · rw [wup_ne hq]
        by_cases hq2 : 90 ≤ q ∧ q < 251
        · rw [if_pos hq2, wup_ne (by omega), sLay_lo (by omega), show 90 + (q - 90) = q by omega, sKeep_lo (by omega) (by omega)]
        · rw [if_neg hq2]
    refine zCall.mk (M1 := M2) (M2 := zput N1 43 0 (104 + t) (o : Int)) (v := 1) hX ?_ ⟨T, hI.step f12 hw2 ((frV.of43 d2).trans (frV.of43 (fun k i hk => zput_rowk (by omega)))) hfin ?_⟩
    · unfold f_X11_give
      rw [R_isThing hA2 hA hv, if_pos hrt]
      simp (disch := omega) only [if_true, if_false, true_or, or_true, true_and, and_true, not_true_eq_false, not_false_eq_true, zbs, zw_id, if_neg]
      rw [R_isOwner hA2 hA ho, if_pos hro]
      simp (disch := omega) only [if_true, if_false, true_or, or_true, true_and, and_true, not_true_eq_false, not_false_eq_true, zbs, zw_id, if_neg, if_pos, zi104, hA2]
      rw [d1]
      simp (disch := omega) only [if_true, if_false, true_or, or_true, true_and, and_true, not_true_eq_false, not_false_eq_true, zbs, zw_id, if_neg, if_pos, zi104, zlt_]
    · rw [sNow_out (by omega), sKeep_lo (by omega) (by omega), hAA]
  · refine zCall.same hz (v := 0) ?_ ?_
    · unfold f_X10_give
      rw [hch.2 hk]
      simp only [zbs]
      rw [if_neg (nn_ zw_0)]
    · unfold f_X11_give
      rw [R_isThing hAA hA hv, if_pos hrt]
      simp (disch := omega) only [if_true, if_false, true_or, or_true, true_and, and_true, not_true_eq_false, not_false_eq_true, zbs, zw_id, if_neg]
      rw [R_isOwner hAA hA ho, if_pos hro]
      simp (disch := omega) only [if_true, if_false, true_or, or_true, true_and, and_true, not_true_eq_false, not_false_eq_true, zbs, zw_id, if_neg, if_pos, zi104, hAA]
      by_cases hq : A (104 + t) = -1
      · rw [if_pos hq]
      · rw [if_neg hq]
