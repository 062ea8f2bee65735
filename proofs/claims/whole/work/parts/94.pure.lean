/-! deeds: send, give -/
set_option maxRecDepth 8000 in
set_option maxHeartbeats 2000000 in
theorem deed_send {M0 : zM} {T : Nat → Nat → Option zLw} {A W : Nat → Int} {v : Int} (h0 : worldR M0 0 A) (hv : -2147483648 ≤ v ∧ v ≤ 2147483647) : deedOK T A W (fun M => f_X10_send v M) (fun N => f_X11_send v N) := by
  have hA := h0.head
  have h1 := hA.thg
  have h2 := hA.own
  obtain ⟨-, l2, l3⟩ := h0.lay (W := W)
  by_cases hr : 0 ≤ v ∧ v < A 1
  case neg =>
    refine deedOK.same (v := -1) (fun M hw hT => ?_) (fun N hN hW hT => ?_)
    · unfold f_X10_send
      rw [X_isKept hw.city hA hw.row hv, if_neg (fun z => hr z.1)]
      simp only [zbs]
      rw [if_neg (nn_ zw_0)]
    · unfold f_X11_send
      rw [R_isThing hN hA hv, if_neg hr]
      simp only [zbs]
      rw [if_pos zw_0]
  obtain ⟨t, rfl⟩ := Int.eq_ofNat_of_zero_le hr.1
  have hat := l2.at_ t hr.2
  have hlo : sLay A W (14 + t) = A (104 + t) := by rw [sLay_lo (by omega), show 90 + (14 + t) = 104 + t by omega]
  rw [hlo] at hat
  have hk1 : sKeep A 1 = A 1 := sKeep_lo (by omega) (by omega)
  by_cases hk : A (104 + t) = -1
  · have hkk : sLay A W (14 + t) = -1 := by rw [hlo]; exact hk
    obtain ⟨Mx, b1, b2, b3⟩ := X_keep h0
    have hA1 := b2.head
    obtain ⟨-, b6, b7⟩ := b2.lay (W := W)
    rw [sLay_keep] at b6 b7
    have hws := b6.back (T := T) (t := t) hA1 (by omega) hkk
    have hd := sBack_38 (T := T) hA1 b6 (t := t) (by omega) hkk
    refine ⟨sLaw T (sKeep A) (sLay A W) t 2 0, sNow (sKeep A) (sBack T (sKeep A) (sLay A W) t), sBack T (sKeep A) (sLay A W) t, by rw [sNow_out (by omega), sKeep_lo (by omega) (by omega)], fun M hw hT => ?_, fun N hN hW hT => ?_⟩
    · obtain ⟨k1, k2, k3⟩ := hw.lay (W := W)
      obtain ⟨M1, b1, b2, b3, b4, b5, b6', b7'⟩ := stepX (W := W) hw hT
      obtain ⟨M2, c1, c2, c3⟩ := X_comeBack b5 hA1 b6' b4 (t := t) (by omega) hkk
      refine ⟨M2, ?_, b2.now c2 hws (by rw [hd]; exact b7) c3, b3.trans c3.w0⟩
      dsimp only
      unfold f_X10_send
      rw [X_kept k1 hA k2 hr.2 hkk]
      simp only [zbs]
      rw [if_pos (by rw [zw01.2.1]; omega), b1]
      simp only [zbs]
      rw [c1]
      simp only [zbs]
    · obtain ⟨N1, d1, d2, d3⟩ := R_keepsStep hN hA.stp
      obtain ⟨N2, e1, e2, e3⟩ := R_lay d3
      have hN168 : N1 68 0 = W := by rw [d2 68 0 (by omega)]; exact hW
      rw [hN168, sLay_keep] at e3
      have hN2 : N2 43 0 = sKeep A := by rw [e2 43 0 (by omega)]; exact d3
      have fN : frV N N2 := (frV.of43 d2).trans (frV.of68 e2)
      have hT2 : textsOK N2 (sKeep A 3) T := by rw [sKeep_lo (by omega) (by omega)]; exact fN.txt hT
      obtain ⟨N3, g1, g2, g3⟩ := R_comesBack hN2 e3 hA1 b6 hT2 (t := t) (by omega) hkk
      have hN3 : N3 43 0 = sKeep A := by rw [g3 43 0 (by omega) (by omega) (by omega)]; exact hN2
      obtain ⟨N4, k1, k2, k3⟩ := R_now hN3 g2
      have m104 : N 43 0 (104 + t) = -1 := by rw [hN]; exact hk
      refine ⟨N4, ?_, k3, by rw [k2 68 0 (by omega)]; exact g2, fN.trans (g3.v.trans (frV.of43 k2))⟩
      dsimp only
      unfold f_X11_send
      rw [R_isThing hN hA hv, if_pos hr]
      simp only [zbs]
      rw [if_neg (by rw [zw01.2.1]; omega), zw_id (z := 104 + (t : Int)) (by omega) (by omega), if_pos (by omega), zi104 (by omega), m104, if_pos zw01.2.2, d1]
      simp only [zbs]
      rw [e1]
      simp only [zbs]
      rw [g1]
      simp only [zbs]
      rw [k1]
      simp only [zbs]
  · refine deedOK.same (v := -1) (fun M hw hT => ?_) (fun N hN hW hT => ?_)
    · obtain ⟨k1, k2, k3⟩ := hw.lay (W := W)
      unfold f_X10_send
      rw [X_keptno k1 hA k2 hr.2 (by rw [hlo]; exact hk)]
      simp only [zbs]
      rw [if_neg (nn_ zw_0)]
    · have m104 : N 43 0 (104 + t) = A (104 + t) := by rw [hN]
      unfold f_X11_send
      rw [R_isThing hN hA hv, if_pos hr]
      simp only [zbs]
      rw [if_neg (by rw [zw01.2.1]; omega), zw_id (z := 104 + (t : Int)) (by omega) (by omega), if_pos (by omega), zi104 (by omega), m104, zw_id (z := A (104 + t)) (by omega) (by omega), if_neg hk]
set_option maxRecDepth 8000 in
set_option maxHeartbeats 2000000 in
theorem deed_give {M0 : zM} {T : Nat → Nat → Option zLw} {A W : Nat → Int} {v o : Int} (h0 : worldR M0 0 A) (hv : -2147483648 ≤ v ∧ v ≤ 2147483647) (ho : -2147483648 ≤ o ∧ o ≤ 2147483647) : deedOK T A W (fun M => f_X10_give v o M) (fun N => f_X11_give v o N) := by
  have hA := h0.head
  have h1 := hA.thg
  have h2 := hA.own
  obtain ⟨-, l2, l3⟩ := h0.lay (W := W)
  by_cases hr : (0 ≤ v ∧ v < A 1) ∧ 0 ≤ o ∧ o < A 0
  case neg =>
    refine deedOK.same (v := 0) (fun M hw hT => ?_) (fun N hN hW hT => ?_)
    · unfold f_X10_give
      rw [X_canHand_no hw.city hA hv ho hr]
      simp only [zbs]
      rw [if_neg (nn_ zw_0)]
    · unfold f_X11_give
      rw [R_isThing hN hA hv]
      by_cases h2 : 0 ≤ v ∧ v < A 1
      · rw [if_pos h2]
        simp only [zbs]
        rw [if_neg (by rw [zw01.2.1]; omega), R_isOwner hN hA ho, if_neg (fun z => hr ⟨h2, z⟩)]
        simp only [zbs]
        rw [if_pos zw_0]
      · rw [if_neg h2]
        simp only [zbs]
        rw [if_pos zw_0]
  obtain ⟨hrt, hro⟩ := hr
  obtain ⟨t, rfl⟩ := Int.eq_ofNat_of_zero_le hrt.1
  obtain ⟨o, rfl⟩ := Int.eq_ofNat_of_zero_le hro.1
  have hat := l2.at_ t hrt.2
  have hlo : sLay A W (14 + t) = A (104 + t) := by rw [sLay_lo (by omega), show 90 + (14 + t) = 104 + t by omega]
  rw [hlo] at hat
  have hk1 : sKeep A 1 = A 1 := sKeep_lo (by omega) (by omega)
  have hk0 : sKeep A 0 = A 0 := sKeep_lo (by omega) (by omega)
  by_cases hk : A (104 + t) ≠ -1 ∧ A (104 + t) ≠ o
  · refine ⟨1, sNow (sKeep A) (wup (sLay A W) (14 + t) o), W, by rw [sNow_out (by omega), sKeep_lo (by omega) (by omega)], fun M hw hT => ?_, fun N hN hW hT => ?_⟩
    · obtain ⟨k1, k2, k3⟩ := hw.lay (W := W)
      have hch := X_canHand k1 hA k2 hrt.2 hro.2
      rw [hlo] at hch
      obtain ⟨M1, b1, b2, b3, b4, b5, b6, b7⟩ := stepX (W := W) hw hT
      have hA1 := b2.head
      have c2 := X_hand (o := o) b5 hA1 (t := t) (by omega)
      have hws := b6.hand (t := t) (o := o) hA1 (by omega) (by omega) (by rw [hlo]; exact hk.1)
      have c3 : frX 0 M1 (zput M1 16 (t + 8 * 0) 4 (o : Int)) := frX.put16 (by omega) (by omega)
      refine ⟨zput M1 16 (t + 8 * 0) 4 (o : Int), ?_, b2.now c2 hws (by rw [wup_ne (by omega)]; exact b7) c3, b3.trans c3.w0⟩
      dsimp only
      unfold f_X10_give
      rw [hch.1 hk]
      simp only [zbs]
      rw [if_pos (by rw [zw01.2.1]; omega), b1]
      simp only [zbs]
      rw [zw_nat (by omega), if_pos (by omega), zix_nat (by omega)]
      simp only [zlt_, Nat.mul_zero, Nat.add_zero]
    · obtain ⟨N1, d1, d2, d3⟩ := R_keepsStep hN hA.stp
      have m104 : N 43 0 (104 + t) = A (104 + t) := by rw [hN]
      refine ⟨zput N1 43 0 (104 + t) (o : Int), ?_, ?_, by rw [zput_rowk (by omega), d2 68 0 (by omega)]; exact hW, (frV.of43 d2).trans frV.put⟩
      · dsimp only
        unfold f_X11_give
        rw [R_isThing hN hA hv, if_pos hrt]
        simp only [zbs]
        rw [if_neg (by rw [zw01.2.1]; omega), R_isOwner hN hA ho, if_pos hro]
        simp only [zbs]
        rw [if_neg (by rw [zw01.2.1]; omega), zw_id (z := 104 + (t : Int)) (by omega) (by omega), if_pos (show 0 ≤ 104 + (t : Int) ∧ 104 + (t : Int) < 5090 by omega), zi104 (by omega), m104, zw_id (z := A (104 + t)) (by omega) (by omega), if_neg hk.1, if_pos (show 0 ≤ 104 + (t : Int) ∧ 104 + (t : Int) < 5090 by omega), zw_nat (by omega), if_pos hk.2, d1]
        simp only [zbs, zlt_]
        rw [if_pos (show 0 ≤ 104 + (t : Int) ∧ 104 + (t : Int) < 5090 by omega)]
      · rw [zput_wup, d3]
        funext q
        unfold sNow
        by_cases hq : q = 104 + t
        · subst hq
          rw [wup_eq, if_pos (by omega), show 104 + t - 90 = 14 + t by omega, wup_eq]
        · rw [wup_ne hq]
          by_cases hq2 : 90 ≤ q ∧ q < 251
          · rw [if_pos hq2, wup_ne (by omega), sLay_lo (by omega), show 90 + (q - 90) = q by omega, sKeep_lo (by omega) (by omega)]
          · rw [if_neg hq2]
  · refine deedOK.same (v := 0) (fun M hw hT => ?_) (fun N hN hW hT => ?_)
    · obtain ⟨k1, k2, k3⟩ := hw.lay (W := W)
      have hch := X_canHand k1 hA k2 hrt.2 hro.2
      rw [hlo] at hch
      unfold f_X10_give
      rw [hch.2 hk]
      simp only [zbs]
      rw [if_neg (nn_ zw_0)]
    · have m104 : N 43 0 (104 + t) = A (104 + t) := by rw [hN]
      unfold f_X11_give
      rw [R_isThing hN hA hv, if_pos hrt]
      simp only [zbs]
      rw [if_neg (by rw [zw01.2.1]; omega), R_isOwner hN hA ho, if_pos hro]
      simp only [zbs]
      rw [if_neg (by rw [zw01.2.1]; omega), zw_id (z := 104 + (t : Int)) (by omega) (by omega), if_pos (show 0 ≤ 104 + (t : Int) ∧ 104 + (t : Int) < 5090 by omega), zi104 (by omega), m104, zw_id (z := A (104 + t)) (by omega) (by omega)]
      by_cases hq : A (104 + t) = -1
      · rw [if_pos hq]
      · rw [if_neg hq, zw_nat (by omega), if_pos (by omega), if_neg (nn_ (show A (104 + t) = o by omega))]
