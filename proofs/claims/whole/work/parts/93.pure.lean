/-! deeds: a call on either side alone, so that many can follow one another (for played) -/
/-- from (A, W): one answer on both sides, and one (A', W') behind it -/
def deedOK (T : Nat → Nat → Option zLw) (A W : Nat → Int) (fX fR : zM → Option (Int × zM)) : Prop := ∃ (v : Int) (A' W' : Nat → Int), A' 3 = A 3 ∧ (∀ M, worldR M 0 A → textsOK M (A 3) T → ∃ M', fX M = some (v, M') ∧ worldR M' 0 A' ∧ frW M M') ∧ ∀ N, N 43 0 = A → N 68 0 = W → textsOK N (A 3) T → ∃ N', fR N = some (v, N') ∧ N' 43 0 = A' ∧ N' 68 0 = W' ∧ frV N N'
set_option maxRecDepth 8000 in
set_option maxHeartbeats 2000000 in
theorem frW.txt {M M' : zM} {n : Int} {T : Nat → Nat → Option zLw} (h : frW M M') (hT : textsOK M n T) : textsOK M' n T := hT.frame (fun k i hk => h k i (by unfold txK at hk; unfold sc0; omega))
set_option maxRecDepth 8000 in
set_option maxHeartbeats 2000000 in
theorem frV.txt {M M' : zM} {n : Int} {T : Nat → Nat → Option zLw} (h : frV M M') (hT : textsOK M n T) : textsOK M' n T := hT.frame (fun k i hk => h k i (by unfold txK at hk; omega) (by unfold txK at hk; omega))
set_option maxRecDepth 8000 in
set_option maxHeartbeats 2000000 in
theorem deedOK.same {T : Nat → Nat → Option zLw} {A W : Nat → Int} {fX fR : zM → Option (Int × zM)} {v : Int} (h1 : ∀ M, worldR M 0 A → textsOK M (A 3) T → fX M = some (v, M)) (h2 : ∀ N, N 43 0 = A → N 68 0 = W → textsOK N (A 3) T → fR N = some (v, N)) : deedOK T A W fX fR := ⟨v, A, W, rfl, fun M hw hT => ⟨M, h1 M hw hT, hw, frW.rfl_⟩, fun N hA hW hT => ⟨N, h2 N hA hW hT, hA, hW, frV.rfl_⟩⟩
set_option maxRecDepth 8000 in
set_option maxHeartbeats 2000000 in
theorem deedOK.call {M : zM} {T : Nat → Nat → Option zLw} {fX fR : zM → Option (Int × zM)} (hI : holdsI M T) (h : deedOK T (M 43 0) (M 68 0) fX fR) : zCall (fX M) (fun N => fR N) := by
  obtain ⟨v, A', W', h3, hx, hr⟩ := h
  obtain ⟨M1, e1, e2, e3⟩ := hx M hI.w0 hI.txt
  obtain ⟨M2, g1, g2, g3, g4⟩ := hr M1 (e3 43 0 (by unfold sc0; omega)) (e3 68 0 (by unfold sc0; omega)) (e3.txt hI.txt)
  exact zCall.mk e1 g1 ⟨T, hI.step e3 e2 g4 g2 h3⟩
set_option maxRecDepth 8000 in
set_option maxHeartbeats 2000000 in
theorem deed_steal {M0 : zM} {T : Nat → Nat → Option zLw} {A W : Nat → Int} {v : Int} (h0 : worldR M0 0 A) (hv : -2147483648 ≤ v ∧ v ≤ 2147483647) : deedOK T A W (fun M => f_X10_steal v M) (fun N => f_X11_steal v N) := by
  have hA := h0.head
  have h1 := hA.thg
  obtain ⟨-, l2, -⟩ := h0.lay (W := W)
  by_cases hr : 0 ≤ v ∧ v < A 1
  case neg =>
    refine deedOK.same (v := -1) (fun M hw hT => ?_) (fun N hN hW hT => ?_)
    · unfold f_X10_steal
      rw [X_canTake_no hw.city hA hv hr]
      simp only [zbs]
      rw [if_neg (nn_ zw_0)]
    · unfold f_X11_steal
      rw [R_isThing hN hA hv, if_neg hr]
      simp only [zbs]
      rw [if_neg (nn_ zw_0)]
  obtain ⟨t, rfl⟩ := Int.eq_ofNat_of_zero_le hr.1
  have hk1 : sKeep A 1 = A 1 := sKeep_lo (by omega) (by omega)
  by_cases hm : sMay A (sLay A W) t
  · refine ⟨sKB (sKeep A) (sSteal (sLay A W) t), sNow (sKeep A) (sSteal (sLay A W) t), sSteal (sLay A W) t, by rw [sNow_out (by omega), sKeep_lo (by omega) (by omega)], fun M hw hT => ?_, fun N hN hW hT => ?_⟩
    · obtain ⟨k1, k2, k3⟩ := hw.lay (W := W)
      obtain ⟨M1, b1, b2, b3, b4, b5, b6, b7⟩ := stepX (W := W) hw hT
      have hA1 := b2.head
      obtain ⟨M2, c1, c2, c3⟩ := X_take b5 hA1 (t := t) (by omega)
      have hws := b6.steal (t := t) hA1 (by omega) hm.1
      have hd : sSteal (sLay A W) t 38 = sLay A W 38 := by unfold sSteal; rw [wup_ne (by omega), wup_ne (by omega), wup_ne (by omega)]
      refine ⟨M2, ?_, b2.now c2 hws (by rw [hd]; exact b7) c3, b3.trans c3.w0⟩
      dsimp only
      unfold f_X10_steal
      rw [(X_canTake k1 hA k2 hr.2).1 hm]
      simp only [zbs]
      rw [if_pos (by rw [zw01.2.1]; omega), b1]
      simp only [zbs]
      rw [c1]
      simp only [zbs]
      rw [X_keptBulk c2 hA1 hws]
      simp only [zbs]
    · obtain ⟨Mx, b1, b2, b3⟩ := X_keep h0
      have hA1 := b2.head
      obtain ⟨-, b6, -⟩ := b2.lay (W := W)
      rw [sLay_keep] at b6
      have hws := b6.steal (t := t) hA1 (by omega) hm.1
      obtain ⟨N1, d1, d2, d3⟩ := R_lay hN
      rw [hW] at d3
      have hN1 : N1 43 0 = A := by rw [d2 43 0 (by omega)]; exact hN
      obtain ⟨N2, e1, e2, e3⟩ := R_keepsStep hN1 hA.stp
      have hN2 : N2 68 0 = sLay A W := by rw [e2 68 0 (by omega)]; exact d3
      obtain ⟨N3, g1, g2, g3⟩ := R_steals hN2 (t := t) (by omega)
      have hN3 : N3 43 0 = sKeep A := by rw [g3 43 0 (by omega)]; exact e3
      obtain ⟨N4, k1, k2, k3⟩ := R_now hN3 g2
      have hN4 : N4 68 0 = sSteal (sLay A W) t := by rw [k2 68 0 (by omega)]; exact g2
      refine ⟨N4, ?_, k3, hN4, (frV.of68 d2).trans ((frV.of43 e2).trans ((frV.of68 g3).trans (frV.of43 k2)))⟩
      dsimp only
      unfold f_X11_steal
      rw [R_isThing hN hA hv, if_pos hr]
      simp only [zbs]
      rw [if_pos (by rw [zw01.2.1]; omega), d1]
      simp only [zbs]
      rw [(R_may hN1 d3 l2 hA hr.2).1 hm]
      simp only [zbs]
      rw [if_pos (by rw [zw01.2.1]; omega), e1]
      simp only [zbs]
      rw [g1]
      simp only [zbs]
      rw [k1]
      simp only [zbs]
      rw [R_keptBulk k3 hN4 (hws.congr (by omega) (fun q hq => sNow_out (by omega)) (fun q hq => rfl)) hA1.now]
      simp only [zbs]
      rw [sKB_congr (fun q hq _ => sNow_out (by omega)) (by omega)]
  · refine ⟨-1, A, sLay A W, rfl, fun M hw hT => ?_, fun N hN hW hT => ?_⟩
    · obtain ⟨k1, k2, k3⟩ := hw.lay (W := W)
      refine ⟨M, ?_, hw, frW.rfl_⟩
      dsimp only
      unfold f_X10_steal
      rw [(X_canTake k1 hA k2 hr.2).2 hm]
      simp only [zbs]
      rw [if_neg (nn_ zw_0)]
    · obtain ⟨N1, d1, d2, d3⟩ := R_lay hN
      rw [hW] at d3
      have hN1 : N1 43 0 = A := by rw [d2 43 0 (by omega)]; exact hN
      refine ⟨N1, ?_, hN1, d3, frV.of68 d2⟩
      dsimp only
      unfold f_X11_steal
      rw [R_isThing hN hA hv, if_pos hr]
      simp only [zbs]
      rw [if_pos (by rw [zw01.2.1]; omega), d1]
      simp only [zbs]
      rw [(R_may hN1 d3 l2 hA hr.2).2 hm]
      simp only [zbs]
      rw [if_neg (nn_ zw_0)]
