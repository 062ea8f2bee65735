/-! deeds: day -/
set_option maxRecDepth 8000 in
set_option maxHeartbeats 2000000 in
theorem R_days2 {M M0 : zM} {A W : Nat → Int} {T : Nat → Nat → Option zLw} {n : Nat} (h : worldR M0 0 A) (hT0 : textsOK M0 (A 3) T) (hT : textsOK M (A 3) T) (hM : M 43 0 = A) (hW : M 68 0 = W) (hn : n ≤ 60) (hd : A 128 + n ≤ 9999) : zT (zlp (fun s : Int × Int × zM => f_X11_day_L32 (n : Int) s.1 s.2.1 s.2.2) zF (0, 0, M)) (fun r => r.1 = (sDays T A W n).2.2 ∧ r.2 43 0 = (sDays T A W n).1 ∧ r.2 68 0 = (sDays T A W n).2.1 ∧ frV M r.2) := by
  have ok := days_ok (W := W) h hT0 hd
  refine zT_for (body := fun s : Int × Int × zM => f_X11_day_L32 (n : Int) s.1 s.2.1 s.2.2) (fun i s => s.1 = (sDays T A W i).2.2 ∧ s.2.1 = (i : Int) ∧ s.2.2 43 0 = (sDays T A W i).1 ∧ s.2.2 68 0 = (sDays T A W i).2.1 ∧ frV M s.2.2) n ?_ (by unfold zF; omega) ⟨rfl, rfl, hM, hW, frV.rfl_⟩
  rintro i ⟨x, y, N⟩ hi ⟨h1, h2, h3, h4, h5⟩
  dsimp only at h1 h2 h3 h4 h5 ⊢
  subst h1 h2
  obtain ⟨Nx, o1, o2, o3, o4⟩ := ok i hi
  unfold f_X11_day_L32
  rw [zw_nat (by omega), zw_nat (by omega)]
  by_cases hin : i = n
  · subst hin
    rw [if_pos (by omega)]
    exact zT_some (Or.inr ⟨_, rfl, rfl, h3, h4, h5⟩)
  · rw [if_neg (by omega)]
    have hl := o1.lay (W := (sDays T A W i).2.1)
    obtain ⟨M1, b1, b2, b3, b4, b5, b6, b7⟩ := stepX (W := (sDays T A W i).2.1) (T := T) o1 (by rw [o3]; exact o2)
    have hA1 := b2.head
    have h38 : sLay (sDays T A W i).1 (sDays T A W i).2.1 38 = (sDays T A W i).1 128 := sLay_lo (by omega)
    obtain ⟨N1, d1, d2, d3⟩ := R_keepsStep h3 o1.head.stp
    obtain ⟨N2, e1, e2, e3⟩ := R_lay d3
    have hN168 : N1 68 0 = (sDays T A W i).2.1 := by rw [d2 68 0 (by omega)]; exact h4
    rw [hN168, sLay_keep] at e3
    have hN2 : N2 43 0 = sKeep (sDays T A W i).1 := by rw [e2 43 0 (by omega)]; exact d3
    have fN : frV M N2 := h5.trans ((frV.of43 d2).trans (frV.of68 e2))
    obtain ⟨N3, g1, g2, g3⟩ := R_dayPasses (T := T) hN2 e3 hA1 b6 (by
      rw [sKeep_lo (by omega) (by omega), o3]
      exact hT.frame (fun k i hk => fN k i (by unfold txK at hk; omega) (by unfold txK at hk; omega))) (by omega)
    have hN3 : N3 43 0 = sKeep (sDays T A W i).1 := by rw [g3 43 0 (by omega) (by omega) (by omega)]; exact hN2
    obtain ⟨N4, k1, k2, k3⟩ := R_now hN3 g2
    rw [d1]
    simp only [zbs]
    rw [e1]
    simp only [zbs]
    rw [g1]
    simp only [zbs]
    rw [k1]
    simp only [zbs]
    exact zT_some (Or.inl ⟨_, rfl, by omega, rfl, rfl, k3, (k2 68 0 (by omega)).trans g2, fN.trans (g3.v.trans (frV.of43 k2))⟩)
set_option maxRecDepth 8000 in
set_option maxHeartbeats 2000000 in
theorem deed_day {M0 : zM} {T : Nat → Nat → Option zLw} {A W : Nat → Int} {v : Int} (h0 : worldR M0 0 A) (hT0 : textsOK M0 (A 3) T) (hv : -2147483648 ≤ v ∧ v ≤ 2147483647) : deedOK T A W (fun M => f_X10_day v M) (fun N => f_X11_day v N) := by
  have hA := h0.head
  have hd := h0.day
  have hrd := h0.row.day
  have h128 : rw_ A 90 38 = A 128 := rfl
  rw [h128] at hrd
  by_cases hr : 1 ≤ v ∧ v ≤ 60
  case neg =>
    refine deedOK.same (v := -1) (fun M w0 hT => ?_) (fun N hN hW hT => ?_)
    · unfold f_X10_day
      rw [wth_no (by omega) hv (by omega) (by omega)]
      simp only [zbs]
      rw [if_pos zw_0]
    · unfold f_X11_day
      rw [in_no (by omega) hv (by omega) (by omega)]
      simp only [zbs]
      rw [if_pos zw_0]
  obtain ⟨n, rfl⟩ := Int.eq_ofNat_of_zero_le (show 0 ≤ v by omega)
  by_cases hp : A 128 + n ≤ 9999
  · obtain ⟨-, -, -, o3, -⟩ := days_ok (W := W) h0 hT0 hp n (by omega)
    refine ⟨(sDays T A W n).2.2, (sDays T A W n).1, (sDays T A W n).2.1, o3, fun M w0 hT => ?_, fun N hN hW hT => ?_⟩
    · have hcd := w0.city.day
      rw [h128] at hcd
      obtain ⟨⟨r1, M1⟩, x1, x2, x3, x4⟩ := X_days (W := W) (T := T) (n := n) w0 hT (by omega) hp
      dsimp only at x2 x3 x4
      refine ⟨M1, ?_, x3, x4⟩
      dsimp only
      unfold f_X10_day
      rw [wth_yes hr.1 hr.2 hv (by omega) (by omega)]
      simp (disch := omega) only [if_true, if_false, true_or, or_true, true_and, and_true, not_true_eq_false, not_false_eq_true, zbs, zw_id, if_neg, if_pos, hcd]
      rw [x1]
      simp only [zbs, x2]
    · obtain ⟨⟨r2, N1⟩, y1, y2, y3, y4, y5⟩ := R_days2 (n := n) h0 hT0 hT hN hW (by omega) hp
      dsimp only at y2 y3 y4 y5
      refine ⟨N1, ?_, y3, y4, y5⟩
      dsimp only
      unfold f_X11_day
      rw [in_yes hr.1 hr.2 hv (by omega) (by omega)]
      simp (disch := omega) only [if_true, if_false, true_or, or_true, true_and, and_true, not_true_eq_false, not_false_eq_true, zbs, zw_id, if_neg, if_pos, hN]
      rw [y1]
      simp only [zbs, y2]
  · refine deedOK.same (v := -1) (fun M w0 hT => ?_) (fun N hN hW hT => ?_)
    · have hcd := w0.city.day
      rw [h128] at hcd
      unfold f_X10_day
      rw [wth_yes hr.1 hr.2 hv (by omega) (by omega)]
      simp (disch := omega) only [if_true, if_false, true_or, or_true, true_and, and_true, not_true_eq_false, not_false_eq_true, zbs, zw_id, if_neg, hcd]
    · unfold f_X11_day
      rw [in_yes hr.1 hr.2 hv (by omega) (by omega)]
      simp (disch := omega) only [if_true, if_false, true_or, or_true, true_and, and_true, not_true_eq_false, not_false_eq_true, zbs, zw_id, if_neg, hN]
