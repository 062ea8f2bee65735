/-! deeds: room -/
set_option maxRecDepth 8000 in
set_option maxHeartbeats 2000000 in
theorem deed_room {T : Nat → Nat → Option zLw} {A W : Nat → Int} {v : Int} (hv : -2147483648 ≤ v ∧ v ≤ 2147483647) : deedOK T A W (fun M => f_X10_room v M) (fun N => f_X11_room v N) := by
  by_cases hr : 0 ≤ v ∧ v ≤ 99
  · refine ⟨1, wup A 2 v, W, wup_ne (by omega), fun M w0 hT => ⟨zput M 11 0 9 v, ?_, ?_, frW.put (by omega)⟩, fun N hN hW hT => ⟨zput N 43 0 2 v, ?_, ?_, ?_, frV.put⟩⟩
    · dsimp only
      unfold f_X10_room
      rw [wth_yes hr.1 hr.2 hv (by omega) (by omega)]
      simp only [zbs, zlt_]
      rw [if_pos (by rw [zw01.2.1]; omega)]
    · have hA : headOK (wup A 2 v) := by
        obtain ⟨q1, q2, q3, q4, q5, q6, q7, q8, q9, q10, q11, q12, q13, q14, q15, q16⟩ := w0.head
        unfold headOK
        simp (disch := omega) only [if_true, if_false, true_or, or_true, true_and, and_true, not_true_eq_false, not_false_eq_true, wup_ne, wup_eq]
        exact ⟨q1, q2, q3, hr, q5, q6, q7, q8, q9, q10, q11, q12, q13, q14, q15, q16⟩
      exact w0.setHead hA (fun q hq => wup_ne (by omega)) (fun k i a b => zput_rowk (by omega)) (fun s a b => zput_j a) (by rw [zput_eq, wup_eq]) (by rw [zput_j (by omega), wup_ne (by omega)]; exact w0.city.txt) (wup_ne (by omega)) (w0.tld.head w0.head (fun k a b => zput_rowk (by omega)) (fun q hq => wup_ne (by omega)))
    · dsimp only
      unfold f_X11_room
      rw [in_yes hr.1 hr.2 hv (by omega) (by omega)]
      simp only [zbs, zlt_]
      rw [if_pos (by rw [zw01.2.1]; omega)]
    · rw [zput_wup, hN]
    · rw [zput_rowk (by omega)]; exact hW
  · refine deedOK.same (v := 0) (fun M hw hT => ?_) (fun N hN hW hT => ?_)
    · unfold f_X10_room
      rw [wth_no (by omega) hv (by omega) (by omega)]
      simp only [zbs]
      rw [if_neg (nn_ zw_0)]
    · unfold f_X11_room
      rw [in_no (by omega) hv (by omega) (by omega)]
      simp only [zbs]
      rw [if_neg (nn_ zw_0)]
