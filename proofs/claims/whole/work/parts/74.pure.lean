/-! calls: plan, seen, image, back -/
set_option maxRecDepth 8000 in
set_option maxHeartbeats 2000000 in
theorem call_plan {M : zM} {v d : Int} (h : zI M) (hv : -2147483648 ≤ v ∧ v ≤ 2147483647) (hd : -2147483648 ≤ d ∧ d ≤ 2147483647) : zCall (f_X10_plan v d M) (fun N => f_X11_plan v d N) := by
  have hz := h
  obtain ⟨T, hI⟩ := h
  have w0 := hI.w0
  have ht := w0.tld.plans
  have h6 := w0.head.pln
  have h1' := w0.head.thg
  by_cases h1 : v = -1
  · subst h1
    have hA : headOK (wup (M 43 0) 6 0) := by
      obtain ⟨q1, q2, q3, q4, q5, q6, q7, q8, q9, q10, q11, q12, q13, q14, q15, q16⟩ := w0.head
      unfold headOK
      simp (disch := omega) only [if_true, if_false, true_or, or_true, true_and, and_true, not_true_eq_false, not_false_eq_true, wup_ne, wup_eq]
      exact ⟨q1, q2, q3, q4, q5, q6, q7, by omega, q9, q10, q11, q12, q13, fun i hi => by omega, q15, q16⟩
    have tl : toldR (zput M 23 0 7 0) 0 (wup (M 43 0) 6 0) := by
      obtain ⟨g1, g2, g3, g4, g5, g6, g7, g8, g9⟩ := w0.tld
      unfold toldR
      simp (disch := omega) only [if_true, if_false, true_or, or_true, true_and, and_true, not_true_eq_false, not_false_eq_true, wup_ne, wup_eq, zput_eq, zput_j, zput_k]
      exact ⟨g2, g3, fun i hi => by omega, fun i hi => by omega, g6, g7, g8, g9⟩
    refine zCall.mk (M1 := zput M 23 0 7 0) (M2 := zput (zput M 23 0 7 0) 43 0 6 0) (v := 0) ?_ ?_ ⟨T, hI.told hA (fun q hq => wup_ne (by omega)) (fun k i a => zput_rowk (by omega)) tl frV.put (by rw [zput_wup, zput_rowk (by omega)])⟩
    · unfold f_X10_plan
      rw [zw01.2.2, if_neg (nn_ rfl)]
      simp only [zlt_]
    · unfold f_X11_plan
      rw [zw01.2.2, if_neg (nn_ rfl)]
      simp only [zlt_]
  by_cases hr : ((0 ≤ v ∧ v < M 43 0 1) ∧ 0 ≤ d ∧ d ≤ 60) ∧ M 43 0 6 < 8
  · obtain ⟨n, hn⟩ := Int.eq_ofNat_of_zero_le h6.1
    have hA : headOK (wup (wup (wup (M 43 0) (32 + 2 * n) v) (33 + 2 * n) d) 6 (n + 1)) := by
      obtain ⟨q1, q2, q3, q4, q5, q6, q7, q8, q9, q10, q11, q12, q13, q14, q15, q16⟩ := w0.head
      unfold headOK
      simp (disch := omega) only [if_true, if_false, true_or, or_true, true_and, and_true, not_true_eq_false, not_false_eq_true, wup_ne, wup_eq]
      refine ⟨q1, q2, q3, q4, q5, q6, q7, by omega, q9, q10, fun i hi => ?_, fun i hi => ?_, fun i hi => ?_, fun i hi => ?_, fun i hi => ?_, fun i hi => ?_⟩
      · first | exact q11 i hi | (simp (disch := omega) only [if_true, wup_ne]; exact q11 i hi)
      · first | exact q12 i hi | (simp (disch := omega) only [if_true, wup_ne]; exact q12 i hi)
      · first | exact q13 i hi | (simp (disch := omega) only [if_true, wup_ne]; exact q13 i hi)
      · by_cases hin : i = n
        · subst hin; simp (disch := omega) only [if_true, if_false, true_or, or_true, true_and, and_true, not_true_eq_false, not_false_eq_true, wup_ne, wup_eq]; exact hr.1
        · simp (disch := omega) only [if_true, if_false, true_or, or_true, true_and, and_true, not_true_eq_false, not_false_eq_true, wup_ne]; exact q14 i (by omega)
      · first | exact q15 i hi | (simp (disch := omega) only [if_true, wup_ne]; exact q15 i hi)
      · first | exact q16 i hi | (simp (disch := omega) only [if_true, wup_ne]; exact q16 i hi)
    have tl : toldR (zput (zput (zput M 24 0 n v) 25 0 n d) 23 0 7 (n + 1)) 0 (wup (wup (wup (M 43 0) (32 + 2 * n) v) (33 + 2 * n) d) 6 (n + 1)) := by
      obtain ⟨g1, g2, g3, g4, g5, g6, g7, g8, g9⟩ := w0.tld
      unfold toldR
      simp (disch := omega) only [if_true, if_false, true_or, or_true, true_and, and_true, not_true_eq_false, not_false_eq_true, wup_ne, wup_eq, zput_eq, zput_j, zput_k]
      refine ⟨g2, g3, fun i hi => ?_, fun i hi => ?_, fun i hi => ?_, fun i hi => ?_, fun i hi => ?_, fun i hi => ?_⟩
      · by_cases hin : i = n
        · subst hin; simp (disch := omega) only [if_true, if_false, true_or, or_true, true_and, and_true, not_true_eq_false, not_false_eq_true, wup_ne, wup_eq, zput_eq]
        · simp (disch := omega) only [if_true, if_false, true_or, or_true, true_and, and_true, not_true_eq_false, not_false_eq_true, wup_ne, zput_j]; exact g4 i (by omega)
      · by_cases hin : i = n
        · subst hin; simp (disch := omega) only [if_true, if_false, true_or, or_true, true_and, and_true, not_true_eq_false, not_false_eq_true, wup_ne, wup_eq, zput_eq]
        · simp (disch := omega) only [if_true, if_false, true_or, or_true, true_and, and_true, not_true_eq_false, not_false_eq_true, wup_ne, zput_j]; exact g5 i (by omega)
      · first | exact g6 i hi | (simp (disch := omega) only [if_true, wup_ne]; exact g6 i hi)
      · first | exact g7 i hi | (simp (disch := omega) only [if_true, wup_ne]; exact g7 i hi)
      · first | exact g8 i hi | (simp (disch := omega) only [if_true, wup_ne]; exact g8 i hi)
      · first | exact g9 i hi | (simp (disch := omega) only [if_true, wup_ne]; exact g9 i hi)
    have m43 : zput (zput (zput M 24 0 n v) 25 0 n d) 23 0 7 (n + 1) 43 0 = M 43 0 := by rw [zput_rowk (by omega), zput_rowk (by omega), zput_rowk (by omega)]
    refine zCall.mk (M1 := zput (zput (zput M 24 0 n v) 25 0 n d) 23 0 7 (n + 1)) (M2 := zput (zput (zput (zput (zput (zput M 24 0 n v) 25 0 n d) 23 0 7 (n + 1)) 43 0 (32 + 2 * n) v) 43 0 (33 + 2 * n) d) 43 0 6 (n + 1)) (v := (n : Int) + 1) ?_ ?_ ⟨T, hI.told hA (fun q hq => by simp (disch := omega) only [if_true, if_false, true_or, or_true, true_and, and_true, not_true_eq_false, not_false_eq_true, wup_ne]) (fun k i a => by rw [zput_rowk (by omega), zput_rowk (by omega), zput_rowk (by omega)]) tl (frV.put.trans (frV.put.trans frV.put)) (by rw [zput_wup, zput_wup, zput_wup, m43])⟩
    · unfold f_X10_plan
      rw [zw_id (z := v) (by omega) (by omega), if_pos h1, X_hasThing w0.city w0.head hv, if_pos hr.1.1]
      simp only [zbs]
      rw [if_neg (by rw [zw01.2.1]; omega), wth_yes hr.1.2.1 hr.1.2.2 hd (by omega) (by omega)]
      simp (disch := omega) only [if_true, if_false, true_or, or_true, true_and, and_true, not_true_eq_false, not_false_eq_true, zbs, zlt_, zw_id, if_neg, if_pos, ht, hn, zix_nat, zput_k, zput_eq]
    · unfold f_X11_plan
      rw [zw_id (z := v) (by omega) (by omega), if_pos h1, R_isThing m43 w0.head hv, if_pos hr.1.1]
      simp only [zbs]
      rw [if_neg (by rw [zw01.2.1]; omega), in_yes hr.1.2.1 hr.1.2.2 hd (by omega) (by omega)]
      have m6 : zput (zput (zput M 24 0 n v) 25 0 n d) 23 0 7 (n + 1) 43 0 6 = (n : Int) := by rw [m43]; exact hn
      generalize zput (zput (zput M 24 0 n v) 25 0 n d) 23 0 7 ((n : Int) + 1) = N at m6
      have e1 : zix (32 + 2 * (n : Int)) = 32 + 2 * n := zix_id (by omega) (by omega)
      have e2 : zix (32 + 2 * (n : Int) + 1) = 33 + 2 * n := zix_id (by omega) (by omega)
      simp (disch := omega) only [if_true, if_false, true_or, or_true, true_and, and_true, not_true_eq_false, not_false_eq_true, zbs, zlt_, zw_id, if_neg, if_pos, m6, e1, e2, zput_j, zput_eq]
  · refine zCall.same hz (v := -2) ?_ ?_
    · unfold f_X10_plan
      rw [zw_id (z := v) (by omega) (by omega), if_pos h1, X_hasThing w0.city w0.head hv]
      by_cases h2 : 0 ≤ v ∧ v < M 43 0 1
      · rw [if_pos h2]
        simp only [zbs]
        rw [if_neg (by rw [zw01.2.1]; omega)]
        by_cases h3 : 0 ≤ d ∧ d ≤ 60
        · rw [wth_yes h3.1 h3.2 hd (by omega) (by omega)]
          simp (disch := omega) only [if_true, if_false, true_or, or_true, true_and, and_true, not_true_eq_false, not_false_eq_true, zbs, zw_id, if_neg, ht]
        · rw [wth_no (by omega) hd (by omega) (by omega)]
          simp only [zbs]
          rw [if_pos zw_0]
      · rw [if_neg h2]
        simp only [zbs]
        rw [if_pos zw_0]
    · unfold f_X11_plan
      rw [zw_id (z := v) (by omega) (by omega), if_pos h1, R_isThing rfl w0.head hv]
      by_cases h2 : 0 ≤ v ∧ v < M 43 0 1
      · rw [if_pos h2]
        simp only [zbs]
        rw [if_neg (by rw [zw01.2.1]; omega)]
        by_cases h3 : 0 ≤ d ∧ d ≤ 60
        · rw [in_yes h3.1 h3.2 hd (by omega) (by omega)]
          simp (disch := omega) only [if_true, if_false, true_or, or_true, true_and, and_true, not_true_eq_false, not_false_eq_true, zbs, zw_id, if_neg]
        · rw [in_no (by omega) hd (by omega) (by omega)]
          simp only [zbs]
          rw [if_pos zw_0]
      · rw [if_neg h2]
        simp only [zbs]
        rw [if_pos zw_0]
set_option maxRecDepth 8000 in
set_option maxHeartbeats 2000000 in
theorem call_seen {M : zM} {v b y : Int} (h : zI M) (hv : -2147483648 ≤ v ∧ v ≤ 2147483647) (hb : -2147483648 ≤ b ∧ b ≤ 2147483647) (hy : y = 0 ∨ y = 1) : zCall (f_X10_seen v b y M) (fun N => f_X11_seen v b y N) := by
  have hz := h
  obtain ⟨T, hI⟩ := h
  have w0 := hI.w0
  have ht := w0.tld.seen
  have h8 := w0.head.sen
  by_cases h1 : v = -1
  · subst h1
    have hA : headOK (wup (M 43 0) 8 0) := by
      obtain ⟨q1, q2, q3, q4, q5, q6, q7, q8, q9, q10, q11, q12, q13, q14, q15, q16⟩ := w0.head
      unfold headOK
      simp (disch := omega) only [if_true, if_false, true_or, or_true, true_and, and_true, not_true_eq_false, not_false_eq_true, wup_ne, wup_eq]
      exact ⟨q1, q2, q3, q4, q5, q6, q7, q8, q9, by omega, q11, q12, q13, q14, q15, fun i hi => by omega⟩
    have tl : toldR (zput M 23 0 9 0) 0 (wup (M 43 0) 8 0) := by
      obtain ⟨g1, g2, g3, g4, g5, g6, g7, g8, g9⟩ := w0.tld
      unfold toldR
      simp (disch := omega) only [if_true, if_false, true_or, or_true, true_and, and_true, not_true_eq_false, not_false_eq_true, wup_ne, wup_eq, zput_eq, zput_j, zput_k]
      exact ⟨g1, g2, g4, g5, g6, fun i hi => by omega, fun i hi => by omega, fun i hi => by omega⟩
    refine zCall.mk (M1 := zput M 23 0 9 0) (M2 := zput (zput M 23 0 9 0) 43 0 8 0) (v := 0) ?_ ?_ ⟨T, hI.told hA (fun q hq => wup_ne (by omega)) (fun k i a => zput_rowk (by omega)) tl frV.put (by rw [zput_wup, zput_rowk (by omega)])⟩
    · unfold f_X10_seen
      rw [zw01.2.2, if_neg (nn_ rfl)]
      simp only [zlt_]
    · unfold f_X11_seen
      rw [zw01.2.2, if_neg (nn_ rfl)]
      simp only [zlt_]
  by_cases hr : ((0 ≤ v ∧ v ≤ 99) ∧ 1 ≤ b ∧ b ≤ 9) ∧ M 43 0 8 < 9
  · obtain ⟨n, hn⟩ := Int.eq_ofNat_of_zero_le h8.1
    have hA : headOK (wup (wup (wup (wup (M 43 0) (57 + 3 * n) v) (58 + 3 * n) b) (59 + 3 * n) y) 8 (n + 1)) := by
      obtain ⟨q1, q2, q3, q4, q5, q6, q7, q8, q9, q10, q11, q12, q13, q14, q15, q16⟩ := w0.head
      unfold headOK
      simp (disch := omega) only [if_true, if_false, true_or, or_true, true_and, and_true, not_true_eq_false, not_false_eq_true, wup_ne, wup_eq]
      refine ⟨q1, q2, q3, q4, q5, q6, q7, q8, q9, by omega, fun i hi => ?_, fun i hi => ?_, fun i hi => ?_, fun i hi => ?_, fun i hi => ?_, fun i hi => ?_⟩
      · first | exact q11 i hi | (simp (disch := omega) only [if_true, wup_ne]; exact q11 i hi)
      · first | exact q12 i hi | (simp (disch := omega) only [if_true, wup_ne]; exact q12 i hi)
      · first | exact q13 i hi | (simp (disch := omega) only [if_true, wup_ne]; exact q13 i hi)
      · first | exact q14 i hi | (simp (disch := omega) only [if_true, wup_ne]; exact q14 i hi)
      · first | exact q15 i hi | (simp (disch := omega) only [if_true, wup_ne]; exact q15 i hi)
      · by_cases hin : i = n
        · subst hin; simp (disch := omega) only [if_true, if_false, true_or, or_true, true_and, and_true, not_true_eq_false, not_false_eq_true, wup_ne, wup_eq]; exact ⟨hr.1.1, hr.1.2, hy⟩
        · simp (disch := omega) only [if_true, if_false, true_or, or_true, true_and, and_true, not_true_eq_false, not_false_eq_true, wup_ne]; exact q16 i (by omega)
    have tl : toldR (zput (zput (zput (zput M 28 0 n v) 29 0 n b) 30 0 n y) 23 0 9 (n + 1)) 0 (wup (wup (wup (wup (M 43 0) (57 + 3 * n) v) (58 + 3 * n) b) (59 + 3 * n) y) 8 (n + 1)) := by
      obtain ⟨g1, g2, g3, g4, g5, g6, g7, g8, g9⟩ := w0.tld
      have q6 := w0.head.pln
      have q7 := w0.head.vts
      unfold toldR
      simp (disch := omega) only [if_true, if_false, true_or, or_true, true_and, and_true, not_true_eq_false, not_false_eq_true, wup_ne, wup_eq, zput_eq, zput_j, zput_k]
      refine ⟨g1, g2, fun i hi => ?_, fun i hi => ?_, fun i hi => ?_, fun i hi => ?_, fun i hi => ?_, fun i hi => ?_⟩
      · first | exact g4 i hi | (simp (disch := omega) only [if_true, wup_ne]; exact g4 i hi)
      · first | exact g5 i hi | (simp (disch := omega) only [if_true, wup_ne]; exact g5 i hi)
      · first | exact g6 i hi | (simp (disch := omega) only [if_true, wup_ne]; exact g6 i hi)
      · by_cases hin : i = n
        · subst hin; simp (disch := omega) only [if_true, if_false, true_or, or_true, true_and, and_true, not_true_eq_false, not_false_eq_true, wup_ne, wup_eq, zput_eq]
        · simp (disch := omega) only [if_true, if_false, true_or, or_true, true_and, and_true, not_true_eq_false, not_false_eq_true, wup_ne, zput_j]; exact g7 i (by omega)
      · by_cases hin : i = n
        · subst hin; simp (disch := omega) only [if_true, if_false, true_or, or_true, true_and, and_true, not_true_eq_false, not_false_eq_true, wup_ne, wup_eq, zput_eq]
        · simp (disch := omega) only [if_true, if_false, true_or, or_true, true_and, and_true, not_true_eq_false, not_false_eq_true, wup_ne, zput_j]; exact g8 i (by omega)
      · by_cases hin : i = n
        · subst hin; simp (disch := omega) only [if_true, if_false, true_or, or_true, true_and, and_true, not_true_eq_false, not_false_eq_true, wup_ne, wup_eq, zput_eq]
        · simp (disch := omega) only [if_true, if_false, true_or, or_true, true_and, and_true, not_true_eq_false, not_false_eq_true, wup_ne, zput_j]; exact g9 i (by omega)
    have m43 : zput (zput (zput (zput M 28 0 n v) 29 0 n b) 30 0 n y) 23 0 9 (n + 1) 43 0 = M 43 0 := by rw [zput_rowk (by omega), zput_rowk (by omega), zput_rowk (by omega), zput_rowk (by omega)]
    refine zCall.mk (M1 := zput (zput (zput (zput M 28 0 n v) 29 0 n b) 30 0 n y) 23 0 9 (n + 1)) (M2 := zput (zput (zput (zput (zput (zput (zput (zput M 28 0 n v) 29 0 n b) 30 0 n y) 23 0 9 (n + 1)) 43 0 (57 + 3 * n) v) 43 0 (58 + 3 * n) b) 43 0 (59 + 3 * n) y) 43 0 8 (n + 1)) (v := (n : Int) + 1) ?_ ?_ ⟨T, hI.told hA (fun q hq => by simp (disch := omega) only [if_true, if_false, true_or, or_true, true_and, and_true, not_true_eq_false, not_false_eq_true, wup_ne]) (fun k i a => by rw [zput_rowk (by omega), zput_rowk (by omega), zput_rowk (by omega), zput_rowk (by omega)]) tl (frV.put.trans (frV.put.trans (frV.put.trans frV.put))) (by rw [zput_wup, zput_wup, zput_wup, zput_wup, m43])⟩
    · unfold f_X10_seen
      rw [zw_id (z := v) (by omega) (by omega), if_pos h1, wth_yes hr.1.1.1 hr.1.1.2 hv (by omega) (by omega)]
      simp only [zbs]
      rw [if_neg (by rw [zw01.2.1]; omega), wth_yes hr.1.2.1 hr.1.2.2 hb (by omega) (by omega)]
      simp (disch := omega) only [if_true, if_false, true_or, or_true, true_and, and_true, not_true_eq_false, not_false_eq_true, zbs, zlt_, zw_id, if_neg, if_pos, ht, hn, zix_nat, zput_k, zput_eq]
    · unfold f_X11_seen
      rw [zw_id (z := v) (by omega) (by omega), if_pos h1, in_yes hr.1.1.1 hr.1.1.2 hv (by omega) (by omega)]
      simp only [zbs]
      rw [if_neg (by rw [zw01.2.1]; omega), in_yes hr.1.2.1 hr.1.2.2 hb (by omega) (by omega)]
      have m8 : zput (zput (zput (zput M 28 0 n v) 29 0 n b) 30 0 n y) 23 0 9 (n + 1) 43 0 8 = (n : Int) := by rw [m43]; exact hn
      generalize zput (zput (zput (zput M 28 0 n v) 29 0 n b) 30 0 n y) 23 0 9 ((n : Int) + 1) = N at m8
      have e1 : zix (57 + 3 * (n : Int)) = 57 + 3 * n := zix_id (by omega) (by omega)
      have e2 : zix (57 + 3 * (n : Int) + 1) = 58 + 3 * n := zix_id (by omega) (by omega)
      have e3 : zix (57 + 3 * (n : Int) + 2) = 59 + 3 * n := zix_id (by omega) (by omega)
      unfold f_X11_seen_j99
      rcases hy with rfl | rfl
      · simp (disch := omega) only [if_true, if_false, true_or, or_true, true_and, and_true, not_true_eq_false, not_false_eq_true, zbs, zlt_, zw_id, if_neg, if_pos, m8, e1, e2, e3, zput_j, zput_eq]
      · simp (disch := omega) only [if_true, if_false, true_or, or_true, true_and, and_true, not_true_eq_false, not_false_eq_true, zbs, zlt_, zw_id, if_neg, if_pos, m8, e1, e2, e3, zput_j, zput_eq]
  · refine zCall.same hz (v := -2) ?_ ?_
    · unfold f_X10_seen
      rw [zw_id (z := v) (by omega) (by omega), if_pos h1]
      by_cases h2 : 0 ≤ v ∧ v ≤ 99
      · rw [wth_yes h2.1 h2.2 hv (by omega) (by omega)]
        simp only [zbs]
        rw [if_neg (by rw [zw01.2.1]; omega)]
        by_cases h3 : 1 ≤ b ∧ b ≤ 9
        · rw [wth_yes h3.1 h3.2 hb (by omega) (by omega)]
          simp (disch := omega) only [if_true, if_false, true_or, or_true, true_and, and_true, not_true_eq_false, not_false_eq_true, zbs, zw_id, if_neg, ht]
        · rw [wth_no (by omega) hb (by omega) (by omega)]
          simp only [zbs]
          rw [if_pos zw_0]
      · rw [wth_no (by omega) hv (by omega) (by omega)]
        simp only [zbs]
        rw [if_pos zw_0]
    · unfold f_X11_seen
      rw [zw_id (z := v) (by omega) (by omega), if_pos h1]
      by_cases h2 : 0 ≤ v ∧ v ≤ 99
      · rw [in_yes h2.1 h2.2 hv (by omega) (by omega)]
        simp only [zbs]
        rw [if_neg (by rw [zw01.2.1]; omega)]
        by_cases h3 : 1 ≤ b ∧ b ≤ 9
        · rw [in_yes h3.1 h3.2 hb (by omega) (by omega)]
          simp (disch := omega) only [if_true, if_false, true_or, or_true, true_and, and_true, not_true_eq_false, not_false_eq_true, zbs, zw_id, if_neg]
        · rw [in_no (by omega) hb (by omega) (by omega)]
          simp only [zbs]
          rw [if_pos zw_0]
      · rw [in_no (by omega) hv (by omega) (by omega)]
        simp only [zbs]
        rw [if_pos zw_0]
set_option maxRecDepth 8000 in
set_option maxHeartbeats 2000000 in
/-- a whole world is copied, on the class's side -/
theorem X_world (M : zM) {j j' : Nat} (hj : j' ≠ j) {a : Nat → Int} (h : worldR M j a) : ∃ M1 M2 M3, f_X0_copy j' j M = some M1 ∧ f_X5_copy j' j M1 = some M2 ∧ f_X9_copy j' j M2 = some M3 ∧ worldR M3 j' a ∧ (∀ k i, ¬ (k ≠ 16 ∧ k ≠ 22 ∧ i = j') → ¬ (k = 16 ∧ 8 * j' ≤ i ∧ i < 8 * j' + 8) → ¬ (k = 22 ∧ 30 * j' ≤ i ∧ i < 30 * j' + 30) → M3 k i = M k i) ∧ (∀ k, ¬ (11 ≤ k ∧ k ≤ 30) → M3 k = M k) := by
  obtain ⟨M1, a1, a2, a3, a4, a5, a6⟩ := X_copy M hj
  obtain ⟨M2, b1, b2, b3, b4⟩ := X_stepsCopy M1 hj
  obtain ⟨M3, c1, c2, c3, c4, c5⟩ := X_toldCopy M2 hj
  refine ⟨M1, M2, M3, a1, b1, c1, ?_, fun k i x y z => ?_, fun k x => ?_⟩
  · refine h.congr (fun s h6 h13 => ?_) (fun q hq => ?_) (fun q hq => ?_) (fun t s ht hs => ?_) ?_ (fun r q hr hq => ?_) ?_ (fun q hq => ?_) (fun q hq => ?_) (fun q _ => rfl)
    · rw [c2 11 _ (by omega), b2 11 _ (by omega) (by omega)]; exact a3 s h6 h13
    · rw [c2 12 _ (by omega), b2 12 _ (by omega) (by omega), c2 13 _ (by omega), b2 13 _ (by omega) (by omega)]; exact a4 q hq
    · rw [c2 15 _ (by omega), b2 15 _ (by omega) (by omega)]; exact a5 q hq
    · rw [c2 16 _ (by omega), b2 16 _ (by omega) (by omega)]; exact a6 t s ht hs
    · rw [c2 20 _ (by omega), b3.1, b3.2, a2 20 j (by omega) (by omega) (by omega) (by omega) (by omega)]; exact ⟨rfl, rfl⟩
    · rw [c2 22 _ (by omega), b4 r q hr hq, a2 22 _ (by omega) (by omega) (by omega) (by omega) (by omega)]
    · rw [c3.1, c3.2.1, c3.2.2, b2 23 j (by omega) (by omega), a2 23 j (by omega) (by omega) (by omega) (by omega) (by omega)]; exact ⟨rfl, rfl, rfl⟩
    · rw [(c4 q hq).1, (c4 q hq).2, b2 24 j (by omega) (by omega), b2 25 j (by omega) (by omega), a2 24 j (by omega) (by omega) (by omega) (by omega) (by omega), a2 25 j (by omega) (by omega) (by omega) (by omega) (by omega)]; exact ⟨rfl, rfl⟩
    · rw [(c5 q hq).1, (c5 q hq).2.1, (c5 q hq).2.2.1, (c5 q hq).2.2.2, b2 26 j (by omega) (by omega), b2 28 j (by omega) (by omega), b2 29 j (by omega) (by omega), b2 30 j (by omega) (by omega), a2 26 j (by omega) (by omega) (by omega) (by omega) (by omega), a2 28 j (by omega) (by omega) (by omega) (by omega) (by omega), a2 29 j (by omega) (by omega) (by omega) (by omega) (by omega), a2 30 j (by omega) (by omega) (by omega) (by omega) (by omega)]; exact ⟨rfl, rfl, rfl, rfl⟩
  · rw [c2 k i (by omega), b2 k i (by omega) (by omega), a2 k i (by omega) (by omega) (by omega) (by omega) (by omega)]
  · funext i
    rw [c2 k i (by omega), b2 k i (by omega) (by omega), a2 k i (by omega) (by omega) (by omega) (by omega) (by omega)]
set_option maxRecDepth 8000 in
set_option maxHeartbeats 2000000 in
theorem worldR.of {M M' : zM} {j : Nat} {a a' : Nat → Int} (h : worldR M j a) (f : ∀ k i, 11 ≤ k → k ≤ 30 → ((k ≠ 16 ∧ k ≠ 22 ∧ i = j) ∨ (k = 16 ∧ 8 * j ≤ i ∧ i < 8 * j + 8) ∨ (k = 22 ∧ 30 * j ≤ i ∧ i < 30 * j + 30)) → M' k i = M k i) (ha : ∀ q, q < 5090 → a' q = a q) : worldR M' j a' :=
  h.congr (fun s _ _ => by rw [f 11 j (by omega) (by omega) (by omega)]) (fun q _ => by rw [f 12 j (by omega) (by omega) (by omega), f 13 j (by omega) (by omega) (by omega)]; exact ⟨rfl, rfl⟩) (fun q _ => by rw [f 15 j (by omega) (by omega) (by omega)]) (fun t s ht _ => by rw [f 16 _ (by omega) (by omega) (by omega)]) (by rw [f 20 j (by omega) (by omega) (by omega)]; exact ⟨rfl, rfl⟩) (fun r q hr _ => by rw [f 22 _ (by omega) (by omega) (by omega)]) (by rw [f 23 j (by omega) (by omega) (by omega)]; exact ⟨rfl, rfl, rfl⟩) (fun q _ => by rw [f 24 j (by omega) (by omega) (by omega), f 25 j (by omega) (by omega) (by omega)]; exact ⟨rfl, rfl⟩) (fun q _ => by rw [f 26 j (by omega) (by omega) (by omega), f 28 j (by omega) (by omega) (by omega), f 29 j (by omega) (by omega) (by omega), f 30 j (by omega) (by omega) (by omega)]; exact ⟨rfl, rfl, rfl, rfl⟩) ha
set_option maxRecDepth 8000 in
set_option maxHeartbeats 2000000 in
theorem call_image {M : zM} (h : zI M) : zCall (f_X10_image M) (fun N => f_X11_image N) := by
  obtain ⟨T, hI⟩ := h
  obtain ⟨M1, M2, M3, a1, a2, a3, a4, a5, a6⟩ := X_world M (j := 0) (j' := 1) (by omega) hI.w0
  obtain ⟨N, b1, b2, b3⟩ := copies_out M3
  have f43 : M3 43 = M 43 := a6 43 (by omega)
  have g : ∀ k i, ¬ (11 ≤ k ∧ k ≤ 30) → k ≠ 44 → N k i = M k i := fun k i x y => by rw [b2 k i (by omega), a6 k x]
  have d11 : M3 11 0 10 = M 43 0 128 := by rw [a5 11 0 (by omega) (by omega) (by omega)]; exact hI.w0.city.day
  refine zCall.mk (M1 := M3) (M2 := N) (v := M 43 0 128) ?_ ?_ ⟨T, ?_, ?_, ?_, ?_, ?_, ?_, ?_⟩
  · unfold f_X10_image
    rw [a1]
    simp only [zbs]
    rw [a2]
    simp only [zbs]
    rw [a3]
    simp only [zbs, d11]
  · unfold f_X11_image
    rw [b1]
    simp only [zbs]
    rw [g 43 0 (by omega) (by omega)]
  · rw [g 43 0 (by omega) (by omega)]
    exact hI.w0.of (fun k i x y z => by rw [b2 k i (by omega)]; exact a5 k i (by omega) (by omega) (by omega)) (fun q _ => rfl)
  · exact a4.of (fun k i x y z => b2 k i (by omega)) (fun q hq => by rw [b3 q hq, f43])
  · rw [g 43 0 (by omega) (by omega)]
    exact hI.txt.frame (fun k i hk => g k i (by unfold txK at hk; omega) (by unfold txK at hk; omega))
  · rw [b3 3 (by omega), f43, g 43 0 (by omega) (by omega)]
    exact Int.le_refl _
  · rw [g 35 0 (by omega) (by omega), g 42 0 (by omega) (by omega)]; exact hI.len
  · rw [g 42 0 (by omega) (by omega), g 36 0 (by omega) (by omega), g 45 0 (by omega) (by omega)]; exact hI.tape
  · rw [g 42 0 (by omega) (by omega), g 37 0 (by omega) (by omega)]; exact hI.flt
set_option maxRecDepth 8000 in
set_option maxHeartbeats 2000000 in
theorem call_back {M : zM} (h : zI M) : zCall (f_X10_back M) (fun N => f_X11_back N) := by
  obtain ⟨T, hI⟩ := h
  obtain ⟨M1, M2, M3, a1, a2, a3, a4, a5, a6⟩ := X_world M (j := 1) (j' := 0) (by omega) hI.w1
  obtain ⟨N, b1, b2, b3⟩ := copies_in M3
  have f44 : M3 44 = M 44 := a6 44 (by omega)
  have g : ∀ k i, ¬ (11 ≤ k ∧ k ≤ 30) → k ≠ 43 → N k i = M k i := fun k i x y => by rw [b2 k i (by omega), a6 k x]
  have d11 : M3 11 0 10 = M 44 0 128 := a4.city.day
  refine zCall.mk (M1 := M3) (M2 := N) (v := M 44 0 128) ?_ ?_ ⟨T, ?_, ?_, ?_, ?_, ?_, ?_, ?_⟩
  · unfold f_X10_back
    rw [a1]
    simp only [zbs]
    rw [a2]
    simp only [zbs]
    rw [a3]
    simp only [zbs, d11]
  · unfold f_X11_back
    rw [b1]
    simp only [zbs]
    rw [b3 128 (by omega), f44]
  · exact a4.of (fun k i x y z => b2 k i (by omega)) (fun q hq => by rw [b3 q hq, f44])
  · rw [g 44 0 (by omega) (by omega)]
    exact hI.w1.of (fun k i x y z => by rw [b2 k i (by omega)]; exact a5 k i (by omega) (by omega) (by omega)) (fun q _ => rfl)
  · rw [b3 3 (by omega), f44]
    have hle := hI.txs
    exact fun i hi => (hI.txt i (by omega)).frame (fun k i hk => g k i (by unfold txK at hk; omega) (by unfold txK at hk; omega))
  · rw [b3 3 (by omega), f44, g 44 0 (by omega) (by omega)]
    exact Int.le_refl _
  · rw [g 35 0 (by omega) (by omega), g 42 0 (by omega) (by omega)]; exact hI.len
  · rw [g 42 0 (by omega) (by omega), g 36 0 (by omega) (by omega), g 45 0 (by omega) (by omega)]; exact hI.tape
  · rw [g 42 0 (by omega) (by omega), g 37 0 (by omega) (by omega)]; exact hI.flt
