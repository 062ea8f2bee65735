/-! calls that tell: room, by, plan, vote, seen; image, back; feed, end, fault, about, bargain -/
set_option maxRecDepth 8000 in
set_option maxHeartbeats 2000000 in
theorem worldR.setHead {M M' : zM} {A A' : Nat → Int} (h : worldR M 0 A) (hA : headOK A') (e : ∀ q, (q < 2 ∨ q = 5 ∨ (10 ≤ q ∧ q < 32) ∨ 90 ≤ q) → A' q = A q) (f : ∀ k i, k ≠ 11 → ¬ (23 ≤ k ∧ k ≤ 30) → M' k i = M k i) (f11 : ∀ s, s ≠ 9 → s ≠ 13 → M' 11 0 s = M 11 0 s) (c2 : M' 11 0 9 = A' 2) (c4 : M' 11 0 13 = A' 4) (e3 : A' 3 = A 3) (tl : toldR M' 0 A') : worldR M' 0 A' := by
  have h0 := h.head.thg
  have h1 := h.head.own
  have h5 := h.head.stp
  refine ⟨hA, h.row.congr h0.2 (fun q hq => e q (by omega)) (fun q hq => by unfold rw_; exact e _ (by omega)), by rw [e 128 (by omega)]; exact h.day, ?_, fun t ht => ?_, ?_, tl⟩
  · obtain ⟨g1, g2, g3, g4, g5, g6, g7, g8, g9, g10, g11, g12, g13, g14, g15, g16, g17⟩ := h.city
    have r12 := f 12 0 (by omega) (by omega)
    have r13 := f 13 0 (by omega) (by omega)
    have r15 := f 15 0 (by omega) (by omega)
    have h9 := h.row.book
    have re : ∀ q, q < 161 → rw_ A' 90 q = rw_ A 90 q := fun q hq => by unfold rw_; exact e _ (by omega)
    unfold cityR
    rw [f11 6 (by omega) (by omega), f11 7 (by omega) (by omega), f11 8 (by omega) (by omega), f11 10 (by omega) (by omega), f11 11 (by omega) (by omega), f11 12 (by omega) (by omega), c2, c4, e 0 (by omega), e 1 (by omega), e3, r12, r13, r15, re 38 (by omega), re 39 (by omega), re 40 (by omega)]
    refine ⟨g1, g2, g3, rfl, g5, g6, g7, rfl, fun i hi => ?_, fun i hi => ?_, fun t ht => ?_, fun t ht => ?_, fun t ht => ?_, fun t ht => ?_, fun t ht hk => ?_, fun t ht hk => ?_, fun i hi => ?_⟩
    · rw [e _ (by omega)]; exact g9 i hi
    · rw [re _ (by omega)]; exact g10 i hi
    · rw [f 16 _ (by omega) (by omega), e _ (by omega)]; exact g11 t ht
    · rw [f 16 _ (by omega) (by omega), e _ (by omega)]; exact g12 t ht
    · rw [f 16 _ (by omega) (by omega), re _ (by omega)]; exact g13 t ht
    · rw [f 16 _ (by omega) (by omega), re _ (by omega)]; exact g14 t ht
    · rw [re _ (by omega)] at hk
      rw [f 16 _ (by omega) (by omega), re _ (by omega)]; exact g15 t ht hk
    · rw [re _ (by omega)] at hk
      rw [f 16 _ (by omega) (by omega), re _ (by omega)]; exact g16 t ht hk
    · rw [g17 i hi]
      unfold cardOf
      rw [re _ (by omega), re _ (by omega), re _ (by omega), re _ (by omega)]
  · rw [e 1 (by omega)] at ht
    rw [f 16 _ (by omega) (by omega)]
    exact h.told t ht
  · obtain ⟨g1, g2, g3⟩ := h.steps
    unfold stepsR
    rw [f 20 0 (by omega) (by omega), e 5 (by omega)]
    refine ⟨g1, g2, fun i hi => ?_⟩
    obtain ⟨r, hr, k1, k2, k3, k4⟩ := g3 i hi
    refine ⟨r, hr, k1, ?_, k3.congr h0.2 (fun q hq => e q (by omega)) (fun q hq => by unfold rw_; exact e _ (by omega)), by rw [e _ (by omega)]; exact k4⟩
    obtain ⟨s1, s2, s3, s4, s5, s6, s7, s8, s9, s10, s11, s12, s13⟩ := k2
    have re : ∀ q, q < 161 → rw_ A' (260 + 161 * i) q = rw_ A (260 + 161 * i) q := fun q hq => by unfold rw_; exact e _ (by omega)
    have h9 := k3.book
    unfold savedR
    rw [f 22 _ (by omega) (by omega), e 0 (by omega), e 1 (by omega), re 38 (by omega), re 39 (by omega), re 40 (by omega)]
    refine ⟨s1, s2, s3, s4, s5, fun i hi h => ?_, fun i hi h => ?_, fun i hi => ?_, fun t ht => ?_, fun t ht => ?_, fun t ht hk => ?_, fun t ht hk => ?_, fun t ht ht2 => ?_⟩
    · rw [re _ (by omega)]; exact s6 i hi h
    · rw [re _ (by omega)]; exact s7 i hi h
    · rw [s8 i hi]
      unfold cardOf
      rw [re _ (by omega), re _ (by omega), re _ (by omega), re _ (by omega)]
    · rw [re _ (by omega)]; exact s9 t ht
    · rw [re _ (by omega)]; exact s10 t ht
    · rw [re _ (by omega)] at hk
      rw [re _ (by omega)]; exact s11 t ht hk
    · rw [re _ (by omega)] at hk
      rw [re _ (by omega)]; exact s12 t ht hk
    · rw [f 16 _ (by omega) (by omega), e _ (by omega), re _ (by omega), re _ (by omega), re _ (by omega), re _ (by omega)]; exact s13 t ht ht2
set_option maxRecDepth 8000 in
set_option maxHeartbeats 2000000 in
theorem frW.put {M : zM} {k s : Nat} {v : Int} (h : k = 11 ∨ k = 12 ∨ k = 13 ∨ k = 15 ∨ k = 20 ∨ (23 ≤ k ∧ k ≤ 30)) : frW M (zput M k 0 s v) := fun k' i a => zput_rowk (by unfold sc0 at a; omega)
set_option maxRecDepth 8000 in
set_option maxHeartbeats 2000000 in
theorem frV.put {M : zM} {s : Nat} {v : Int} : frV M (zput M 43 0 s v) := fun k i a _ => zput_rowk (by omega)
set_option maxRecDepth 8000 in
set_option maxHeartbeats 2000000 in
theorem toldR.head {M M' : zM} {j : Nat} {a a' : Nat → Int} (h : toldR M j a) (hA : headOK a) (f : ∀ k, 23 ≤ k → k ≤ 30 → M' k j = M k j) (ha : ∀ q, ((6 ≤ q ∧ q ≤ 8) ∨ (32 ≤ q ∧ q < 90)) → a' q = a q) : toldR M' j a' := by
  have h6 := hA.pln
  have h7 := hA.vts
  have h8 := hA.sen
  obtain ⟨g1, g2, g3, g4, g5, g6, g7, g8, g9⟩ := h
  unfold toldR
  rw [f 23 (by omega) (by omega), f 24 (by omega) (by omega), f 25 (by omega) (by omega), f 26 (by omega) (by omega), f 28 (by omega) (by omega), f 29 (by omega) (by omega), f 30 (by omega) (by omega), ha 6 (by omega), ha 7 (by omega), ha 8 (by omega)]
  refine ⟨g1, g2, g3, fun i hi => ?_, fun i hi => ?_, fun i hi => ?_, fun i hi => ?_, fun i hi => ?_, fun i hi => ?_⟩
  · rw [ha _ (by omega)]; exact g4 i hi
  · rw [ha _ (by omega)]; exact g5 i hi
  · rw [ha _ (by omega)]; exact g6 i hi
  · rw [ha _ (by omega)]; exact g7 i hi
  · rw [ha _ (by omega)]; exact g8 i hi
  · rw [ha _ (by omega)]; exact g9 i hi
set_option maxRecDepth 8000 in
set_option maxHeartbeats 2000000 in
theorem call_room {M : zM} {v : Int} (h : zI M) (hv : -2147483648 ≤ v ∧ v ≤ 2147483647) : zCall (f_X10_room v M) (fun N => f_X11_room v N) := by
  have hz := h
  obtain ⟨T, hI⟩ := h
  have w0 := hI.w0
  by_cases hr : 0 ≤ v ∧ v ≤ 99
  · have hA : headOK (wup (M 43 0) 2 v) := by
      obtain ⟨q1, q2, q3, q4, q5, q6, q7, q8, q9, q10, q11, q12, q13, q14, q15, q16⟩ := w0.head
      unfold headOK
      simp (disch := omega) only [if_true, if_false, true_or, or_true, true_and, and_true, not_true_eq_false, not_false_eq_true, wup_ne, wup_eq]
      exact ⟨q1, q2, q3, hr, q5, q6, q7, q8, q9, q10, q11, q12, q13, q14, q15, q16⟩
    have w1 : worldR (zput M 11 0 9 v) 0 (wup (M 43 0) 2 v) := w0.setHead hA (fun q hq => wup_ne (by omega)) (fun k i a b => zput_rowk (by omega)) (fun s a b => zput_j a) (by rw [zput_eq, wup_eq]) (by rw [zput_j (by omega), wup_ne (by omega)]; exact w0.city.txt) (wup_ne (by omega)) (w0.tld.head w0.head (fun k a b => zput_rowk (by omega)) (fun q hq => wup_ne (by omega)))
    refine zCall.mk (M1 := zput M 11 0 9 v) (M2 := zput (zput M 11 0 9 v) 43 0 2 v) (v := 1) ?_ ?_ ⟨T, hI.step (frW.put (by omega)) w1 frV.put (by rw [zput_wup, zput_rowk (by omega)]) (wup_ne (by omega))⟩
    · unfold f_X10_room
      rw [wth_yes hr.1 hr.2 hv (by omega) (by omega)]
      simp only [zbs, zlt_]
      rw [if_pos (by rw [zw01.2.1]; omega)]
    · unfold f_X11_room
      rw [in_yes hr.1 hr.2 hv (by omega) (by omega)]
      simp only [zbs, zlt_]
      rw [if_pos (by rw [zw01.2.1]; omega)]
  · refine zCall.same hz (v := 0) ?_ ?_
    · unfold f_X10_room
      rw [wth_no (by omega) hv (by omega) (by omega)]
      simp only [zbs]
      rw [if_neg (nn_ zw_0)]
    · unfold f_X11_room
      rw [in_no (by omega) hv (by omega) (by omega)]
      simp only [zbs]
      rw [if_neg (nn_ zw_0)]
set_option maxRecDepth 8000 in
set_option maxHeartbeats 2000000 in
theorem call_by {M : zM} {v : Int} (h : zI M) (hv : -2147483648 ≤ v ∧ v ≤ 2147483647) : zCall (f_X10_by v M) (fun N => f_X11_by v N) := by
  have hz := h
  obtain ⟨T, hI⟩ := h
  have w0 := hI.w0
  have ht := w0.city.txs
  have h3 := w0.head.txs
  by_cases hr : -1 ≤ v ∧ v < M 43 0 3
  · have hA : headOK (wup (M 43 0) 4 v) := by
      obtain ⟨q1, q2, q3, q4, q5, q6, q7, q8, q9, q10, q11, q12, q13, q14, q15, q16⟩ := w0.head
      unfold headOK
      simp (disch := omega) only [if_true, if_false, true_or, or_true, true_and, and_true, not_true_eq_false, not_false_eq_true, wup_ne, wup_eq]
      exact ⟨q1, q2, q3, q4, q5, hr, q7, q8, q9, q10, q11, q12, q13, q14, q15, q16⟩
    have w1 : worldR (zput M 11 0 13 v) 0 (wup (M 43 0) 4 v) := w0.setHead hA (fun q hq => wup_ne (by omega)) (fun k i a b => zput_rowk (by omega)) (fun s a b => zput_j b) (by rw [zput_j (by omega), wup_ne (by omega)]; exact w0.city.room) (by rw [zput_eq, wup_eq]) (wup_ne (by omega)) (w0.tld.head w0.head (fun k a b => zput_rowk (by omega)) (fun q hq => wup_ne (by omega)))
    have m3 : zput M 11 0 13 v 43 0 3 = M 43 0 3 := zput_k (by omega)
    refine zCall.mk (M1 := zput M 11 0 13 v) (M2 := zput (zput M 11 0 13 v) 43 0 4 v) (v := 1) ?_ ?_ ⟨T, hI.step (frW.put (by omega)) w1 frV.put (by rw [zput_wup, zput_rowk (by omega)]) (wup_ne (by omega))⟩
    · unfold f_X10_by f_X10_by_j24
      rw [zw_id (z := v) (by omega) (by omega)]
      by_cases h1 : v = -1
      · rw [if_pos h1]; simp only [zlt_]
      · rw [if_neg h1, wth_yes (by omega) (by omega) hv (by omega) (by omega)]
        simp only [zbs, zlt_]
        rw [if_pos (by rw [zw01.2.1]; omega)]
    · unfold f_X11_by f_X11_by_j23
      rw [zw_id (z := v) (by omega) (by omega), m3]
      by_cases h1 : v = -1
      · rw [if_pos h1]; simp only [zlt_]
      · rw [if_neg h1, in_yes (by omega) (by omega) hv (by omega) (by omega)]
        simp only [zbs, zlt_]
        rw [if_pos (by rw [zw01.2.1]; omega)]
  · refine zCall.same hz (v := 0) ?_ ?_
    · unfold f_X10_by
      rw [zw_id (z := v) (by omega) (by omega), if_neg (by omega), wth_no (by omega) hv (by omega) (by omega)]
      simp only [zbs]
      rw [if_neg (nn_ zw_0)]
    · unfold f_X11_by
      rw [zw_id (z := v) (by omega) (by omega), if_neg (by omega), in_no (by omega) hv (by omega) (by omega)]
      simp only [zbs]
      rw [if_neg (nn_ zw_0)]
set_option maxRecDepth 8000 in
set_option maxHeartbeats 2000000 in
/-- what is told changes alone -/
theorem holdsI.told {M M1 M2 : zM} {T : Nat → Nat → Option zLw} {A' : Nat → Int} (h : holdsI M T) (hA : headOK A') (e : ∀ q, (q < 6 ∨ (10 ≤ q ∧ q < 32) ∨ 90 ≤ q) → A' q = M 43 0 q) (f : ∀ k i, ¬ (23 ≤ k ∧ k ≤ 30 ∧ i = 0) → M1 k i = M k i) (tl : toldR M1 0 A') (f2 : frV M1 M2) (hA2 : M2 43 0 = A') : holdsI M2 T := by
  refine h.step (fun k i a => f k i (by unfold sc0 at a; omega)) (h.w0.setHead hA (fun q hq => e q (by omega)) (fun k i a b => f k i (by omega)) (fun s a b => by rw [f 11 0 (by omega)]) ?_ ?_ (e 3 (by omega)) tl) f2 hA2 (e 3 (by omega))
  · rw [f 11 0 (by omega), e 2 (by omega)]; exact h.w0.city.room
  · rw [f 11 0 (by omega), e 4 (by omega)]; exact h.w0.city.txt
set_option maxRecDepth 8000 in
set_option maxHeartbeats 2000000 in
theorem call_vote {M : zM} {v : Int} (h : zI M) (hv : -2147483648 ≤ v ∧ v ≤ 2147483647) : zCall (f_X10_vote v M) (fun N => f_X11_vote v N) := by
  have hz := h
  obtain ⟨T, hI⟩ := h
  have w0 := hI.w0
  have ht := w0.tld.votes
  have h7 := w0.head.vts
  by_cases h1 : v = -1
  · subst h1
    have hA : headOK (wup (M 43 0) 7 0) := by
      obtain ⟨q1, q2, q3, q4, q5, q6, q7, q8, q9, q10, q11, q12, q13, q14, q15, q16⟩ := w0.head
      unfold headOK
      simp (disch := omega) only [if_true, if_false, true_or, or_true, true_and, and_true, not_true_eq_false, not_false_eq_true, wup_ne, wup_eq]
      exact ⟨q1, q2, q3, q4, q5, q6, q7, q8, by omega, q10, q11, q12, q13, q14, fun i hi => by omega, q16⟩
    have tl : toldR (zput M 23 0 8 0) 0 (wup (M 43 0) 7 0) := by
      obtain ⟨g1, g2, g3, g4, g5, g6, g7, g8, g9⟩ := w0.tld
      have q6 := w0.head.pln
      have q8 := w0.head.sen
      unfold toldR
      simp (disch := omega) only [if_true, if_false, true_or, or_true, true_and, and_true, not_true_eq_false, not_false_eq_true, wup_ne, wup_eq, zput_eq, zput_j, zput_k]
      exact ⟨g1, g3, g4, g5, fun i hi => by omega, g7, g8, g9⟩
    refine zCall.mk (M1 := zput M 23 0 8 0) (M2 := zput (zput M 23 0 8 0) 43 0 7 0) (v := 0) ?_ ?_ ⟨T, hI.told hA (fun q hq => wup_ne (by omega)) (fun k i a => zput_rowk (by omega)) tl frV.put (by rw [zput_wup, zput_rowk (by omega)])⟩
    · unfold f_X10_vote
      rw [zw01.2.2, if_neg (nn_ rfl)]
      simp only [zlt_]
    · unfold f_X11_vote
      rw [zw01.2.2, if_neg (nn_ rfl)]
      simp only [zlt_]
  by_cases hr : (0 ≤ v ∧ v ≤ 99) ∧ M 43 0 7 < 9
  · obtain ⟨n, hn⟩ := Int.eq_ofNat_of_zero_le h7.1
    have hA : headOK (wup (wup (M 43 0) (48 + n) v) 7 (n + 1)) := by
      obtain ⟨q1, q2, q3, q4, q5, q6, q7, q8, q9, q10, q11, q12, q13, q14, q15, q16⟩ := w0.head
      unfold headOK
      simp (disch := omega) only [if_true, if_false, true_or, or_true, true_and, and_true, not_true_eq_false, not_false_eq_true, wup_ne, wup_eq]
      refine ⟨q1, q2, q3, q4, q5, q6, q7, q8, by omega, q10, fun i hi => ?_, fun i hi => ?_, fun i hi => ?_, fun i hi => ?_, fun i hi => ?_, fun i hi => ?_⟩
      · first | exact q11 i hi | (simp (disch := omega) only [if_true, wup_ne]; exact q11 i hi)
      · first | exact q12 i hi | (simp (disch := omega) only [if_true, wup_ne]; exact q12 i hi)
      · first | exact q13 i hi | (simp (disch := omega) only [if_true, wup_ne]; exact q13 i hi)
      · first | exact q14 i hi | (simp (disch := omega) only [if_true, wup_ne]; exact q14 i hi)
      · by_cases hin : i = n
        · subst hin; simp (disch := omega) only [if_true, if_false, true_or, or_true, true_and, and_true, not_true_eq_false, not_false_eq_true, wup_ne, wup_eq]; exact hr.1
        · simp (disch := omega) only [if_true, if_false, true_or, or_true, true_and, and_true, not_true_eq_false, not_false_eq_true, wup_ne]; exact q15 i (by omega)
      · first | exact q16 i hi | (simp (disch := omega) only [if_true, wup_ne]; exact q16 i hi)
    have tl : toldR (zput (zput M 26 0 n v) 23 0 8 (n + 1)) 0 (wup (wup (M 43 0) (48 + n) v) 7 (n + 1)) := by
      obtain ⟨g1, g2, g3, g4, g5, g6, g7, g8, g9⟩ := w0.tld
      have q6 := w0.head.pln
      have q8 := w0.head.sen
      unfold toldR
      simp (disch := omega) only [if_true, if_false, true_or, or_true, true_and, and_true, not_true_eq_false, not_false_eq_true, wup_ne, wup_eq, zput_eq, zput_j, zput_k]
      refine ⟨g1, g3, fun i hi => ?_, fun i hi => ?_, fun i hi => ?_, fun i hi => ?_, fun i hi => ?_, fun i hi => ?_⟩
      · first | exact g4 i hi | (simp (disch := omega) only [if_true, wup_ne]; exact g4 i hi)
      · first | exact g5 i hi | (simp (disch := omega) only [if_true, wup_ne]; exact g5 i hi)
      · by_cases hin : i = n
        · subst hin; simp (disch := omega) only [if_true, if_false, true_or, or_true, true_and, and_true, not_true_eq_false, not_false_eq_true, wup_ne, wup_eq, zput_eq]
        · simp (disch := omega) only [if_true, if_false, true_or, or_true, true_and, and_true, not_true_eq_false, not_false_eq_true, wup_ne, zput_j]; exact g6 i (by omega)
      · first | exact g7 i hi | (simp (disch := omega) only [if_true, wup_ne]; exact g7 i hi)
      · first | exact g8 i hi | (simp (disch := omega) only [if_true, wup_ne]; exact g8 i hi)
      · first | exact g9 i hi | (simp (disch := omega) only [if_true, wup_ne]; exact g9 i hi)
    have m7 : zput (zput M 26 0 n v) 23 0 8 (n + 1) 43 0 = M 43 0 := by rw [zput_rowk (by omega), zput_rowk (by omega)]
    refine zCall.mk (M1 := zput (zput M 26 0 n v) 23 0 8 (n + 1)) (M2 := zput (zput (zput (zput M 26 0 n v) 23 0 8 (n + 1)) 43 0 (48 + n) v) 43 0 7 (n + 1)) (v := (n : Int) + 1) ?_ ?_ ⟨T, hI.told hA (fun q hq => by simp (disch := omega) only [if_true, if_false, true_or, or_true, true_and, and_true, not_true_eq_false, not_false_eq_true, wup_ne]) (fun k i a => by rw [zput_rowk (by omega), zput_rowk (by omega)]) tl (frV.put.trans frV.put) (by rw [zput_wup, zput_wup, m7])⟩
    · unfold f_X10_vote
      rw [zw_id (z := v) (by omega) (by omega), if_pos h1, wth_yes hr.1.1 hr.1.2 hv (by omega) (by omega)]
      simp (disch := omega) only [if_true, if_false, true_or, or_true, true_and, and_true, not_true_eq_false, not_false_eq_true, zbs, zlt_, zw_id, if_neg, if_pos, ht, hn, zix_nat, zput_k, zput_eq]
    · unfold f_X11_vote
      rw [zw_id (z := v) (by omega) (by omega), if_pos h1, in_yes hr.1.1 hr.1.2 hv (by omega) (by omega)]
      have m77 : zput (zput M 26 0 n v) 23 0 8 (n + 1) 43 0 7 = (n : Int) := by rw [m7]; exact hn
      generalize zput (zput M 26 0 n v) 23 0 8 ((n : Int) + 1) = N at m77
      simp (disch := omega) only [if_true, if_false, true_or, or_true, true_and, and_true, not_true_eq_false, not_false_eq_true, zbs, zlt_, zw_id, if_neg, if_pos, m77, zi48, zput_j, zput_eq]
  · refine zCall.same hz (v := -2) ?_ ?_
    · unfold f_X10_vote
      rw [zw_id (z := v) (by omega) (by omega), if_pos h1]
      by_cases h2 : 0 ≤ v ∧ v ≤ 99
      · rw [wth_yes h2.1 h2.2 hv (by omega) (by omega)]
        simp (disch := omega) only [if_true, if_false, true_or, or_true, true_and, and_true, not_true_eq_false, not_false_eq_true, zbs, zw_id, if_neg, ht]
      · rw [wth_no (by omega) hv (by omega) (by omega)]
        simp only [zbs]
        rw [if_pos zw_0]
    · unfold f_X11_vote
      rw [zw_id (z := v) (by omega) (by omega), if_pos h1]
      by_cases h2 : 0 ≤ v ∧ v ≤ 99
      · rw [in_yes h2.1 h2.2 hv (by omega) (by omega)]
        simp (disch := omega) only [if_true, if_false, true_or, or_true, true_and, and_true, not_true_eq_false, not_false_eq_true, zbs, zw_id, if_neg]
      · rw [in_no (by omega) hv (by omega) (by omega)]
        simp only [zbs]
        rw [if_pos zw_0]
