/-! deeds: owner -/
set_option maxRecDepth 8000 in
set_option maxHeartbeats 2000000 in
theorem deed_owner {M0 : zM} {T : Nat → Nat → Option zLw} {A W : Nat → Int} {v : Int} (h0 : worldR M0 0 A) (hv : -2147483648 ≤ v ∧ v ≤ 2147483647) : deedOK T A W (fun M => f_X10_owner v M) (fun N => f_X11_owner v N) := by
  have hA := h0.head
  have h1 := hA.own
  have h8 := hA.thg
  by_cases hr : 0 ≤ v ∧ v ≤ 10 ∧ A 0 < 6
  case neg => exact deedOK.same (fun M w0 hT => ownerX_no hA w0.city hv hr) (fun N hN hW hT => ownerR_no hN hA hv hr)
  obtain ⟨n, hn⟩ := Int.eq_ofNat_of_zero_le h1.1
  have e : ∀ q, q ≠ 0 → q ≠ 10 + n → wup (wup A (10 + n) v) 0 ((n : Int) + 1) q = A q := fun q a b => by rw [wup_ne a, wup_ne b]
  have e0 : wup (wup A (10 + n) v) 0 ((n : Int) + 1) 0 = n + 1 := wup_eq _ _ _
  have en : wup (wup A (10 + n) v) 0 ((n : Int) + 1) (10 + n) = v := by rw [wup_ne (by omega), wup_eq]
  refine ⟨A 0, wup (wup A (10 + n) v) 0 ((n : Int) + 1), W, e 3 (by omega) (by omega), fun M w0 hT => ?_, fun N hN hW hT => ?_⟩
  · have hX := ownerX_yes hA w0.city hv hr
    rw [show (A 0).toNat = n by omega] at hX
    have w1 : worldR (zput (zput (zput M 12 0 n v) 13 0 n 0) 11 0 6 (A 0 + 1)) 0 (wup (wup A (10 + n) v) 0 ((n : Int) + 1)) := by
      rw [hn]
      generalize hA' : wup (wup A (10 + n) v) 0 ((n : Int) + 1) = A' at e e0 en
      have fk : ∀ k i, k ≠ 11 → k ≠ 12 → k ≠ 13 → zput (zput (zput M 12 0 n v) 13 0 n 0) 11 0 6 ((n : Int) + 1) k i = M k i := fun k i a b c => by rw [zput_rowk (by omega), zput_rowk (by omega), zput_rowk (by omega)]
      refine ⟨?_, w0.row.more h8.2 (by omega) (e 1 (by omega) (by omega)) (fun q hq => by unfold rw_; exact e _ (by omega) (by omega)), by rw [e 128 (by omega) (by omega)]; exact w0.day, ?_, fun t ht => ?_, ?_, ?_⟩
      · obtain ⟨q1, q2, q3, q4, q5, q6, q7, q8, q9, q10, q11, q12, q13, q14, q15, q16⟩ := hA
        unfold headOK
        rw [e0, e 1 (by omega) (by omega), e 2 (by omega) (by omega), e 3 (by omega) (by omega), e 4 (by omega) (by omega), e 5 (by omega) (by omega), e 6 (by omega) (by omega), e 7 (by omega) (by omega), e 8 (by omega) (by omega)]
        refine ⟨by omega, q2, by omega, q4, q5, q6, q7, q8, q9, q10, fun i hi => ?_, fun t ht => ?_, fun t ht => ?_, fun i hi => ?_, fun i hi => ?_, fun i hi => ?_⟩
        · by_cases hin : i = n
          · subst hin; rw [en]; exact ⟨hr.1, hr.2.1⟩
          · rw [e _ (by omega) (by omega)]; exact q11 i hi
        · rw [e _ (by omega) (by omega)]; have := q12 t ht; omega
        · rw [e _ (by omega) (by omega)]; exact q13 t ht
        · rw [e _ (by omega) (by omega), e _ (by omega) (by omega)]; exact q14 i hi
        · rw [e _ (by omega) (by omega)]; exact q15 i hi
        · rw [e _ (by omega) (by omega), e _ (by omega) (by omega), e _ (by omega) (by omega)]; exact q16 i hi
      · obtain ⟨g1, g2, g3, g4, g5, g6, g7, g8, g9, g10, g11, g12, g13, g14, g15, g16, g17⟩ := w0.city
        have re : ∀ q, q < 161 → rw_ A' 90 q = rw_ A 90 q := fun q hq => by unfold rw_; exact e _ (by omega) (by omega)
        have h9 := w0.row.book
        unfold cityR
        rw [e0, e 1 (by omega) (by omega), e 2 (by omega) (by omega), e 3 (by omega) (by omega), e 4 (by omega) (by omega), re 38 (by omega), re 39 (by omega), re 40 (by omega), fk 15 0 (by omega) (by omega) (by omega)]
        simp (disch := omega) only [if_true, if_false, true_or, or_true, true_and, and_true, not_true_eq_false, not_false_eq_true, zput_eq, zput_j, zput_k]
        refine ⟨g2, g3, g4, g5, g6, g7, g8, fun i hi => ?_, fun i hi => ?_, fun t ht => ?_, fun t ht => ?_, fun t ht => ?_, fun t ht => ?_, fun t ht hk => ?_, fun t ht hk => ?_, fun i hi => ?_⟩
        · by_cases hin : i = n
          · subst hin; rw [zput_eq, en]
          · rw [zput_j hin, e _ (by omega) (by omega)]; exact g9 i (by omega)
        · by_cases hin : i = n
          · subst hin; rw [zput_eq, re _ (by omega)]; exact (w0.row.pence0 i hi (by omega)).symm
          · rw [zput_j hin, zput_k (by omega), re _ (by omega)]; exact g10 i hi
        · rw [e _ (by omega) (by omega)]; exact g11 t ht
        · rw [e _ (by omega) (by omega)]; exact g12 t ht
        · rw [re _ (by omega)]; exact g13 t ht
        · rw [re _ (by omega)]; exact g14 t ht
        · rw [re _ (by omega)] at hk
          rw [re _ (by omega)]; exact g15 t ht hk
        · rw [re _ (by omega)] at hk
          rw [re _ (by omega)]; exact g16 t ht hk
        · rw [g17 i hi]
          unfold cardOf
          rw [re _ (by omega), re _ (by omega), re _ (by omega), re _ (by omega)]
      · rw [e 1 (by omega) (by omega)] at ht
        rw [fk 16 _ (by omega) (by omega) (by omega)]
        exact w0.told t ht
      · have h5 := hA.stp
        obtain ⟨g1, g2, g3⟩ := w0.steps
        unfold stepsR
        rw [fk 20 0 (by omega) (by omega) (by omega), e 5 (by omega) (by omega)]
        refine ⟨g1, g2, fun i hi => ?_⟩
        obtain ⟨r, hr', k1, k2, k3, k4⟩ := g3 i hi
        have re : ∀ q, q < 161 → rw_ A' (260 + 161 * i) q = rw_ A (260 + 161 * i) q := fun q hq => by unfold rw_; exact e _ (by omega) (by omega)
        refine ⟨r, hr', k1, ?_, k3.more h8.2 (by omega) (e 1 (by omega) (by omega)) re, by rw [e _ (by omega) (by omega)]; exact k4⟩
        have h9 := k3.book
        obtain ⟨s1, s2, s3, s4, s5, s6, s7, s8, s9, s10, s11, s12, s13⟩ := k2
        unfold savedR
        rw [fk 22 _ (by omega) (by omega) (by omega), e0, e 1 (by omega) (by omega), re 38 (by omega), re 39 (by omega), re 40 (by omega)]
        refine ⟨s1, s2, by omega, s4, s5, fun i hi h => ?_, fun i hi h => ?_, fun i hi => ?_, fun t ht => ?_, fun t ht => ?_, fun t ht hk => ?_, fun t ht hk => ?_, fun t ht ht2 => ?_⟩
        · rw [re _ (by omega)]; exact s6 i hi h
        · rw [re _ (by omega)]; exact s7 i hi h
        · rw [s8 i hi]
          unfold cardOf
          rw [re _ (by omega), re _ (by omega), re _ (by omega), re _ (by omega)]
        · rw [re _ (by omega)]; exact s9 t ht
        · rw [re _ (by omega)]; exact s10 t ht
        · rw [re _ (by omega)] at hk
          rw [re _ (by omega)]; exact s11 t ht hk
        · rw [re _ (by omega)] at hk
          rw [re _ (by omega)]; exact s12 t ht hk
        · rw [fk 16 _ (by omega) (by omega) (by omega), e _ (by omega) (by omega), re _ (by omega), re _ (by omega), re _ (by omega), re _ (by omega)]; exact s13 t ht ht2
      · exact w0.tld.head hA (fun k a b => fk k 0 (by omega) (by omega) (by omega)) (fun q hq => e q (by omega) (by omega))
    exact ⟨_, hX, w1, (frW.put (by omega)).trans ((frW.put (by omega)).trans (frW.put (by omega)))⟩
  · have hR := ownerR_yes hN hA hv hr
    rw [show (10 + A 0).toNat = 10 + n by omega] at hR
    exact ⟨_, hR, by rw [zput_wup, zput_wup, hN, hn], by rw [zput_rowk (by omega), zput_rowk (by omega)]; exact hW, frV.put.trans frV.put⟩
