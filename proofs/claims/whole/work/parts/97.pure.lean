/-! deeds: thing -/
set_option maxRecDepth 8000 in
set_option maxHeartbeats 2000000 in
theorem deed_thing {M0 : zM} {T : Nat → Nat → Option zLw} {A W : Nat → Int} {d o b : Int} (h0 : worldR M0 0 A) (hd : -2147483648 ≤ d ∧ d ≤ 2147483647) (ho : -2147483648 ≤ o ∧ o ≤ 2147483647) (hb : -2147483648 ≤ b ∧ b ≤ 2147483647) : deedOK T A W (fun M => f_X10_thing d o b M) (fun N => f_X11_thing d o b N) := by
  have hA := h0.head
  have h0 := hA.own
  have h1 := hA.thg
  have h5 := hA.stp
  obtain ⟨n, hn⟩ := Int.eq_ofNat_of_zero_le h1.1
  by_cases hr : ((0 ≤ d ∧ d ≤ 99) ∧ (0 ≤ o ∧ o < A 0) ∧ 1 ≤ b ∧ b ≤ 9) ∧ n < 8
  case neg =>
    refine deedOK.same (v := -1) (fun M w0 hT => ?_) (fun N hAA hW hT => ?_)
    · have hthg := w0.city.thg
      unfold f_X10_thing f_X10_thing_j35 f_X10_thing_j36
      by_cases c1 : 0 ≤ d ∧ d ≤ 99
      · rw [wth_yes c1.1 c1.2 hd (by omega) (by omega)]
        simp only [zbs]
        rw [if_neg (by rw [zw01.2.1]; omega), X_hasOwner w0.city hA ho]
        by_cases c2 : 0 ≤ o ∧ o < A 0
        · rw [if_pos c2]
          simp only [zbs]
          rw [if_neg (by rw [zw01.2.1]; omega)]
          by_cases c3 : 1 ≤ b ∧ b ≤ 9
          · rw [wth_yes c3.1 c3.2 hb (by omega) (by omega)]
            simp only [zbs]
            rw [if_neg (by rw [zw01.2.1]; omega), if_neg (by rw [zw01.2.1]; omega), hthg, zw_id (z := A 1) (by omega) (by omega), if_neg (by omega)]
          · rw [wth_no (by omega) hb (by omega) (by omega)]
            simp only [zbs]
            rw [if_pos zw_0, if_pos zw_0]
        · rw [if_neg c2]
          simp only [zbs]
          rw [if_pos zw_0, if_pos zw_0]
      · rw [wth_no (by omega) hd (by omega) (by omega)]
        simp only [zbs]
        rw [if_pos zw_0, if_pos zw_0]
    · have m1 : N 43 0 1 = A 1 := by rw [hAA]
      unfold f_X11_thing
      by_cases c1 : 0 ≤ d ∧ d ≤ 99
      · rw [in_yes c1.1 c1.2 hd (by omega) (by omega)]
        simp only [zbs]
        rw [if_neg (by rw [zw01.2.1]; omega), R_isOwner hAA hA ho]
        by_cases c2 : 0 ≤ o ∧ o < A 0
        · rw [if_pos c2]
          simp only [zbs]
          rw [if_neg (by rw [zw01.2.1]; omega)]
          by_cases c3 : 1 ≤ b ∧ b ≤ 9
          · rw [in_yes c3.1 c3.2 hb (by omega) (by omega)]
            simp only [zbs]
            rw [if_neg (by rw [zw01.2.1]; omega), m1, zw_id (z := A 1) (by omega) (by omega), if_neg (nn_ (show A 1 = 8 by omega))]
          · rw [in_no (by omega) hb (by omega) (by omega)]
            simp only [zbs]
            rw [if_pos zw_0]
        · rw [if_neg c2]
          simp only [zbs]
          rw [if_pos zw_0]
      · rw [in_no (by omega) hd (by omega) (by omega)]
        simp only [zbs]
        rw [if_pos zw_0]
  obtain ⟨⟨hr1, hr2, hr3⟩, hn8⟩ := hr
  obtain ⟨s1, s16, s24⟩ := sThing_own (A := A) (d := d) (o := o) (b := b) hn8
  have sh : ∀ q, q < 90 → q ≠ 1 → q ≠ 16 + n → q ≠ 24 + n → sThing A n d o b q = A q := fun q x y z u => sThing_head x y z u
  have snow : ∀ q, q < 161 → sThing A n d o b (90 + q) = twR (rw_ A 90) n d o q := fun q hq => sThing_now hn8 hq
  have sst : ∀ i q : Nat, q < 161 → (i : Int) < A 5 → sThing A n d o b (260 + 161 * i + q) = twR (rw_ A (260 + 161 * i)) n d o q := fun i q hq hi => sThing_step hn8 hq hi
  refine ⟨(n : Int), sThing A n d o b, W, sh 3 (by omega) (by omega) (by omega) (by omega), fun M w0 hT => ?_, fun N hA1 hW hT => ?_⟩
  · have hthg := w0.city.thg
    generalize hM1 : zput (zput (zput (zput (zput (zput (zput (zput M 16 n 0 d) 16 n 1 o) 16 n 2 b) 16 n 3 d) 16 n 4 o) 16 n 5 0) 16 n 6 o) 11 0 7 ((n : Int) + 1) = M1
    have fk : ∀ k i, k ≠ 11 → ¬ (k = 16 ∧ i = n) → M1 k i = M k i := fun k i a b => by
      rw [← hM1]
      simp (disch := omega) only [if_true, if_false, true_or, or_true, true_and, and_true, not_true_eq_false, not_false_eq_true, zput_rowk]
    have f11 : ∀ s, s ≠ 7 → M1 11 0 s = M 11 0 s := fun s hs => by
      rw [← hM1]
      simp (disch := omega) only [if_true, if_false, true_or, or_true, true_and, and_true, not_true_eq_false, not_false_eq_true, zput_j, zput_k]
    have c7 : M1 11 0 7 = (n : Int) + 1 := by rw [← hM1, zput_eq]
    have c16 : M1 16 n 0 = d ∧ M1 16 n 1 = o ∧ M1 16 n 2 = b ∧ M1 16 n 3 = d ∧ M1 16 n 4 = o := by
      rw [← hM1]
      refine ⟨?_, ?_, ?_, ?_, ?_⟩ <;> simp (disch := omega) only [if_true, if_false, true_or, or_true, true_and, and_true, not_true_eq_false, not_false_eq_true, zput_j, zput_k, zput_eq]
    have hX : f_X10_thing d o b M = some ((n : Int), M1) := by
      unfold f_X10_thing f_X10_thing_j36 f_X8_tell f_X8_beAsTold
      rw [wth_yes hr1.1 hr1.2 hd (by omega) (by omega)]
      simp only [zbs]
      rw [if_neg (by rw [zw01.2.1]; omega), X_hasOwner w0.city hA ho, if_pos hr2]
      simp only [zbs]
      rw [if_neg (by rw [zw01.2.1]; omega), wth_yes hr3.1 hr3.2 hb (by omega) (by omega)]
      simp only [zbs]
      rw [if_neg (by rw [zw01.2.1]; omega), if_neg (by rw [zw01.2.1]; omega), hthg, hn, zw_nat (by omega), if_pos (by omega), if_pos (by omega), zix_nat (by omega)]
      simp (disch := omega) only [if_true, if_false, true_or, or_true, true_and, and_true, not_true_eq_false, not_false_eq_true, zlt_, zbs, zput_j, zput_eq, zput_k, hthg, hn]
      rw [hM1, Int.add_sub_cancel]
    have f12 : frW M M1 := fun k i a => by
      have h11 : k ≠ 11 ∨ i ≠ 0 := by unfold sc0 at a; omega
      have h16 : k ≠ 16 ∨ i ≠ n := by unfold sc0 at a; omega
      rw [← hM1]
      simp (disch := omega) only [if_true, if_false, true_or, or_true, true_and, and_true, not_true_eq_false, not_false_eq_true, zput_rowk]
    have w1 : worldR M1 0 (sThing A n d o b) := by
      generalize sThing A n d o b = A' at s1 s16 s24 sh snow sst
      have hrow : rowOK A' (rw_ A' 90) := w0.row.newThing hn hn8 hr1 hr2 (sh 0 (by omega) (by omega) (by omega) (by omega)) s1 (fun q hq => snow q hq)
      refine ⟨?_, hrow, ?_, ?_, fun t ht => ?_, ?_, ?_⟩
      · obtain ⟨q1, q2, q3, q4, q5, q6, q7, q8, q9, q10, q11, q12, q13, q14, q15, q16⟩ := hA
        unfold headOK
        rw [s1, sh 0 (by omega) (by omega) (by omega) (by omega), sh 2 (by omega) (by omega) (by omega) (by omega), sh 3 (by omega) (by omega) (by omega) (by omega), sh 4 (by omega) (by omega) (by omega) (by omega), sh 5 (by omega) (by omega) (by omega) (by omega), sh 6 (by omega) (by omega) (by omega) (by omega), sh 7 (by omega) (by omega) (by omega) (by omega), sh 8 (by omega) (by omega) (by omega) (by omega)]
        refine ⟨q1, by omega, by omega, q4, q5, q6, q7, q8, q9, q10, fun i hi => ?_, fun t ht => ?_, fun t ht => ?_, fun i hi => ?_, fun i hi => ?_, fun i hi => ?_⟩
        · rw [sh _ (by omega) (by omega) (by omega) (by omega)]; exact q11 i hi
        · by_cases htn : t = n
          · subst htn; rw [s16]; exact hr2
          · rw [sh _ (by omega) (by omega) (by omega) (by omega)]; exact q12 t (by omega)
        · by_cases htn : t = n
          · subst htn; rw [s24]; exact hr3
          · rw [sh _ (by omega) (by omega) (by omega) (by omega)]; exact q13 t (by omega)
        · rw [sh _ (by omega) (by omega) (by omega) (by omega), sh _ (by omega) (by omega) (by omega) (by omega)]; have := q14 i hi; omega
        · rw [sh _ (by omega) (by omega) (by omega) (by omega)]; exact q15 i hi
        · rw [sh _ (by omega) (by omega) (by omega) (by omega), sh _ (by omega) (by omega) (by omega) (by omega), sh _ (by omega) (by omega) (by omega) (by omega)]; exact q16 i hi
      · rw [show (128 : Nat) = 90 + 38 from rfl, snow 38 (by omega), twR_out (by omega)]; exact w0.day
      · obtain ⟨t1, t2, t3, t4⟩ := twR_in (w := rw_ A 90) (d := d) (o := o) hn8
        obtain ⟨g1, g2, g3, g4, g5, g6, g7, g8, g9, g10, g11, g12, g13, g14, g15, g16, g17⟩ := w0.city
        have re : ∀ q, q < 161 → (q ≠ 30 + n ∧ q ≠ 22 + n ∧ q ≠ 14 + n ∧ q ≠ 6 + n) → rw_ A' 90 q = rw_ A 90 q := fun q hq hx => by
          show A' (90 + q) = _
          rw [snow q hq, twR_out hx]
        have h9 := w0.row.book
        unfold cityR
        rw [s1, sh 0 (by omega) (by omega) (by omega) (by omega), sh 2 (by omega) (by omega) (by omega) (by omega), sh 3 (by omega) (by omega) (by omega) (by omega), sh 4 (by omega) (by omega) (by omega) (by omega), re 38 (by omega) (by omega), re 39 (by omega) (by omega), re 40 (by omega) (by omega), c7, f11 6 (by omega), f11 8 (by omega), f11 9 (by omega), f11 10 (by omega), f11 11 (by omega), f11 12 (by omega), f11 13 (by omega), fk 12 0 (by omega) (by omega), fk 13 0 (by omega) (by omega), fk 15 0 (by omega) (by omega)]
        refine ⟨g1, rfl, g3, g4, g5, g6, g7, g8, fun i hi => ?_, fun i hi => ?_, fun t ht => ?_, fun t ht => ?_, fun t ht => ?_, fun t ht => ?_, fun t ht hk => ?_, fun t ht hk => ?_, fun i hi => ?_⟩
        · rw [sh _ (by omega) (by omega) (by omega) (by omega)]; exact g9 i hi
        · rw [re _ (by omega) (by omega)]; exact g10 i hi
        · by_cases htn : t = n
          · subst htn; rw [s16]; exact c16.2.1
          · rw [fk 16 _ (by omega) (by omega), sh _ (by omega) (by omega) (by omega) (by omega)]; exact g11 t (by omega)
        · by_cases htn : t = n
          · subst htn; rw [s24]; exact c16.2.2.1
          · rw [fk 16 _ (by omega) (by omega), sh _ (by omega) (by omega) (by omega) (by omega)]; exact g12 t (by omega)
        · by_cases htn : t = n
          · subst htn
            show _ = A' (90 + (6 + t))
            rw [snow _ (by omega), t4]; exact c16.2.2.2.1
          · rw [fk 16 _ (by omega) (by omega), re _ (by omega) (by omega)]; exact g13 t (by omega)
        · by_cases htn : t = n
          · subst htn
            show _ = A' (90 + (14 + t))
            rw [snow _ (by omega), t3]; exact c16.2.2.2.2
          · rw [fk 16 _ (by omega) (by omega), re _ (by omega) (by omega)]; exact g14 t (by omega)
        · by_cases htn : t = n
          · subst htn
            have hk : A' (90 + (14 + t)) = -1 := hk
            rw [snow _ (by omega), t3] at hk
            omega
          · rw [re _ (by omega) (by omega)] at hk
            rw [fk 16 _ (by omega) (by omega), re _ (by omega) (by omega)]; exact g15 t (by omega) hk
        · by_cases htn : t = n
          · subst htn
            have hk : A' (90 + (14 + t)) = -1 := hk
            rw [snow _ (by omega), t3] at hk
            omega
          · rw [re _ (by omega) (by omega)] at hk
            rw [fk 16 _ (by omega) (by omega), re _ (by omega) (by omega)]; exact g16 t (by omega) hk
        · rw [g17 i hi]
          unfold cardOf
          rw [re _ (by omega) (by omega), re _ (by omega) (by omega), re _ (by omega) (by omega), re _ (by omega) (by omega)]
      · by_cases htn : t = n
        · subst htn
          rw [show M1 16 (t + 8 * 0) 0 = d from c16.1]; exact hr1
        · rw [fk 16 _ (by omega) (by omega)]; exact w0.told t (by omega)
      · obtain ⟨g1, g2, g3⟩ := w0.steps
        unfold stepsR
        rw [fk 20 0 (by omega) (by omega), sh 5 (by omega) (by omega) (by omega) (by omega)]
        refine ⟨g1, g2, fun i hi => ?_⟩
        obtain ⟨r, hr', k1, k2, k3, k4⟩ := g3 i hi
        have hrow2 : rowOK A' (rw_ A' (260 + 161 * i)) := k3.newThing hn hn8 hr1 hr2 (sh 0 (by omega) (by omega) (by omega) (by omega)) s1 (fun q hq => sst i q hq hi)
        refine ⟨r, hr', k1, ?_, hrow2, ?_⟩
        · obtain ⟨t1, t2, t3, t4⟩ := twR_in (w := rw_ A (260 + 161 * i)) (d := d) (o := o) hn8
          have re : ∀ q, q < 161 → (q ≠ 30 + n ∧ q ≠ 22 + n ∧ q ≠ 14 + n ∧ q ≠ 6 + n) → rw_ A' (260 + 161 * i) q = rw_ A (260 + 161 * i) q := fun q hq hx => by
            show A' (260 + 161 * i + q) = _
            rw [sst i q hq hi, twR_out hx]
          have rn : ∀ q, q < 161 → rw_ A' (260 + 161 * i) q = twR (rw_ A (260 + 161 * i)) n d o q := fun q hq => sst i q hq hi
          have h9 := k3.book
          obtain ⟨s1', s2, s3, s4, s5, s6, s7, s8, s9, s10, s11, s12, s13⟩ := k2
          unfold savedR
          rw [fk 22 _ (by omega) (by omega), s1, sh 0 (by omega) (by omega) (by omega) (by omega), re 38 (by omega) (by omega), re 39 (by omega) (by omega), re 40 (by omega) (by omega)]
          refine ⟨s1', s2, s3, by omega, s5, fun i hi h => ?_, fun i hi h => ?_, fun i hi => ?_, fun t ht => ?_, fun t ht => ?_, fun t ht hk => ?_, fun t ht hk => ?_, fun t ht ht2 => ?_⟩
          · rw [re _ (by omega) (by omega)]; exact s6 i hi h
          · rw [re _ (by omega) (by omega)]; exact s7 i hi h
          · rw [s8 i hi]
            unfold cardOf
            rw [re _ (by omega) (by omega), re _ (by omega) (by omega), re _ (by omega) (by omega), re _ (by omega) (by omega)]
          · rw [re _ (by omega) (by omega)]; exact s9 t ht
          · rw [re _ (by omega) (by omega)]; exact s10 t ht
          · rw [re _ (by omega) (by omega)] at hk
            rw [re _ (by omega) (by omega)]; exact s11 t ht hk
          · rw [re _ (by omega) (by omega)] at hk
            rw [re _ (by omega) (by omega)]; exact s12 t ht hk
          · by_cases htn : t = n
            · subst htn
              rw [show M1 16 (t + 8 * 0) 0 = d from c16.1, s16, rn _ (by omega), rn _ (by omega), rn _ (by omega), rn _ (by omega), t1, t2, t3, t4]
              exact ⟨rfl, rfl, rfl, rfl⟩
            · rw [fk 16 _ (by omega) (by omega), sh _ (by omega) (by omega) (by omega) (by omega), re _ (by omega) (by omega), re _ (by omega) (by omega), re _ (by omega) (by omega), re _ (by omega) (by omega)]; exact s13 t ht (by omega)
        · rw [show 298 + 161 * i = 260 + 161 * i + 38 by omega, sst i 38 (by omega) hi, twR_out (by omega)]
          show A (260 + 161 * i + 38) ≤ 9999
          rw [show 260 + 161 * i + 38 = 298 + 161 * i by omega]; exact k4
      · exact w0.tld.head hA (fun k a b => fk k 0 (by omega) (by omega)) (fun q hq => sh q (by omega) (by omega) (by omega) (by omega))
    exact ⟨M1, hX, w1, f12⟩
  · generalize hA0 : wup (wup A (16 + n) o) (24 + n) b = A0
    have h05 : A0 5 = A 5 := by rw [← hA0, wup_ne (by omega), wup_ne (by omega)]
    have h01 : A0 1 = A 1 := by rw [← hA0, wup_ne (by omega), wup_ne (by omega)]
    have hN0 : zput (zput N 43 0 (16 + n) o) 43 0 (24 + n) b 43 0 = A0 := by rw [zput_wup, zput_wup, hA1, hA0]
    obtain ⟨N1, a1, a2, a3⟩ := R_tells (at_ := 6 + n) (v := d) hN0 (by omega) (by omega)
    obtain ⟨N2, b1, b2, b3⟩ := R_tells (at_ := 14 + n) (v := o) a2 (by omega) (by rw [sTell_5]; omega)
    obtain ⟨N3, d1, d2, d3⟩ := R_tells (at_ := 22 + n) (v := -1) b2 (by omega) (by rw [sTell_5, sTell_5]; omega)
    obtain ⟨N4, e1, e2, e3⟩ := R_tells (at_ := 30 + n) (v := -1) d2 (by omega) (by rw [sTell_5, sTell_5, sTell_5]; omega)
    have n41 : N4 43 0 1 = n := by rw [e2, sTell_lo (by omega), sTell_lo (by omega), sTell_lo (by omega), sTell_lo (by omega), h01, hn]
    have hfin : zput N4 43 0 1 ((n : Int) + 1) 43 0 = sThing A n d o b := by
      rw [zput_wup, e2, ← hA0]
      rfl
    refine ⟨zput N4 43 0 1 ((n : Int) + 1), ?_, hfin, ?_, ?_⟩
    · have m11 : N 43 0 1 = (n : Int) := by rw [hA1, hn]
      have z6 : (6 : Int) + (n : Int) = ((6 + n : Nat) : Int) := by omega
      have z14 : (14 : Int) + (n : Int) = ((14 + n : Nat) : Int) := by omega
      have z22 : (22 : Int) + (n : Int) = ((22 + n : Nat) : Int) := by omega
      have z30 : (30 : Int) + (n : Int) = ((30 + n : Nat) : Int) := by omega
      dsimp only
      unfold f_X11_thing
      rw [in_yes hr1.1 hr1.2 hd (by omega) (by omega)]
      simp only [zbs]
      rw [if_neg (by rw [zw01.2.1]; omega), R_isOwner hA1 hA ho, if_pos hr2]
      simp only [zbs]
      rw [if_neg (by rw [zw01.2.1]; omega), in_yes hr3.1 hr3.2 hb (by omega) (by omega)]
      simp only [zbs]
      rw [if_neg (by rw [zw01.2.1]; omega), m11, zw_nat (by omega), if_pos (by omega), zw_id (z := 16 + (n : Int)) (by omega) (by omega), if_pos (by omega), zw_id (z := 24 + (n : Int)) (by omega) (by omega), zi16 (by omega), zi24 (by omega)]
      simp only [zlt_]
      rw [if_pos (by omega), z6, a1]
      simp only [zbs]
      rw [z14, b1]
      simp only [zbs]
      rw [z22, d1]
      simp only [zbs]
      rw [z30, e1]
      simp only [zbs, n41]
    · rw [zput_rowk (by omega), e3 68 0 (by omega), d3 68 0 (by omega), b3 68 0 (by omega), a3 68 0 (by omega), zput_rowk (by omega), zput_rowk (by omega)]; exact hW
    · refine (frV.put.trans frV.put).trans ((frV.of43 a3).trans ((frV.of43 b3).trans ((frV.of43 d3).trans ((frV.of43 e3).trans frV.put))))
