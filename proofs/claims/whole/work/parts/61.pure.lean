/-! COMES BACK, a DAY -/
set_option maxRecDepth 8000 in
set_option maxHeartbeats 300000 in
theorem rowOK.write {A w : Nat → Int} {t : Nat} {to : Int} (hA : headOK A) (hw : rowOK A w) (ht : (t : Int) < A 1) (hto : 0 ≤ to ∧ to < A 0) : rowOK A (sWrite w t to) := by
  have h9 := hw.book
  unfold sWrite
  by_cases h : w 40 = 30
  · rw [if_pos h]
    exact (hw.shift hA h).push hA (by rw [sShift_40]; omega) ht hto
  · rw [if_neg h]
    exact hw.push hA (by omega) ht hto
set_option maxRecDepth 8000 in
set_option maxHeartbeats 300000 in
theorem sWrite_lo {w : Nat → Int} {t q : Nat} {to : Int} (h : q < 40) : sWrite w t to q = w q := by
  unfold sWrite
  rw [sPush_lo h]
  by_cases h2 : w 40 = 30
  · rw [if_pos h2, sShift_lo h]
  · rw [if_neg h2]
set_option maxRecDepth 8000 in
set_option maxHeartbeats 300000 in
theorem rowOK.setPence {A w : Nat → Int} {o : Nat} {v : Int} (hA : headOK A) (hw : rowOK A w) (ho : (o : Int) < A 0) (hv : -1000000 ≤ v ∧ v ≤ 1000000) : rowOK A (wup w o v) := by
  have h0 := hA.thg
  have h1 := hA.own
  obtain ⟨g1, g2, g3, g4, g5, g6, g7, g8, g9, g10⟩ := hw
  unfold rowOK
  rw [wup_ne (show 38 ≠ o by omega), wup_ne (show 39 ≠ o by omega), wup_ne (show 40 ≠ o by omega)]
  refine ⟨fun i hi => ?_, fun i hi h2 => ?_, fun s hs => ?_, fun s hs => ?_, fun s hs => ?_, fun s hs => ?_, g7, g8, g9, fun i hi => ?_⟩
  · by_cases h : i = o
    · subst h; rw [wup_eq]; exact hv
    · rw [wup_ne h]; exact g1 i hi
  · rw [wup_ne (by omega)]; exact g2 i hi h2
  · rw [wup_ne (by omega)]; exact g3 s hs
  · rw [wup_ne (by omega)]; exact g4 s hs
  · rw [wup_ne (by omega), wup_ne (by omega), wup_ne (by omega)]; exact g5 s hs
  · rw [wup_ne (by omega), wup_ne (by omega), wup_ne (by omega)]; exact g6 s hs
  · rw [wup_ne (by omega), wup_ne (by omega), wup_ne (by omega), wup_ne (by omega)]; exact g10 i hi
set_option maxRecDepth 8000 in
set_option maxHeartbeats 300000 in
theorem cityR.setPence {M : zM} {j o : Nat} {A w : Nat → Int} {v : Int} (hc : cityR M j A w) (h8 : A 1 ≤ 8) (ho : o < 6) : cityR (zput M 13 j o v) j A (wup w o v) := by
  obtain ⟨g1, g2, g3, g4, g5, g6, g7, g8, g9, g10, g11, g12, g13, g14, g15, g16, g17⟩ := hc
  unfold cityR
  rw [wup_ne (show 38 ≠ o by omega), wup_ne (show 39 ≠ o by omega), wup_ne (show 40 ≠ o by omega)]
  simp (disch := omega) only [if_true, if_false, true_or, or_true, true_and, and_true, not_true_eq_false, not_false_eq_true, zput_k]
  refine ⟨g1, g2, g3, g4, g5, g6, g7, g8, g9, fun i hi => ?_, g11, g12, fun s hs => ?_, fun s hs => ?_, fun s hs hk => ?_, fun s hs hk => ?_, fun i hi => ?_⟩
  · by_cases h : i = o
    · subst h; rw [wup_eq, zput_eq]
    · rw [wup_ne h, zput_j h]; exact g10 i hi
  · rw [wup_ne (by omega)]; exact g13 s hs
  · rw [wup_ne (by omega)]; exact g14 s hs
  · rw [wup_ne (by omega)] at hk
    rw [wup_ne (by omega)]; exact g15 s hs hk
  · rw [wup_ne (by omega)] at hk
    rw [wup_ne (by omega)]; exact g16 s hs hk
  · rw [g17 i hi]
    unfold cardOf
    rw [wup_ne (by omega), wup_ne (by omega), wup_ne (by omega), wup_ne (by omega)]
/-- a THING comes back -/
def sBack (T : Nat → Nat → Option zLw) (A w : Nat → Int) (t : Nat) : Nat → Int :=
  wup (wup (wup (sWrite (wup w (sLaw T A w t 2 0).toNat (clp (w (sLaw T A w t 2 0).toNat + sLaw T A w t 3 (w (sLaw T A w t 2 0).toNat)) (-1000000) 1000000)) t (sLaw T A w t 2 0)) (14 + t) (sLaw T A w t 2 0)) (22 + t) (-1)) (30 + t) (-1)
set_option maxRecDepth 8000 in
set_option maxHeartbeats 300000 in
theorem sLaw3_le {T : Nat → Nat → Option zLw} {A w : Nat → Int} {t : Nat} {pe : Int} (hw : rowOK A w) (ht : (t : Int) < A 1) : -9999 ≤ sLaw T A w t 3 pe ∧ sLaw T A w t 3 pe ≤ 9999 := by
  have h := hw.dear t ht
  unfold sLaw
  cases sRaw T A w t 3 pe with
  | none => simp (decide := true) only [if_true, if_false]; omega
  | some v =>
    simp (decide := true) only [if_true, if_false]
    exact clp_le (by omega)
set_option maxRecDepth 8000 in
set_option maxHeartbeats 300000 in
theorem sLaw0_le {T : Nat → Nat → Option zLw} {A w : Nat → Int} {t : Nat} {pe : Int} : -99 ≤ sLaw T A w t 0 pe ∧ sLaw T A w t 0 pe ≤ 99 := by
  unfold sLaw
  cases sRaw T A w t 0 pe with
  | none => simp (decide := true) only [if_true, if_false]
  | some v =>
    simp (decide := true) only [if_true, if_false]
    exact clp_le (by omega)
set_option maxRecDepth 8000 in
set_option maxHeartbeats 300000 in
theorem sLaw1_le {T : Nat → Nat → Option zLw} {A w : Nat → Int} {t : Nat} {pe : Int} : 0 ≤ sLaw T A w t 1 pe ∧ sLaw T A w t 1 pe ≤ 9999 := by
  unfold sLaw
  cases sRaw T A w t 1 pe with
  | none => simp (decide := true) only [if_true, if_false]
  | some v =>
    simp (decide := true) only [if_true, if_false]
    exact clp_le (by omega)
set_option maxRecDepth 8000 in
set_option maxHeartbeats 300000 in
theorem rowOK.back {T : Nat → Nat → Option zLw} {A w : Nat → Int} {t : Nat} (hA : headOK A) (hw : rowOK A w) (ht : (t : Int) < A 1) (hk : w (14 + t) = -1) : rowOK A (sBack T A w t) := by
  have h0 := hA.thg
  have h1 := hA.own
  have hto := sTo_le (T := T) (pe := 0) hA hw ht hk
  unfold sBack
  generalize sLaw T A w t 3 (w (sLaw T A w t 2 0).toNat) = br
  generalize sLaw T A w t 2 0 = to at hto ⊢
  have hcl := clp_le (v := w to.toNat + br) (lo := -1000000) (hi := 1000000) (by omega)
  generalize clp (w to.toNat + br) (-1000000) 1000000 = nv at hcl
  have hw1 := hw.setPence (o := to.toNat) hA (by omega) hcl
  have hw2 := hw1.write (t := t) (to := to) hA ht (by omega)
  have hd := hw2.dear t ht
  refine hw2.setThing h0.2 (by omega) (t := t) (fun q a b c d => ?_) ?_ ?_ ?_ ?_
  · simp (disch := omega) only [if_true, if_false, true_or, or_true, true_and, and_true, not_true_eq_false, not_false_eq_true, wup_ne]
  · simp (disch := omega) only [if_true, if_false, true_or, or_true, true_and, and_true, not_true_eq_false, not_false_eq_true, wup_ne]; exact hd
  · simp (disch := omega) only [if_true, if_false, true_or, or_true, true_and, and_true, not_true_eq_false, not_false_eq_true, wup_ne, wup_eq]; omega
  · simp (disch := omega) only [if_true, if_false, true_or, or_true, true_and, and_true, not_true_eq_false, not_false_eq_true, wup_ne, wup_eq]
    intro h
    omega
  · intro _
    refine ⟨?_, ?_⟩ <;> simp (disch := omega) only [if_true, if_false, true_or, or_true, true_and, and_true, not_true_eq_false, not_false_eq_true, wup_ne, wup_eq]
set_option maxRecDepth 8000 in
set_option maxHeartbeats 300000 in
theorem X_comeBack {M : zM} {j t : Nat} {T : Nat → Nat → Option zLw} {A w : Nat → Int} (hc : cityR M j A w) (hA : headOK A) (hw : rowOK A w) (hT : textsOK M (A 3) T) (ht : (t : Int) < A 1) (hk : w (14 + t) = -1) : ∃ M', f_X0_comeBack j t M = some (sLaw T A w t 2 0, M') ∧ cityR M' j A (sBack T A w t) ∧ frX j M M' := by
  have h0 := hA.thg
  have h1 := hA.own
  have hto := sTo_le (T := T) (pe := 0) hA hw ht hk
  have hbk := hw.book
  have hdy := hw.day
  have hde := hw.dear t ht
  obtain ⟨M1, e1, e2⟩ := X_lawOf hc hA hw hT ht hk (k := 2) (to := -1) (by omega) (by omega)
  rw [if_neg (by omega)] at e1
  have hc1 := hc.frame' (M' := M1) (fun k i _ _ => e2 k i (by omega) (by omega))
  have hT1 := hT.frame (M' := M1) (fun k i hk => e2 k i (by unfold txK at hk; omega) (by unfold txK at hk; omega))
  obtain ⟨M2, e3, e4⟩ := X_lawOf hc1 hA hw hT1 ht hk (k := 3) (to := sLaw T A w t 2 0) (by omega) (by omega)
  rw [if_pos (by omega)] at e3
  have hc2 := hc1.frame' (M' := M2) (fun k i _ _ => e4 k i (by omega) (by omega))
  have hb := sLaw3_le (T := T) (pe := w (sLaw T A w t 2 0).toNat) hw ht
  unfold sBack
  generalize hbr : sLaw T A w t 3 (w (sLaw T A w t 2 0).toNat) = br at hb e3
  generalize hto_ : sLaw T A w t 2 0 = to at hto e1 e3 hbr
  obtain ⟨o, rfl⟩ := Int.eq_ofNat_of_zero_le hto.1
  have hpo := hw.pence o (by omega)
  have hcp := hc2.pence o (by omega)
  rw [Int.toNat_natCast]
  have hcl := clp_le (v := w o + br) (lo := -1000000) (hi := 1000000) (by omega)
  -- with whom
  have hc3 : cityR (zput M2 16 (t + 8 * j) 4 (o : Int)) j A (wup w (14 + t) o) := by
    refine hc2.setThing h0.2 (by omega) (t := t) (fun k i h => zput_rowk (by omega)) (fun q a b c d => wup_ne b) (zput_j (by omega)) (zput_j (by omega)) ?_ ?_ ?_ ?_
    · rw [zput_j (by omega), wup_ne (by omega)]; exact hc2.dear t ht
    · rw [zput_eq, wup_eq]
    · rw [wup_eq]; intro h; omega
    · rw [wup_eq]; intro h; omega
  have hc4 := hc3.setPence (o := o) (v := clp (w o + br) (-1000000) 1000000) h0.2 (by omega)
  have hw4 : rowOK A (wup w o (clp (w o + br) (-1000000) 1000000)) := hw.setPence hA (by omega) hcl
  have f4 : frX j M (zput (zput M2 16 (t + 8 * j) 4 (o : Int)) 13 j o (clp (w o + br) (-1000000) 1000000)) := (frX.of18 e2).trans ((frX.of18 e4).trans ((frX.put16 (by omega) (by omega)).trans frX.put13))
  unfold f_X0_comeBack zlet
  simp (disch := omega) only [if_true, if_false, true_or, or_true, true_and, and_true, not_true_eq_false, not_false_eq_true, zw_id, if_pos, zix_nat]
  rw [show f_X0_lawOf j (t : Int) 2 (-1) M = some ((o : Int), M1) from e1]
  simp only [zbs]
  rw [show f_X0_lawOf j (t : Int) 3 (o : Int) M1 = some (br, M2) from e3]
  simp (disch := omega) only [if_true, if_false, true_or, or_true, true_and, and_true, not_true_eq_false, not_false_eq_true, zbs, zw_id, if_pos, zix_nat, zput_k, hcp]
  rw [X_between (by omega) (by omega) (by omega) (by omega)]
  simp (disch := omega) only [if_true, if_false, true_or, or_true, true_and, and_true, not_true_eq_false, not_false_eq_true, zbs]
  generalize hN : zput (zput M2 16 (t + 8 * j) 4 (o : Int)) 13 j o (clp (w o + br) (-1000000) 1000000) = N at hc4 f4 ⊢
  generalize hu : wup (wup w (14 + t) (o : Int)) o (clp (w o + br) (-1000000) 1000000) = u at hc4
  have u40 : u 40 = w 40 := by rw [← hu]; simp (disch := omega) only [if_true, if_false, true_or, or_true, true_and, and_true, not_true_eq_false, not_false_eq_true, wup_ne]
  have u38 : u 38 = w 38 := by rw [← hu]; simp (disch := omega) only [if_true, if_false, true_or, or_true, true_and, and_true, not_true_eq_false, not_false_eq_true, wup_ne]
  have u6 : u (6 + t) = w (6 + t) := by rw [← hu]; simp (disch := omega) only [if_true, if_false, true_or, or_true, true_and, and_true, not_true_eq_false, not_false_eq_true, wup_ne]
  -- the row that is to come, and the class's
  have fin : ∀ (N2 : zM) (u2 : Nat → Int), u2 40 < 30 → 0 ≤ u2 40 → u2 38 = w 38 → u2 (6 + t) = w (6 + t) → cityR N2 j A u2 → rowOK A u2 → frX j M N2 → (∀ q, q < 161 → q < 22 ∨ 38 ≤ q → wup (wup (wup (sWrite (wup w o (clp (w o + br) (-1000000) 1000000)) t o) (14 + t) o) (22 + t) (-1)) (30 + t) (-1) q = sPush u2 t o q) → u2 (14 + t) = o → (∀ s : Nat, s < 8 → s ≠ t → u2 (22 + s) = w (22 + s) ∧ u2 (30 + s) = w (30 + s)) → ∃ M', f_X0_comeBack_j85 j t (t + 8 * j) o N2 = some ((o : Int), M') ∧ cityR M' j A (wup (wup (wup (sWrite (wup w o (clp (w o + br) (-1000000) 1000000)) t o) (14 + t) o) (22 + t) (-1)) (30 + t) (-1)) ∧ frX j M M' := by
    intro N2 u2 hlt hge h38 h6 hcN hwN hf hq ho hs
    have hp := hcN.push (t := t) (to := o) hA hwN hlt
    have k40 : zix (u2 40) = (u2 40).toNat := zix_of hge (by omega)
    unfold f_X0_comeBack_j85 f_X10_card zlet
    simp only [zbs]
    rw [hcN.day, hcN.wrt, hcN.dear t ht, zput_k (by omega), hcN.wrt, k40]
    simp (disch := omega) only [if_true, if_false, true_or, or_true, true_and, and_true, not_true_eq_false, not_false_eq_true, zw_id, if_pos]
    refine ⟨_, rfl, ?_, hf.trans (frX.put15.trans frX.put11)⟩
    refine hp.congr h0.2 h1.2 (by rw [sPush_40]; omega) (fun _ _ => rfl) hq (fun s hs8 hsk => ?_)
    by_cases hst : s = t
    · subst hst
      rw [sPush_lo (by omega), ho] at hsk
      omega
    · rw [sPush_lo (by omega), sPush_lo (by omega)]
      have := hs s hs8 hst
      rw [this.1, this.2]
      constructor
      · simp (disch := omega) only [if_true, if_false, true_or, or_true, true_and, and_true, not_true_eq_false, not_false_eq_true, wup_ne]
        rw [sWrite_lo (by omega), wup_ne (by omega)]
      · simp (disch := omega) only [if_true, if_false, true_or, or_true, true_and, and_true, not_true_eq_false, not_false_eq_true, wup_ne]
        rw [sWrite_lo (by omega), wup_ne (by omega)]
  have r40 := hc4.wrt
  rw [u40] at r40
  rw [show zput M2 16 (t + 8 * j) 4 (o : Int) 11 j 8 = w 40 by rw [zput_k (by omega)]; exact hc2.wrt]
  have hwu : rowOK A (wup (wup (wup u (14 + t) o) (22 + t) (-1)) (30 + t) (-1)) := by
    refine hw4.setThing h0.2 (by omega) (t := t) (fun q a b c d => ?_) ?_ ?_ ?_ ?_
    · rw [← hu]
      simp (disch := omega) only [if_true, if_false, true_or, or_true, true_and, and_true, not_true_eq_false, not_false_eq_true, wup_ne]
      by_cases hqo : q = o
      · subst hqo; rw [wup_eq, wup_eq]
      · rw [wup_ne hqo, wup_ne hqo, wup_ne b]
    · simp (disch := omega) only [if_true, if_false, true_or, or_true, true_and, and_true, not_true_eq_false, not_false_eq_true, wup_ne]; omega
    · simp (disch := omega) only [if_true, if_false, true_or, or_true, true_and, and_true, not_true_eq_false, not_false_eq_true, wup_ne, wup_eq]; omega
    · simp (disch := omega) only [if_true, if_false, true_or, or_true, true_and, and_true, not_true_eq_false, not_false_eq_true, wup_ne, wup_eq]
      intro h; omega
    · intro _
      refine ⟨?_, ?_⟩ <;> simp (disch := omega) only [if_true, if_false, true_or, or_true, true_and, and_true, not_true_eq_false, not_false_eq_true, wup_ne, wup_eq]
  have hcu : cityR N j A (wup (wup (wup u (14 + t) o) (22 + t) (-1)) (30 + t) (-1)) := by
    refine hc4.congr h0.2 h1.2 (by omega) (fun _ _ => rfl) (fun q hq h => ?_) (fun s hs hsk => ?_)
    · rw [wup_ne (by omega), wup_ne (by omega)]
      by_cases hq14 : q = 14 + t
      · subst hq14; rw [wup_eq, ← hu, wup_ne (by omega), wup_eq]
      · rw [wup_ne hq14]
    · by_cases hst : s = t
      · subst hst
        rw [← hu, wup_ne (by omega), wup_eq] at hsk
        omega
      · refine ⟨?_, ?_⟩ <;> simp (disch := omega) only [if_true, if_false, true_or, or_true, true_and, and_true, not_true_eq_false, not_false_eq_true, wup_ne]
  have hU : ∀ q, q ≠ 14 + t → q ≠ 22 + t → q ≠ 30 + t → wup (wup (wup u (14 + t) (o : Int)) (22 + t) (-1)) (30 + t) (-1) q = wup w o (clp (w o + br) (-1000000) 1000000) q := by
    intro q b c d
    rw [wup_ne d, wup_ne c, wup_ne b, ← hu]
    by_cases hqo : q = o
    · subst hqo; rw [wup_eq, wup_eq]
    · rw [wup_ne hqo, wup_ne hqo, wup_ne b]
  have hU14 : wup (wup (wup u (14 + t) (o : Int)) (22 + t) (-1)) (30 + t) (-1) (14 + t) = o := by simp (disch := omega) only [if_true, if_false, true_or, or_true, true_and, and_true, not_true_eq_false, not_false_eq_true, wup_ne, wup_eq]
  generalize hu2 : wup (wup (wup u (14 + t) (o : Int)) (22 + t) (-1)) (30 + t) (-1) = u2 at hwu hcu hU hU14
  generalize hv1 : wup w o (clp (w o + br) (-1000000) 1000000) = v1 at hU hw4 fin ⊢
  have v40 : v1 40 = w 40 := by rw [← hv1, wup_ne (by omega)]
  have vs : ∀ q, 6 ≤ q → v1 q = w q := fun q hq => by rw [← hv1, wup_ne (by omega)]
  have hmain : ∀ q, q < 161 → q < 22 ∨ 38 ≤ q → wup (wup (wup (sWrite v1 t o) (14 + t) o) (22 + t) (-1)) (30 + t) (-1) q = sWrite u2 t o q := by
    intro q hq h
    rw [wup_ne (by omega), wup_ne (by omega)]
    by_cases hq14 : q = 14 + t
    · subst hq14; rw [wup_eq, sWrite_lo (by omega), hU14]
    · rw [wup_ne hq14]
      unfold sWrite
      rw [hU 40 (by omega) (by omega) (by omega)]
      by_cases h30 : v1 40 = 30
      · rw [if_pos h30, if_pos h30]
        unfold sPush
        rw [sShift_40, sShift_40, sShift_lo (show 38 < 40 by omega), sShift_lo (show 38 < 40 by omega), sShift_lo (show 6 + t < 40 by omega), sShift_lo (show 6 + t < 40 by omega), hU 38 (by omega) (by omega) (by omega), hU (6 + t) (by omega) (by omega) (by omega)]
        unfold wup
        (repeat' split) <;> first | rfl | skip
        unfold sShift
        rw [wup_ne (by omega), wup_ne (by omega)]
        split
        · rw [hU _ (by omega) (by omega) (by omega)]
        · rw [hU _ (by omega) (by omega) (by omega)]
      · rw [if_neg h30, if_neg h30]
        unfold sPush
        rw [hU 40 (by omega) (by omega) (by omega), hU 38 (by omega) (by omega) (by omega), hU (6 + t) (by omega) (by omega) (by omega)]
        unfold wup
        (repeat' split) <;> first | rfl | skip
        exact (hU _ (by omega) (by omega) (by omega)).symm
  have hU38 : u2 38 = w 38 := by rw [hU 38 (by omega) (by omega) (by omega), vs 38 (by omega)]
  have hU40 : u2 40 = w 40 := by rw [hU 40 (by omega) (by omega) (by omega), v40]
  have hU6 : u2 (6 + t) = w (6 + t) := by rw [hU _ (by omega) (by omega) (by omega), vs _ (by omega)]
  have hUs : ∀ s : Nat, s < 8 → s ≠ t → u2 (22 + s) = w (22 + s) ∧ u2 (30 + s) = w (30 + s) := fun s hs hst => ⟨by rw [hU _ (by omega) (by omega) (by omega), vs _ (by omega)], by rw [hU _ (by omega) (by omega) (by omega), vs _ (by omega)]⟩
  by_cases h30 : w 40 = 30
  · rw [if_neg (by rw [zw_id (by omega) (by omega)]; omega)]
    have hs := hcu.shift hA (by omega)
    have hws := hwu.shift hA (by omega)
    have e9 : zcopy N 15 j 1 15 j 0 29 11 j 8 - 1 = 29 := by rw [zcopy_k (by omega), r40]; omega
    rw [e9]
    refine fin _ _ (by rw [sShift_40]; omega) (by rw [sShift_40]; omega) (by rw [sShift_lo (by omega), hU38]) (by rw [sShift_lo (by omega), hU6]) hs hws (f4.trans (frX.copy15.trans frX.put11)) (fun q hq h => ?_) (by rw [sShift_lo (by omega), hU14]) (fun s hs hst => by rw [sShift_lo (by omega), sShift_lo (by omega)]; exact hUs s hs hst)
    rw [hmain q hq h]
    unfold sWrite
    rw [if_pos (by omega)]
  · rw [if_pos (by rw [zw_id (by omega) (by omega)]; omega)]
    refine fin _ _ (by omega) (by omega) hU38 hU6 hcu hwu f4 (fun q hq h => ?_) hU14 hUs
    rw [hmain q hq h]
    unfold sWrite
    rw [if_neg (by omega)]
