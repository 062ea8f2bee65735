/-! a DAY -/
def sGrow (T : Nat → Nat → Option zLw) (A w : Nat → Int) (t : Nat) : Nat → Int := wup w (6 + t) (clp (w (6 + t) + sLaw T A w t 0 0) 0 99)
/-- n THINGS have had their day -/
def sPassN (T : Nat → Nat → Option zLw) (A w : Nat → Int) : Nat → (Nat → Int) × Int
  | 0 => (wup w 38 (w 38 + 1), 0)
  | n + 1 => if (sPassN T A w n).1 (14 + n) = -1 then
      (if sGrow T A (sPassN T A w n).1 n 38 - sGrow T A (sPassN T A w n).1 n (22 + n) < sLaw T A (sGrow T A (sPassN T A w n).1 n) n 1 0 then (sGrow T A (sPassN T A w n).1 n, (sPassN T A w n).2)
       else (sBack T A (sGrow T A (sPassN T A w n).1 n) n, (sPassN T A w n).2 + 1))
    else sPassN T A w n
def sPass (T : Nat → Nat → Option zLw) (A w : Nat → Int) : (Nat → Int) × Int := sPassN T A w (A 1).toNat
set_option maxRecDepth 8000 in
set_option maxHeartbeats 300000 in
theorem rowOK.grow {T : Nat → Nat → Option zLw} {A w : Nat → Int} {t : Nat} (hA : headOK A) (hw : rowOK A w) (ht : (t : Int) < A 1) : rowOK A (sGrow T A w t) := by
  have h0 := hA.thg
  have hd := hw.dear t ht
  have hl := clp_le (v := w (6 + t) + sLaw T A w t 0 0) (lo := 0) (hi := 99) (by omega)
  unfold sGrow
  refine hw.setThing h0.2 (by omega) (t := t) (fun q a b c d => wup_ne a) ?_ ?_ ?_ ?_
  · rw [wup_eq]; exact hl
  · rw [wup_ne (by omega)]; exact hw.at_ t ht
  · rw [wup_ne (by omega), wup_ne (by omega), wup_ne (by omega)]; exact hw.kept t ht
  · rw [wup_ne (by omega), wup_ne (by omega), wup_ne (by omega)]; exact hw.free t ht
set_option maxRecDepth 8000 in
set_option maxHeartbeats 300000 in
theorem rowOK.pass1 {A w : Nat → Int} (hA : headOK A) (hw : rowOK A w) (h : w 38 < 10060) : rowOK A (wup w 38 (w 38 + 1)) := by
  have h0 := hA.thg
  obtain ⟨g1, g2, g3, g4, g5, g6, g7, g8, g9, g10⟩ := hw
  unfold rowOK
  rw [wup_eq, wup_ne (show 39 ≠ 38 by omega), wup_ne (show 40 ≠ 38 by omega)]
  refine ⟨fun i hi => ?_, fun i hi h2 => ?_, fun s hs => ?_, fun s hs => ?_, fun s hs => ?_, fun s hs => ?_, by omega, g8, g9, fun i hi => ?_⟩
  · rw [wup_ne (by omega)]; exact g1 i hi
  · rw [wup_ne (by omega)]; exact g2 i hi h2
  · rw [wup_ne (by omega)]; exact g3 s hs
  · rw [wup_ne (by omega)]; exact g4 s hs
  · rw [wup_ne (by omega), wup_ne (by omega), wup_ne (by omega)]
    intro hk
    have := g5 s hs hk
    omega
  · rw [wup_ne (by omega), wup_ne (by omega), wup_ne (by omega)]; exact g6 s hs
  · rw [wup_ne (by omega), wup_ne (by omega), wup_ne (by omega), wup_ne (by omega)]; exact g10 i hi
set_option maxRecDepth 8000 in
set_option maxHeartbeats 300000 in
theorem rowOK.passN {T : Nat → Nat → Option zLw} {A w : Nat → Int} (hA : headOK A) (hw : rowOK A w) (h : w 38 < 10060) {n : Nat} (hn : (n : Int) ≤ A 1) : rowOK A (sPassN T A w n).1 := by
  induction n with
  | zero => exact hw.pass1 hA h
  | succ n ih =>
    have ih := ih (by omega)
    have hg := ih.grow (T := T) (t := n) hA (by omega)
    unfold sPassN
    by_cases hk : (sPassN T A w n).1 (14 + n) = -1
    · rw [if_pos hk]
      split
      · exact hg
      · exact hg.back hA (by omega) (by unfold sGrow; rw [wup_ne (by omega)]; exact hk)
    · rw [if_neg hk]; exact ih
set_option maxRecDepth 8000 in
set_option maxHeartbeats 300000 in
theorem sBack_38 {T : Nat → Nat → Option zLw} {A w : Nat → Int} {t : Nat} (hA : headOK A) (hw : rowOK A w) (ht : (t : Int) < A 1) (hk : w (14 + t) = -1) : sBack T A w t 38 = w 38 := by
  have h0 := hA.thg
  have h1 := hA.own
  have hto := sTo_le (T := T) (pe := 0) hA hw ht hk
  unfold sBack
  rw [wup_ne (by omega), wup_ne (by omega), wup_ne (by omega), sWrite_lo (by omega), wup_ne (by omega)]
set_option maxRecDepth 8000 in
set_option maxHeartbeats 300000 in
theorem sPassN_38 {T : Nat → Nat → Option zLw} {A w : Nat → Int} (hA : headOK A) (hw : rowOK A w) (h : w 38 < 10060) {n : Nat} (hn : (n : Int) ≤ A 1) : (sPassN T A w n).1 38 = w 38 + 1 := by
  have h0 := hA.thg
  induction n with
  | zero => exact wup_eq w 38 (w 38 + 1)
  | succ n ih =>
    have ih := ih (by omega)
    have hg := (rowOK.passN (T := T) hA hw h (n := n) (by omega)).grow (T := T) (t := n) hA (by omega)
    unfold sPassN
    by_cases hk : (sPassN T A w n).1 (14 + n) = -1
    · have h14 : sGrow T A (sPassN T A w n).1 n (14 + n) = -1 := by unfold sGrow; rw [wup_ne (by omega)]; exact hk
      have h38 : sGrow T A (sPassN T A w n).1 n 38 = w 38 + 1 := by unfold sGrow; rw [wup_ne (by omega)]; exact ih
      rw [if_pos hk]
      split
      · exact h38
      · exact (sBack_38 hA hg (by omega) h14).trans h38
    · rw [if_neg hk]; exact ih
set_option maxRecDepth 8000 in
set_option maxHeartbeats 300000 in
theorem sPassN_le {T : Nat → Nat → Option zLw} {A w : Nat → Int} {n : Nat} : 0 ≤ (sPassN T A w n).2 ∧ (sPassN T A w n).2 ≤ n := by
  induction n with
  | zero => exact ⟨Int.le_refl _, Int.le_refl _⟩
  | succ n ih =>
    unfold sPassN
    split
    · split
      · dsimp only; omega
      · dsimp only; omega
    · omega
set_option maxRecDepth 8000 in
set_option maxHeartbeats 300000 in
theorem X_grow {M : zM} {j t : Nat} {T : Nat → Nat → Option zLw} {A w : Nat → Int} (hc : cityR M j A w) (hA : headOK A) (hw : rowOK A w) (hT : textsOK M (A 3) T) (ht : (t : Int) < A 1) (hk : w (14 + t) = -1) : ∃ M', f_X0_grow j t M = some M' ∧ cityR M' j A (sGrow T A w t) ∧ frX j M M' := by
  have h0 := hA.thg
  have hd := hw.dear t ht
  have hl := sLaw0_le (T := T) (A := A) (w := w) (t := t) (pe := 0)
  obtain ⟨M1, e1, e2⟩ := X_lawOf hc hA hw hT ht hk (k := 0) (to := -1) (by omega) (by omega)
  rw [if_neg (by omega)] at e1
  have hc1 := hc.frame' (M' := M1) (fun k i _ _ => e2 k i (by omega) (by omega))
  unfold f_X0_grow zlet
  simp (disch := omega) only [if_true, if_false, true_or, or_true, true_and, and_true, not_true_eq_false, not_false_eq_true, zw_id, if_pos, zix_nat]
  rw [show f_X0_lawOf j (t : Int) 0 (-1) M = some (sLaw T A w t 0 0, M1) from e1, hc.dear t ht]
  simp (disch := omega) only [if_true, if_false, true_or, or_true, true_and, and_true, not_true_eq_false, not_false_eq_true, zbs]
  rw [X_between (by omega) (by omega) (by omega) (by omega)]
  simp (disch := omega) only [if_true, if_false, true_or, or_true, true_and, and_true, not_true_eq_false, not_false_eq_true, zbs]
  refine ⟨_, rfl, ?_, (frX.of18 e2).trans (frX.put16 (by omega) (by omega))⟩
  unfold sGrow
  refine hc1.setThing h0.2 (by omega) (t := t) (fun k i h => zput_rowk (by omega)) (fun q a b c d => wup_ne a) (zput_j (by omega)) (zput_j (by omega)) ?_ ?_ ?_ ?_
  · rw [zput_eq, wup_eq]
  · rw [zput_j (by omega), wup_ne (by omega)]; exact hc1.with_ t ht
  · rw [zput_j (by omega), wup_ne (by omega), wup_ne (by omega)]; exact hc1.since t ht
  · rw [zput_j (by omega), wup_ne (by omega), wup_ne (by omega)]; exact hc1.from_ t ht
set_option maxRecDepth 8000 in
set_option maxHeartbeats 300000 in
theorem frX.txt {j : Nat} {M M' : zM} {n : Int} {T : Nat → Nat → Option zLw} (h : frX j M M') (hT : textsOK M n T) : textsOK M' n T := hT.frame (fun k i hk => h.1 k i (by unfold txK at hk; omega) (by unfold txK at hk; omega) (by unfold txK at hk; omega) (by unfold txK at hk; omega) (by unfold txK at hk; omega) (by unfold txK at hk; omega))
set_option maxRecDepth 8000 in
set_option maxHeartbeats 300000 in
theorem cityR.pass1 {M : zM} {j : Nat} {A w : Nat → Int} (hc : cityR M j A w) (h8 : A 1 ≤ 8) : cityR (zput M 11 j 10 (w 38 + 1)) j A (wup w 38 (w 38 + 1)) := by
  obtain ⟨g1, g2, g3, g4, g5, g6, g7, g8, g9, g10, g11, g12, g13, g14, g15, g16, g17⟩ := hc
  unfold cityR
  rw [wup_eq, wup_ne (show 39 ≠ 38 by omega), wup_ne (show 40 ≠ 38 by omega)]
  simp (disch := omega) only [if_true, if_false, true_or, or_true, true_and, and_true, not_true_eq_false, not_false_eq_true, zput_eq, zput_j, zput_k]
  refine ⟨g1, g2, g3, g4, g6, g7, g8, g9, fun i hi => ?_, g11, g12, fun s hs => ?_, fun s hs => ?_, fun s hs hk => ?_, fun s hs hk => ?_, fun i hi => ?_⟩
  · rw [wup_ne (by omega)]; exact g10 i hi
  · rw [wup_ne (by omega)]; exact g13 s hs
  · rw [wup_ne (by omega)]; exact g14 s hs
  · rw [wup_ne (by omega)] at hk
    rw [wup_ne (by omega)]; exact g15 s hs hk
  · rw [wup_ne (by omega)] at hk
    rw [wup_ne (by omega)]; exact g16 s hs hk
  · rw [g17 i hi]
    unfold cardOf
    rw [wup_ne (by omega), wup_ne (by omega), wup_ne (by omega), wup_ne (by omega)]
set_option maxRecDepth 8000 in
set_option maxHeartbeats 300000 in
theorem X_passOne {M : zM} {j : Nat} {T : Nat → Nat → Option zLw} {A w : Nat → Int} (hc : cityR M j A w) (hA : headOK A) (hw : rowOK A w) (hT : textsOK M (A 3) T) (h : w 38 < 10060) : ∃ M', f_X0_passOne j M = some ((sPass T A w).2, M') ∧ cityR M' j A (sPass T A w).1 ∧ frX j M M' := by
  have h0 := hA.thg
  have hd := hw.day
  obtain ⟨n, hn⟩ := Int.eq_ofNat_of_zero_le h0.1
  have e : (A 1).toNat = n := by omega
  unfold f_X0_passOne zlet sPass
  rw [hc.day, e]
  have key := zT_for (body := fun s : Int × Int × zM => f_X0_passOne_L14 j s.1 s.2.1 s.2.2) (fun i s => s.1 = (sPassN T A w i).2 ∧ s.2.1 = (i : Int) ∧ cityR s.2.2 j A (sPassN T A w i).1 ∧ frX j M s.2.2) n (Q := fun r => r.1 = (sPassN T A w n).2 ∧ cityR r.2 j A (sPassN T A w n).1 ∧ frX j M r.2) ?_ (m := zF) (by unfold zF; omega) (s := (0, 0, zput M 11 j 10 (w 38 + 1))) ⟨rfl, rfl, hc.pass1 h0.2, frX.put11⟩
  · obtain ⟨⟨r1, r2⟩, k1, k2, k3, k4⟩ := key
    dsimp only at k2 k3 k4
    subst k2
    dsimp only
    rw [k1]
    exact ⟨r2, rfl, k3, k4⟩
  · rintro i ⟨x, y, N⟩ hi ⟨h1, h2, h3, h4⟩
    dsimp only at h1 h2 h3 h4 ⊢
    subst h1 h2
    unfold f_X0_passOne_L14
    rw [h3.thg]
    by_cases hin : i = n
    · subst hin
      rw [zw_id (by omega) (by omega), zw_id (by omega) (by omega), if_pos (by omega)]
      exact zT_some (Or.inr ⟨_, rfl, rfl, h3, h4⟩)
    · have hwi := hw.passN (T := T) hA h (n := i) (by omega)
      have hTi := h4.txt hT
      rw [zw_id (by omega) (by omega), zw_id (by omega) (by omega), if_neg (by omega), X_isKept h3 hA hwi (by omega)]
      have hs : sPassN T A w (i + 1) = (if (sPassN T A w i).1 (14 + i) = -1 then (if sGrow T A (sPassN T A w i).1 i 38 - sGrow T A (sPassN T A w i).1 i (22 + i) < sLaw T A (sGrow T A (sPassN T A w i).1 i) i 1 0 then (sGrow T A (sPassN T A w i).1 i, (sPassN T A w i).2) else (sBack T A (sGrow T A (sPassN T A w i).1 i) i, (sPassN T A w i).2 + 1)) else sPassN T A w i) := rfl
      by_cases hk : (sPassN T A w i).1 (14 + i) = -1
      · rw [if_pos hk] at hs
        rw [if_pos (show (0 ≤ (i : Int) ∧ (i : Int) < A 1) ∧ (sPassN T A w i).1 (14 + (i : Int).toNat) = -1 from ⟨by omega, by rw [Int.toNat_natCast]; exact hk⟩)]
        simp (disch := omega) only [if_true, if_false, true_or, or_true, true_and, and_true, not_true_eq_false, not_false_eq_true, zbs, zw_id, if_neg]
        obtain ⟨N1, a1, a2, a3⟩ := X_grow h3 hA hwi hTi (t := i) (by omega) hk
        have hwg := hwi.grow (T := T) (t := i) hA (by omega)
        have hT1 := a3.txt hTi
        have hkg : sGrow T A (sPassN T A w i).1 i (14 + i) = -1 := by unfold sGrow; rw [wup_ne (by omega)]; exact hk
        rw [a1]
        generalize hg : sGrow T A (sPassN T A w i).1 i = g at hs a2 hwg hkg
        obtain ⟨N2, b1, b2⟩ := X_lawOf a2 hA hwg hT1 (t := i) (by omega) hkg (k := 1) (to := -1) (by omega) (by omega)
        rw [if_neg (by omega)] at b1
        have hl1 := sLaw1_le (T := T) (A := A) (w := g) (t := i) (pe := 0)
        have hc2 := a2.frame' (M' := N2) (fun k i _ _ => b2 k i (by omega) (by omega))
        have f2 : frX j M N2 := h4.trans (a3.trans (frX.of18 b2))
        have hkk := hwg.kept i (by omega) hkg
        have hdg := hwg.day
        simp (disch := omega) only [if_true, if_false, true_or, or_true, true_and, and_true, not_true_eq_false, not_false_eq_true, zbs, zw_id, if_pos, zix_nat]
        rw [show f_X0_lawOf j (i : Int) 1 (-1) N1 = some (sLaw T A g i 1 0, N2) from b1]
        simp (disch := omega) only [if_true, if_false, true_or, or_true, true_and, and_true, not_true_eq_false, not_false_eq_true, zbs, a2.day, a2.since i (by omega) hkg, zw_id]
        by_cases hq : g 38 - g (22 + i) < sLaw T A g i 1 0
        · rw [if_pos hq] at hs ⊢
          unfold f_X0_passOne_j68
          refine zT_some (Or.inl ⟨_, rfl, by omega, ?_⟩)
          rw [hs]
          exact ⟨rfl, rfl, hc2, f2⟩
        · rw [if_neg hq] at hs ⊢
          obtain ⟨N3, d1, d2, d3⟩ := X_comeBack hc2 hA hwg ((frX.of18 (j := j) b2).txt hT1) (t := i) (by omega) hkg
          rw [d1]
          unfold f_X0_passOne_j68
          simp only [zbs]
          refine zT_some (Or.inl ⟨_, rfl, by omega, ?_⟩)
          rw [hs]
          exact ⟨rfl, rfl, d2, f2.trans d3⟩
      · rw [if_neg hk] at hs
        rw [if_neg (show ¬ ((0 ≤ (i : Int) ∧ (i : Int) < A 1) ∧ (sPassN T A w i).1 (14 + (i : Int).toNat) = -1) from fun z => hk (by rw [Int.toNat_natCast] at z; exact z.2))]
        unfold f_X0_passOne_j68
        simp (disch := omega) only [if_true, if_false, true_or, or_true, true_and, and_true, not_true_eq_false, not_false_eq_true, zbs, zw_id, if_pos]
        refine zT_some (Or.inl ⟨_, rfl, by omega, ?_⟩)
        rw [hs]
        exact ⟨rfl, rfl, h3, h4⟩
set_option maxRecDepth 8000 in
set_option maxHeartbeats 300000 in
theorem R_dayPasses {M : zM} {T : Nat → Nat → Option zLw} {A w : Nat → Int} (hM : M 43 0 = A) (hW : M 68 0 = w) (hA : headOK A) (hw : rowOK A w) (hT : textsOK M (A 3) T) (h : w 38 < 10060) : ∃ M', f_X11_dayPasses M = some ((sPass T A w).2, M') ∧ M' 68 0 = (sPass T A w).1 ∧ frR M M' := by
  have h0 := hA.thg
  have hd := hw.day
  obtain ⟨n, hn⟩ := Int.eq_ofNat_of_zero_le h0.1
  have e : (A 1).toNat = n := by omega
  unfold f_X11_dayPasses zlet sPass
  rw [hW, e]
  have key := zT_for (body := fun s : Int × Int × zM => f_X11_dayPasses_L15 s.1 s.2.1 s.2.2) (fun i s => s.1 = (sPassN T A w i).2 ∧ s.2.1 = (i : Int) ∧ s.2.2 68 0 = (sPassN T A w i).1 ∧ frR M s.2.2) n (Q := fun r => r.1 = (sPassN T A w n).2 ∧ r.2 68 0 = (sPassN T A w n).1 ∧ frR M r.2) ?_ (m := zF) (by unfold zF; omega) (s := (0, 0, zput M 68 0 38 (w 38 + 1))) ⟨rfl, rfl, by show zput M 68 0 38 (w 38 + 1) 68 0 = wup w 38 (w 38 + 1); rw [zput_wup, hW], frR.put⟩
  · obtain ⟨⟨r1, r2⟩, k1, k2, k3, k4⟩ := key
    dsimp only at k2 k3 k4
    subst k2
    dsimp only
    rw [k1]
    exact ⟨r2, rfl, k3, k4⟩
  · rintro i ⟨x, y, N⟩ hi ⟨h1, h2, h3, h4⟩
    dsimp only at h1 h2 h3 h4 ⊢
    subst h1 h2
    have hMN : N 43 0 = A := by rw [h4 43 0 (by omega) (by omega) (by omega)]; exact hM
    unfold f_X11_dayPasses_L15
    simp only [hMN]
    by_cases hin : i = n
    · subst hin
      rw [zw_id (by omega) (by omega), zw_id (by omega) (by omega), if_pos (by omega)]
      exact zT_some (Or.inr ⟨_, rfl, rfl, h3, h4⟩)
    · have hwi := hw.passN (T := T) hA h (n := i) (by omega)
      have hTi := h4.txt hT
      rw [zw_id (by omega) (by omega), zw_id (by omega) (by omega), if_neg (by omega), R_isKept h3 hwi hA (by omega)]
      have hs : sPassN T A w (i + 1) = (if (sPassN T A w i).1 (14 + i) = -1 then (if sGrow T A (sPassN T A w i).1 i 38 - sGrow T A (sPassN T A w i).1 i (22 + i) < sLaw T A (sGrow T A (sPassN T A w i).1 i) i 1 0 then (sGrow T A (sPassN T A w i).1 i, (sPassN T A w i).2) else (sBack T A (sGrow T A (sPassN T A w i).1 i) i, (sPassN T A w i).2 + 1)) else sPassN T A w i) := rfl
      by_cases hk : (sPassN T A w i).1 (14 + i) = -1
      · rw [if_pos hk] at hs ⊢
        have hde := hwi.dear i (by omega)
        have hl0 := sLaw0_le (T := T) (A := A) (w := (sPassN T A w i).1) (t := i) (pe := 0)
        obtain ⟨N1, a1, a2⟩ := R_dears hMN h3 hA hwi hTi (t := i) (by omega) hk
        simp (disch := omega) only [if_true, if_false, true_or, or_true, true_and, and_true, not_true_eq_false, not_false_eq_true, zbs, zw_id, if_neg, if_pos, zi6, zi22, a1, h3, zlt_]
        rw [R_held (by omega) (by omega) (by omega) (by omega)]
        simp (disch := omega) only [if_true, if_false, true_or, or_true, true_and, and_true, not_true_eq_false, not_false_eq_true, zbs, zw_id, if_neg, if_pos, zi6, zi22]
        have hW2 : zput N1 68 0 (6 + i) (clp ((sPassN T A w i).1 (6 + i) + sLaw T A (sPassN T A w i).1 i 0 0) 0 99) 68 0 = sGrow T A (sPassN T A w i).1 i := by
          rw [zput_wup, a2 68 0 (by omega) (by omega), h3]; rfl
        have f2 : frR M (zput N1 68 0 (6 + i) (clp ((sPassN T A w i).1 (6 + i) + sLaw T A (sPassN T A w i).1 i 0 0) 0 99)) := h4.trans ((frR.of a2).trans frR.put)
        generalize zput N1 68 0 (6 + i) (clp ((sPassN T A w i).1 (6 + i) + sLaw T A (sPassN T A w i).1 i 0 0) 0 99) = N2 at hW2 f2 ⊢
        have hwg := hwi.grow (T := T) (t := i) hA (by omega)
        have hkg : sGrow T A (sPassN T A w i).1 i (14 + i) = -1 := by unfold sGrow; rw [wup_ne (by omega)]; exact hk
        generalize hg : sGrow T A (sPassN T A w i).1 i = g at hs hW2 hwg hkg
        have hMN2 : N2 43 0 = A := by rw [f2 43 0 (by omega) (by omega) (by omega)]; exact hM
        obtain ⟨N3, b1, b2⟩ := R_after hMN2 hW2 hA hwg (f2.txt hT) (t := i) (by omega) hkg
        have hl1 := sLaw1_le (T := T) (A := A) (w := g) (t := i) (pe := 0)
        have hkk := hwg.kept i (by omega) hkg
        have hdg := hwg.day
        have f3 := f2.trans (frR.of b2)
        have hMN3 : N3 43 0 = A := by rw [f3 43 0 (by omega) (by omega) (by omega)]; exact hM
        have hW3 : N3 68 0 = g := by rw [b2 68 0 (by omega) (by omega)]; exact hW2
        rw [b1]
        simp (disch := omega) only [if_true, if_false, true_or, or_true, true_and, and_true, not_true_eq_false, not_false_eq_true, zbs, hW2, zw_id]
        by_cases hq : g 38 - g (22 + i) < sLaw T A g i 1 0
        · rw [if_pos hq] at hs ⊢
          unfold f_X11_dayPasses_j98
          refine zT_some (Or.inl ⟨_, rfl, by omega, ?_⟩)
          rw [hs]
          exact ⟨rfl, rfl, hW3, f3⟩
        · rw [if_neg hq] at hs ⊢
          obtain ⟨N4, d1, d2, d3⟩ := R_comesBack hMN3 hW3 hA hwg (f3.txt hT) (t := i) (by omega) hkg
          rw [d1]
          unfold f_X11_dayPasses_j98
          simp only [zbs]
          refine zT_some (Or.inl ⟨_, rfl, by omega, ?_⟩)
          rw [hs]
          exact ⟨rfl, rfl, d2, f3.trans d3⟩
      · rw [if_neg hk] at hs ⊢
        unfold f_X11_dayPasses_j98
        simp (disch := omega) only [if_true, if_false, true_or, or_true, true_and, and_true, not_true_eq_false, not_false_eq_true, zbs, zw_id, if_pos]
        refine zT_some (Or.inl ⟨_, rfl, by omega, ?_⟩)
        rw [hs]
        exact ⟨rfl, rfl, h3, h4⟩
