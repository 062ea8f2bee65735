/-! call: since -/
set_option maxRecDepth 8000 in
set_option maxHeartbeats 2000000 in
theorem R_since {M : zM} {T : Nat → Nat → Option zLw} {A W : Nat → Int} {t : Nat} {d0 d1 y : Int} (hM : M 43 0 = A) (hW : M 68 0 = W) (hA : headOK A) (hT : textsOK M (A 3) T) (l2 : rowOK A (sLay A W)) (l3 : sLay A W 38 ≤ 9999) (ht : (t : Int) < A 1) (h0 : 0 ≤ d0 ∧ d0 ≤ 99) (h1 : 0 ≤ d1 ∧ d1 ≤ 99) (hy : -2147483648 ≤ y ∧ y ≤ 2147483647) : ∃ M', f_X11_since t d0 d1 y M = some (sFo T A (sLay A W) t d0 d1 y 61, M') ∧ frV M M' ∧ M' 43 0 = A := by
  have a1 := hA.thg
  have a0 := hA.own
  obtain ⟨N0, p1, p2, p3⟩ := R_lay hM
  rw [hW] at p3
  have hN0 : N0 43 0 = A := by rw [p2 43 0 (by omega)]; exact hM
  have hTN : textsOK N0 (A 3) T := hT.frame (fun k i hk => p2 k i (by unfold txK at hk; omega))
  generalize sLay A W = w at l2 l3 p3
  have hday := l2.day
  have hat := l2.at_ t ht
  have rok := sinR_ok (T := T) hA l2 l3 ht h0
  -- all days
  have run : ∀ N : zM, N 68 0 = wup (sinU w t d0) (14 + t) (w (14 + t)) → frR N0 N → ∃ M', (zlp (fun s : Int × Int × zM => f_X11_since_L104 (t : Int) d1 y s.1 s.2.1 s.2.2) zF ((-1), 0, N)).bind (fun y20 => some (y20.1, y20.2)) = some (sFo T A w t d0 d1 y 61, M') ∧ frR N0 M' := by
    intro N hN hf
    have key := zT_for (body := fun s : Int × Int × zM => f_X11_since_L104 (t : Int) d1 y s.1 s.2.1 s.2.2) (fun k s => s.1 = sFo T A w t d0 d1 y k ∧ s.2.1 = (k : Int) ∧ s.2.2 68 0 = wup (sinR T A w t d0 k) (14 + t) (w (14 + t)) ∧ frR N0 s.2.2) 61 (Q := fun e => e.1 = sFo T A w t d0 d1 y 61 ∧ frR N0 e.2) ?_ (m := zF) (by unfold zF; omega) (s := (-1, 0, N)) ⟨rfl, rfl, hN, hf⟩
    · obtain ⟨⟨r, M'⟩, k1, k2, k3⟩ := key
      dsimp only at k2 k3
      refine ⟨M', ?_, k3⟩
      rw [k1]
      simp only [zbs, k2]
    · rintro k ⟨f, dd, N2⟩ hk ⟨q1, q2, q3, q4⟩
      dsimp only at q1 q2 q3 q4 ⊢
      subst q1 q2
      have hfl := sFo_le (T := T) (A := A) (w := w) (t := t) (d0 := d0) (d1 := d1) (y := y) k
      unfold f_X11_since_L104
      rw [zw_nat (by omega)]
      by_cases h61 : k = 61
      · subst h61
        rw [if_pos (by omega)]
        exact zT_some (Or.inr ⟨_, rfl, rfl, q4⟩)
      · obtain ⟨r1, r2, r3⟩ := rok k (by omega)
        have hde := r1.dear t ht
        have g6 : N2 68 0 (6 + t) = sinR T A w t d0 k (6 + t) := by rw [q3, wup_ne (by omega)]
        have hst : sFo T A w t d0 d1 y (k + 1) = if sinR T A w t d0 k (6 + t) = d1 ∧ (y ≠ 0 ∨ sFo T A w t d0 d1 y k = -1) then (k : Int) else sFo T A w t d0 d1 y k := rfl
        have go : ∀ g : Int, g = sFo T A w t d0 d1 y (k + 1) → zT (f_X11_since_j139 (t : Int) d1 y g (k : Int) N2) (fun r => (∃ s', r = .inl s' ∧ k < 61 ∧ s'.1 = sFo T A w t d0 d1 y (k + 1) ∧ s'.2.1 = ((k + 1 : Nat) : Int) ∧ s'.2.2 68 0 = wup (sinR T A w t d0 (k + 1)) (14 + t) (w (14 + t)) ∧ frR N0 s'.2.2) ∨ ∃ e, r = .inr e ∧ e.1 = sFo T A w t d0 d1 y 61 ∧ frR N0 e.2) := by
          intro g hg
          have g38 : N2 68 0 38 = sinR T A w t d0 k 38 := by rw [q3, wup_ne (by omega)]
          have p1' := r1.pass1 hA (by omega)
          have hkp : wup (sinR T A w t d0 k) 38 (sinR T A w t d0 k 38 + 1) (14 + t) = -1 := by rw [wup_ne (by omega)]; exact r3
          have hge := sEnv_good (pe := 0) hA p1' ht hkp (by omega)
          have hN3 : zput N2 68 0 38 (sinR T A w t d0 k 38 + 1) 68 0 = wup (wup (sinR T A w t d0 k) 38 (sinR T A w t d0 k 38 + 1)) (14 + t) (w (14 + t)) := by
            rw [zput_wup, q3, wup_comm (by omega)]
          have f3 : frR N0 (zput N2 68 0 38 (sinR T A w t d0 k 38 + 1)) := q4.trans frR.put
          have hA3 : zput N2 68 0 38 (sinR T A w t d0 k 38 + 1) 43 0 = A := by rw [f3 43 0 (by omega) (by omega) (by omega)]; exact hN0
          have g6' : zput N2 68 0 38 (sinR T A w t d0 k 38 + 1) 68 0 (6 + t) = sinR T A w t d0 k (6 + t) := by rw [zput_j (by omega)]; exact g6
          have hs : sinR T A w t d0 (k + 1) = wup (wup (sinR T A w t d0 k) 38 (sinR T A w t d0 k 38 + 1)) (6 + t) (clp (sinR T A w t d0 k (6 + t) + sLaw T A (wup (sinR T A w t d0 k) 38 (sinR T A w t d0 k 38 + 1)) t 0 0) 0 99) := by
            show sGrow T A _ t = _
            unfold sGrow
            rw [wup_ne (show 6 + t ≠ 38 by omega)]
          generalize wup (sinR T A w t d0 k) 38 (sinR T A w t d0 k 38 + 1) = u at hN3 hge hs
          obtain ⟨N4, b1, b2⟩ := R_dearsE (T := T) hA3 hN3 hA (f3.txt hTN) (t := t) (by omega) (by rw [sEnv_at (by omega)]; exact hge)
          rw [sLaw0_at (by omega)] at b1
          have hl0 := sLaw0_le (T := T) (A := A) (w := u) (t := t) (pe := 0)
          have h4 : N4 68 0 = wup u (14 + t) (w (14 + t)) := by rw [b2 68 0 (by omega) (by omega)]; exact hN3
          unfold f_X11_since_j139
          rw [g38]
          simp only [zlt_]
          rw [zw_id (z := 6 + (t : Int)) (by omega) (by omega), if_pos (by omega), b1]
          simp only [zbs]
          rw [zi6 (by omega), g6', zw_id (z := sinR T A w t d0 k (6 + t) + sLaw T A u t 0 0) (by omega) (by omega), R_held (by omega) (by omega) (by omega) (by omega)]
          simp only [zbs]
          rw [if_pos (by omega)]
          refine zT_some (Or.inl ⟨_, rfl, by omega, hg, by dsimp only; omega, ?_, f3.trans ((frR.of b2).trans frR.put)⟩)
          dsimp only
          rw [zput_wup, h4, wup_comm (by omega), hs]
        rw [if_neg (by omega), zw_id (z := 6 + (t : Int)) (by omega) (by omega), if_pos (by omega), zi6 (by omega), g6, zw_id (z := sinR T A w t d0 k (6 + t)) (by omega) (by omega), zw_id (z := d1) (by omega) (by omega), zw_id (z := y) (by omega) (by omega), zw_id (z := sFo T A w t d0 d1 y k) (by omega) (by omega)]
        unfold f_X11_since_j135
        by_cases hq : sinR T A w t d0 k (6 + t) = d1
        · rw [if_neg (nn_ hq)]
          by_cases hy0 : y = 0
          · rw [if_neg (nn_ hy0)]
            by_cases hf1 : sFo T A w t d0 d1 y k = -1
            · rw [if_neg (nn_ hf1)]
              exact go _ (by rw [hst, if_pos ⟨hq, Or.inr hf1⟩])
            · rw [if_pos hf1]
              exact go _ (by rw [hst, if_neg (fun z => by rcases z.2 with q | q; exact q hy0; exact hf1 q)])
          · rw [if_pos hy0]
            exact go _ (by rw [hst, if_pos ⟨hq, Or.inl hy0⟩])
        · rw [if_pos hq]
          exact go _ (by rw [hst, if_neg (fun z => hq z.1)])
  have set : ∀ fr : Int, fr = (if w (14 + t) = -1 then w (30 + t) else w (14 + t)) → ∃ M', f_X11_since_j71 t d0 d1 y fr (30 + (t : Int)) N0 = some (sFo T A w t d0 d1 y 61, M') ∧ frR N0 M' := by
    intro fr hfr
    have hN : zput (zput (zput N0 68 0 (30 + t) fr) 68 0 (22 + t) (w 38)) 68 0 (6 + t) d0 68 0 = wup (sinU w t d0) (14 + t) (w (14 + t)) := by
      rw [zput_wup, zput_wup, zput_wup, p3]
      unfold sinU
      rw [← hfr]
      funext q
      unfold wup
      (repeat' split) <;> first | rfl | omega | (congr 1 <;> omega)
    have r := run _ hN (frR.put.trans (frR.put.trans frR.put))
    have m38 : N0 68 0 38 = w 38 := by rw [p3]
    unfold f_X11_since_j71
    simp (disch := omega) only [if_true, if_false, true_or, or_true, true_and, and_true, not_true_eq_false, not_false_eq_true, zw_id, if_pos, zi30, zi22, zi6, zlt_, zput_j, m38]
    exact r
  have fin : ∀ fr : Int, fr = (if w (14 + t) = -1 then w (30 + t) else w (14 + t)) → f_X11_since t d0 d1 y M = f_X11_since_j71 t d0 d1 y fr (30 + (t : Int)) N0 → ∃ M', f_X11_since t d0 d1 y M = some (sFo T A w t d0 d1 y 61, M') ∧ frV M M' ∧ M' 43 0 = A := by
    intro fr hfr he
    obtain ⟨M', r1, r2⟩ := set fr hfr
    exact ⟨M', he.trans r1, (frV.of68 p2).trans r2.v, by rw [r2 43 0 (by omega) (by omega) (by omega)]; exact hN0⟩
  have start : f_X11_since t d0 d1 y M = (f_X11_isKept (t : Int) N0).bind (fun p5 => if zw p5.1 = 0 then (if 0 ≤ zw (14 + (t : Int)) ∧ zw (14 + (t : Int)) < 161 then f_X11_since_j71 t d0 d1 y (p5.2 68 0 (zix (14 + (t : Int)))) (30 + (t : Int)) p5.2 else none) else (if 0 ≤ zw (30 + (t : Int)) ∧ zw (30 + (t : Int)) < 161 then f_X11_since_j71 t d0 d1 y (p5.2 68 0 (zix (30 + (t : Int)))) (30 + (t : Int)) p5.2 else none)) := by
    unfold f_X11_since
    rw [R_isThing hM hA (by omega), if_pos (by omega)]
    simp only [zbs]
    rw [if_neg (by rw [zw01.2.1]; omega), in_yes h0.1 h0.2 (by omega) (by omega) (by omega)]
    simp only [zbs]
    rw [if_neg (by rw [zw01.2.1]; omega), in_yes h1.1 h1.2 (by omega) (by omega) (by omega)]
    simp only [zbs]
    rw [if_pos (by rw [zw01.2.1]; omega), p1]
    simp only [zbs]
  by_cases hk : w (14 + t) = -1
  · refine fin (w (30 + t)) (by rw [if_pos hk]) ?_
    rw [start, R_kept p3 l2 hA ht hk]
    simp only [zbs]
    rw [if_neg (by rw [zw01.2.1]; omega), zw_id (z := 30 + (t : Int)) (by omega) (by omega), if_pos (by omega), zi30 (by omega), p3]
  · refine fin (w (14 + t)) (by rw [if_neg hk]) ?_
    rw [start, R_keptno p3 l2 hA ht hk]
    simp only [zbs]
    rw [if_pos zw_0, zw_id (z := 14 + (t : Int)) (by omega) (by omega), if_pos (by omega), zi14 (by omega), p3]
set_option maxRecDepth 8000 in
set_option maxHeartbeats 2000000 in
theorem call_since {M : zM} {v d0 d1 y : Int} (h : zI M) (hv : -2147483648 ≤ v ∧ v ≤ 2147483647) (h0 : -2147483648 ≤ d0 ∧ d0 ≤ 2147483647) (h1 : -2147483648 ≤ d1 ∧ d1 ≤ 2147483647) (hy : -2147483648 ≤ y ∧ y ≤ 2147483647) : zCall (f_X10_since v d0 d1 y M) (fun N => f_X11_since v d0 d1 y N) := by
  have hz := h
  obtain ⟨T, hI⟩ := h
  have w0 := hI.w0
  have hT := hI.txt
  generalize hAA : M 43 0 = A at w0 hT
  have hA := w0.head
  have a1 := hA.thg
  generalize hWW : M 68 0 = W
  obtain ⟨l1, l2, l3⟩ := w0.lay (W := W)
  by_cases hr : (0 ≤ v ∧ v < A 1) ∧ (0 ≤ d0 ∧ d0 ≤ 99) ∧ 0 ≤ d1 ∧ d1 ≤ 99
  · obtain ⟨hr1, hr2, hr3⟩ := hr
    obtain ⟨t, rfl⟩ := Int.eq_ofNat_of_zero_le hr1.1
    obtain ⟨M1, e1, e2⟩ := X_since (W := W) (y := y) w0 hT hr1.2 hr2 hr3 hy
    have hA1 : M1 43 0 = A := by rw [e2 43 0 (by unfold sc2; omega)]; exact hAA
    have hW1 : M1 68 0 = W := by rw [e2 68 0 (by unfold sc2; omega)]; exact hWW
    obtain ⟨M2, g1, g2, g3⟩ := R_since (y := y) hA1 hW1 hA (e2.txt hT) l2 l3 hr1.2 hr2 hr3 hy
    refine zCall.mk (M1 := M1) (M2 := M2) (v := sFo T A (sLay A W) t d0 d1 y 61) ?_ g1 ⟨T, hI.try_ e2 g2 (by rw [g3, hAA])⟩
    unfold f_X10_since
    rw [wth_yes hr2.1 hr2.2 h0 (by omega) (by omega)]
    simp only [zbs]
    rw [if_neg (by rw [zw01.2.1]; omega), wth_yes hr3.1 hr3.2 h1 (by omega) (by omega)]
    simp only [zbs]
    rw [if_neg (by rw [zw01.2.1]; omega)]
    exact e1
  · refine zCall.same hz (v := -1) ?_ ?_
    · unfold f_X10_since f_X10_since_j24 f_X10_since_j25
      by_cases c1 : 0 ≤ d0 ∧ d0 ≤ 99
      · rw [wth_yes c1.1 c1.2 h0 (by omega) (by omega)]
        simp only [zbs]
        rw [if_neg (by rw [zw01.2.1]; omega)]
        by_cases c2 : 0 ≤ d1 ∧ d1 ≤ 99
        · rw [wth_yes c2.1 c2.2 h1 (by omega) (by omega)]
          simp only [zbs]
          rw [if_neg (by rw [zw01.2.1]; omega), if_neg (by rw [zw01.2.1]; omega), X_hasThing w0.city hA hv, if_neg (fun z => hr ⟨z, c1, c2⟩)]
          simp only [zbs]
          rw [if_neg (nn_ zw_0)]
        · rw [wth_no (by omega) h1 (by omega) (by omega)]
          simp only [zbs]
          rw [if_pos zw_0, if_pos zw_0]
      · rw [wth_no (by omega) h0 (by omega) (by omega)]
        simp only [zbs]
        rw [if_pos zw_0, if_pos zw_0]
    · unfold f_X11_since
      rw [R_isThing hAA hA hv]
      by_cases c0 : 0 ≤ v ∧ v < A 1
      · rw [if_pos c0]
        simp only [zbs]
        rw [if_neg (by rw [zw01.2.1]; omega)]
        by_cases c1 : 0 ≤ d0 ∧ d0 ≤ 99
        · rw [in_yes c1.1 c1.2 h0 (by omega) (by omega)]
          simp only [zbs]
          rw [if_neg (by rw [zw01.2.1]; omega), in_no (by omega) h1 (by omega) (by omega)]
          simp only [zbs]
          rw [if_neg (nn_ zw_0)]
        · rw [in_no (by omega) h0 (by omega) (by omega)]
          simp only [zbs]
          rw [if_pos zw_0]
      · rw [if_neg c0]
        simp only [zbs]
        rw [if_pos zw_0]
