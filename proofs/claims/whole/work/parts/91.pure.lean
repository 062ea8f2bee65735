/-! call: since, on both sides -/
set_option maxRecDepth 8000 in
set_option maxHeartbeats 2000000 in
theorem sFo_stop {T : Nat → Nat → Option zLw} {A w : Nat → Int} {t : Nat} {d0 d1 y : Int} (hy : y = 0) {i : Nat} (h : sFo T A w t d0 d1 y i ≠ -1) : ∀ d, sFo T A w t d0 d1 y (i + d) = sFo T A w t d0 d1 y i := by
  intro d
  induction d with
  | zero => rfl
  | succ d ih =>
    have hne : ¬ (sinR T A w t d0 (i + d) (6 + t) = d1 ∧ (y ≠ 0 ∨ sFo T A w t d0 d1 y (i + d) = -1)) := fun z => by
      rcases z.2 with q | q
      · exact q hy
      · exact h (ih.symm.trans q)
    exact (if_neg hne).trans ih
set_option maxRecDepth 8000 in
set_option maxHeartbeats 2000000 in
theorem sFo_le {T : Nat → Nat → Option zLw} {A w : Nat → Int} {t : Nat} {d0 d1 y : Int} : ∀ k, -1 ≤ sFo T A w t d0 d1 y k ∧ sFo T A w t d0 d1 y k < k := by
  intro k
  induction k with
  | zero => exact ⟨Int.le_refl _, by show (-1 : Int) < _; omega⟩
  | succ k ih => unfold sFo; split <;> omega
set_option maxRecDepth 8000 in
set_option maxHeartbeats 2000000 in
theorem X_since {M : zM} {T : Nat → Nat → Option zLw} {A W : Nat → Int} {t : Nat} {d0 d1 y : Int} (h : worldR M 0 A) (hT : textsOK M (A 3) T) (ht : (t : Int) < A 1) (h0 : 0 ≤ d0 ∧ d0 ≤ 99) (h1 : 0 ≤ d1 ∧ d1 ≤ 99) (hy : -2147483648 ≤ y ∧ y ≤ 2147483647) : ∃ M', f_X10_since_j25 t d0 d1 y 1 M = some (sFo T A (sLay A W) t d0 d1 y 61, M') ∧ fr2 M M' := by
  have hA := h.head
  have a1 := hA.thg
  have a0 := hA.own
  obtain ⟨l1, l2, l3⟩ := h.lay (W := W)
  obtain ⟨M1, e1, e2, e3, e4⟩ := X_trial (W := W) h
  generalize sLay A W = w at l1 l2 l3 e2
  have hday := l2.day
  have hat := l2.at_ t ht
  have rok := sinR_ok (T := T) hA l2 l3 ht h0
  have hT1 := e3.txt hT
  have loop : ∀ N : zM, cityR N 2 A (sinU w t d0) → fr2 M N → textsOK N (A 3) T → ∃ M', f_X10_since_j116 t d1 y (t + 16) (sFo T A w t d0 d1 y 1) N = some (sFo T A w t d0 d1 y 61, M') ∧ fr2 M M' := by
    intro N hN hf hTN
    have key := zT_for (body := fun s : Int × Int × zM => f_X10_since_L121 (t : Int) d1 y (t + 16) s.1 s.2.1 s.2.2) (fun i s => s.1 = sFo T A w t d0 d1 y (1 + i) ∧ s.2.1 = ((1 + i : Nat) : Int) ∧ cityR s.2.2 2 A (sinR T A w t d0 i) ∧ frX 2 N s.2.2) 60 (Q := fun e => e.1 = sFo T A w t d0 d1 y 61 ∧ frX 2 N e.2) ?_ (m := zF) (by unfold zF; omega) (s := (sFo T A w t d0 d1 y 1, 1, N)) ⟨rfl, rfl, hN, frX.rfl_⟩
    · obtain ⟨⟨r, M'⟩, k1, k2, k3⟩ := key
      dsimp only at k2 k3
      refine ⟨M', ?_, hf.trans k3.two⟩
      unfold f_X10_since_j116
      rw [k1]
      simp only [zbs, k2]
    · rintro i ⟨f, dd, N2⟩ hi ⟨q1, q2, q3, q4⟩
      dsimp only at q1 q2 q3 q4 ⊢
      subst q1 q2
      have hfl := sFo_le (T := T) (A := A) (w := w) (t := t) (d0 := d0) (d1 := d1) (y := y) (1 + i)
      unfold f_X10_since_L121
      rw [zw_nat (by omega), zw_id (z := y) (by omega) (by omega), zw_id (z := sFo T A w t d0 d1 y (1 + i)) (by omega) (by omega)]
      by_cases h60 : i = 60
      · subst h60
        rw [if_pos (by omega)]
        exact zT_some (Or.inr ⟨_, rfl, rfl, q4⟩)
      · rw [if_neg (by omega)]
        obtain ⟨r1, r2, r3⟩ := rok i (by omega)
        have go : (y ≠ 0 ∨ sFo T A w t d0 d1 y (1 + i) = -1) → zT (f_X10_since_j139 (t : Int) d1 y (t + 16) (sFo T A w t d0 d1 y (1 + i)) ((1 + i : Nat) : Int) N2) (fun r => (∃ s', r = .inl s' ∧ i < 60 ∧ s'.1 = sFo T A w t d0 d1 y (1 + (i + 1)) ∧ s'.2.1 = ((1 + (i + 1) : Nat) : Int) ∧ cityR s'.2.2 2 A (sinR T A w t d0 (i + 1)) ∧ frX 2 N s'.2.2) ∨ ∃ e, r = .inr e ∧ e.1 = sFo T A w t d0 d1 y 61 ∧ frX 2 N e.2) := by
          intro hc
          have hp := q3.pass1 a1.2
          have f4 : frX 2 N2 (zput N2 11 2 10 (sinR T A w t d0 i 38 + 1)) := frX.put11
          have p1 := r1.pass1 hA (by omega)
          obtain ⟨N3, g1, g2, g3⟩ := X_grow (T := T) hp hA p1 ((q4.trans f4).txt hTN) ht (by rw [wup_ne (by omega)]; exact r3)
          have g2 : cityR N3 2 A (sinR T A w t d0 (i + 1)) := g2
          obtain ⟨s1, -, -⟩ := rok (i + 1) (by omega)
          have hde := s1.dear t ht
          have gd := g2.dear t ht
          have hst : sFo T A w t d0 d1 y (1 + (i + 1)) = if sinR T A w t d0 (i + 1) (6 + t) = d1 ∧ (y ≠ 0 ∨ sFo T A w t d0 d1 y (i + 1) = -1) then ((i + 1 : Nat) : Int) else sFo T A w t d0 d1 y (i + 1) := by rw [show 1 + (i + 1) = i + 1 + 1 by omega]; rfl
          rw [show 1 + i = i + 1 by omega] at hc ⊢
          unfold f_X10_since_j139 f_X10_since_j173
          simp only [zlt_]
          rw [q3.day, g1]
          simp only [zbs]
          rw [show t + 16 = t + 8 * 2 by omega, gd, zw_id (z := sinR T A w t d0 (i + 1) (6 + t)) (by omega) (by omega), zw_id (z := d1) (by omega) (by omega), hst]
          by_cases hq : sinR T A w t d0 (i + 1) (6 + t) = d1
          · rw [if_neg (nn_ hq), if_pos ⟨hq, hc⟩]
            exact zT_some (Or.inl ⟨_, rfl, by omega, rfl, by dsimp only; omega, g2, q4.trans (f4.trans g3)⟩)
          · rw [if_pos hq, if_neg (fun z => hq z.1)]
            exact zT_some (Or.inl ⟨_, rfl, by omega, rfl, by dsimp only; omega, g2, q4.trans (f4.trans g3)⟩)
        by_cases hy0 : y = 0
        · rw [if_neg (nn_ hy0)]
          by_cases hf1 : sFo T A w t d0 d1 y (1 + i) = -1
          · rw [if_neg (nn_ hf1)]
            exact go (Or.inr hf1)
          · rw [if_pos hf1]
            refine zT_some (Or.inr ⟨_, rfl, ?_, q4⟩)
            have := sFo_stop (T := T) (A := A) (w := w) (t := t) (d0 := d0) (d1 := d1) hy0 hf1 (60 - i)
            rw [show 1 + i + (60 - i) = 61 by omega] at this
            exact this.symm
        · rw [if_pos hy0]
          exact go (Or.inl hy0)
  -- the trial's THING
  have setup : ∀ (N : zM) (u : Nat → Int), cityR N 2 A u → (∀ q, q ≠ 6 + t → q ≠ 14 + t → q ≠ 22 + t → q ≠ 30 + t → u q = w q) → u (14 + t) = -1 → u (30 + t) = (if w (14 + t) = -1 then w (30 + t) else w (14 + t)) → fr2 M N → ∃ M', f_X10_since_j84 t d0 d1 y (t + 16) N = some (sFo T A w t d0 d1 y 61, M') ∧ fr2 M M' := by
    intro N u hN hu hk hfr hf
    have u38 : u 38 = w 38 := hu 38 (by omega) (by omega) (by omega) (by omega)
    have hc : cityR (zput (zput N 16 (t + 8 * 2) 5 (w 38)) 16 (t + 8 * 2) 3 d0) 2 A (sinU w t d0) := by
      refine hN.setThing a1.2 (by omega) (t := t) (fun k i h => by rw [zput_rowk (by omega), zput_rowk (by omega)]) (fun q a b c d => ?_) ?_ ?_ ?_ ?_ ?_ ?_
      · unfold sinU
        rw [wup_ne a, wup_ne b, wup_ne c, wup_ne d, hu q a b c d]
      · simp (disch := omega) only [if_true, if_false, true_or, or_true, true_and, and_true, not_true_eq_false, not_false_eq_true, zput_j]
      · simp (disch := omega) only [if_true, if_false, true_or, or_true, true_and, and_true, not_true_eq_false, not_false_eq_true, zput_j]
      · unfold sinU; rw [zput_eq, wup_eq]
      · unfold sinU
        simp (disch := omega) only [if_true, if_false, true_or, or_true, true_and, and_true, not_true_eq_false, not_false_eq_true, zput_j, wup_ne, wup_eq]
        exact (hN.with_ t ht).trans hk
      · intro _
        unfold sinU
        simp (disch := omega) only [if_true, if_false, true_or, or_true, true_and, and_true, not_true_eq_false, not_false_eq_true, zput_j, zput_eq, wup_ne, wup_eq]
      · intro _
        unfold sinU
        simp (disch := omega) only [if_true, if_false, true_or, or_true, true_and, and_true, not_true_eq_false, not_false_eq_true, zput_j, wup_ne, wup_eq]
        exact (hN.from_ t ht hk).trans hfr
    have ff : fr2 M (zput (zput N 16 (t + 8 * 2) 5 (w 38)) 16 (t + 8 * 2) 3 d0) := hf.trans (((frX.put16 (j := 2) (by omega) (by omega)).trans (frX.put16 (by omega) (by omega))).two)
    have l := loop _ hc ff (ff.txt hT)
    have hs1 : sFo T A w t d0 d1 y 1 = if d0 = d1 then 0 else -1 := by
      show (if sinU w t d0 (6 + t) = d1 ∧ (y ≠ 0 ∨ (-1 : Int) = -1) then ((0 : Nat) : Int) else (-1 : Int)) = _
      rw [show sinU w t d0 (6 + t) = d0 from wup_eq _ _ _]
      by_cases hq : d0 = d1
      · rw [if_pos ⟨hq, Or.inr rfl⟩, if_pos hq]; rfl
      · rw [if_neg (fun z => hq z.1), if_neg hq]
    unfold f_X10_since_j84
    rw [hN.day, u38, show t + 16 = t + 8 * 2 by omega] at *
    simp only [zlt_, zput_eq]
    rw [zw_id (z := d0) (by omega) (by omega), zw_id (z := d1) (by omega) (by omega)]
    rw [hs1] at l
    by_cases hq : d0 = d1
    · rw [if_pos hq] at l
      rw [if_neg (nn_ hq)]
      exact l
    · rw [if_neg hq] at l
      rw [if_pos hq]
      exact l
  unfold f_X10_since_j25
  rw [if_neg (by rw [zw01.2.1]; omega), X_hasThing h.city hA (by omega), if_pos (by omega)]
  simp only [zbs]
  rw [if_pos (by rw [zw01.2.1]; omega), e1]
  simp only [zbs]
  have gw := e2.with_ t ht
  rw [zw_nat (by omega), if_pos (by omega), zix_nat (by omega), show M1 16 (t + 16) 4 = w (14 + t) from gw, zw_id (z := w (14 + t)) (by omega) (by omega)]
  by_cases hk : w (14 + t) = -1
  · rw [if_pos hk]
    exact setup M1 w e2 (fun _ _ _ _ _ => rfl) hk (by rw [if_pos hk]) e3
  · obtain ⟨N, g1, g2, g3⟩ := X_take e2 hA ht
    rw [if_neg hk, g1]
    simp only [zbs]
    refine setup N (sSteal w t) g2 (fun q a b c d => ?_) ?_ ?_ (e3.trans g3.two)
    · unfold sSteal; rw [wup_ne b, wup_ne d, wup_ne c]
    · unfold sSteal; rw [wup_eq]
    · unfold sSteal; rw [if_neg hk, wup_ne (by omega), wup_eq]
