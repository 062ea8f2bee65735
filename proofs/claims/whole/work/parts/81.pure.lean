/-! call: early -/
def yrs (rest : Int) : Nat := if rest < 1 then 0 else if 6 < (rest + 8) / 9 then 6 else ((rest + 8) / 9).toNat
set_option maxRecDepth 8000 in
set_option maxHeartbeats 2000000 in
theorem yrs_le (rest : Int) : yrs rest ≤ 6 := by
  unfold yrs
  split
  · omega
  · split <;> omega
def wtN (d l y : Nat) : Nat := d * ((10 ^ y - l ^ y) * 10 ^ (6 - y))
set_option maxRecDepth 8000 in
set_option maxHeartbeats 2000000 in
theorem wtN_le {d l y : Nat} (hd : d ≤ 99) (hy : y ≤ 6) : wtN d l y ≤ 99000000 := by
  unfold wtN
  have h1 : (10 ^ y - l ^ y) * 10 ^ (6 - y) ≤ 10 ^ y * 10 ^ (6 - y) := Nat.mul_le_mul (Nat.sub_le _ _) (Nat.le_refl _)
  have h2 : 10 ^ y * 10 ^ (6 - y) = 10 ^ 6 := by rw [← Nat.pow_add, show y + (6 - y) = 6 by omega]
  have h3 : d * ((10 ^ y - l ^ y) * 10 ^ (6 - y)) ≤ 99 * 10 ^ 6 := Nat.mul_le_mul hd (by omega)
  exact h3
set_option maxRecDepth 8000 in
set_option maxHeartbeats 2000000 in
theorem wtN_int {d l y : Nat} (hl : l ≤ 10) : ((wtN d l y : Nat) : Int) = (d : Int) * ((10 : Int) ^ y - (l : Int) ^ y) * (10 : Int) ^ (6 - y) := by
  have hp : l ^ y ≤ 10 ^ y := Nat.pow_le_pow_left hl y
  unfold wtN
  rw [Int.natCast_mul, Int.natCast_mul, Int.natCast_sub hp, Int.natCast_pow, Int.natCast_pow, Int.natCast_pow, ← Int.mul_assoc]
  rfl
def eRest (T : Nat → Nat → Option zLw) (A w : Nat → Int) (t : Nat) : Int := sLaw T A w t 1 0 - (w 38 - w (22 + t))
def eW (T : Nat → Nat → Option zLw) (A w : Nat → Int) (t : Nat) : Int := ((wtN (w (6 + t)).toNat (A (10 + (w (30 + t)).toNat)).toNat (yrs (eRest T A w t)) : Nat) : Int)
def eB (T : Nat → Nat → Option zLw) (A w : Nat → Int) : Nat → Int × Int
  | 0 => (-1, -1)
  | k + 1 => if w (14 + k) = -1 ∧ (eB T A w k).2 < eW T A w k then ((k : Int), eW T A w k) else eB T A w k
set_option maxRecDepth 8000 in
set_option maxHeartbeats 2000000 in
theorem eW_le {T : Nat → Nat → Option zLw} {A w : Nat → Int} {t : Nat} (hw : rowOK A w) (ht : (t : Int) < A 1) : 0 ≤ eW T A w t ∧ eW T A w t ≤ 99000000 := by
  have h := hw.dear t ht
  have h2 := wtN_le (d := (w (6 + t)).toNat) (l := (A (10 + (w (30 + t)).toNat)).toNat) (y := yrs (eRest T A w t)) (by omega) (yrs_le _)
  unfold eW
  omega
set_option maxRecDepth 8000 in
set_option maxHeartbeats 2000000 in
theorem eB_le {T : Nat → Nat → Option zLw} {A w : Nat → Int} (hw : rowOK A w) : ∀ k : Nat, (k : Int) ≤ A 1 → ((eB T A w k).1 = -1 → (eB T A w k).2 = -1) ∧ (-1 ≤ (eB T A w k).2 ∧ (eB T A w k).2 ≤ 99000000) ∧ ((eB T A w k).1 ≠ -1 → 0 ≤ (eB T A w k).2) ∧ -1 ≤ (eB T A w k).1 ∧ (eB T A w k).1 < k := by
  intro k
  induction k with
  | zero => intro _; exact ⟨fun _ => rfl, ⟨by show (-1 : Int) ≤ -1; omega, by show (-1 : Int) ≤ _; omega⟩, fun h => absurd rfl h, by show (-1 : Int) ≤ -1; omega, by show (-1 : Int) < _; omega⟩
  | succ k ih =>
    intro hk
    obtain ⟨i1, i2, i3, i4, i5⟩ := ih (by omega)
    have hle := eW_le (T := T) (t := k) hw (by omega)
    unfold eB
    split
    · dsimp only
      exact ⟨fun h => by omega, by omega, fun _ => by omega, by omega, by omega⟩
    · exact ⟨i1, i2, i3, i4, by omega⟩
set_option maxRecDepth 8000 in
set_option maxHeartbeats 2000000 in
theorem call_early {M : zM} (h : zI M) : zCall (f_X10_early M) (fun N => f_X11_early N) := by
  obtain ⟨T, hI⟩ := h
  have w0 := hI.w0
  have hT := hI.txt
  generalize hAA : M 43 0 = A at w0 hT
  have hA := w0.head
  have h0 := hA.thg
  have h1 := hA.own
  generalize hWW : M 68 0 = W
  obtain ⟨l1, l2, l3⟩ := w0.lay (W := W)
  obtain ⟨n, hn⟩ := Int.eq_ofNat_of_zero_le h0.1
  have hday := l2.day
  -- the class
  have keyX := zT_for (body := fun s : Int × Int × Int × zM => f_X10_early_L9 s.1 s.2.1 s.2.2.1 s.2.2.2) (fun k s => s.1 = (eB T A (sLay A W) k).1 ∧ s.2.1 = (eB T A (sLay A W) k).2 ∧ s.2.2.1 = (k : Int) ∧ ∀ k i, k ≠ 18 → k ≠ 19 → s.2.2.2 k i = M k i) n (Q := fun e => e.1 = (eB T A (sLay A W) n).1 ∧ ∀ k i, k ≠ 18 → k ≠ 19 → e.2 k i = M k i) ?_ (m := zF) (by unfold zF; omega) (s := (-1, -1, 0, M)) ⟨rfl, rfl, rfl, fun _ _ _ _ => rfl⟩
  · obtain ⟨⟨r1, M1⟩, x1, x2, x3⟩ := keyX
    dsimp only at x2 x3
    have f1 : fr2 M M1 := fun k i a => x3 k i (by unfold sc2 at a; omega) (by unfold sc2 at a; omega)
    have hA1 : M1 43 0 = A := by rw [x3 43 0 (by omega) (by omega)]; exact hAA
    have hW1 : M1 68 0 = W := by rw [x3 68 0 (by omega) (by omega)]; exact hWW
    obtain ⟨N, p1, p2, p3⟩ := R_lay hA1
    rw [hW1] at p3
    have hN : N 43 0 = A := by rw [p2 43 0 (by omega)]; exact hA1
    have hTN : textsOK N (A 3) T := (f1.txt hT).frame (fun k i hk => p2 k i (by unfold txK at hk; omega))
    have keyR := zT_for (body := fun s : Int × Int × Int × zM => f_X11_early_L11 s.1 s.2.1 s.2.2.1 s.2.2.2) (fun k s => s.1 = (eB T A (sLay A W) k).1 ∧ s.2.1 = (if (eB T A (sLay A W) k).1 = -1 then 0 else (eB T A (sLay A W) k).2) ∧ s.2.2.1 = (k : Int) ∧ ∀ k i, k ≠ 66 → k ≠ 67 → s.2.2.2 k i = N k i) n (Q := fun e => e.1 = (eB T A (sLay A W) n).1 ∧ ∀ k i, k ≠ 66 → k ≠ 67 → e.2 k i = N k i) ?_ (m := zF) (by unfold zF; omega) (s := (-1, 0, 0, N)) ⟨rfl, rfl, rfl, fun _ _ _ _ => rfl⟩
    · obtain ⟨⟨r2, M2⟩, y1, y2, y3⟩ := keyR
      dsimp only at y2 y3
      refine zCall.mk (M1 := M1) (M2 := M2) (v := (eB T A (sLay A W) n).1) ?_ ?_ ⟨T, hI.try_ f1 ((frV.of68 p2).trans (frR.of y3).v) (by rw [y3 43 0 (by omega) (by omega), hN, hAA])⟩
      · unfold f_X10_early
        rw [x1]
        simp only [zbs, x2]
      · unfold f_X11_early
        rw [p1]
        simp only [zbs]
        rw [y1]
        simp only [zbs, y2]
    · rintro k ⟨b, m, c, N2⟩ hk ⟨q1, q2, q3, q4⟩
      dsimp only at q1 q2 q3 q4 ⊢
      subst q1 q2 q3
      obtain ⟨i1, i2, i3, i4, i5⟩ := eB_le (T := T) l2 k (by omega)
      have a2 : N2 43 0 = A := by rw [q4 43 0 (by omega) (by omega)]; exact hN
      have b2 : N2 68 0 = sLay A W := by rw [q4 68 0 (by omega) (by omega)]; exact p3
      have m1 : N2 43 0 1 = A 1 := by rw [a2]
      unfold f_X11_early_L11
      rw [m1, zw_id (z := A 1) (by omega) (by omega), zw_nat (by omega)]
      by_cases hkn : k = n
      · subst hkn
        rw [if_pos (by omega)]
        exact zT_some (Or.inr ⟨_, rfl, rfl, q4⟩)
      · rw [if_neg (by omega)]
        have hstep : eB T A (sLay A W) (k + 1) = if sLay A W (14 + k) = -1 ∧ (eB T A (sLay A W) k).2 < eW T A (sLay A W) k then ((k : Int), eW T A (sLay A W) k) else eB T A (sLay A W) k := rfl
        by_cases hq : sLay A W (14 + k) = -1
        · have hkp := l2.kept k (by omega) hq
          have hde := l2.dear k (by omega)
          obtain ⟨o, ho⟩ := Int.eq_ofNat_of_zero_le hkp.2.1
          have hli := hA.lives o (by omega)
          have hwl := eW_le (T := T) (t := k) l2 (by omega)
          have hl1 := sLaw1_le (T := T) (A := A) (w := sLay A W) (t := k) (pe := 0)
          obtain ⟨N3, e1, e2⟩ := R_after a2 b2 hA l2 (hTN.frame (fun k i hk => q4 k i (by unfold txK at hk; omega) (by unfold txK at hk; omega))) (t := k) (by omega) hq
          have a3 : N3 43 0 = A := by rw [e2 43 0 (by omega) (by omega)]; exact a2
          have b3 : N3 68 0 = sLay A W := by rw [e2 68 0 (by omega) (by omega)]; exact b2
          have hY := yrs_le (eRest T A (sLay A W) k)
          have hwt : eW T A (sLay A W) k = sLay A W (6 + k) * ((10 : Int) ^ (yrs (eRest T A (sLay A W) k)) - (A (10 + o)) ^ (yrs (eRest T A (sLay A W) k))) * (10 : Int) ^ (6 - yrs (eRest T A (sLay A W) k)) := by
            unfold eW
            rw [ho, Int.toNat_natCast, wtN_int (by omega), Int.toNat_of_nonneg (by omega), Int.toNat_of_nonneg (by omega)]
          have g1 : N3 68 0 (6 + k) = sLay A W (6 + k) := by rw [b3]
          have g2 : N3 68 0 (30 + k) = (o : Int) := by rw [b3]; exact ho
          have g3 : N3 43 0 (10 + o) = A (10 + o) := by rw [a3]
          have g4 : N3 68 0 38 - N3 68 0 (22 + k) = sLay A W 38 - sLay A W (22 + k) := by rw [b3]
          have fin : zT (f_X11_early_j94 (eB T A (sLay A W) k).1 (if (eB T A (sLay A W) k).1 = -1 then 0 else (eB T A (sLay A W) k).2) (k : Int) ((yrs (eRest T A (sLay A W) k) : Nat) : Int) N3) (fun r => (∃ s', r = .inl s' ∧ k < n ∧ s'.1 = (eB T A (sLay A W) (k + 1)).1 ∧ s'.2.1 = (if (eB T A (sLay A W) (k + 1)).1 = -1 then 0 else (eB T A (sLay A W) (k + 1)).2) ∧ s'.2.2.1 = ((k + 1 : Nat) : Int) ∧ ∀ k i, k ≠ 66 → k ≠ 67 → s'.2.2.2 k i = N k i) ∨ ∃ e, r = .inr e ∧ e.1 = (eB T A (sLay A W) n).1 ∧ ∀ k i, k ≠ 66 → k ≠ 67 → e.2 k i = N k i) := by
            have hfr : ∀ k i, k ≠ 66 → k ≠ 67 → N3 k i = N k i := fun k i a b => by rw [e2 k i a b, q4 k i a b]
            generalize yrs (eRest T A (sLay A W) k) = Y at hY hwt
            unfold f_X11_early_j94 f_X11_early_j167 f_X11_early_j173
            rw [zw_id (z := 6 + (k : Int)) (by omega) (by omega), if_pos (by omega), R_power (by omega)]
            simp only [zbs]
            rw [zw_id (z := 30 + (k : Int)) (by omega) (by omega), if_pos (by omega), zi30 (by omega), g2, zw_id (z := 10 + (o : Int)) (by omega) (by omega), if_pos (by omega), zi10 (by omega), g3, zw_id (z := A (10 + o)) (by omega) (by omega), R_power (by omega)]
            simp only [zbs]
            rw [show (6 : Int) - (Y : Int) = ((6 - Y : Nat) : Int) by omega, R_power (by omega)]
            simp only [zbs]
            rw [zi6 (by omega), g1, zw_id (z := sLay A W (6 + k)) (by omega) (by omega), ← hwt, hstep]
            simp only [zlc_le]
            rw [zw_id (z := (eB T A (sLay A W) k).1) (by omega) (by omega)]
            by_cases hb : (eB T A (sLay A W) k).1 = -1
            · rw [if_pos hb, if_pos ⟨hq, by have := i1 hb; omega⟩]
              refine zT_some (Or.inl ⟨_, rfl, by omega, rfl, ?_, by dsimp only; omega, hfr⟩)
              dsimp only
              rw [if_neg (by omega)]
            · rw [if_neg hb, if_neg hb, zwl_id (by omega) (by omega), zwl_id (by omega) (by omega)]
              by_cases hlt : eW T A (sLay A W) k ≤ (eB T A (sLay A W) k).2
              · rw [if_pos hlt, if_neg (fun z => by have := z.2; omega)]
                refine zT_some (Or.inl ⟨_, rfl, by omega, rfl, ?_, by dsimp only; omega, hfr⟩)
                dsimp only
                rw [if_neg hb]
              · rw [if_neg hlt, if_pos ⟨hq, by omega⟩]
                refine zT_some (Or.inl ⟨_, rfl, by omega, rfl, ?_, by dsimp only; omega, hfr⟩)
                dsimp only
                rw [if_neg (by omega)]
          rw [R_kept b2 l2 hA (by omega) hq]
          simp only [zbs]
          rw [if_neg (by rw [zw01.2.1]; omega), e1]
          simp only [zbs]
          rw [zw_id (z := 22 + (k : Int)) (by omega) (by omega), if_pos (by omega), zi22 (by omega), g4]
          have hre : sLaw T A (sLay A W) k 1 0 - (sLay A W 38 - sLay A W (22 + k)) = eRest T A (sLay A W) k := rfl
          rw [hre]
          have hrb : -20000 ≤ eRest T A (sLay A W) k ∧ eRest T A (sLay A W) k ≤ 10000 := by rw [← hre]; omega
          generalize eRest T A (sLay A W) k = R at hrb fin
          unfold yrs at fin
          rw [zw_id (z := R) (by omega) (by omega), zw_id (z := R + 8) (by omega) (by omega)]
          by_cases hR : R < 1
          · rw [if_pos hR] at fin
            rw [if_neg (by omega)]
            exact fin
          · rw [if_neg hR] at fin
            rw [if_pos (by omega), Int.tdiv_eq_ediv_of_nonneg (by omega), zw_id (z := (R + 8) / 9) (by omega) (by omega)]
            by_cases h6 : 6 < (R + 8) / 9
            · rw [if_pos h6] at fin
              rw [if_neg (by omega)]
              exact fin
            · rw [if_neg h6, Int.toNat_of_nonneg (by omega)] at fin
              rw [if_pos (by omega)]
              exact fin
        · rw [R_keptno b2 l2 hA (by omega) hq]
          unfold f_X11_early_j173
          simp only [zbs]
          rw [if_pos zw_0]
          refine zT_some (Or.inl ⟨_, rfl, by omega, ?_⟩)
          have hs2 : eB T A (sLay A W) (k + 1) = eB T A (sLay A W) k := by rw [hstep, if_neg (fun z => hq z.1)]
          rw [hs2]
          exact ⟨rfl, rfl, by dsimp only; omega, q4⟩
  · rintro k ⟨b, m, c, N2⟩ hk ⟨q1, q2, q3, q4⟩
    dsimp only at q1 q2 q3 q4 ⊢
    subst q1 q2 q3
    obtain ⟨i1, i2, i3, i4, i5⟩ := eB_le (T := T) l2 k (by omega)
    have hc := l1.frame' (M' := N2) (fun k i _ _ => q4 k i (by omega) (by omega))
    unfold f_X10_early_L9
    rw [hc.thg, zw_id (z := A 1) (by omega) (by omega), zw_nat (by omega)]
    by_cases hkn : k = n
    · subst hkn
      rw [if_pos (by omega)]
      exact zT_some (Or.inr ⟨_, rfl, rfl, q4⟩)
    · rw [if_neg (by omega)]
      have hstep : eB T A (sLay A W) (k + 1) = if sLay A W (14 + k) = -1 ∧ (eB T A (sLay A W) k).2 < eW T A (sLay A W) k then ((k : Int), eW T A (sLay A W) k) else eB T A (sLay A W) k := rfl
      by_cases hq : sLay A W (14 + k) = -1
      · have hkp := l2.kept k (by omega) hq
        have hde := l2.dear k (by omega)
        obtain ⟨o, ho⟩ := Int.eq_ofNat_of_zero_le hkp.2.1
        have hli := hA.lives o (by omega)
        have hwl := eW_le (T := T) (t := k) l2 (by omega)
        have hl1 := sLaw1_le (T := T) (A := A) (w := sLay A W) (t := k) (pe := 0)
        obtain ⟨N3, e1, e2⟩ := X_lawOf hc hA l2 (hT.frame (fun k i hk => q4 k i (by unfold txK at hk; omega) (by unfold txK at hk; omega))) (t := k) (by omega) hq (k := 1) (to := -1) (by omega) (by omega)
        rw [if_neg (by omega)] at e1
        have e1 : f_X0_lawOf 0 (k : Int) 1 (-1) N2 = some (sLaw T A (sLay A W) k 1 0, N3) := e1
        have hc3 := hc.frame' (M' := N3) (fun k i _ _ => e2 k i (by omega) (by omega))
        have g1 : N3 16 k 3 = sLay A W (6 + k) := hc3.dear k (by omega)
        have g2 : N3 16 k 6 = (o : Int) := (hc3.from_ k (by omega) hq).trans ho
        have g3 : N3 12 0 o = A (10 + o) := hc3.lives o (by omega)
        have g4 : N3 11 0 10 - N3 16 k 5 = sLay A W 38 - sLay A W (22 + k) := by rw [hc3.day, show N3 16 k 5 = _ from hc3.since k (by omega) hq]
        have hfr : ∀ k i, k ≠ 18 → k ≠ 19 → N3 k i = M k i := fun k i a b => by rw [e2 k i a b, q4 k i a b]
        have hY := yrs_le (eRest T A (sLay A W) k)
        have hwt : eW T A (sLay A W) k = sLay A W (6 + k) * ((10 : Int) ^ (yrs (eRest T A (sLay A W) k)) - (A (10 + o)) ^ (yrs (eRest T A (sLay A W) k))) * (10 : Int) ^ (6 - yrs (eRest T A (sLay A W) k)) := by
          unfold eW
          rw [ho, Int.toNat_natCast, wtN_int (by omega), Int.toNat_of_nonneg (by omega), Int.toNat_of_nonneg (by omega)]
        rw [X_kept hc hA l2 (by omega) hq]
        simp only [zbs]
        rw [if_neg (by rw [zw01.2.1]; omega), if_pos (by omega), e1]
        simp only [zbs]
        rw [zix_nat (by omega), g4]
        have hre : sLaw T A (sLay A W) k 1 0 - (sLay A W 38 - sLay A W (22 + k)) = eRest T A (sLay A W) k := rfl
        rw [hre]
        have hrb : -20000 ≤ eRest T A (sLay A W) k ∧ eRest T A (sLay A W) k ≤ 10000 := by rw [← hre]; omega
        have hYe : (if zw (Int.tdiv (zw (((if 0 < zw (eRest T A (sLay A W) k) then (eRest T A (sLay A W) k) else 0) + 9) - 1)) 9) < 6 then (Int.tdiv (zw (((if 0 < zw (eRest T A (sLay A W) k) then (eRest T A (sLay A W) k) else 0) + 9) - 1)) 9) else 6) = ((yrs (eRest T A (sLay A W) k) : Nat) : Int) := by
          generalize eRest T A (sLay A W) k = R at hrb
          unfold yrs
          rw [zw_id (z := R) (by omega) (by omega)]
          by_cases hR : R < 1
          · rw [if_neg (show ¬ 0 < R by omega), if_pos hR, zw_id (z := (0 : Int) + 9 - 1) (by omega) (by omega)]
            rfl
          · rw [if_pos (show 0 < R by omega), if_neg hR, zw_id (z := R + 9 - 1) (by omega) (by omega), Int.tdiv_eq_ediv_of_nonneg (by omega), zw_id (z := (R + 9 - 1) / 9) (by omega) (by omega), show R + 9 - 1 = R + 8 by omega]
            by_cases h6 : 6 < (R + 8) / 9
            · rw [if_pos h6, if_neg (by omega)]; rfl
            · rw [if_neg h6]
              by_cases h66 : (R + 8) / 9 < 6
              · rw [if_pos h66]; omega
              · rw [if_neg h66]; omega
        rw [hYe]
        generalize yrs (eRest T A (sLay A W) k) = Y at hY hwt
        rw [X_power (by omega)]
        simp only [zbs]
        rw [g2, zw_nat (by omega), if_pos (by omega), zix_nat (by omega), g3, zw_id (z := A (10 + o)) (by omega) (by omega), X_power (by omega)]
        simp only [zbs]
        rw [show (6 : Int) - (Y : Int) = ((6 - Y : Nat) : Int) by omega, X_power (by omega)]
        simp only [zbs]
        unfold f_X10_early_j159
        rw [g1, zw_id (z := sLay A W (6 + k)) (by omega) (by omega), ← hwt, hstep]
        simp only [zlc_le]
        rw [zwl_id (z := eW T A (sLay A W) k) (by omega) (by omega), zwl_id (z := (eB T A (sLay A W) k).2) (by omega) (by omega)]
        by_cases hlt : eW T A (sLay A W) k ≤ (eB T A (sLay A W) k).2
        · rw [if_pos hlt, if_neg (fun z => by have := z.2; omega)]
          exact zT_some (Or.inl ⟨_, rfl, by omega, rfl, rfl, by dsimp only; omega, hfr⟩)
        · rw [if_neg hlt, if_pos ⟨hq, by omega⟩]
          exact zT_some (Or.inl ⟨_, rfl, by omega, rfl, rfl, by dsimp only; omega, hfr⟩)
      · rw [X_keptno hc hA l2 (by omega) hq]
        unfold f_X10_early_j159
        simp only [zbs]
        rw [if_pos zw_0]
        refine zT_some (Or.inl ⟨_, rfl, by omega, ?_⟩)
        rw [hstep, if_neg (fun z => hq z.1)]
        exact ⟨rfl, rfl, by dsimp only; omega, q4⟩
