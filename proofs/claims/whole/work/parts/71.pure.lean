/-! DAYS that pass on a row; draws; decades -/
set_option maxRecDepth 8000 in
set_option maxHeartbeats 2000000 in
theorem X_kept {M : zM} {j t : Nat} {A w : Nat → Int} (hc : cityR M j A w) (hA : headOK A) (hw : rowOK A w) (ht : (t : Int) < A 1) (hk : w (14 + t) = -1) : f_X0_isKept j t M = some (1, M) := by
  have h0 := hA.thg
  rw [X_isKept hc hA hw (by omega), if_pos ⟨by omega, by rw [Int.toNat_natCast]; exact hk⟩]
set_option maxRecDepth 8000 in
set_option maxHeartbeats 2000000 in
theorem X_keptno {M : zM} {j t : Nat} {A w : Nat → Int} (hc : cityR M j A w) (hA : headOK A) (hw : rowOK A w) (ht : (t : Int) < A 1) (hk : ¬ w (14 + t) = -1) : f_X0_isKept j t M = some (0, M) := by
  have h0 := hA.thg
  rw [X_isKept hc hA hw (by omega), if_neg (fun z => hk (by rw [Int.toNat_natCast] at z; exact z.2))]
set_option maxRecDepth 8000 in
set_option maxHeartbeats 2000000 in
theorem R_kept {M : zM} {A w : Nat → Int} {t : Nat} (hW : M 68 0 = w) (hw : rowOK A w) (hA : headOK A) (ht : (t : Int) < A 1) (hk : w (14 + t) = -1) : f_X11_isKept t M = some (1, M) := by
  rw [R_isKept hW hw hA ht, if_pos hk]
set_option maxRecDepth 8000 in
set_option maxHeartbeats 2000000 in
theorem R_keptno {M : zM} {A w : Nat → Int} {t : Nat} (hW : M 68 0 = w) (hw : rowOK A w) (hA : headOK A) (ht : (t : Int) < A 1) (hk : ¬ w (14 + t) = -1) : f_X11_isKept t M = some (0, M) := by
  rw [R_isKept hW hw hA ht, if_neg hk]
def sThru (T : Nat → Nat → Option zLw) (A w : Nat → Int) : Nat → (Nat → Int)
  | 0 => w
  | n + 1 => if sThru T A w n 38 < 9999 then (sPass T A (sThru T A w n)).1 else sThru T A w n
set_option maxRecDepth 8000 in
set_option maxHeartbeats 2000000 in
theorem sThru_ok {T : Nat → Nat → Option zLw} {A w : Nat → Int} (hA : headOK A) (hw : rowOK A w) (hd : w 38 ≤ 9999) : ∀ n, rowOK A (sThru T A w n) ∧ sThru T A w n 38 ≤ 9999 ∧ sThru T A w n 38 = (if w 38 + n < 9999 then w 38 + n else 9999) := by
  have h0 := hA.thg
  intro n
  induction n with
  | zero => exact ⟨hw, hd, by show w 38 = _; split <;> omega⟩
  | succ n ih =>
    obtain ⟨i1, i2, i3⟩ := ih
    unfold sThru
    by_cases h : sThru T A w n 38 < 9999
    · have h38 : (sPass T A (sThru T A w n)).1 38 = sThru T A w n 38 + 1 := sPassN_38 hA i1 (by omega) (by omega)
      rw [if_pos h]
      refine ⟨i1.passN hA (by omega) (by omega), by omega, ?_⟩
      rw [h38, i3]
      rw [i3] at h
      split at h <;> split <;> omega
    · rw [if_neg h]
      refine ⟨i1, i2, ?_⟩
      rw [i3] at h ⊢
      split at h <;> split <;> omega
set_option maxRecDepth 8000 in
set_option maxHeartbeats 2000000 in
theorem sThru_stop {T : Nat → Nat → Option zLw} {A w : Nat → Int} {i : Nat} (h : ¬ sThru T A w i 38 < 9999) : ∀ d, sThru T A w (i + d) = sThru T A w i := by
  intro d
  induction d with
  | zero => rfl
  | succ d ih =>
    show (if sThru T A w (i + d) 38 < 9999 then _ else sThru T A w (i + d)) = _
    rw [ih, if_neg h]
set_option maxRecDepth 8000 in
set_option maxHeartbeats 2000000 in
theorem R_canPass {M : zM} {A w : Nat → Int} (hW : M 68 0 = w) (hw : rowOK A w) : (w 38 < 9999 → f_X11_canPass M = some (1, M)) ∧ (¬ w 38 < 9999 → f_X11_canPass M = some (0, M)) := by
  have hd := hw.day
  have e : M 68 0 38 = w 38 := by rw [hW]
  unfold f_X11_canPass
  rw [e, zw_id (by omega) (by omega)]
  constructor
  · intro h
    rw [if_neg (by omega)]
  · intro h
    rw [if_pos (by omega)]
set_option maxRecDepth 8000 in
set_option maxHeartbeats 2000000 in
theorem R_thru {M : zM} {T : Nat → Nat → Option zLw} {A w : Nat → Int} {n : Nat} (hM : M 43 0 = A) (hW : M 68 0 = w) (hA : headOK A) (hw : rowOK A w) (hd : w 38 ≤ 9999) (hT : textsOK M (A 3) T) (hn : n ≤ 60) : ∃ M', f_X11_passesThrough n M = some M' ∧ M' 68 0 = sThru T A w n ∧ frR M M' := by
  have key := zT_cnt0 (body := fun s : Int × zM => f_X11_passesThrough_L2 (n : Int) s.1 s.2) (fun i N => N 68 0 = sThru T A w i ∧ frR M N) n (Q := fun N => N 68 0 = sThru T A w n ∧ frR M N) ?_ ?_ (m := zF) (by unfold zF; omega) (N0 := M) ⟨hW, frR.rfl_⟩
  · obtain ⟨M', k1, k2, k3⟩ := key
    refine ⟨M', ?_, k2, k3⟩
    unfold f_X11_passesThrough
    rw [k1]
    simp only [zbs]
  · rintro i N hi ⟨h1, h2⟩
    dsimp only
    obtain ⟨o1, o2, o3⟩ := sThru_ok (T := T) hA hw hd i
    have hN : N 43 0 = A := by rw [h2 43 0 (by omega) (by omega) (by omega)]; exact hM
    unfold f_X11_passesThrough_L2
    rw [zw_nat (by omega), zw_nat (by omega), if_neg (by omega)]
    by_cases hp : sThru T A w i 38 < 9999
    · obtain ⟨N2, e1, e2, e3⟩ := R_dayPasses (T := T) hN h1 hA o1 (h2.txt hT) (by omega)
      rw [(R_canPass h1 o1).1 hp]
      simp only [zbs]
      rw [if_neg (by rw [zw01.2.1]; omega), e1]
      simp only [zbs]
      refine zT_some (Or.inl ⟨_, rfl, ?_, h2.trans e3⟩)
      rw [e2]
      show _ = if sThru T A w i 38 < 9999 then _ else _
      rw [if_pos hp]
    · rw [(R_canPass h1 o1).2 hp]
      simp only [zbs]
      rw [if_pos zw_0]
      refine zT_some (Or.inr ⟨N, rfl, ?_, h2⟩)
      rw [h1, show n = i + (n - i) by omega, sThru_stop hp]
  · rintro N ⟨h1, h2⟩
    dsimp only
    unfold f_X11_passesThrough_L2
    rw [zw_nat (by omega), if_pos (by omega)]
    exact zT_some ⟨N, rfl, h1, h2⟩
/-- X is drawn from -/
def sX (w : Nat → Int) : Nat → Int := wup w 39 ((w 39 * 293 + 197) % 30319)
set_option maxRecDepth 8000 in
set_option maxHeartbeats 2000000 in
theorem rowOK.drawn {A w : Nat → Int} {x : Int} (hA : headOK A) (hw : rowOK A w) (hx : 0 ≤ x ∧ x < 30319) : rowOK A (wup w 39 x) := by
  have h0 := hA.thg
  obtain ⟨g1, g2, g3, g4, g5, g6, g7, g8, g9, g10⟩ := hw
  unfold rowOK
  rw [wup_eq, wup_ne (show 38 ≠ 39 by omega), wup_ne (show 40 ≠ 39 by omega)]
  refine ⟨fun i hi => ?_, fun i hi h2 => ?_, fun s hs => ?_, fun s hs => ?_, fun s hs => ?_, fun s hs => ?_, g7, hx, g9, fun i hi => ?_⟩
  · rw [wup_ne (by omega)]; exact g1 i hi
  · rw [wup_ne (by omega)]; exact g2 i hi h2
  · rw [wup_ne (by omega)]; exact g3 s hs
  · rw [wup_ne (by omega)]; exact g4 s hs
  · rw [wup_ne (by omega), wup_ne (by omega), wup_ne (by omega)]; exact g5 s hs
  · rw [wup_ne (by omega), wup_ne (by omega), wup_ne (by omega)]; exact g6 s hs
  · rw [wup_ne (by omega), wup_ne (by omega), wup_ne (by omega), wup_ne (by omega)]; exact g10 i hi
set_option maxRecDepth 8000 in
set_option maxHeartbeats 2000000 in
theorem cityR.drawn {M : zM} {j : Nat} {A w : Nat → Int} {x : Int} (hc : cityR M j A w) (h8 : A 1 ≤ 8) : cityR (zput M 11 j 11 x) j A (wup w 39 x) := by
  obtain ⟨g1, g2, g3, g4, g5, g6, g7, g8, g9, g10, g11, g12, g13, g14, g15, g16, g17⟩ := hc
  unfold cityR
  rw [wup_eq, wup_ne (show 38 ≠ 39 by omega), wup_ne (show 40 ≠ 39 by omega)]
  simp (disch := omega) only [if_true, if_false, true_or, or_true, true_and, and_true, not_true_eq_false, not_false_eq_true, zput_eq, zput_j, zput_k]
  refine ⟨g1, g2, g3, g4, g5, g7, g8, g9, fun i hi => ?_, g11, g12, fun s hs => ?_, fun s hs => ?_, fun s hs hk => ?_, fun s hs hk => ?_, fun i hi => ?_⟩
  · rw [wup_ne (by omega)]; exact g10 i hi
  · rw [wup_ne (by omega)]; exact g13 s hs
  · rw [wup_ne (by omega)]; exact g14 s hs
  · rw [wup_ne (by omega)] at hk
    rw [wup_ne (by omega)]; exact g15 s hs hk
  · rw [wup_ne (by omega)] at hk
    rw [wup_ne (by omega)]; exact g16 s hs hk
  · rw [g17 i hi]
    unfold cardOf
    rw [wup_ne (by omega), wup_ne (by omega), wup_ne (by omega), wup_ne (by omega)]
set_option maxRecDepth 8000 in
set_option maxHeartbeats 2000000 in
theorem sX_rng {w : Nat → Int} (h : 0 ≤ w 39 ∧ w 39 < 30319) : 0 ≤ (w 39 * 293 + 197) % 30319 ∧ (w 39 * 293 + 197) % 30319 < 30319 := by omega
set_option maxRecDepth 8000 in
set_option maxHeartbeats 2000000 in
theorem zrem_pos {a b : Int} (h : 0 ≤ a) : zrem a b = a % b := by
  rw [zrem_tmod, Int.tmod_eq_emod_of_nonneg h]
set_option maxRecDepth 8000 in
set_option maxHeartbeats 2000000 in
theorem X_draw {M : zM} {j : Nat} {A w : Nat → Int} {m : Int} (hc : cityR M j A w) (hA : headOK A) (hw : rowOK A w) (hm : 0 < m ∧ m ≤ 8) : ∃ M', f_X0_draw j m M = some (w 39 % m, M') ∧ cityR M' j A (sX w) ∧ frX j M M' := by
  have h0 := hA.thg
  have hx := hw.x
  unfold f_X0_draw f_X0_draw_j14
  rw [zw_id (z := m) (by omega) (by omega), if_neg (by omega), if_neg (by omega), hc.x]
  rw [zw_id (z := w 39) (by omega) (by omega), zw_id (z := w 39 * 293 + 197) (by omega) (by omega), zrem_pos (by omega), zrem_pos (by omega)]
  simp only [zlt_]
  exact ⟨_, rfl, hc.drawn h0.2, frX.put11⟩
set_option maxRecDepth 8000 in
set_option maxHeartbeats 2000000 in
theorem R_draw {M : zM} {A w : Nat → Int} {m : Int} (hW : M 68 0 = w) (hw : rowOK A w) (hm : 0 < m ∧ m ≤ 8) : ∃ M', f_X11_draw m M = some (w 39 % m, M') ∧ M' 68 0 = sX w ∧ ∀ k i, k ≠ 68 → M' k i = M k i := by
  have hx := hw.x
  have e : M 68 0 39 = w 39 := by rw [hW]
  unfold f_X11_draw
  rw [zw_id (z := m) (by omega) (by omega), if_neg (by omega), e]
  rw [zw_id (z := w 39) (by omega) (by omega), zw_id (z := w 39 * 293 + 197) (by omega) (by omega), zrem_pos (by omega), zrem_pos (by omega)]
  simp only [zlt_]
  exact ⟨_, rfl, by rw [zput_wup, hW]; rfl, fun k i hk => zput_rowk (by omega)⟩
/-- one draw's doing -/
def sDraw (T : Nat → Nat → Option zLw) (A w : Nat → Int) : Nat → Int :=
  if w 39 % 5 ≤ 1 then (if sX (sX w) (14 + (sX w 39 % A 1).toNat) ≠ -1 ∧ sKB A (sX (sX w)) + A (24 + (sX w 39 % A 1).toNat) ≤ A 2 then sSteal (sX (sX w)) (sX w 39 % A 1).toNat else sX (sX w))
  else if w 39 % 5 = 2 then (if sX (sX w) (14 + (sX w 39 % A 1).toNat) = -1 then sBack T A (sX (sX w)) (sX w 39 % A 1).toNat else sX (sX w))
  else if w 39 % 5 = 3 then wup (sX (sX (sX w))) (14 + (sX w 39 % A 1).toNat) (if sX (sX (sX w)) (14 + (sX w 39 % A 1).toNat) = -1 then -1 else sX (sX w) 39 % A 0)
  else (if sX (sX w) 38 < 9999 then (sPass T A (sX (sX w))).1 else sX (sX w))
set_option maxRecDepth 8000 in
set_option maxHeartbeats 2000000 in
theorem wup_same {w : Nat → Int} {k : Nat} {v : Int} (h : w k = v) : wup w k v = w := by
  funext q
  unfold wup
  by_cases hq : q = k
  · rw [if_pos hq, hq, h]
  · rw [if_neg hq]
set_option maxRecDepth 8000 in
set_option maxHeartbeats 2000000 in
theorem rowOK.sx {A w : Nat → Int} (hA : headOK A) (hw : rowOK A w) : rowOK A (sX w) := hw.drawn hA (sX_rng hw.x)
set_option maxRecDepth 8000 in
set_option maxHeartbeats 2000000 in
theorem rowOK.draw {T : Nat → Nat → Option zLw} {A w : Nat → Int} (hA : headOK A) (hw : rowOK A w) (hd : w 38 ≤ 9999) (h1 : 0 < A 1) : rowOK A (sDraw T A w) ∧ sDraw T A w 38 ≤ 9999 := by
  have h0 := hA.thg
  have hs := hA.some_
  have w1 := hw.sx hA
  have w2 := w1.sx hA
  have w3 := w2.sx hA
  have hx := w1.x
  have hx2 := w2.x
  have d2 : sX (sX w) 38 = w 38 := by unfold sX; rw [wup_ne (by omega), wup_ne (by omega)]
  have d3 : sX (sX (sX w)) 38 = w 38 := by show wup _ _ _ 38 = _; rw [wup_ne (by omega)]; exact d2
  have ht : 0 ≤ sX w 39 % A 1 ∧ sX w 39 % A 1 < A 1 := ⟨Int.emod_nonneg _ (by omega), Int.emod_lt_of_pos _ h1⟩
  have ho : 0 ≤ sX (sX w) 39 % A 0 ∧ sX (sX w) 39 % A 0 < A 0 := ⟨Int.emod_nonneg _ (by have := hs h1; omega), Int.emod_lt_of_pos _ (hs h1)⟩
  obtain ⟨t, hte⟩ := Int.eq_ofNat_of_zero_le ht.1
  obtain ⟨o, hoe⟩ := Int.eq_ofNat_of_zero_le ho.1
  unfold sDraw
  rw [hte, Int.toNat_natCast, hoe]
  split
  · split
    · rename_i hc
      exact ⟨w2.steal hA (by omega) hc.1, by unfold sSteal; rw [wup_ne (by omega), wup_ne (by omega), wup_ne (by omega)]; omega⟩
    · exact ⟨w2, by omega⟩
  · split
    · split
      · rename_i hc
        exact ⟨w2.back hA (by omega) hc, by rw [sBack_38 hA w2 (by omega) hc]; omega⟩
      · exact ⟨w2, by omega⟩
    · split
      · refine ⟨?_, by rw [wup_ne (by omega)]; omega⟩
        split
        · rename_i hc
          rw [wup_same hc]; exact w3
        · rename_i hc
          exact w3.hand hA (by omega) (by omega) hc
      · split
        · exact ⟨w2.passN hA (by omega) (by omega), by rw [show (sPass T A (sX (sX w))).1 38 = sX (sX w) 38 + 1 from sPassN_38 hA w2 (by omega) (by omega)]; omega⟩
        · exact ⟨w2, by omega⟩
set_option maxRecDepth 8000 in
set_option maxHeartbeats 2000000 in
theorem X_drawOne {M : zM} {j : Nat} {T : Nat → Nat → Option zLw} {A w : Nat → Int} (hc : cityR M j A w) (hA : headOK A) (hw : rowOK A w) (hd : w 38 ≤ 9999) (hT : textsOK M (A 3) T) (h1 : 0 < A 1) : ∃ M', f_X0_drawOne j M = some M' ∧ cityR M' j A (sDraw T A w) ∧ frX j M M' := by
  have h0 := hA.thg
  have h6 := hA.own
  have hs := hA.some_
  have w1 := hw.sx hA
  have w2 := w1.sx hA
  have w3 := w2.sx hA
  have hx0 := hw.x
  have hx := w1.x
  have hx2 := w2.x
  have d2 : sX (sX w) 38 = w 38 := by unfold sX; rw [wup_ne (by omega), wup_ne (by omega)]
  have ht : 0 ≤ sX w 39 % A 1 ∧ sX w 39 % A 1 < A 1 := ⟨Int.emod_nonneg _ (by omega), Int.emod_lt_of_pos _ h1⟩
  have ho : 0 ≤ sX (sX w) 39 % A 0 ∧ sX (sX w) 39 % A 0 < A 0 := ⟨Int.emod_nonneg _ (by have := hs h1; omega), Int.emod_lt_of_pos _ (hs h1)⟩
  obtain ⟨t, hte⟩ := Int.eq_ofNat_of_zero_le ht.1
  obtain ⟨o, hoe⟩ := Int.eq_ofNat_of_zero_le ho.1
  obtain ⟨M1, e1, c1, f1⟩ := X_draw (m := 5) hc hA hw (by omega)
  obtain ⟨M2, e2, c2, f2⟩ := X_draw (m := A 1) c1 hA w1 (by omega)
  have f12 := f1.trans f2
  have hT2 := f12.txt hT
  unfold f_X0_drawOne sDraw
  rw [e1]
  simp only [zbs]
  rw [c1.thg, e2]
  simp only [zbs]
  rw [hte, Int.toNat_natCast, hoe]
  have hwhat : 0 ≤ w 39 % 5 ∧ w 39 % 5 < 5 := by omega
  generalize w 39 % 5 = what at hwhat ⊢
  rw [zw_id (z := what) (by omega) (by omega)]
  by_cases hw3 : what = 3
  · subst hw3
    obtain ⟨M3, e3, c3, f3⟩ := X_draw (m := A 0) c2 hA w2 (by have := hs h1; omega)
    rw [if_neg (nn_ rfl), c2.own, e3, if_neg (by omega), if_neg (by omega), if_pos rfl]
    simp only [zbs]
    rw [hoe]
    unfold f_X0_drawOne_j32 f_X0_drawOne_j54 f_X0_drawOne_j76
    rw [zw_id (z := 3) (by omega) (by omega), if_pos (by omega), if_pos (by omega), if_neg (nn_ rfl)]
    have hch := X_canHand c3 hA w3 (t := t) (o := o) (by omega) (by omega)
    have f13 := f12.trans f3
    by_cases hq : sX (sX (sX w)) (14 + t) ≠ -1 ∧ sX (sX (sX w)) (14 + t) ≠ o
    · rw [hch.1 hq, if_neg hq.1]
      simp only [zbs]
      rw [if_neg (by rw [zw01.2.1]; omega), zw_nat (by omega), if_pos (by omega), zix_nat (by omega)]
      simp only [zlt_]
      exact ⟨_, rfl, X_hand c3 hA (by omega), f13.trans (frX.put16 (by omega) (by omega))⟩
    · rw [hch.2 hq]
      simp only [zbs]
      rw [if_pos zw_0]
      unfold f_X0_drawOne_j103
      rw [zw_id (z := 3) (by omega) (by omega), if_pos (by omega)]
      refine ⟨M3, rfl, ?_, f13⟩
      by_cases hq1 : sX (sX (sX w)) (14 + t) = -1
      · rw [if_pos hq1, wup_same hq1]; exact c3
      · rw [if_neg hq1, wup_same (by omega)]; exact c3
  · rw [if_pos hw3]
    unfold f_X0_drawOne_j32
    rw [zw_id (z := what) (by omega) (by omega)]
    by_cases hw1 : what ≤ 1
    · rw [if_neg (by omega), if_pos hw1]
      have hct := X_canTake c2 hA w2 (t := t) (by omega)
      unfold sMay at hct
      by_cases hq : sX (sX w) (14 + t) ≠ -1 ∧ sKB A (sX (sX w)) + A (24 + t) ≤ A 2
      · obtain ⟨M3, e3, c3, f3⟩ := X_take c2 hA (t := t) (by omega)
        rw [hct.1 hq, if_pos hq]
        simp only [zbs]
        rw [if_neg (by rw [zw01.2.1]; omega), e3]
        simp only [zbs]
        exact ⟨M3, rfl, c3, f12.trans f3⟩
      · rw [hct.2 hq, if_neg hq]
        simp only [zbs]
        rw [if_pos zw_0]
        unfold f_X0_drawOne_j54 f_X0_drawOne_j76 f_X0_drawOne_j103
        rw [zw_id (z := what) (by omega) (by omega), if_pos (by omega), if_pos (by omega), if_pos (by omega)]
        exact ⟨M2, rfl, c2, f12⟩
    · rw [if_pos (by omega), if_neg hw1]
      unfold f_X0_drawOne_j54
      rw [zw_id (z := what) (by omega) (by omega)]
      by_cases hw2 : what = 2
      · rw [if_neg (nn_ hw2), if_pos hw2]
        by_cases hq : sX (sX w) (14 + t) = -1
        · obtain ⟨M3, e3, c3, f3⟩ := X_comeBack c2 hA w2 hT2 (t := t) (by omega) hq
          rw [if_pos hq, X_kept c2 hA w2 (by omega) hq]
          simp only [zbs]
          rw [if_neg (by rw [zw01.2.1]; omega), e3]
          simp only [zbs]
          exact ⟨M3, rfl, c3, f12.trans f3⟩
        · rw [if_neg hq, X_keptno c2 hA w2 (by omega) hq]
          simp only [zbs]
          rw [if_pos zw_0]
          unfold f_X0_drawOne_j76 f_X0_drawOne_j103
          rw [zw_id (z := what) (by omega) (by omega), if_pos (by omega), if_pos (by omega)]
          exact ⟨M2, rfl, c2, f12⟩
      · rw [if_pos hw2, if_neg hw2, if_neg hw3]
        unfold f_X0_drawOne_j76 f_X0_drawOne_j103
        rw [zw_id (z := what) (by omega) (by omega), if_pos hw3, if_neg (nn_ (show what = 4 by omega)), c2.day, zw_id (z := sX (sX w) 38) (by have := w2.day; omega) (by omega)]
        by_cases hp : sX (sX w) 38 < 9999
        · obtain ⟨M3, e3, c3, f3⟩ := X_passOne c2 hA w2 hT2 (by omega)
          rw [if_neg (by omega), if_pos hp, e3]
          simp only [zbs]
          exact ⟨M3, rfl, c3, f12.trans f3⟩
        · rw [if_pos (by omega), if_neg hp]
          exact ⟨M2, rfl, c2, f12⟩
set_option maxRecDepth 8000 in
set_option maxHeartbeats 2000000 in
theorem R_happens {M : zM} {T : Nat → Nat → Option zLw} {A w : Nat → Int} (hM : M 43 0 = A) (hW : M 68 0 = w) (hA : headOK A) (hw : rowOK A w) (hd : w 38 ≤ 9999) (hT : textsOK M (A 3) T) (h1 : 0 < A 1) : ∃ M', f_X11_happens M = some M' ∧ M' 68 0 = sDraw T A w ∧ frR M M' := by
  have h0 := hA.thg
  have h6 := hA.own
  have hs := hA.some_
  have w1 := hw.sx hA
  have w2 := w1.sx hA
  have w3 := w2.sx hA
  have hx0 := hw.x
  have hx := w1.x
  have hx2 := w2.x
  have d2 : sX (sX w) 38 = w 38 := by unfold sX; rw [wup_ne (by omega), wup_ne (by omega)]
  have ht : 0 ≤ sX w 39 % A 1 ∧ sX w 39 % A 1 < A 1 := ⟨Int.emod_nonneg _ (by omega), Int.emod_lt_of_pos _ h1⟩
  have ho : 0 ≤ sX (sX w) 39 % A 0 ∧ sX (sX w) 39 % A 0 < A 0 := ⟨Int.emod_nonneg _ (by have := hs h1; omega), Int.emod_lt_of_pos _ (hs h1)⟩
  obtain ⟨t, hte⟩ := Int.eq_ofNat_of_zero_le ht.1
  obtain ⟨o, hoe⟩ := Int.eq_ofNat_of_zero_le ho.1
  obtain ⟨M1, e1, c1, g1⟩ := R_draw (m := 5) hW hw (by omega)
  have a1 : M1 43 0 = A := by rw [g1 43 0 (by omega)]; exact hM
  obtain ⟨M2, e2, c2, g2⟩ := R_draw (m := A 1) c1 w1 (by omega)
  have a2 : M2 43 0 = A := by rw [g2 43 0 (by omega)]; exact a1
  have f12 : frR M M2 := (frR.of68 g1).trans (frR.of68 g2)
  have hT2 := f12.txt hT
  have m1 : M1 43 0 1 = A 1 := by rw [a1]
  have m2 : M2 43 0 0 = A 0 := by rw [a2]
  unfold f_X11_happens sDraw
  rw [e1]
  simp only [zbs]
  rw [m1, e2]
  simp only [zbs]
  rw [hte, Int.toNat_natCast, hoe]
  have hwhat : 0 ≤ w 39 % 5 ∧ w 39 % 5 < 5 := by omega
  generalize w 39 % 5 = what at hwhat ⊢
  rw [zw_id (z := what) (by omega) (by omega)]
  have hmay := R_may a2 c2 w2 hA (t := t) (by omega)
  unfold sMay at hmay
  -- what is stolen
  have steal : ∃ M', ((f_X11_mayStealNow (t : Int) M2).bind fun p4 => if zw p4.1 = 0 then some p4.2 else (f_X11_stealsNow (t : Int) p4.2).bind fun p5 => some p5) = some M' ∧ M' 68 0 = (if sX (sX w) (14 + t) ≠ -1 ∧ sKB A (sX (sX w)) + A (24 + t) ≤ A 2 then sSteal (sX (sX w)) t else sX (sX w)) ∧ frR M M' := by
    by_cases hq : sX (sX w) (14 + t) ≠ -1 ∧ sKB A (sX (sX w)) + A (24 + t) ≤ A 2
    · obtain ⟨M3, e3, c3, g3⟩ := R_steals c2 (t := t) (by omega)
      rw [hmay.1 hq, if_pos hq]
      simp only [zbs]
      rw [if_neg (by rw [zw01.2.1]; omega), e3]
      simp only [zbs]
      exact ⟨M3, rfl, c3, f12.trans (frR.of68 g3)⟩
    · rw [hmay.2 hq, if_neg hq]
      simp only [zbs]
      rw [if_pos zw_0]
      exact ⟨M2, rfl, c2, f12⟩
  by_cases hw0 : what = 0
  · rw [if_pos hw0, if_pos (by omega)]
    exact steal
  · rw [if_neg hw0]
    by_cases hw1 : what = 1
    · rw [if_pos hw1, if_pos (by omega)]
      exact steal
    · rw [if_neg hw1, if_neg (show ¬ what ≤ 1 by omega)]
      by_cases hw2 : what = 2
      · rw [if_pos hw2, if_pos hw2]
        by_cases hq : sX (sX w) (14 + t) = -1
        · obtain ⟨M3, e3, c3, f3⟩ := R_comesBack a2 c2 hA w2 hT2 (t := t) (by omega) hq
          rw [if_pos hq, R_kept c2 w2 hA (by omega) hq]
          simp only [zbs]
          rw [if_neg (by rw [zw01.2.1]; omega), e3]
          simp only [zbs]
          exact ⟨M3, rfl, c3, f12.trans f3⟩
        · rw [if_neg hq, R_keptno c2 w2 hA (by omega) hq]
          simp only [zbs]
          rw [if_pos zw_0]
          exact ⟨M2, rfl, c2, f12⟩
      · rw [if_neg hw2, if_neg hw2]
        by_cases hw3 : what = 3
        · obtain ⟨M3, e3, c3, g3⟩ := R_draw (m := A 0) c2 w2 (by have := hs h1; omega)
          rw [if_pos hw3, if_pos hw3, m2, e3]
          simp only [zbs]
          rw [hoe]
          unfold f_X11_happens_j113
          by_cases hq : sX (sX (sX w)) (14 + t) = -1
          · rw [if_pos hq, R_kept c3 w3 hA (by omega) hq]
            simp only [zbs]
            rw [if_neg (by rw [zw01.2.1]; omega), zw_id (by omega) (by omega), if_pos (by omega), zi14 (by omega)]
            simp only [zlt_]
            exact ⟨_, rfl, by rw [zput_wup, c3], f12.trans ((frR.of68 g3).trans frR.put)⟩
          · rw [if_neg hq, R_keptno c3 w3 hA (by omega) hq]
            simp only [zbs]
            rw [if_pos zw_0, zw_id (by omega) (by omega), if_pos (by omega), zi14 (by omega)]
            simp only [zlt_]
            exact ⟨_, rfl, by rw [zput_wup, c3], f12.trans ((frR.of68 g3).trans frR.put)⟩
        · rw [if_neg hw3, if_neg hw3]
          obtain ⟨M3, e3, c3, f3⟩ := R_thru (T := T) (n := 1) a2 c2 hA w2 (by omega) hT2 (by omega)
          rw [show f_X11_passesThrough 1 M2 = some M3 from e3]
          simp only [zbs]
          exact ⟨M3, rfl, c3, f12.trans f3⟩
def sDraws (T : Nat → Nat → Option zLw) (A w : Nat → Int) : Nat → (Nat → Int)
  | 0 => w
  | n + 1 => sDraw T A (sDraws T A w n)
set_option maxRecDepth 8000 in
set_option maxHeartbeats 2000000 in
theorem sDraws_ok {T : Nat → Nat → Option zLw} {A w : Nat → Int} (hA : headOK A) (hw : rowOK A w) (hd : w 38 ≤ 9999) (h1 : 0 < A 1) : ∀ n, rowOK A (sDraws T A w n) ∧ sDraws T A w n 38 ≤ 9999 := by
  intro n
  induction n with
  | zero => exact ⟨hw, hd⟩
  | succ n ih => exact ih.1.draw hA ih.2 h1
set_option maxRecDepth 8000 in
set_option maxHeartbeats 2000000 in
theorem call_decades {M : zM} {v n : Int} (h : zI M) (hv : -2147483648 ≤ v ∧ v ≤ 2147483647) (hn : -2147483648 ≤ n ∧ n ≤ 2147483647) : zCall (f_X10_decades v n M) (fun N => f_X11_decades v n N) := by
  have hz := h
  obtain ⟨T, hI⟩ := h
  have w0 := hI.w0
  have hT := hI.txt
  generalize hAA : M 43 0 = A at w0 hT
  have hA := w0.head
  have h0 := hA.thg
  generalize hWW : M 68 0 = W
  have hthg := w0.city.thg
  have m1 : M 43 0 1 = A 1 := by rw [hAA]
  by_cases hr : 0 ≤ v ∧ v ≤ 9999
  case neg =>
    refine zCall.same hz (v := -1) ?_ ?_
    · unfold f_X10_decades
      rw [wth_no (by omega) hv (by omega) (by omega)]
      simp only [zbs]
      rw [if_pos zw_0]
    · unfold f_X11_decades
      rw [in_no (by omega) hv (by omega) (by omega)]
      simp only [zbs]
      rw [if_pos zw_0]
  by_cases hq : 1 ≤ n ∧ n ≤ 30
  case neg =>
    refine zCall.same hz (v := -1) ?_ ?_
    · unfold f_X10_decades
      rw [wth_yes hr.1 hr.2 hv (by omega) (by omega)]
      simp only [zbs]
      rw [if_neg (by rw [zw01.2.1]; omega), wth_no (by omega) hn (by omega) (by omega)]
      simp only [zbs]
      rw [if_pos zw_0]
    · unfold f_X11_decades
      rw [in_yes hr.1 hr.2 hv (by omega) (by omega)]
      simp only [zbs]
      rw [if_neg (by rw [zw01.2.1]; omega), in_no (by omega) hn (by omega) (by omega)]
      simp only [zbs]
      rw [if_pos zw_0]
  by_cases h1 : A 1 = 0
  · refine zCall.same hz (v := -1) ?_ ?_
    · unfold f_X10_decades
      rw [wth_yes hr.1 hr.2 hv (by omega) (by omega)]
      simp only [zbs]
      rw [if_neg (by rw [zw01.2.1]; omega), wth_yes hq.1 hq.2 hn (by omega) (by omega)]
      simp only [zbs]
      rw [if_neg (by rw [zw01.2.1]; omega), hthg, h1, if_neg (nn_ zw_0)]
    · unfold f_X11_decades
      rw [in_yes hr.1 hr.2 hv (by omega) (by omega)]
      simp only [zbs]
      rw [if_neg (by rw [zw01.2.1]; omega), in_yes hq.1 hq.2 hn (by omega) (by omega)]
      simp only [zbs]
      rw [if_neg (by rw [zw01.2.1]; omega), m1, h1, if_neg (nn_ zw_0)]
  obtain ⟨k, rfl⟩ := Int.eq_ofNat_of_zero_le (show 0 ≤ n by omega)
  obtain ⟨M1, b1, b2, b3, b4, b5, b6, b7⟩ := stepX (W := W) w0 hT
  have hA1 := b2.head
  have hk1 : sKeep A 1 = A 1 := sKeep_lo (by omega) (by omega)
  have hx : 0 ≤ v * 2 + 89 ∧ v * 2 + 89 < 30319 := by omega
  have c0 := b5.drawn (x := v * 2 + 89) (by omega)
  have w1 := b6.drawn (x := v * 2 + 89) hA1 hx
  have d1 : wup (sLay A W) 39 (v * 2 + 89) 38 ≤ 9999 := by rw [wup_ne (by omega)]; exact b7
  have ok := sDraws_ok (T := T) hA1 w1 d1 (by omega)
  generalize hw1 : wup (sLay A W) 39 (v * 2 + 89) = u at c0 w1 d1 ok
  -- the class
  have key := zT_cnt0 (body := fun s : Int × zM => f_X10_decades_L59 (k : Int) s.1 s.2) (fun i N => cityR N 0 (sKeep A) (sDraws T (sKeep A) u i) ∧ frX 0 M1 N) k (Q := fun N => cityR N 0 (sKeep A) (sDraws T (sKeep A) u k) ∧ frX 0 M1 N) ?_ ?_ (m := zF) (by unfold zF; omega) (N0 := zput M1 11 0 11 (v * 2 + 89)) ⟨c0, frX.put11⟩
  · obtain ⟨M2, x1, x2, x3⟩ := key
    have hw2 := b2.now x2 (ok k).1 (ok k).2 x3
    have f12 : frW M M2 := b3.trans x3.w0
    have hA2 : M2 43 0 = A := by rw [f12 43 0 (by unfold sc0; omega)]; exact hAA
    have hW2 : M2 68 0 = W := by rw [f12 68 0 (by unfold sc0; omega)]; exact hWW
    have hT2 : textsOK M2 (A 3) T := hT.frame (fun k i hk => f12 k i (by unfold txK at hk; unfold sc0; omega))
    -- the reference
    obtain ⟨N1, p1, p2, p3⟩ := R_keepsStep hA2 hA.stp
    obtain ⟨N2, q1, q2, q3⟩ := R_lay p3
    have hN168 : N1 68 0 = W := by rw [p2 68 0 (by omega)]; exact hW2
    rw [hN168, sLay_keep] at q3
    have hN2 : N2 43 0 = sKeep A := by rw [q2 43 0 (by omega)]; exact p3
    have f23 : frV M2 (zput N2 68 0 39 (v * 2 + 89)) := (frV.of43 p2).trans ((frV.of68 q2).trans frR.put.v)
    have e3 : zput N2 68 0 39 (v * 2 + 89) 43 0 = sKeep A := by rw [zput_rowk (by omega)]; exact hN2
    have e4 : zput N2 68 0 39 (v * 2 + 89) 68 0 = u := by rw [zput_wup, q3, hw1]
    generalize hN3 : zput N2 68 0 39 (v * 2 + 89) = N3 at f23 e3 e4
    have hT3 : textsOK N3 (sKeep A 3) T := by
      rw [sKeep_lo (by omega) (by omega)]
      exact hT2.frame (fun k i hk => f23 k i (by unfold txK at hk; omega) (by unfold txK at hk; omega))
    have key2 := zT_cnt0 (body := fun s : Int × zM => f_X11_decades_L55 (k : Int) s.1 s.2) (fun i N => N 68 0 = sDraws T (sKeep A) u i ∧ frR N3 N) k (Q := fun N => N 68 0 = sDraws T (sKeep A) u k ∧ frR N3 N) ?_ ?_ (m := zF) (by unfold zF; omega) (N0 := N3) ⟨e4, frR.rfl_⟩
    · obtain ⟨N4, y1, y2, y3⟩ := key2
      have hN4 : N4 43 0 = sKeep A := by rw [y3 43 0 (by omega) (by omega) (by omega)]; exact e3
      obtain ⟨N5, k1, k2, k3⟩ := R_now hN4 y2
      have hN5 : N5 68 0 38 = sDraws T (sKeep A) u k 38 := by rw [k2 68 0 (by omega), y2]
      refine zCall.mk (M1 := M2) (M2 := N5) (v := sDraws T (sKeep A) u k 38) ?_ ?_ ⟨T, hI.step f12 hw2 (f23.trans (y3.v.trans (frV.of43 k2))) k3 ?_⟩
      · unfold f_X10_decades
        rw [wth_yes hr.1 hr.2 hv (by omega) (by omega)]
        simp only [zbs]
        rw [if_neg (by rw [zw01.2.1]; omega), wth_yes hq.1 hq.2 hn (by omega) (by omega)]
        simp only [zbs]
        rw [if_neg (by rw [zw01.2.1]; omega), hthg, zw_id (z := A 1) (by omega) (by omega), if_pos h1, b1]
        simp only [zbs, zlt_]
        rw [x1]
        simp only [zbs, x2.day]
      · unfold f_X11_decades
        have m21 : M2 43 0 1 = A 1 := by rw [hA2]
        rw [in_yes hr.1 hr.2 hv (by omega) (by omega)]
        simp only [zbs]
        rw [if_neg (by rw [zw01.2.1]; omega), in_yes hq.1 hq.2 hn (by omega) (by omega)]
        simp only [zbs]
        rw [if_neg (by rw [zw01.2.1]; omega), m21, zw_id (z := A 1) (by omega) (by omega), if_pos h1, p1]
        simp only [zbs]
        rw [q1]
        simp only [zbs, zlt_]
        rw [hN3, y1]
        simp only [zbs]
        rw [k1]
        simp only [zbs, hN5]
      · rw [sNow_out (by omega), sKeep_lo (by omega) (by omega), hAA]
    · rintro i N hi ⟨g1, g2⟩
      dsimp only
      obtain ⟨o1, o2⟩ := ok i
      have hN : N 43 0 = sKeep A := by rw [g2 43 0 (by omega) (by omega) (by omega)]; exact e3
      obtain ⟨N', r1, r2, r3⟩ := R_happens (T := T) hN g1 hA1 o1 o2 (g2.txt hT3) (by omega)
      unfold f_X11_decades_L55
      rw [zw_nat (by omega), zw_nat (by omega), if_neg (by omega), r1]
      simp only [zbs]
      exact zT_some (Or.inl ⟨_, rfl, r2, g2.trans r3⟩)
    · rintro N ⟨g1, g2⟩
      dsimp only
      unfold f_X11_decades_L55
      rw [zw_nat (by omega), if_pos (by omega)]
      exact zT_some ⟨N, rfl, g1, g2⟩
  · rintro i N hi ⟨g1, g2⟩
    dsimp only
    obtain ⟨o1, o2⟩ := ok i
    obtain ⟨N', r1, r2, r3⟩ := X_drawOne (T := T) g1 hA1 o1 o2 (g2.txt b4) (by omega)
    unfold f_X10_decades_L59
    rw [zw_nat (by omega), zw_nat (by omega), if_neg (by omega), r1]
    simp only [zbs]
    exact zT_some (Or.inl ⟨_, rfl, r2, g2.trans r3⟩)
  · rintro N ⟨g1, g2⟩
    dsimp only
    unfold f_X10_decades_L59
    rw [zw_nat (by omega), if_pos (by omega)]
    exact zT_some ⟨N, rfl, g1, g2⟩
