/-! fewest: the reference's side -/
set_option maxRecDepth 8000 in
set_option maxHeartbeats 2000000 in
theorem sPush_hi {w : Nat → Int} {t q : Nat} {to : Int} (h : 0 ≤ w 40 ∧ w 40 < 30) (hq : 161 ≤ q) : sPush w t to q = w q := by
  unfold sPush
  rw [wup_ne (by omega), wup_ne (by omega), wup_ne (by omega), wup_ne (by omega), wup_ne (by omega)]
set_option maxRecDepth 8000 in
set_option maxHeartbeats 2000000 in
theorem sShift_hi2 {w : Nat → Int} {q : Nat} (hq : 161 ≤ q) : sShift w q = w q := by
  unfold sShift
  rw [wup_ne (by omega), if_neg (by omega)]
set_option maxRecDepth 8000 in
set_option maxHeartbeats 2000000 in
theorem sWrite_hi {w : Nat → Int} {t q : Nat} {to : Int} (h : 0 ≤ w 40 ∧ w 40 ≤ 30) (hq : 161 ≤ q) : sWrite w t to q = w q := by
  unfold sWrite
  by_cases h30 : w 40 = 30
  · rw [if_pos h30, sPush_hi (by rw [sShift_40]; omega) hq, sShift_hi2 hq]
  · rw [if_neg h30, sPush_hi (by omega) hq]
set_option maxRecDepth 8000 in
set_option maxHeartbeats 2000000 in
theorem sBack_hi {T : Nat → Nat → Option zLw} {A w : Nat → Int} {t q : Nat} (hA : headOK A) (hw : rowOK A w) (ht : (t : Int) < A 1) (hk : w (14 + t) = -1) (hq : 161 ≤ q) : sBack T A w t q = w q := by
  have h0 := hA.thg
  have h1 := hA.own
  have hb := hw.book
  have hto := sTo_le (T := T) (pe := 0) hA hw ht hk
  unfold sBack
  rw [wup_ne (by omega), wup_ne (by omega), wup_ne (by omega), sWrite_hi (by rw [wup_ne (by omega)]; exact hb) hq, wup_ne (by omega)]
set_option maxRecDepth 8000 in
set_option maxHeartbeats 2000000 in
theorem sPassN_hi {T : Nat → Nat → Option zLw} {A w : Nat → Int} (hA : headOK A) (hw : rowOK A w) (h : w 38 < 10060) {q : Nat} (hq : 161 ≤ q) {n : Nat} (hn : (n : Int) ≤ A 1) : (sPassN T A w n).1 q = w q := by
  have h0 := hA.thg
  induction n with
  | zero => exact wup_ne (by omega)
  | succ n ih =>
    have ih := ih (by omega)
    have hg := (rowOK.passN (T := T) hA hw h (n := n) (by omega)).grow (T := T) (t := n) hA (by omega)
    unfold sPassN
    by_cases hk : (sPassN T A w n).1 (14 + n) = -1
    · have h14 : sGrow T A (sPassN T A w n).1 n (14 + n) = -1 := by unfold sGrow; rw [wup_ne (by omega)]; exact hk
      have hgq : sGrow T A (sPassN T A w n).1 n q = w q := by unfold sGrow; rw [wup_ne (by omega)]; exact ih
      rw [if_pos hk]
      split
      · exact hgq
      · exact (sBack_hi hA hg (by omega) h14 hq).trans hgq
    · rw [if_neg hk]; exact ih
set_option maxRecDepth 8000 in
set_option maxHeartbeats 2000000 in
theorem sThru1_hi {T : Nat → Nat → Option zLw} {A w : Nat → Int} (hA : headOK A) (hw : rowOK A w) (hd : w 38 ≤ 9999) {q : Nat} (hq : 161 ≤ q) : sThru T A w 1 q = w q := by
  have h0 := hA.thg
  unfold sThru sThru
  by_cases h : w 38 < 9999
  · rw [if_pos h]
    exact sPassN_hi hA hw (by omega) hq (by omega)
  · rw [if_neg h]
set_option maxRecDepth 8000 in
set_option maxHeartbeats 2000000 in
/-- an act's row -/
theorem sAct_ok {T : Nat → Nat → Option zLw} {A w : Nat → Int} {a : Nat} (hA : headOK A) (hw : rowOK A w) (hd : w 38 ≤ 9999) (ha : (a : Int) ≤ 2 * A 1) : rowOK A (sAct T A w a) ∧ sAct T A w a 38 ≤ 9999 ∧ ∀ q, 161 ≤ q → sAct T A w a q = w q := by
  have h0 := hA.thg
  unfold sAct
  by_cases h1 : a = 0
  · rw [if_pos h1]; exact ⟨hw, hd, fun _ _ => rfl⟩
  · rw [if_neg h1]
    by_cases h2 : (a : Int) ≤ A 1
    · rw [if_pos h2]
      by_cases h3 : w (14 + (a - 1)) ≠ -1 ∧ sKB A w + A (24 + (a - 1)) ≤ A 2
      · rw [if_pos h3]
        refine ⟨hw.steal hA (by omega) h3.1, ?_, fun q hq => ?_⟩
        · unfold sSteal; rw [wup_ne (by omega), wup_ne (by omega), wup_ne (by omega)]; exact hd
        · unfold sSteal; rw [wup_ne (by omega), wup_ne (by omega), wup_ne (by omega)]
      · rw [if_neg h3]; exact ⟨hw, hd, fun _ _ => rfl⟩
    · rw [if_neg h2]
      by_cases h3 : w (14 + (a - 1 - (A 1).toNat)) = -1
      · rw [if_pos h3]
        exact ⟨hw.back hA (by omega) h3, by rw [sBack_38 hA hw (by omega) h3]; exact hd, fun q hq => sBack_hi hA hw (by omega) h3 hq⟩
      · rw [if_neg h3]; exact ⟨hw, hd, fun _ _ => rfl⟩
set_option maxRecDepth 8000 in
set_option maxHeartbeats 2000000 in
theorem sGo_ok {T : Nat → Nat → Option zLw} {A w : Nat → Int} {a : Nat} (hA : headOK A) (hw : rowOK A w) (hd : w 38 ≤ 9999) (ha : (a : Int) ≤ 2 * A 1) : rowOK A (sGo T A w a) ∧ sGo T A w a 38 ≤ 9999 ∧ ∀ q, 161 ≤ q → sGo T A w a q = w q := by
  obtain ⟨h1, h2, h3⟩ := sAct_ok (T := T) hA hw hd ha
  obtain ⟨g1, g2, g3⟩ := sThru_ok (T := T) hA h1 h2 1
  exact ⟨g1, g2, fun q hq => by unfold sGo; rw [sThru1_hi hA h1 h2 hq, h3 q hq]⟩
set_option maxRecDepth 8000 in
set_option maxHeartbeats 2000000 in
theorem sRunF_ok {T : Nat → Nat → Option zLw} {A w : Nat → Int} {ac : Nat → Nat} (hA : headOK A) (hw : rowOK A w) (hd : w 38 ≤ 9999) (ha : ∀ k, (ac k : Int) ≤ 2 * A 1) : ∀ k, rowOK A (sRunF T A w ac k) ∧ sRunF T A w ac k 38 ≤ 9999 ∧ ∀ q, 161 ≤ q → sRunF T A w ac k q = w q := by
  intro k
  induction k with
  | zero => exact ⟨hw, hd, fun _ _ => rfl⟩
  | succ k ih =>
    obtain ⟨g1, g2, g3⟩ := sGo_ok (T := T) hA ih.1 ih.2.1 (ha k)
    exact ⟨g1, g2, fun q hq => by show sGo T A (sRunF T A w ac k) (ac k) q = _; rw [g3 q hq, ih.2.2 q hq]⟩
set_option maxRecDepth 8000 in
set_option maxHeartbeats 2000000 in
theorem zrem_mod {a : Nat} {T : Nat} (ha : a ≤ 2 * T) (hT : T ≤ 8) (h1 : 0 < a) : (a ≤ T → zrem (zw ((a : Int) - 1)) (zw (T : Int)) = ((a - 1 : Nat) : Int)) ∧ (T < a → zrem (zw ((a : Int) - 1)) (zw (T : Int)) = ((a - 1 - T : Nat) : Int)) := by
  rw [zw_id (by omega) (by omega), zw_nat (by omega), zrem_pos (by omega)]
  constructor
  · intro h
    rw [Int.emod_eq_of_lt (by omega) (by omega)]
    omega
  · intro h
    have e : (a : Int) - 1 = ((a - 1 - T : Nat) : Int) + T := by omega
    rw [e, Int.add_emod_right, Int.emod_eq_of_lt (by omega) (by omega)]
set_option maxRecDepth 8000 in
set_option maxHeartbeats 2000000 in
theorem R_actsOn {M : zM} {T : Nat → Nat → Option zLw} {A w : Nat → Int} {a : Nat} (hM : M 43 0 = A) (hW : M 68 0 = w) (hA : headOK A) (hw : rowOK A w) (hT : textsOK M (A 3) T) (h1 : 0 < A 1) (ha : (a : Int) ≤ 2 * A 1) : ∃ M', f_X11_actsOn a M = some M' ∧ M' 68 0 = sAct T A w a ∧ frR M M' := by
  have h0 := hA.thg
  obtain ⟨n, hn⟩ := Int.eq_ofNat_of_zero_le h0.1
  have e1 : M 43 0 1 = (n : Int) := by rw [hM, hn]
  unfold f_X11_actsOn sAct
  rw [e1]
  by_cases hz : a = 0
  · subst hz
    rw [if_neg (nn_ (show zw ((0 : Nat) : Int) = 0 from zw_0)), if_pos rfl]
    exact ⟨M, rfl, hW, frR.rfl_⟩
  · have hr := zrem_mod (a := a) (T := n) (by omega) (by omega) (by omega)
    rw [zw_nat (n := a) (by omega), if_pos (by omega), if_neg hz, if_neg (by rw [zw_nat (by omega)]; omega), hn, zw_nat (n := n) (by omega)]
    by_cases hc : a ≤ n
    · have hr1 := hr.1 hc
      rw [zw_nat (n := n) (by omega)] at hr1
      rw [if_neg (by omega), if_pos (by omega), hr1]
      have hm := R_may hM hW hw hA (t := a - 1) (by omega)
      unfold sMay at hm
      by_cases h3 : w (14 + (a - 1)) ≠ -1 ∧ sKB A w + A (24 + (a - 1)) ≤ A 2
      · rw [if_pos h3, hm.1 h3]
        simp only [zbs]
        rw [if_neg (by rw [zw01.2.1]; omega)]
        obtain ⟨M', q1, q2, q3⟩ := R_steals hW (t := a - 1) (by omega)
        rw [q1]
        exact ⟨M', zbs _ _, q2, frR.of68 q3⟩
      · rw [if_neg h3, hm.2 h3]
        simp only [zbs]
        rw [if_pos zw_0]
        exact ⟨M, rfl, hW, frR.rfl_⟩
    · have hr1 := hr.2 (by omega)
      rw [zw_nat (n := n) (by omega)] at hr1
      rw [if_pos (by omega), if_neg (by omega), hr1, Int.toNat_natCast]
      by_cases h3 : w (14 + (a - 1 - n)) = -1
      · rw [if_pos h3, R_kept hW hw hA (by omega) h3]
        simp only [zbs]
        rw [if_neg (by rw [zw01.2.1]; omega)]
        obtain ⟨M', q1, q2, q3⟩ := R_comesBack hM hW hA hw hT (t := a - 1 - n) (by omega) h3
        rw [q1]
        exact ⟨M', zbs _ _, q2, q3⟩
      · rw [if_neg h3, R_keptno hW hw hA (by omega) h3]
        simp only [zbs]
        rw [if_pos zw_0]
        exact ⟨M, rfl, hW, frR.rfl_⟩
set_option maxRecDepth 8000 in
set_option maxHeartbeats 2000000 in
theorem R_isWithBy {M : zM} {T : Nat → Nat → Option zLw} {A W : Nat → Int} {th n : Nat} {ow : Int} {ac : Nat → Nat} (hM : M 43 0 = A) (hA : headOK A) (hl : rowOK A (sLay A W)) (hd : sLay A W 38 ≤ 9999) (hW : ∀ q, 161 ≤ q → M 68 0 q = W q) (hT : textsOK M (A 3) T) (h1 : 0 < A 1) (hth : (th : Int) < A 1) (how : 0 ≤ ow ∧ ow < 6) (hn : n ≤ 3) (hac : ∀ k, (ac k : Int) ≤ 2 * A 1) (h69 : ∀ k, k < n → M 69 0 k = ac k) : ∃ M', f_X11_isWithBy th ow n M = some (if sRunF T A (sLay A W) ac n (14 + th) = ow then 1 else 0, M') ∧ (∀ q, 161 ≤ q → M' 68 0 q = W q) ∧ frR M M' := by
  have h0 := hA.thg
  have hok := sRunF_ok (T := T) hA hl hd hac
  obtain ⟨N1, d1, d2, d3⟩ := R_lay hM
  have d4 : N1 68 0 = sLay A W := by
    rw [d3]
    funext q
    unfold sLay
    by_cases h : q < 161
    · rw [if_pos h, if_pos h]
    · rw [if_neg h, if_neg h]; exact hW q (by omega)
  have f1 : frR M N1 := frR.of68 d2
  have key := zT_cnt0 (body := fun s : Int × zM => f_X11_isWithBy_L7 th ow n s.1 s.2) (fun i N => N 68 0 = sRunF T A (sLay A W) ac i ∧ frR M N) n (Q := fun N => N 68 0 = sRunF T A (sLay A W) ac n ∧ frR M N) ?_ ?_ (m := zF) (by unfold zF; omega) (N0 := N1) ⟨d4, f1⟩
  · obtain ⟨M', k1, k2, k3⟩ := key
    refine ⟨M', ?_, fun q hq => by rw [k2, (hok n).2.2 q hq]; unfold sLay; rw [if_neg (by omega)], k3⟩
    have hat := (hok n).1.at_ th hth
    have h6 := hA.own
    unfold f_X11_isWithBy
    rw [d1]
    simp only [zbs]
    rw [k1]
    simp only [zbs]
    rw [zw_id (z := 14 + (th : Int)) (by omega) (by omega), if_pos (by omega), zi14 (by omega), k2, zw_id (z := sRunF T A (sLay A W) ac n (14 + th)) (by omega) (by omega), zw_id (z := ow) (by omega) (by omega)]
    by_cases hq : sRunF T A (sLay A W) ac n (14 + th) = ow
    · rw [if_neg (nn_ hq), if_pos hq]
    · rw [if_pos hq, if_neg hq]
  · rintro i N hi ⟨g1, g2⟩
    dsimp only
    unfold f_X11_isWithBy_L7
    have g43 : N 43 0 = A := by rw [g2 43 0 (by omega) (by omega) (by omega)]; exact hM
    have gT : textsOK N (A 3) T := g2.txt hT
    have g69 : N 69 0 i = ac i := by rw [g2 69 0 (by omega) (by omega) (by omega)]; exact h69 i hi
    obtain ⟨N2, r1, r2, r3⟩ := R_actsOn g43 g1 hA (hok i).1 gT h1 (hac i)
    obtain ⟨o1, o2, -⟩ := sAct_ok (T := T) hA (hok i).1 (hok i).2.1 (hac i)
    obtain ⟨N3, r4, r5, r6⟩ := R_thru (T := T) (n := 1) (by rw [r3 43 0 (by omega) (by omega) (by omega)]; exact g43) r2 hA o1 o2 (r3.txt gT) (by omega)
    have r4' : f_X11_passesThrough 1 N2 = some N3 := r4
    rw [zw_nat (by omega), zw_nat (by omega), if_neg (by omega), if_pos (by omega), zix_nat (by omega), g69, r1]
    simp only [zbs]
    rw [r4']
    simp only [zbs]
    exact zT_some (Or.inl ⟨_, rfl, r5, g2.trans (r3.trans r6)⟩)
  · rintro N ⟨g1, g2⟩
    dsimp only
    unfold f_X11_isWithBy_L7
    rw [zw_nat (by omega), if_pos (Int.le_refl _)]
    exact zT_some ⟨N, rfl, g1, g2⟩
