/-! text: the reference begins a one -/
set_option maxRecDepth 8000 in
set_option maxHeartbeats 2000000 in
theorem nm_cases {k : Int} (h : 0 ≤ k ∧ k < 25) : k = 0 ∨ k = 1 ∨ k = 2 ∨ k = 3 ∨ k = 4 ∨ k = 5 ∨ k = 6 ∨ k = 7 ∨ k = 8 ∨ k = 9 ∨ k = 10 ∨ k = 11 ∨ k = 12 ∨ k = 13 ∨ k = 14 ∨ k = 15 ∨ k = 16 ∨ k = 17 ∨ k = 18 ∨ k = 19 ∨ k = 20 ∨ k = 21 ∨ k = 22 ∨ k = 23 ∨ k = 24 := by omega
set_option maxRecDepth 8000 in
set_option maxHeartbeats 2000000 in
theorem R_nameNow {M : zM} {k u : Int} (h : tokS (M 42 0 17) (M 42 0 18) k u) : f_X11_nameNow M = some (if isNm k = true then nmR k else -1, M) := by
  have hno : ¬ (0 ≤ k ∧ k < 25) → ¬ isNm k = true := fun hk => by unfold isNm; rw [decide_eq_true_eq]; omega
  rcases h with ⟨h1, h2⟩ | ⟨h1, h2, h3, -⟩ | ⟨h1, h2, h3⟩ | ⟨h1, h2, h3⟩ | ⟨h1, h2⟩
  · unfold f_X11_nameNow
    rw [h2, if_neg (by decide), if_neg (hno (by omega))]
  · unfold f_X11_nameNow
    rw [h2, if_neg (by decide), if_neg (hno (by omega))]
  · have key : ∀ v : Int, M 42 0 18 = v → 0 ≤ v ∧ v < 25 → f_X11_nameNow M = some (if v = 4 then 4 else if v = 5 then 6 else if v = 10 then 0 else if v = 12 then 3 else if v = 21 then 1 else if v = 22 then 2 else if v = 23 then 5 else if v = 24 then 7 else -1, M) := by
      intro v hv hb
      unfold f_X11_nameNow
      rw [h2, hv, if_pos (by decide), zw_id (z := v) (by omega) (by omega)]
      rcases nm_cases hb with rfl | rfl | rfl | rfl | rfl | rfl | rfl | rfl | rfl | rfl | rfl | rfl | rfl | rfl | rfl | rfl | rfl | rfl | rfl | rfl | rfl | rfl | rfl | rfl | rfl <;> rfl
    rw [key (rk k) h3 (rk_le h1)]
    rcases nm_cases h1 with rfl | rfl | rfl | rfl | rfl | rfl | rfl | rfl | rfl | rfl | rfl | rfl | rfl | rfl | rfl | rfl | rfl | rfl | rfl | rfl | rfl | rfl | rfl | rfl | rfl <;> rfl
  · unfold f_X11_nameNow
    rw [h2, if_neg (by decide), if_neg (hno (by omega))]
  · unfold f_X11_nameNow
    rcases h2 with h2 | ⟨h2, -⟩ <;> rw [h2, if_neg (by decide), if_neg (hno (by omega))]
set_option maxRecDepth 8000 in
set_option maxHeartbeats 2000000 in
theorem nmR_rng {k : Int} : 0 ≤ nmR k ∧ nmR k ≤ 7 := by
  unfold nmR
  (repeat' split) <;> omega
set_option maxRecDepth 8000 in
set_option maxHeartbeats 2000000 in
theorem R_mayName {M : zM} {k law : Int} (hk : isNm k = true) (hl : 0 ≤ law ∧ law ≤ 3) : f_X11_mayName (nmR k) law M = some (if mayNm law k = true then 1 else 0, M) := by
  unfold isNm at hk
  have hk := of_decide_eq_true hk
  have hr := nmR_rng (k := k)
  unfold f_X11_mayName mayNm
  rw [zw_id (z := nmR k) (by omega) (by omega), zw_id (z := law) (by omega) (by omega)]
  by_cases h15 : k = 15
  · have e : nmR k = 7 := by rw [h15]; rfl
    rw [e, if_neg (by omega)]
    by_cases h3 : law = 3
    · rw [if_pos h3, if_pos (decide_eq_true (Or.inr h3))]
    · rw [if_neg h3, if_pos (by omega), if_neg (by rw [decide_eq_true_eq]; omega)]
  by_cases h5 : k = 5
  · have e : nmR k = 6 := by rw [h5]; rfl
    rw [e, if_neg (by omega)]
    by_cases h3 : law = 3
    · rw [if_pos h3, if_pos (decide_eq_true (Or.inr h3))]
    · rw [if_neg h3, if_neg (nn_ rfl)]
      by_cases h2 : law = 2
      · rw [if_neg (nn_ h2), if_pos (decide_eq_true (Or.inl (by omega)))]
      · rw [if_pos h2, if_neg (by rw [decide_eq_true_eq]; omega)]
  have e : nmR k < 6 := by
    unfold nmR
    (repeat' split) <;> omega
  rw [if_pos e, if_pos (decide_eq_true (Or.inl (by omega)))]
def fO (k : Int) : Int := if k = 36 then 6 else if k = 33 then 7 else if k = 17 then 10 else 2
section ZTXB
variable {B : Nat → Int} {L i o : Nat} {fr : List Int} {Wt : zWt} {X : zCd} {M : zM}
set_option maxRecDepth 8000 in
set_option maxHeartbeats 2000000 in
theorem beg_num (h : stR B L M i o fr Wt X) (hk : tK B L i = 25) (hv : tV B L i ≤ 9999) (hX : X.length < 400) : ∃ M', stR B L M' (i + 1) o fr Wt (X ++ [(400, tV B L i)]) ∧ (∀ c, frT c M M') ∧ ∀ F N, F ≤ 1000 → OV F M' N → f_X11_begins M = some N := by
  obtain ⟨t1, t2, t3⟩ := h.tok.2.1.is2 hk
  have t4 : M 42 0 18 = tV B L i := by omega
  obtain ⟨M1, a1, b1, c1, d1⟩ := R_emit (v := 400) (u := tV B L i) h hX
  obtain ⟨M2, a2, b2, c2, d2⟩ := R_nxt b1
  refine ⟨M2, b2, fun c => (d1 c).trans (d2 c), fun F N hF hN => ?_⟩
  unfold f_X11_begins
  rw [R_nameNow h.tok.2.1]
  simp only [zbs]
  rw [t1, if_neg (nn_ (by decide)), zw_id (z := M 42 0 18) (by omega) (by omega), if_pos (by omega), t4, a1]
  simp only [zbs]
  rw [a2]
  simp only [zbs]
  rw [OV_is hN hF]
  exact zbs _ _
set_option maxRecDepth 8000 in
set_option maxHeartbeats 2000000 in
theorem beg_numN (h : stR B L M i o fr Wt X) (hk : tK B L i = 25) (hv : ¬ tV B L i ≤ 9999) : ∃ M', f_X11_begins M = some M' ∧ failR B L M' 2 i ∧ frB M M' := by
  obtain ⟨t1, t2, t3⟩ := h.tok.2.1.is2 hk
  obtain ⟨M1, a1, b1, c1⟩ := R_err (w := 2) h (by omega)
  refine ⟨M1, ?_, b1, c1⟩
  unfold f_X11_begins
  rw [R_nameNow h.tok.2.1]
  simp only [zbs]
  rw [t1, if_neg (nn_ (by decide)), zw_id (z := M 42 0 18) (by omega) (by omega), if_neg (by omega), a1]
  exact zbs _ _
set_option maxRecDepth 8000 in
set_option maxHeartbeats 2000000 in
theorem beg_sort (h : stR B L M i o fr Wt X) (hk : tK B L i ≠ 25) : ¬ zw (M 42 0 17) = 2 := by
  have h1 := h.tok.2.1.not2 hk
  have h2 := h.tok.2.1.sort_le
  rw [zw_id (by omega) (by omega)]
  exact h1
set_option maxRecDepth 8000 in
set_option maxHeartbeats 2000000 in
theorem beg_name {law : Int} (h : stR B L M i o fr Wt X) (hl : M 42 0 31 = law) (hlaw : 0 ≤ law ∧ law ≤ 3) (hk : isNm (tK B L i) = true) (hm : mayNm law (tK B L i) = true) (hX : X.length < 400) : ∃ M', stR B L M' (i + 1) o fr Wt (X ++ [(401, nmR (tK B L i))]) ∧ (∀ c, frT c M M') ∧ ∀ F N, F ≤ 1000 → OV F M' N → f_X11_begins M = some N := by
  have h25 : tK B L i ≠ 25 := fun z => by rw [z] at hk; revert hk; decide
  have hr := nmR_rng (k := tK B L i)
  obtain ⟨M1, a1, b1, c1, d1⟩ := R_emit (v := 401) (u := nmR (tK B L i)) h hX
  obtain ⟨M2, a2, b2, c2, d2⟩ := R_nxt b1
  refine ⟨M2, b2, fun c => (d1 c).trans (d2 c), fun F N hF hN => ?_⟩
  unfold f_X11_begins
  rw [R_nameNow h.tok.2.1, if_pos hk]
  simp only [zbs]
  rw [if_pos (beg_sort h h25), zw_id (z := nmR (tK B L i)) (by omega) (by omega), if_neg (show ¬ nmR (tK B L i) = -1 by omega), hl, R_mayName hk hlaw, if_pos hm]
  simp only [zbs]
  rw [if_pos zw_1n, a1]
  simp only [zbs]
  rw [a2]
  simp only [zbs]
  rw [OV_is hN hF]
  exact zbs _ _
set_option maxRecDepth 8000 in
set_option maxHeartbeats 2000000 in
theorem beg_nameN {law : Int} (h : stR B L M i o fr Wt X) (hl : M 42 0 31 = law) (hlaw : 0 ≤ law ∧ law ≤ 3) (hk : isNm (tK B L i) = true) (hm : ¬ mayNm law (tK B L i) = true) : ∃ M', f_X11_begins M = some M' ∧ failR B L M' 5 i ∧ frB M M' := by
  have h25 : tK B L i ≠ 25 := fun z => by rw [z] at hk; revert hk; decide
  have hr := nmR_rng (k := tK B L i)
  obtain ⟨M1, a1, b1, c1⟩ := R_err (w := 5) h (by omega)
  refine ⟨M1, ?_, b1, c1⟩
  unfold f_X11_begins
  rw [R_nameNow h.tok.2.1, if_pos hk]
  simp only [zbs]
  rw [if_pos (beg_sort h h25), zw_id (z := nmR (tK B L i)) (by omega) (by omega), if_neg (show ¬ nmR (tK B L i) = -1 by omega), hl, R_mayName hk hlaw, if_neg hm]
  simp only [zbs]
  rw [if_neg (nn_ zw_0), a1]
  exact zbs _ _
set_option maxRecDepth 8000 in
set_option maxHeartbeats 2000000 in
theorem beg_at (h : stR B L M i o fr Wt X) (hk : tK B L i ≠ 25) (hn : ¬ isNm (tK B L i) = true) : f_X11_begins M = if tK B L i = 18 then ((f_X11_opensSign 2 M).bind fun p15 => if zw p15.1 = 0 then some p15.2 else zlet (zput p15.2 42 0 28 0) fun M16 => some M16) else if tK B L i = 36 then f_X11_begins_j175 6 M else if tK B L i = 33 then f_X11_begins_j175 7 M else if tK B L i = 17 then f_X11_begins_j175 10 M else f_X11_errs 1 M := by
  have ht := h.tok.2.1
  unfold f_X11_begins
  rw [R_nameNow ht, if_neg hn]
  simp only [zbs]
  rw [if_pos (beg_sort h hk), if_pos (by decide), R_isW (v := 14) (kk := 18) ht (by omega) rfl]
  simp only [zbs]
  by_cases k18 : tK B L i = 18
  · rw [if_pos k18, if_neg zw_1n, if_pos k18]
  · rw [if_neg k18, if_pos zw_0, if_neg k18, R_isS (v := 40) (kk := 36) ht (by omega) rfl]
    simp only [zbs]
    unfold f_X11_begins_j144
    by_cases k36 : tK B L i = 36
    · rw [if_pos k36, if_pos zw_1n, if_pos k36, R_isS (v := 40) (kk := 36) ht (by omega) rfl, if_pos k36]
      simp only [zbs]
      rw [if_neg zw_1n]
    · rw [if_neg k36, if_neg (nn_ zw_0), if_neg k36, R_isS (v := 45) (kk := 33) ht (by omega) rfl]
      simp only [zbs]
      by_cases k33 : tK B L i = 33
      · rw [if_pos k33, if_pos zw_1n, if_pos k33, R_isS (v := 40) (kk := 36) ht (by omega) rfl, if_neg k36]
        simp only [zbs]
        rw [if_pos zw_0, R_isS (v := 45) (kk := 33) ht (by omega) rfl, if_pos k33]
        simp only [zbs]
        rw [if_neg zw_1n]
      · rw [if_neg k33, if_neg (nn_ zw_0), if_neg k33, R_isW (v := 13) (kk := 17) ht (by omega) rfl]
        simp only [zbs]
        by_cases k17 : tK B L i = 17
        · rw [if_pos k17, if_neg zw_1n, if_pos k17, R_isS (v := 40) (kk := 36) ht (by omega) rfl, if_neg k36]
          simp only [zbs]
          rw [if_pos zw_0, R_isS (v := 45) (kk := 33) ht (by omega) rfl, if_neg k33]
          simp only [zbs]
          rw [if_pos zw_0]
        · rw [if_neg k17, if_pos zw_0, if_neg k17]
          generalize f_X11_errs 1 M = z
          cases z <;> rfl
set_option maxRecDepth 8000 in
set_option maxHeartbeats 2000000 in
theorem beg_open (h : stR B L M i o fr Wt X) (hs : M 42 0 28 = 1) (hn : ¬ isNm (tK B L i) = true) (hk : tK B L i = 36 ∨ tK B L i = 33 ∨ tK B L i = 17 ∨ tK B L i = 18) (ho : o < 8) (hf : fr.length < 40) : ∃ M', f_X11_begins M = some M' ∧ stR B L M' (i + 1) (o + 1) (fO (tK B L i) :: fr) Wt X ∧ M' 42 0 28 = (if tK B L i = 18 then 0 else 1) ∧ ∀ c, frT c M M' := by
  rw [beg_at h (by omega) hn]
  obtain ⟨M1, a1, b1, c1, d1⟩ := R_open (f := fO (tK B L i)) h ho hf
  by_cases k18 : tK B L i = 18
  · have e : fO (tK B L i) = 2 := by rw [k18]; rfl
    rw [e] at a1 b1 ⊢
    rw [if_pos k18, if_pos k18, a1]
    simp only [zbs]
    rw [if_neg zw_1n, zlt_]
    exact ⟨_, rfl, b1.state, zput_eq _ _ _ _ _, fun c => (d1 c).trans (frT.p42 (by omega))⟩
  · rw [if_neg k18, if_neg k18]
    refine ⟨M1, ?_, b1, by rw [c1, hs], d1⟩
    unfold f_X11_begins_j175
    by_cases k36 : tK B L i = 36
    · have e : fO (tK B L i) = 6 := by rw [k36]; rfl
      rw [e] at a1
      rw [if_pos k36, a1]
      exact zbs _ _
    · rw [if_neg k36]
      by_cases k33 : tK B L i = 33
      · have e : fO (tK B L i) = 7 := by rw [k33]; rfl
        rw [e] at a1
        rw [if_pos k33, a1]
        exact zbs _ _
      · have k17 : tK B L i = 17 := by omega
        have e : fO (tK B L i) = 10 := by rw [k17]; rfl
        rw [e] at a1
        rw [if_neg k33, if_pos k17, a1]
        exact zbs _ _
set_option maxRecDepth 8000 in
set_option maxHeartbeats 2000000 in
theorem beg_openN (h : stR B L M i o fr Wt X) (hn : ¬ isNm (tK B L i) = true) (hk : tK B L i = 36 ∨ tK B L i = 33 ∨ tK B L i = 17 ∨ tK B L i = 18) (ho : o = 8) : ∃ M', f_X11_begins M = some M' ∧ failR B L M' 3 i ∧ frB M M' := by
  rw [beg_at h (by omega) hn]
  unfold f_X11_begins_j175
  have key : ∀ f, ∃ M', f_X11_opensSign f M = some (0, M') ∧ failR B L M' 3 i ∧ frB M M' := fun f => R_openN h ho
  by_cases k18 : tK B L i = 18
  · obtain ⟨M1, a1, b1, c1⟩ := key 2
    refine ⟨M1, ?_, b1, c1⟩
    rw [if_pos k18, a1]
    simp only [zbs]
    rw [if_pos zw_0]
  · rw [if_neg k18]
    by_cases k36 : tK B L i = 36
    · obtain ⟨M1, a1, b1, c1⟩ := key 6
      refine ⟨M1, ?_, b1, c1⟩
      rw [if_pos k36, a1]
      exact zbs _ _
    · rw [if_neg k36]
      by_cases k33 : tK B L i = 33
      · obtain ⟨M1, a1, b1, c1⟩ := key 7
        refine ⟨M1, ?_, b1, c1⟩
        rw [if_pos k33, a1]
        exact zbs _ _
      · obtain ⟨M1, a1, b1, c1⟩ := key 10
        refine ⟨M1, ?_, b1, c1⟩
        rw [if_neg k33, if_pos (show tK B L i = 17 by omega), a1]
        exact zbs _ _
set_option maxRecDepth 8000 in
set_option maxHeartbeats 2000000 in
theorem beg_bad (h : stR B L M i o fr Wt X) (h25 : tK B L i ≠ 25) (hn : ¬ isNm (tK B L i) = true) (hk : ¬ (tK B L i = 36 ∨ tK B L i = 33 ∨ tK B L i = 17 ∨ tK B L i = 18)) : ∃ M', f_X11_begins M = some M' ∧ failR B L M' 1 i ∧ frB M M' := by
  rw [beg_at h h25 hn, if_neg (by omega), if_neg (by omega), if_neg (by omega), if_neg (by omega)]
  exact R_err h (by omega)
end ZTXB
