/-! text: the class finds all TOKENS -/
set_option maxRecDepth 8000 in
set_option maxHeartbeats 2000000 in
theorem wl_len {j : Nat} (hj : j < 25) : wl j < 100 := by
  obtain ⟨h1, h2, -⟩ := zsq hj
  unfold wl
  omega
set_option maxRecDepth 8000 in
set_option maxHeartbeats 2000000 in
theorem Wf_le {j i : Nat} (hj : j < 25) (hi : i < wl j) : 0 ≤ Wf j i ∧ Wf j i < 128 := by
  have h2 := wl_len hj
  have h := zsbyt_in (w := j) (j := (i : Int)) hj (by rw [zw_nat (by omega)]; unfold wl at hi; omega)
  rw [zix_nat (by omega)] at h
  exact h
set_option maxRecDepth 8000 in
set_option maxHeartbeats 2000000 in
theorem X_length {j : Nat} {M : zM} (hj : j < 25) : f_J0_length_8abf5 j M = some ((wl j : Int), M) := if_pos hj
set_option maxRecDepth 8000 in
set_option maxHeartbeats 2000000 in
theorem X_charAt {j i : Nat} {M : zM} (hj : j < 25) (hi : i < wl j) : f_J0_charAt_5068e j (i : Int) M = some (Wf j i, M) := by
  have h2 := wl_len hj
  unfold f_J0_charAt_5068e
  rw [zw_nat (by omega), zix_nat (by omega), if_pos ⟨hj, by unfold wl at hi; omega⟩]
  rfl
set_option maxRecDepth 8000 in
set_option maxHeartbeats 2000000 in
theorem X_reads {M : zM} {B : Nat → Int} {L a e j : Nat} (hB : M 36 0 = B) (hL : M 35 0 1 = L) (h3 : L ≤ 300) (hb : ∀ i, i < L → 0 ≤ B i ∧ B i ≤ 255) (hae : a ≤ e) (heL : e ≤ L) (hj : j < 25) : f_X4_reads j a e M = some (if mtB B a e j = true then 1 else 0, M) := by
  have h2 := wl_len hj
  unfold f_X4_reads
  rw [X_length hj]
  simp only [zbs]
  rw [zw_id (z := (e : Int) - a) (by omega) (by omega), zw_nat (by omega)]
  by_cases hl : e - a = wl j
  · rw [if_pos (by omega)]
    have key := zT_for (body := fun s : Int × zM => f_X4_reads_L15 j a s.1 s.2) (fun i s => s = ((i : Int), M) ∧ ∀ k, k < i → B (a + k) = Wf j k) (wl j) (Q := fun r => (r = .inr M ∧ ∀ k, k < wl j → B (a + k) = Wf j k) ∨ (r = .inl (0, M) ∧ ¬ ∀ k, k < wl j → B (a + k) = Wf j k)) ?_ (m := zF) (by unfold zF; omega) (s := (0, M)) ⟨rfl, fun k hk => by omega⟩
    · obtain ⟨r, k1, k2⟩ := key
      rw [k1]
      simp only [zbs]
      rcases k2 with ⟨rfl, k3⟩ | ⟨rfl, k3⟩
      · have hm : mtB B a e j = true := by unfold mtB; exact decide_eq_true ⟨hl, k3⟩
        rw [if_pos hm]
      · have hm : ¬ mtB B a e j = true := by unfold mtB; rw [decide_eq_true_eq]; exact fun z => k3 z.2
        rw [if_neg hm]
    · rintro i s hi ⟨rfl, h4⟩
      dsimp only
      unfold f_X4_reads_L15
      rw [X_length hj]
      simp only [zbs]
      rw [zw_nat (by omega), zw_nat (by omega)]
      by_cases hin : i = wl j
      · rw [if_pos (by omega)]
        refine zT_some (Or.inr ⟨_, rfl, Or.inl ⟨rfl, fun k hk => h4 k (by omega)⟩⟩)
      · rw [if_neg (by omega), show (a : Int) + (i : Int) = ((a + i : Nat) : Int) by omega, X_atIn hB hL h3 (by omega)]
        simp only [zbs]
        rw [X_charAt hj (by omega)]
        simp only [zbs]
        have hw := Wf_le hj (show i < wl j by omega)
        have hbb := hb (a + i) (by omega)
        rw [zw_id (z := B (a + i)) (by omega) (by omega), zw_id (z := Wf j i) (by omega) (by omega)]
        by_cases hq : B (a + i) = Wf j i
        · rw [if_pos hq]
          refine zT_some (Or.inl ⟨_, rfl, by omega, rfl, fun k hk => ?_⟩)
          by_cases hki : k = i
          · rw [hki]; exact hq
          · exact h4 k (by omega)
        · rw [if_neg hq]
          exact zT_some (Or.inr ⟨_, rfl, Or.inr ⟨rfl, fun z => hq (z i (by omega))⟩⟩)
  · have hm : ¬ mtB B a e j = true := by unfold mtB; rw [decide_eq_true_eq]; exact fun z => hl z.1
    rw [if_neg (by omega), if_neg hm]
set_option maxRecDepth 8000 in
set_option maxHeartbeats 2000000 in
theorem wk_st {M : zM} {B : Nat → Int} {a e d j : Nat} (hR : f_X4_reads j a e M = some (if mtB B a e j = true then 1 else 0, M)) {g : Int × zM → Option (Int × zM)} (hg : g (0, M) = some (wkF B a e d (j + 1), M)) (hg1 : g (1, M) = some ((j : Int), M)) : (f_X4_reads j a e M).bind g = some (wkF B a e (d + 1) j, M) := by
  rw [hR, zbs]
  unfold wkF
  by_cases h : mtB B a e j = true
  · rw [if_pos h, if_pos h]; exact hg1
  · rw [if_neg h, if_neg h]; exact hg
set_option maxRecDepth 8000 in
set_option maxHeartbeats 2000000 in
theorem zw_1n : ¬ zw 1 = 0 := by decide
set_option maxRecDepth 8000 in
set_option maxHeartbeats 2000000 in
theorem X_wordKind {M : zM} {B : Nat → Int} {L a e : Nat} (hB : M 36 0 = B) (hL : M 35 0 1 = L) (h3 : L ≤ 300) (hb : ∀ i, i < L → 0 ≤ B i ∧ B i ≤ 255) (hae : a ≤ e) (heL : e ≤ L) : f_X4_wordKind a e M = some (wkF B a e 25 0, M) := by
  have hR : ∀ j, j < 25 → f_X4_reads j a e M = some (if mtB B a e j = true then 1 else 0, M) := fun j hj => X_reads hB hL h3 hb hae heL hj
  unfold f_X4_wordKind
  refine wk_st (hR 0 (by omega)) ?_ (if_neg zw_1n)
  refine (if_pos zw_0).trans ?_
  refine wk_st (hR 1 (by omega)) ?_ (if_neg zw_1n)
  refine (if_pos zw_0).trans ?_
  refine wk_st (hR 2 (by omega)) ?_ (if_neg zw_1n)
  refine (if_pos zw_0).trans ?_
  refine wk_st (hR 3 (by omega)) ?_ (if_neg zw_1n)
  refine (if_pos zw_0).trans ?_
  refine wk_st (hR 4 (by omega)) ?_ (if_neg zw_1n)
  refine (if_pos zw_0).trans ?_
  refine wk_st (hR 5 (by omega)) ?_ (if_neg zw_1n)
  refine (if_pos zw_0).trans ?_
  refine wk_st (hR 6 (by omega)) ?_ (if_neg zw_1n)
  refine (if_pos zw_0).trans ?_
  refine wk_st (hR 7 (by omega)) ?_ (if_neg zw_1n)
  refine (if_pos zw_0).trans ?_
  refine wk_st (hR 8 (by omega)) ?_ (if_neg zw_1n)
  refine (if_pos zw_0).trans ?_
  refine wk_st (hR 9 (by omega)) ?_ (if_neg zw_1n)
  refine (if_pos zw_0).trans ?_
  refine wk_st (hR 10 (by omega)) ?_ (if_neg zw_1n)
  refine (if_pos zw_0).trans ?_
  refine wk_st (hR 11 (by omega)) ?_ (if_neg zw_1n)
  refine (if_pos zw_0).trans ?_
  refine wk_st (hR 12 (by omega)) ?_ (if_neg zw_1n)
  refine (if_pos zw_0).trans ?_
  refine wk_st (hR 13 (by omega)) ?_ (if_neg zw_1n)
  refine (if_pos zw_0).trans ?_
  refine wk_st (hR 14 (by omega)) ?_ (if_neg zw_1n)
  refine (if_pos zw_0).trans ?_
  refine wk_st (hR 15 (by omega)) ?_ (if_neg zw_1n)
  refine (if_pos zw_0).trans ?_
  refine wk_st (hR 16 (by omega)) ?_ (if_neg zw_1n)
  refine (if_pos zw_0).trans ?_
  refine wk_st (hR 17 (by omega)) ?_ (if_neg zw_1n)
  refine (if_pos zw_0).trans ?_
  refine wk_st (hR 18 (by omega)) ?_ (if_neg zw_1n)
  refine (if_pos zw_0).trans ?_
  refine wk_st (hR 19 (by omega)) ?_ (if_neg zw_1n)
  refine (if_pos zw_0).trans ?_
  refine wk_st (hR 20 (by omega)) ?_ (if_neg zw_1n)
  refine (if_pos zw_0).trans ?_
  refine wk_st (hR 21 (by omega)) ?_ (if_neg zw_1n)
  refine (if_pos zw_0).trans ?_
  refine wk_st (hR 22 (by omega)) ?_ (if_neg zw_1n)
  refine (if_pos zw_0).trans ?_
  refine wk_st (hR 23 (by omega)) ?_ (if_neg zw_1n)
  refine (if_pos zw_0).trans ?_
  refine wk_st (hR 24 (by omega)) ?_ (if_neg zw_1n)
  refine (if_pos zw_0).trans ?_
  rfl
set_option maxRecDepth 8000 in
set_option maxHeartbeats 2000000 in
theorem X_number4 {M : zM} {B : Nat → Int} {L a e : Nat} (hB : M 36 0 = B) (hL : M 35 0 1 = L) (h3 : L ≤ 300) (hae : a ≤ e) (heL : e ≤ L) (hd : ∀ i, i < e - a → 48 ≤ B (a + i) ∧ B (a + i) ≤ 57) : f_X4_number a e M = some (nV B a (e - a), M) := by
  have key := zT_for (body := fun s : Int × Int × zM => f_X4_number_L5 e s.1 s.2.1 s.2.2) (fun i s => s = (nV B a i, ((a + i : Nat) : Int), M)) (e - a) (Q := fun r => r = (nV B a (e - a), M)) ?_ (m := zF) (by unfold zF; omega) (s := (0, (a : Int), M)) rfl
  · obtain ⟨r, k1, k2⟩ := key
    unfold f_X4_number
    rw [k1, k2]
    exact zbs _ _
  · rintro i s hi rfl
    dsimp only
    have hn := nV_le (B := B) (a := a) i (fun k hk => hd k (by omega))
    unfold f_X4_number_L5
    rw [zw_nat (by omega), zw_nat (by omega)]
    by_cases hin : i = e - a
    · subst hin
      rw [if_pos (by omega)]
      exact zT_some (Or.inr ⟨_, rfl, rfl⟩)
    · rw [if_neg (by omega), X_atIn hB hL h3 (by omega)]
      simp only [zbs]
      have h1 := hd i (by omega)
      rw [zw_id (z := nV B a i * 10 + B (a + i) - 48) (by omega) (by omega)]
      refine zT_some (Or.inl ⟨_, rfl, by omega, ?_⟩)
      rfl
set_option maxRecDepth 8000 in
set_option maxHeartbeats 2000000 in
theorem X_scan {M : zM} {B : Nat → Int} {L c p : Nat} {q : Int → Bool} (bd : Int → zM → Option ((Int × zM) ⊕ (Int × zM))) (hp : p ≤ L) (h3 : L ≤ 300) (h1 : ∀ v : Nat, L ≤ v → v ≤ 300 → bd v M = some (.inr ((v : Int), M))) (h2 : ∀ v : Nat, v < L → bd v M = some (if q (B v) = true then .inl ((v : Int) + 1, M) else .inr ((v : Int), M))) : zlp (fun s : Int × zM => bd s.1 s.2) zF ((p : Int), M) = some ((skE q B L p : Int), M) := by
  obtain ⟨s1, s2, s3, s4⟩ := skE_spec (p := q) (B := B) hp
  have key := zT_for (body := fun s : Int × zM => bd s.1 s.2) (fun i s => s = (((p + i : Nat) : Int), M)) (skE q B L p - p) (Q := fun r => r = ((skE q B L p : Int), M)) ?_ (m := zF) (by unfold zF; omega) (s := ((p : Int), M)) rfl
  · obtain ⟨r, k1, k2⟩ := key
    rw [k1, k2]
  · rintro i s hi rfl
    dsimp only
    by_cases hin : p + i = skE q B L p
    · rw [hin]
      by_cases hl : skE q B L p < L
      · rw [h2 _ hl, if_neg (s4 hl)]
        exact zT_some (Or.inr ⟨_, rfl, rfl⟩)
      · rw [h1 _ (by omega) (by omega)]
        exact zT_some (Or.inr ⟨_, rfl, rfl⟩)
    · rw [h2 (p + i) (by omega), if_pos (s3 (p + i) (by omega) (by omega))]
      exact zT_some (Or.inl ⟨_, rfl, by omega, rfl⟩)
set_option maxRecDepth 8000 in
set_option maxHeartbeats 2000000 in
theorem X_findOne {M : zM} {B : Nat → Int} {L c p : Nat} (hB : M 36 0 = B) (hL : M 35 0 1 = L) (h3 : L ≤ 300) (hb : ∀ i, i < L → 0 ≤ B i ∧ B i ≤ 255) (hp : p < L) (hc : c < 301) : ∃ M', f_X4_findOne c p M = some ((tEnd B L p : Int), M') ∧ M' 39 0 c = tKind B L p ∧ (tKind B L p = 25 → M' 40 0 c = tVal B L p) ∧ (∀ k i, k ≠ 39 → k ≠ 40 → M' k i = M k i) ∧ (∀ q, q ≠ c → M' 39 0 q = M 39 0 q ∧ M' 40 0 q = M 40 0 q) ∧ ∀ k i, i ≠ 0 → M' k i = M k i := by
  have hbp := hb p hp
  have hc0 : 0 ≤ zw (c : Int) ∧ zw (c : Int) < 301 := by rw [zw_nat (by omega)]; omega
  have zc : zix (c : Int) = c := zix_nat (by omega)
  unfold f_X4_findOne
  rw [X_atIn hB hL h3 hp]
  simp only [zbs]
  rw [X_isLt (by omega)]
  simp only [zbs]
  rw [show (p : Int) + 1 = ((p + 1 : Nat) : Int) from rfl]
  by_cases hlt : isLt (B p) = true
  · rw [if_pos hlt, if_neg zw_1n]
    have hsc := X_scan (M := M) (B := B) (L := L) (c := c) (p := p + 1) (q := isLt) (f_X4_findOne_L21 c p) (by omega) h3 (fun v h1 h2 => by
      unfold f_X4_findOne_L21
      rw [hL, zw_nat (by omega), zw_nat (by omega), if_pos (by omega)]) (fun v h1 => by
      have hbv := hb v h1
      unfold f_X4_findOne_L21
      rw [hL, zw_nat (by omega), zw_nat (by omega), if_neg (by omega), X_atIn hB hL h3 h1]
      simp only [zbs]
      rw [X_isLt (by omega)]
      simp only [zbs]
      by_cases hq : isLt (B v) = true
      · rw [if_pos hq, if_pos hq, if_neg zw_1n]
      · rw [if_neg hq, if_neg hq, if_pos zw_0])
    rw [hsc]
    simp only [zbs]
    obtain ⟨s1, s2, -, -⟩ := skE_spec (p := isLt) (B := B) (L := L) (a := p + 1) (by omega)
    unfold f_X4_findOne_j54
    rw [X_wordKind hB hL h3 hb (by omega) s2]
    simp only [zbs]
    rw [if_pos hc0, zlt_, zc]
    have e1 : tKind B L p = wkF B p (skE isLt B L (p + 1)) 25 0 := if_pos hlt
    have e2 : tEnd B L p = skE isLt B L (p + 1) := if_pos hlt
    refine ⟨_, by rw [e2], by rw [zput_eq, e1], fun h => ?_, fun k i a b => zput_rowk (by omega), fun q hq => ⟨zput_j hq, zput_k (by omega)⟩, fun k i hi => zput_rowk (by omega)⟩
    have := wkF_le (B := B) (a := p) (e := skE isLt B L (p + 1)) 25 0 rfl
    omega
  · rw [if_neg hlt, if_pos zw_0, X_isDg (by omega)]
    simp only [zbs]
    by_cases hdg : isDg (B p) = true
    · rw [if_pos hdg, if_neg zw_1n]
      have hsc := X_scan (M := M) (B := B) (L := L) (c := c) (p := p + 1) (q := isDg) (f_X4_findOne_L77 c p) (by omega) h3 (fun v h1 h2 => by
        unfold f_X4_findOne_L77
        rw [hL, zw_nat (by omega), zw_nat (by omega), if_pos (by omega)]) (fun v h1 => by
        have hbv := hb v h1
        unfold f_X4_findOne_L77
        rw [hL, zw_nat (by omega), zw_nat (by omega), if_neg (by omega), X_atIn hB hL h3 h1]
        simp only [zbs]
        rw [X_isDg (by omega)]
        simp only [zbs]
        by_cases hq : isDg (B v) = true
        · rw [if_pos hq, if_pos hq, if_neg zw_1n]
        · rw [if_neg hq, if_neg hq, if_pos zw_0])
      rw [hsc]
      simp only [zbs]
      obtain ⟨s1, s2, s3, -⟩ := skE_spec (p := isDg) (B := B) (L := L) (a := p + 1) (by omega)
      have e1 : tKind B L p = 25 := by unfold tKind; rw [if_neg hlt, if_pos hdg]
      have e2 : tEnd B L p = skE isDg B L (p + 1) := by unfold tEnd; rw [if_neg hlt, if_pos hdg]
      unfold f_X4_findOne_j110
      rw [if_pos hc0, zlt_, zc, X_number4 (B := B) (L := L) (by rw [zput_rowk (by omega)]; exact hB) (by rw [zput_k (by omega)]; exact hL) h3 (by omega) s2 (fun i hi => by
        have hq : isDg (B (p + i)) = true := by
          by_cases h0 : i = 0
          · rw [h0]; exact hdg
          · exact s3 (p + i) (by omega) (by omega)
        unfold isDg at hq
        exact of_decide_eq_true hq)]
      simp only [zbs]
      rw [if_pos hc0, zlt_]
      refine ⟨_, by rw [e2], by rw [zput_k (by omega), zput_eq, e1], fun h => by rw [zput_eq]; rfl, fun k i a b => by rw [zput_rowk (by omega), zput_rowk (by omega)], fun q hq => ⟨by rw [zput_k (by omega), zput_j hq], by rw [zput_j hq, zput_k (by omega)]⟩, fun k i hi => by rw [zput_rowk (by omega), zput_rowk (by omega)]⟩
    · rw [if_neg hdg, if_pos zw_0, X_at hB hL h3 (by omega)]
      simp only [zbs]
      have e0 : (if 0 ≤ ((p + 1 : Nat) : Int) ∧ ((p + 1 : Nat) : Int) < (L : Int) then B ((p + 1 : Nat) : Int).toNat else -1) = tBe B L p := by
        unfold tBe
        by_cases h : p + 1 < L
        · rw [if_pos (by omega), if_pos h, Int.toNat_natCast]
        · rw [if_neg (by omega), if_neg h]
      have hbe : -1 ≤ tBe B L p ∧ tBe B L p ≤ 255 := by
        unfold tBe
        split
        · have := hb (p + 1) (by omega); omega
        · omega
      rw [e0, X_mk (by omega) hbe]
      simp only [zbs]
      have hm := mk_le (B p) (tBe B L p)
      have e1 : tKind B L p = mk (B p) (tBe B L p) := by unfold tKind; rw [if_neg hlt, if_neg hdg]
      have e2 : tEnd B L p = if mk (B p) (tBe B L p) = 27 ∨ mk (B p) (tBe B L p) = 29 then p + 2 else p + 1 := by unfold tEnd; rw [if_neg hlt, if_neg hdg]
      rw [if_pos hc0, zlt_, zc, if_pos hc0, zput_eq, zw_id (z := mk (B p) (tBe B L p)) (by omega) (by omega), e2]
      unfold f_X4_findOne_j177 f_X4_findOne_j182
      have fin : ∀ y : Int, y = ((if mk (B p) (tBe B L p) = 27 ∨ mk (B p) (tBe B L p) = 29 then p + 2 else p + 1 : Nat) : Int) → ∃ M', (some (y, zput M 39 0 c (mk (B p) (tBe B L p))) : Option (Int × zM)) = some (((if mk (B p) (tBe B L p) = 27 ∨ mk (B p) (tBe B L p) = 29 then p + 2 else p + 1 : Nat) : Int), M') ∧ M' 39 0 c = tKind B L p ∧ (tKind B L p = 25 → M' 40 0 c = tVal B L p) ∧ (∀ k i, k ≠ 39 → k ≠ 40 → M' k i = M k i) ∧ (∀ q, q ≠ c → M' 39 0 q = M 39 0 q ∧ M' 40 0 q = M 40 0 q) ∧ ∀ k i, i ≠ 0 → M' k i = M k i := by
        intro y hy
        refine ⟨_, by rw [hy], by rw [zput_eq, e1], fun h => by omega, fun k i a b => zput_rowk (by omega), fun q hq => ⟨zput_j hq, zput_k (by omega)⟩, fun k i hi => zput_rowk (by omega)⟩
      by_cases h27 : mk (B p) (tBe B L p) = 27
      · rw [if_pos h27]
        refine fin _ ?_
        rw [if_pos (Or.inl h27)]; omega
      · rw [if_neg h27, if_pos hc0]
        by_cases h29 : mk (B p) (tBe B L p) = 29
        · rw [if_neg (nn_ h29)]
          refine fin _ ?_
          rw [if_pos (Or.inr h29)]; omega
        · rw [if_pos h29]
          refine fin _ ?_
          rw [if_neg (by omega)]; omega
