/-! a STEP on the class's side; the row laid and kept -/
def sLay (A W : Nat → Int) : Nat → Int := fun q => if q < 161 then A (90 + q) else W q
def sNow (A w : Nat → Int) : Nat → Int := fun q => if 90 ≤ q ∧ q < 251 then w (q - 90) else A q
set_option maxRecDepth 8000 in
set_option maxHeartbeats 300000 in
theorem sLay_lo {A W : Nat → Int} {q : Nat} (h : q < 161) : sLay A W q = A (90 + q) := if_pos h
set_option maxRecDepth 8000 in
set_option maxHeartbeats 300000 in
theorem sNow_in {A w : Nat → Int} {q : Nat} (h : q < 161) : sNow A w (90 + q) = w q := by
  unfold sNow
  rw [if_pos (by omega), show 90 + q - 90 = q by omega]
set_option maxRecDepth 8000 in
set_option maxHeartbeats 300000 in
theorem sNow_out {A w : Nat → Int} {q : Nat} (h : q < 90 ∨ 251 ≤ q) : sNow A w q = A q := by
  unfold sNow
  rw [if_neg (by omega)]
set_option maxRecDepth 8000 in
set_option maxHeartbeats 300000 in
theorem R_lay {M : zM} {A : Nat → Int} (hM : M 43 0 = A) : ∃ M', f_X11_laysNow M = some M' ∧ (∀ k i, k ≠ 68 → M' k i = M k i) ∧ M' 68 0 = sLay A (M 68 0) := by
  have key := zT_cnt0 (body := fun s : Int × zM => f_X11_laysNow_L2 s.1 s.2) (fun i N => (∀ k i, k ≠ 68 → N k i = M k i) ∧ ∀ q, N 68 0 q = if q < i then A (90 + q) else M 68 0 q) 161 (Q := fun M' => (∀ k i, k ≠ 68 → M' k i = M k i) ∧ M' 68 0 = sLay A (M 68 0)) ?_ ?_ (m := zF) (by unfold zF; omega) (N0 := M) ⟨fun _ _ _ => rfl, fun q => by rw [if_neg (by omega)]⟩
  · obtain ⟨M', k1, k2, k3⟩ := key
    refine ⟨M', ?_, k2, k3⟩
    unfold f_X11_laysNow
    rw [k1]
    simp only [zbs]
  · rintro i N hi ⟨h1, h2⟩
    dsimp only
    have h43 : N 43 0 = A := by rw [h1 43 0 (by omega), hM]
    unfold f_X11_laysNow_L2
    simp (disch := omega) only [if_true, if_false, true_or, or_true, true_and, and_true, not_true_eq_false, not_false_eq_true, zw_id, if_neg, if_pos, zix_nat, zi90, zlt_, h43]
    refine zT_some (Or.inl ⟨_, rfl, fun k i hk => by rw [zput_rowk (by omega)]; exact h1 k i hk, fun q => ?_⟩)
    by_cases hqi : q = i
    · subst hqi; rw [zput_eq, if_pos (by omega)]
    · rw [zput_j hqi, h2 q]
      by_cases hc : q < i
      · rw [if_pos hc, if_pos (by omega)]
      · rw [if_neg hc, if_neg (by omega)]
  · rintro N ⟨h1, h2⟩
    dsimp only
    unfold f_X11_laysNow_L2
    rw [zw_id (by omega) (by omega), if_pos (by omega)]
    exact zT_some ⟨N, rfl, h1, by funext q; rw [h2 q]; rfl⟩
set_option maxRecDepth 8000 in
set_option maxHeartbeats 300000 in
theorem R_now {M : zM} {A w : Nat → Int} (hM : M 43 0 = A) (hW : M 68 0 = w) : ∃ M', f_X11_keepsNow M = some M' ∧ (∀ k i, k ≠ 43 → M' k i = M k i) ∧ M' 43 0 = sNow A w := by
  obtain ⟨M', e1, e2, e3⟩ := R_keepsNow M
  refine ⟨M', e1, e2, ?_⟩
  funext q
  rw [e3 q, hM, hW]
  rfl
set_option maxRecDepth 8000 in
set_option maxHeartbeats 300000 in
theorem worldR.lay {M : zM} {j : Nat} {A W : Nat → Int} (h : worldR M j A) : cityR M j A (sLay A W) ∧ rowOK A (sLay A W) ∧ sLay A W 38 ≤ 9999 := by
  have h0 := h.head.thg
  have h1 := h.head.own
  have h9 := h.row.book
  refine ⟨h.city.congr h0.2 h1.2 h9.2 (fun _ _ => rfl) (fun q hq _ => sLay_lo hq) (fun t ht _ => ⟨sLay_lo (by omega), sLay_lo (by omega)⟩), h.row.congr h0.2 (fun _ _ => rfl) (fun q hq => sLay_lo hq), ?_⟩
  rw [sLay_lo (by omega)]
  exact h.day
set_option maxRecDepth 8000 in
set_option maxHeartbeats 300000 in
theorem headOK.now {A w : Nat → Int} (h : headOK A) : headOK (sNow A w) := h.congr (fun q hq => sNow_out (by omega))
set_option maxRecDepth 8000 in
set_option maxHeartbeats 300000 in
theorem worldR.now {M M' : zM} {j : Nat} {A w : Nat → Int} (h : worldR M j A) (hc : cityR M' j A w) (hw : rowOK A w) (hd : w 38 ≤ 9999) (hf : frX j M M') : worldR M' j (sNow A w) := by
  have h0 := h.head.thg
  have h1 := h.head.own
  have h9 := hw.book
  have f := hf.1
  have f20 := f 20 j (by omega) (by omega) (by omega) (by omega) (by omega) (by omega)
  refine ⟨h.head.now, ?_, ?_, ?_, fun t ht => ?_, ?_, ?_⟩
  · exact hw.congr h0.2 (fun q hq => sNow_out (by omega)) (fun q hq => by unfold rw_; exact sNow_in hq)
  · rw [show (128 : Nat) = 90 + 38 from rfl, sNow_in (by omega)]; exact hd
  · exact hc.congr h0.2 h1.2 h9.2 (fun q hq => sNow_out (by omega)) (fun q hq _ => by unfold rw_; exact sNow_in hq) (fun t ht _ => by unfold rw_; exact ⟨sNow_in (by omega), sNow_in (by omega)⟩)
  · rw [sNow_out (by omega)] at ht
    rw [hf.2 t (by omega)]
    exact h.told t ht
  · obtain ⟨g1, g2, g3⟩ := h.steps
    unfold stepsR
    rw [f20, sNow_out (show 5 < 90 ∨ 251 ≤ 5 by omega)]
    refine ⟨g1, g2, fun i hi => ?_⟩
    obtain ⟨r, hr, k1, k2, k3, k4⟩ := g3 i hi
    refine ⟨r, hr, k1, k2.congr h.head k3 (fun q hq => by rw [f 22 _ (by omega) (by omega) (by omega) (by omega) (by omega) (by omega)]) hf.2 (fun q hq => sNow_out (by omega)) (fun q hq => ?_), k3.congr h0.2 (fun q hq => sNow_out (by omega)) (fun q hq => ?_), ?_⟩
    · unfold rw_; exact sNow_out (by omega)
    · unfold rw_; exact sNow_out (by omega)
    · rw [sNow_out (by omega)]; exact k4
  · have ff : ∀ k, 23 ≤ k → M' k j = M k j := fun k hk => by
      by_cases h19 : k = 19
      · omega
      · exact f k j (by omega) (by omega) (by omega) (by omega) (by omega) (by omega)
    refine h.tld.congr h.head ?_ (fun q hq => ?_) (fun q hq => ?_) (fun q hq => sNow_out (by omega))
    · rw [ff 23 (by omega)]; exact ⟨rfl, rfl, rfl⟩
    · rw [ff 24 (by omega), ff 25 (by omega)]; exact ⟨rfl, rfl⟩
    · rw [ff 26 (by omega), ff 28 (by omega), ff 29 (by omega), ff 30 (by omega)]; exact ⟨rfl, rfl, rfl, rfl⟩
set_option maxRecDepth 8000 in
set_option maxHeartbeats 300000 in
theorem sKeepN_lo {A : Nat → Int} {n q : Nat} (h : q < 260) (h5 : q ≠ 5) : sKeepN A n q = A q := by
  unfold sKeepN
  rw [if_neg h5, if_neg (by omega)]
set_option maxRecDepth 8000 in
set_option maxHeartbeats 300000 in
theorem sDrop_lo {A : Nat → Int} {q : Nat} (h : q < 260) (h5 : q ≠ 5) : sDrop A q = A q := by
  unfold sDrop
  rw [if_neg h5, if_neg (by omega)]
set_option maxRecDepth 8000 in
set_option maxHeartbeats 300000 in
theorem sKeep_lo {A : Nat → Int} {q : Nat} (h : q < 260) (h5 : q ≠ 5) : sKeep A q = A q := by
  unfold sKeep
  by_cases hc : A 5 = 30
  · rw [if_pos hc, sKeepN_lo h h5, sDrop_lo h h5]
  · rw [if_neg hc, sKeepN_lo h h5]
set_option maxRecDepth 8000 in
set_option maxHeartbeats 300000 in
theorem sKeep_5 {A : Nat → Int} (h : 0 ≤ A 5 ∧ A 5 ≤ 30) : sKeep A 5 = if A 5 = 30 then 30 else A 5 + 1 := by
  unfold sKeep
  by_cases hc : A 5 = 30
  · rw [if_pos hc, if_pos hc]; rfl
  · rw [if_neg hc, if_neg hc]
    unfold sKeepN
    rw [if_pos rfl]
    omega
set_option maxRecDepth 8000 in
set_option maxHeartbeats 300000 in
theorem sKeep_new {A : Nat → Int} (h : 0 ≤ A 5 ∧ A 5 ≤ 30) {q : Nat} (hq : q < 161) : sKeep A (260 + 161 * (if A 5 = 30 then 29 else (A 5).toNat) + q) = A (90 + q) := by
  unfold sKeep
  by_cases hc : A 5 = 30
  · rw [if_pos hc, if_pos hc]
    unfold sKeepN
    rw [if_neg (by omega), if_pos (by omega), show 260 + 161 * 29 + q - (260 + 161 * 29) = q by omega, sDrop_lo (by omega) (by omega)]
  · rw [if_neg hc, if_neg hc]
    unfold sKeepN
    rw [if_neg (by omega), if_pos (by omega), show 260 + 161 * (A 5).toNat + q - (260 + 161 * (A 5).toNat) = q by omega]
set_option maxRecDepth 8000 in
set_option maxHeartbeats 300000 in
theorem sKeep_old {A : Nat → Int} (h : 0 ≤ A 5 ∧ A 5 ≤ 30) {i q : Nat} (hq : q < 161) (hi : i < (if A 5 = 30 then 29 else (A 5).toNat)) : sKeep A (260 + 161 * i + q) = A (260 + 161 * (if A 5 = 30 then i + 1 else i) + q) := by
  unfold sKeep
  by_cases hc : A 5 = 30
  · rw [if_pos hc] at hi ⊢
    rw [if_pos hc]
    unfold sKeepN sDrop
    rw [if_neg (by omega), if_neg (by omega), if_neg (by omega), if_pos (by omega), show 260 + 161 * i + q + 161 = 260 + 161 * (i + 1) + q by omega]
  · rw [if_neg hc] at hi ⊢
    rw [if_neg hc]
    unfold sKeepN
    rw [if_neg (by omega), if_neg (by omega)]
set_option maxRecDepth 8000 in
set_option maxHeartbeats 300000 in
theorem zrem_30 {a : Int} (h : 0 ≤ a) : zrem a 30 = a % 30 := by
  rw [zrem_tmod, Int.tmod_eq_emod_of_nonneg h]
set_option maxRecDepth 8000 in
set_option maxHeartbeats 300000 in
theorem X_keep {M : zM} {A : Nat → Int} (h : worldR M 0 A) : ∃ M', f_X5_keep 0 0 M = some M' ∧ worldR M' 0 (sKeep A) ∧ ∀ k i, ¬ (k = 20 ∧ i = 0) → ¬ (k = 22 ∧ i < 30) → M' k i = M k i := by
  have h0 := h.head.thg
  have h1 := h.head.own
  have h5 := h.head.stp
  have h9 := h.row.book
  obtain ⟨g1, g2, g3⟩ := h.steps
  obtain ⟨nx, hnx⟩ := Int.eq_ofNat_of_zero_le g2.1
  obtain ⟨M1, e1, e2, e3, e4, e5⟩ := X_saved (r := nx + 30 * 0) h.city h.head h.row
  have m20 : M1 20 0 = M 20 0 := e2 20 0 (by omega)
  have m2 : M1 20 0 2 = (nx : Int) := by rw [m20]; exact hnx
  have m1 : M1 20 0 1 = A 5 := by rw [m20]; exact g1
  have ez : zrem (zw ((nx : Int) + 1)) 30 = ((nx : Int) + 1) % 30 := by rw [zw_id (by omega) (by omega), zrem_30 (by omega)]
  refine ⟨zput (zput M1 20 0 2 (((nx : Int) + 1) % 30)) 20 0 1 (if 30 < A 5 + 1 then 30 else A 5 + 1), ?_, ?_, fun k i a b => ?_⟩
  · unfold f_X5_keep
    rw [hnx, zw_nat (by omega), if_pos (by omega), zix_nat (by omega), e1]
    simp (disch := omega) only [if_true, if_false, true_or, or_true, true_and, and_true, not_true_eq_false, not_false_eq_true, zbs, zlt_, zput_j, m1, m2, zrem_30, zw_id]
  · have hf : ∀ k i, k ≠ 20 → ¬ (k = 22 ∧ i = nx + 30 * 0) → zput (zput M1 20 0 2 (((nx : Int) + 1) % 30)) 20 0 1 (if 30 < A 5 + 1 then 30 else A 5 + 1) k i = M k i := fun k i a b => by
      rw [zput_rowk (by omega), zput_rowk (by omega)]; exact e2 k i b
    have hc22 : ∀ i, zput (zput M1 20 0 2 (((nx : Int) + 1) % 30)) 20 0 1 (if 30 < A 5 + 1 then 30 else A 5 + 1) 22 i = M1 22 i := fun i => by
      rw [zput_rowk (by omega), zput_rowk (by omega)]
    have hh : headOK (sKeep A) := by
      obtain ⟨q1, q2, q3, q4, q5, q6, q7, q8, q9, q10, q11, q12, q13, q14, q15, q16⟩ := h.head
      have k5 := sKeep_5 h5
      unfold headOK
      rw [sKeep_lo (q := 0) (by omega) (by omega), sKeep_lo (q := 1) (by omega) (by omega), sKeep_lo (q := 2) (by omega) (by omega), sKeep_lo (q := 3) (by omega) (by omega), sKeep_lo (q := 4) (by omega) (by omega), sKeep_lo (q := 6) (by omega) (by omega), sKeep_lo (q := 7) (by omega) (by omega), sKeep_lo (q := 8) (by omega) (by omega)]
      refine ⟨q1, q2, q3, q4, q5, q6, ?_, q8, q9, q10, fun i hi => ?_, fun t ht => ?_, fun t ht => ?_, fun i hi => ?_, fun i hi => ?_, fun i hi => ?_⟩
      · rw [k5]; split <;> omega
      · rw [sKeep_lo (by omega) (by omega)]; exact q11 i hi
      · rw [sKeep_lo (by omega) (by omega)]; exact q12 t ht
      · rw [sKeep_lo (by omega) (by omega)]; exact q13 t ht
      · rw [sKeep_lo (by omega) (by omega), sKeep_lo (by omega) (by omega)]; exact q14 i hi
      · rw [sKeep_lo (by omega) (by omega)]; exact q15 i hi
      · rw [sKeep_lo (by omega) (by omega), sKeep_lo (by omega) (by omega), sKeep_lo (by omega) (by omega)]; exact q16 i hi
    generalize hM' : zput (zput M1 20 0 2 (((nx : Int) + 1) % 30)) 20 0 1 (if 30 < A 5 + 1 then 30 else A 5 + 1) = M' at hf hc22 ⊢
    have s1 : M' 20 0 1 = if 30 < A 5 + 1 then 30 else A 5 + 1 := by rw [← hM', zput_eq]
    have s2 : M' 20 0 2 = ((nx : Int) + 1) % 30 := by rw [← hM', zput_j (by omega), zput_eq]
    have k5 := sKeep_5 h5
    refine ⟨hh, ?_, ?_, ?_, fun t ht => ?_, ?_, ?_⟩
    · exact h.row.congr h0.2 (fun q hq => sKeep_lo (by omega) (by omega)) (fun q hq => by unfold rw_; exact sKeep_lo (by omega) (by omega))
    · rw [sKeep_lo (by omega) (by omega)]; exact h.day
    · exact (h.city.frame' (M' := M') (fun k i a b => hf k i (by omega) (by omega))).congr5 h0.2 h1.2 h9.2 (fun q hq hq5 => sKeep_lo (by omega) hq5) (fun q hq _ => by unfold rw_; exact sKeep_lo (by omega) (by omega)) (fun t ht _ => by unfold rw_; exact ⟨sKeep_lo (by omega) (by omega), sKeep_lo (by omega) (by omega)⟩)
    · rw [sKeep_lo (by omega) (by omega)] at ht
      rw [hf 16 _ (by omega) (by omega)]
      exact h.told t ht
    · have e16 : ∀ t : Nat, t < 8 → M' 16 (t + 8 * 0) 0 = M 16 (t + 8 * 0) 0 := fun t ht => by rw [hf 16 _ (by omega) (by omega)]
      refine ⟨?_, by omega, fun i hi => ?_⟩
      · rw [s1, k5]
        by_cases hc : A 5 = 30
        · rw [if_pos hc, if_pos (by omega)]
        · rw [if_neg hc, if_neg (by omega)]
      · rw [k5] at hi
        by_cases hnew : i = (if A 5 = 30 then 29 else (A 5).toNat)
        · refine ⟨nx, by omega, ?_, ?_, ?_, ?_⟩
          · rw [s2, k5, hnew]
            split <;> omega
          · refine e3.congr5 (M' := M') (r' := nx + 30 * 0) h.head h.row (fun q hq => by rw [hc22]) (fun t ht => by rw [hf 16 _ (by omega) (by omega), e2 16 _ (by omega)]) (fun q hq hq5 => sKeep_lo (by omega) hq5) (fun q hq => ?_)
            · unfold rw_
              rw [hnew]
              exact sKeep_new h5 hq
          · refine h.row.congr h0.2 (fun q hq => sKeep_lo (by omega) (by omega)) (fun q hq => ?_)
            unfold rw_
            rw [hnew]
            exact sKeep_new h5 hq
          · rw [hnew, show ∀ n, 298 + 161 * n = 260 + 161 * n + 38 from fun n => by omega, sKeep_new h5 (by omega)]
            exact h.day
        · have hi2 : i < (if A 5 = 30 then 29 else (A 5).toNat) := by
            by_cases hc : A 5 = 30
            · rw [if_pos hc] at hi hnew ⊢; omega
            · rw [if_neg hc] at hi hnew ⊢; omega
          have hold : ∀ q, q < 161 → sKeep A (260 + 161 * i + q) = A (260 + 161 * (if A 5 = 30 then i + 1 else i) + q) := fun q hq => sKeep_old h5 hq hi2
          obtain ⟨r, hr, k1, k2, k3, k4⟩ := g3 (if A 5 = 30 then i + 1 else i) (by
            by_cases hc : A 5 = 30
            · rw [if_pos hc] at hi2 ⊢; omega
            · rw [if_neg hc] at hi2 ⊢; omega)
          have hrn : r ≠ nx := by
            rw [hnx] at k1
            by_cases hc : A 5 = 30
            · rw [if_pos hc] at k1 hi2; omega
            · rw [if_neg hc] at k1 hi2; omega
          refine ⟨r, hr, ?_, ?_, ?_, ?_⟩
          · rw [s2, k5]
            rw [hnx] at k1
            by_cases hc : A 5 = 30
            · rw [if_pos hc] at k1 hi2 ⊢; omega
            · rw [if_neg hc] at k1 hi2 ⊢; omega
          · refine k2.congr5 (M' := M') (r' := r + 30 * 0) h.head k3 (fun q hq => by rw [hf 22 _ (by omega) (by omega)]) e16 (fun q hq hq5 => sKeep_lo (by omega) hq5) (fun q hq => ?_)
            · unfold rw_; exact hold q hq
          · refine k3.congr h0.2 (fun q hq => sKeep_lo (by omega) (by omega)) (fun q hq => ?_)
            unfold rw_; exact hold q hq
          · rw [show 298 + 161 * i = 260 + 161 * i + 38 by omega, hold 38 (by omega), show 260 + 161 * (if A 5 = 30 then i + 1 else i) + 38 = 298 + 161 * (if A 5 = 30 then i + 1 else i) by omega]
            exact k4
    · refine h.tld.congr5 h.head ?_ (fun q hq => ?_) (fun q hq => ?_) (fun q hq hq5 => sKeep_lo (by omega) hq5)
      · rw [hf 23 0 (by omega) (by omega)]; exact ⟨rfl, rfl, rfl⟩
      · rw [hf 24 0 (by omega) (by omega), hf 25 0 (by omega) (by omega)]; exact ⟨rfl, rfl⟩
      · rw [hf 26 0 (by omega) (by omega), hf 28 0 (by omega) (by omega), hf 29 0 (by omega) (by omega), hf 30 0 (by omega) (by omega)]; exact ⟨rfl, rfl, rfl, rfl⟩
  · rw [zput_rowk (by omega), zput_rowk (by omega)]
    exact e2 k i (by omega)
