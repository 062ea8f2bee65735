/-! steps; what is copied to the image and back -/
set_option maxRecDepth 8000 in
set_option maxHeartbeats 300000 in
theorem headOK.congr {a a' : Nat → Int} (h : headOK a) (e : ∀ q, q < 90 → a' q = a q) : headOK a' := by
  obtain ⟨g1, g2, g3, g4, g5, g6, g7, g8, g9, g10, g11, g12, g13, g14, g15, g16⟩ := h
  unfold headOK
  rw [e 0 (by omega), e 1 (by omega), e 2 (by omega), e 3 (by omega), e 4 (by omega), e 5 (by omega), e 6 (by omega), e 7 (by omega), e 8 (by omega)]
  refine ⟨g1, g2, g3, g4, g5, g6, g7, g8, g9, g10, fun i hi => ?_, fun t ht => ?_, fun t ht => ?_, fun i hi => ?_, fun i hi => ?_, fun i hi => ?_⟩
  · rw [e _ (by omega)]; exact g11 i hi
  · rw [e _ (by omega)]; exact g12 t ht
  · rw [e _ (by omega)]; exact g13 t ht
  · rw [e _ (by omega), e _ (by omega)]; exact g14 i hi
  · rw [e _ (by omega)]; exact g15 i hi
  · rw [e _ (by omega), e _ (by omega), e _ (by omega)]; exact g16 i hi
set_option maxRecDepth 8000 in
set_option maxHeartbeats 300000 in
theorem savedR.congr5 {M M' : zM} {r r' j j' : Nat} {a a' w w' : Nat → Int} (h : savedR M r j a w) (hA : headOK a) (hw : rowOK a w) (e22 : ∀ q, q < 73 → M' 22 r' q = M 22 r q) (e16 : ∀ t : Nat, t < 8 → M' 16 (t + 8 * j') 0 = M 16 (t + 8 * j) 0) (ha : ∀ q, q < 32 → q ≠ 5 → a' q = a q) (w0 : ∀ q, q < 161 → w' q = w q) : savedR M' r' j' a' w' := by
  have h0 := hA.thg
  have h1 := hA.own
  have h9 := hw.book
  obtain ⟨g1, g2, g3, g4, g5, g6, g7, g8, g9, g10, g11, g12, g13⟩ := h
  unfold savedR
  rw [ha 0 (by omega) (by omega), ha 1 (by omega) (by omega), e22 0 (by omega), e22 1 (by omega), e22 2 (by omega), e22 3 (by omega), e22 4 (by omega), w0 38 (by omega), w0 39 (by omega), w0 40 (by omega)]
  refine ⟨g1, g2, g3, g4, g5, fun i hi h => ?_, fun i hi h => ?_, fun i hi => ?_, fun t ht => ?_, fun t ht => ?_, fun t ht hk => ?_, fun t ht hk => ?_, fun t ht ht2 => ?_⟩
  · rw [e22 _ (by omega), w0 _ (by omega)]; exact g6 i hi h
  · rw [w0 _ (by omega)]; exact g7 i hi h
  · rw [e22 _ (by omega), g8 i hi]
    unfold cardOf
    rw [w0 _ (by omega), w0 _ (by omega), w0 _ (by omega), w0 _ (by omega)]
  · rw [e22 _ (by omega), w0 _ (by omega)]; exact g9 t ht
  · rw [e22 _ (by omega), w0 _ (by omega)]; exact g10 t ht
  · rw [w0 _ (by omega)] at hk
    rw [e22 _ (by omega), w0 _ (by omega)]; exact g11 t ht hk
  · rw [w0 _ (by omega)] at hk
    rw [e22 _ (by omega), w0 _ (by omega)]; exact g12 t ht hk
  · rw [e16 t (by omega), ha _ (by omega) (by omega), w0 _ (by omega), w0 _ (by omega), w0 _ (by omega), w0 _ (by omega)]; exact g13 t ht ht2
set_option maxRecDepth 8000 in
set_option maxHeartbeats 300000 in
theorem savedR.congr {M M' : zM} {r r' j j' : Nat} {a a' w w' : Nat → Int} (h : savedR M r j a w) (hA : headOK a) (hw : rowOK a w) (e22 : ∀ q, q < 73 → M' 22 r' q = M 22 r q) (e16 : ∀ t : Nat, t < 8 → M' 16 (t + 8 * j') 0 = M 16 (t + 8 * j) 0) (ha : ∀ q, q < 32 → a' q = a q) (w0 : ∀ q, q < 161 → w' q = w q) : savedR M' r' j' a' w' := h.congr5 hA hw e22 e16 (fun q hq _ => ha q hq) w0
set_option maxRecDepth 8000 in
set_option maxHeartbeats 300000 in
theorem stepsR.congr {M M' : zM} {j j' : Nat} {a a' : Nat → Int} (h : stepsR M j a) (hA : headOK a) (e20 : M' 20 j' 1 = M 20 j 1 ∧ M' 20 j' 2 = M 20 j 2) (e22 : ∀ r q, r < 30 → q < 73 → M' 22 (r + 30 * j') q = M 22 (r + 30 * j) q) (e16 : ∀ t : Nat, t < 8 → M' 16 (t + 8 * j') 0 = M 16 (t + 8 * j) 0) (ha : ∀ q, q < 5090 → a' q = a q) : stepsR M' j' a' := by
  have h5 := hA.stp
  have h0 := hA.thg
  obtain ⟨g1, g2, g3⟩ := h
  unfold stepsR
  rw [e20.1, e20.2, ha 5 (by omega)]
  refine ⟨g1, g2, fun i hi => ?_⟩
  obtain ⟨r, hr, k1, k2, k3, k4⟩ := g3 i hi
  refine ⟨r, hr, k1, k2.congr hA k3 (fun q hq => e22 r q hr hq) e16 (fun q hq => ha q (by omega)) (fun q hq => ?_), k3.congr h0.2 (fun q hq => ha q (by omega)) (fun q hq => ?_), ?_⟩
  · unfold rw_; exact ha _ (by omega)
  · unfold rw_; exact ha _ (by omega)
  · rw [ha _ (by omega)]; exact k4
set_option maxRecDepth 8000 in
set_option maxHeartbeats 300000 in
theorem toldR.congr5 {M M' : zM} {j j' : Nat} {a a' : Nat → Int} (h : toldR M j a) (hA : headOK a) (e23 : M' 23 j' 7 = M 23 j 7 ∧ M' 23 j' 8 = M 23 j 8 ∧ M' 23 j' 9 = M 23 j 9) (e24 : ∀ q, q < 8 → M' 24 j' q = M 24 j q ∧ M' 25 j' q = M 25 j q) (e26 : ∀ q, q < 9 → M' 26 j' q = M 26 j q ∧ M' 28 j' q = M 28 j q ∧ M' 29 j' q = M 29 j q ∧ M' 30 j' q = M 30 j q) (ha : ∀ q, q < 90 → q ≠ 5 → a' q = a q) : toldR M' j' a' := by
  have h6 := hA.pln
  have h7 := hA.vts
  have h8 := hA.sen
  obtain ⟨g1, g2, g3, g4, g5, g6, g7, g8, g9⟩ := h
  unfold toldR
  rw [e23.1, e23.2.1, e23.2.2, ha 6 (by omega) (by omega), ha 7 (by omega) (by omega), ha 8 (by omega) (by omega)]
  refine ⟨g1, g2, g3, fun i hi => ?_, fun i hi => ?_, fun i hi => ?_, fun i hi => ?_, fun i hi => ?_, fun i hi => ?_⟩
  · rw [(e24 i (by omega)).1, ha _ (by omega) (by omega)]; exact g4 i hi
  · rw [(e24 i (by omega)).2, ha _ (by omega) (by omega)]; exact g5 i hi
  · rw [(e26 i (by omega)).1, ha _ (by omega) (by omega)]; exact g6 i hi
  · rw [(e26 i (by omega)).2.1, ha _ (by omega) (by omega)]; exact g7 i hi
  · rw [(e26 i (by omega)).2.2.1, ha _ (by omega) (by omega)]; exact g8 i hi
  · rw [(e26 i (by omega)).2.2.2, ha _ (by omega) (by omega)]; exact g9 i hi
set_option maxRecDepth 8000 in
set_option maxHeartbeats 300000 in
theorem toldR.congr {M M' : zM} {j j' : Nat} {a a' : Nat → Int} (h : toldR M j a) (hA : headOK a) (e23 : M' 23 j' 7 = M 23 j 7 ∧ M' 23 j' 8 = M 23 j 8 ∧ M' 23 j' 9 = M 23 j 9) (e24 : ∀ q, q < 8 → M' 24 j' q = M 24 j q ∧ M' 25 j' q = M 25 j q) (e26 : ∀ q, q < 9 → M' 26 j' q = M 26 j q ∧ M' 28 j' q = M 28 j q ∧ M' 29 j' q = M 29 j q ∧ M' 30 j' q = M 30 j q) (ha : ∀ q, q < 90 → a' q = a q) : toldR M' j' a' := h.congr5 hA e23 e24 e26 (fun q hq _ => ha q hq)
set_option maxRecDepth 8000 in
set_option maxHeartbeats 300000 in
theorem X_copy (M : zM) {j j' : Nat} (hj : j' ≠ j) : ∃ M', f_X0_copy j' j M = some M' ∧ (∀ k i, ¬ (k = 11 ∧ i = j') → ¬ (k = 12 ∧ i = j') → ¬ (k = 13 ∧ i = j') → ¬ (k = 15 ∧ i = j') → ¬ (k = 16 ∧ 8 * j' ≤ i ∧ i < 8 * j' + 8) → M' k i = M k i) ∧ (∀ s, 6 ≤ s → s ≤ 13 → M' 11 j' s = M 11 j s) ∧ (∀ q, q < 6 → M' 12 j' q = M 12 j q ∧ M' 13 j' q = M 13 j q) ∧ (∀ q, q < 30 → M' 15 j' q = M 15 j q) ∧ ∀ t s, t < 8 → s < 7 → M' 16 (t + 8 * j') s = M 16 (t + 8 * j) s := by
  generalize hN : zcopy (zcopy (zcopy M 12 j 0 12 j' 0 6) 13 j 0 13 j' 0 6) 15 j 0 15 j' 0 30 = N
  have n1 : ∀ k i, ¬ (k = 12 ∧ i = j') → ¬ (k = 13 ∧ i = j') → ¬ (k = 15 ∧ i = j') → N k i = M k i := fun k i a b c => by
    funext q
    rw [← hN, zcopy_at, if_neg (by omega), zcopy_at, if_neg (by omega), zcopy_at, if_neg (by omega)]
  have n2 : ∀ q, q < 6 → N 12 j' q = M 12 j q ∧ N 13 j' q = M 13 j q := fun q hq => by
    rw [← hN]
    constructor
    · rw [zcopy_k (by omega), zcopy_k (by omega), zcopy_in (by omega) (by omega), show 0 + (q - 0) = q by omega]
    · rw [zcopy_k (by omega), zcopy_in (by omega) (by omega), zcopy_k (by omega), show 0 + (q - 0) = q by omega]
  have n3 : ∀ q, q < 30 → N 15 j' q = M 15 j q := fun q hq => by
    rw [← hN, zcopy_in (by omega) (by omega), zcopy_k (by omega), zcopy_k (by omega), show 0 + (q - 0) = q by omega]
  have key := zT_cnt0 (body := fun s : Int × zM => f_X0_copy_L47 j' j s.1 s.2) (fun i N2 => (∀ k i, ¬ (k = 16 ∧ 8 * j' ≤ i ∧ i < 8 * j' + 8) → N2 k i = N k i) ∧ ∀ t s, t < i → s < 7 → N2 16 (t + 8 * j') s = M 16 (t + 8 * j) s) 8 (Q := fun N2 => (∀ k i, ¬ (k = 16 ∧ 8 * j' ≤ i ∧ i < 8 * j' + 8) → N2 k i = N k i) ∧ ∀ t s, t < 8 → s < 7 → N2 16 (t + 8 * j') s = M 16 (t + 8 * j) s) ?_ ?_ (m := zF) (by unfold zF; omega) (N0 := N) ⟨fun _ _ _ => rfl, fun t s ht _ => by omega⟩
  · obtain ⟨N2, k1, k2, k3⟩ := key
    have m11 : ∀ s, N2 11 j s = M 11 j s := fun s => by rw [k2 11 j (by omega), n1 11 j (by omega) (by omega) (by omega)]
    generalize hM' : zput (zput (zput (zput (zput (zput (zput (zput N2 11 j' 6 (M 11 j 6)) 11 j' 7 (M 11 j 7)) 11 j' 8 (M 11 j 8)) 11 j' 9 (M 11 j 9)) 11 j' 10 (M 11 j 10)) 11 j' 11 (M 11 j 11)) 11 j' 12 (M 11 j 12)) 11 j' 13 (M 11 j 13) = M'
    have f' : ∀ k i, ¬ (k = 11 ∧ i = j') → M' k i = N2 k i := fun k i a => by
      rw [← hM']
      simp (disch := omega) only [if_true, if_false, true_or, or_true, true_and, and_true, not_true_eq_false, not_false_eq_true, zput_rowk]
    refine ⟨M', ?_, fun k i a b c d e => ?_, fun s h6 h13 => ?_, fun q hq => ?_, fun q hq => ?_, fun t s ht hs => ?_⟩
    · unfold f_X0_copy
      simp (disch := omega) only [if_true, if_false, true_or, or_true, true_and, and_true, not_true_eq_false, not_false_eq_true, zlt_]
      rw [hN, k1]
      simp (disch := omega) only [if_true, if_false, true_or, or_true, true_and, and_true, not_true_eq_false, not_false_eq_true, zbs, zlt_, zput_i, m11]
      rw [hM']
    · rw [f' k i a, k2 k i e, n1 k i b c d]
    · rw [← hM']
      have hs : s = 6 ∨ s = 7 ∨ s = 8 ∨ s = 9 ∨ s = 10 ∨ s = 11 ∨ s = 12 ∨ s = 13 := by omega
      rcases hs with rfl | rfl | rfl | rfl | rfl | rfl | rfl | rfl <;> simp (disch := omega) only [if_true, if_false, true_or, or_true, true_and, and_true, not_true_eq_false, not_false_eq_true, zput_eq, zput_j]
    · rw [f' 12 j' (by omega), f' 13 j' (by omega), k2 12 j' (by omega), k2 13 j' (by omega)]
      exact n2 q hq
    · rw [f' 15 j' (by omega), k2 15 j' (by omega)]
      exact n3 q hq
    · rw [f' 16 _ (by omega)]
      exact k3 t s ht hs
  · rintro i N2 hi ⟨a1, a2⟩
    dsimp only
    have h16 : N2 16 (i + 8 * j) = M 16 (i + 8 * j) := by rw [a1 16 _ (by omega), n1 16 _ (by omega) (by omega) (by omega)]
    unfold f_X0_copy_L47 f_X8_copy
    simp (disch := omega) only [if_true, if_false, true_or, or_true, true_and, and_true, not_true_eq_false, not_false_eq_true, zw_id, if_neg, if_pos, zix_nat, zlt_, zbs, zput_i, h16]
    refine zT_some (Or.inl ⟨_, rfl, fun k i2 hk => by simp (disch := omega) only [if_true, if_false, true_or, or_true, true_and, and_true, not_true_eq_false, not_false_eq_true, zput_rowk]; exact a1 k i2 hk, fun t s ht hs => ?_⟩)
    by_cases hti : t = i
    · subst hti
      have hs : s = 0 ∨ s = 1 ∨ s = 2 ∨ s = 3 ∨ s = 4 ∨ s = 5 ∨ s = 6 := by omega
      rcases hs with rfl | rfl | rfl | rfl | rfl | rfl | rfl <;> simp (disch := omega) only [if_true, if_false, true_or, or_true, true_and, and_true, not_true_eq_false, not_false_eq_true, zput_eq, zput_j]
    · simp (disch := omega) only [if_true, if_false, true_or, or_true, true_and, and_true, not_true_eq_false, not_false_eq_true, zput_i]
      exact a2 t s (by omega) hs
  · rintro N2 ⟨a1, a2⟩
    dsimp only
    unfold f_X0_copy_L47
    rw [zw_id (by omega) (by omega), if_pos (by omega)]
    exact zT_some ⟨N2, rfl, a1, a2⟩
set_option maxRecDepth 8000 in
set_option maxHeartbeats 300000 in
theorem cityR.copied {M M' : zM} {j j' : Nat} {A w : Nat → Int} (hc : cityR M j A w) (hA : headOK A) (hw : rowOK A w) (e11 : ∀ s, 6 ≤ s → s ≤ 13 → M' 11 j' s = M 11 j s) (e12 : ∀ q, q < 6 → M' 12 j' q = M 12 j q ∧ M' 13 j' q = M 13 j q) (e15 : ∀ q, q < 30 → M' 15 j' q = M 15 j q) (e16 : ∀ t s, t < 8 → s < 7 → M' 16 (t + 8 * j') s = M 16 (t + 8 * j) s) : cityR M' j' A w := by
  have h0 := hA.thg
  have h1 := hA.own
  have h9 := hw.book
  unfold cityR
  rw [e11 6 (by omega) (by omega), e11 7 (by omega) (by omega), e11 8 (by omega) (by omega), e11 9 (by omega) (by omega), e11 10 (by omega) (by omega), e11 11 (by omega) (by omega), e11 12 (by omega) (by omega), e11 13 (by omega) (by omega)]
  refine ⟨hc.own, hc.thg, hc.wrt, hc.room, hc.day, hc.x, hc.txs, hc.txt, fun i hi => ?_, fun i hi => ?_, fun t ht => ?_, fun t ht => ?_, fun t ht => ?_, fun t ht => ?_, fun t ht hk => ?_, fun t ht hk => ?_, fun i hi => ?_⟩
  · rw [(e12 i (by omega)).1]; exact hc.lives i hi
  · rw [(e12 i (by omega)).2]; exact hc.pence i hi
  · rw [e16 t 1 (by omega) (by omega)]; exact hc.first t ht
  · rw [e16 t 2 (by omega) (by omega)]; exact hc.bulk t ht
  · rw [e16 t 3 (by omega) (by omega)]; exact hc.dear t ht
  · rw [e16 t 4 (by omega) (by omega)]; exact hc.with_ t ht
  · rw [e16 t 5 (by omega) (by omega)]; exact hc.since t ht hk
  · rw [e16 t 6 (by omega) (by omega)]; exact hc.from_ t ht hk
  · rw [e15 i (by omega)]; exact hc.card i hi
set_option maxRecDepth 8000 in
set_option maxHeartbeats 300000 in
theorem X_stepsCopy (M : zM) {j j' : Nat} (hj : j' ≠ j) : ∃ M', f_X5_copy j' j M = some M' ∧ (∀ k i, ¬ (k = 20 ∧ i = j') → ¬ (k = 22 ∧ 30 * j' ≤ i ∧ i < 30 * j' + 30) → M' k i = M k i) ∧ (M' 20 j' 1 = M 20 j 1 ∧ M' 20 j' 2 = M 20 j 2) ∧ ∀ r q, r < 30 → q < 73 → M' 22 (r + 30 * j') q = M 22 (r + 30 * j) q := by
  have key := zT_cnt0 (body := fun s : Int × zM => f_X5_copy_L2 j' j s.1 s.2) (fun i N2 => (∀ k i, ¬ (k = 22 ∧ 30 * j' ≤ i ∧ i < 30 * j' + 30) → N2 k i = M k i) ∧ ∀ r q, r < i → q < 73 → N2 22 (r + 30 * j') q = M 22 (r + 30 * j) q) 30 (Q := fun N2 => (∀ k i, ¬ (k = 22 ∧ 30 * j' ≤ i ∧ i < 30 * j' + 30) → N2 k i = M k i) ∧ ∀ r q, r < 30 → q < 73 → N2 22 (r + 30 * j') q = M 22 (r + 30 * j) q) ?_ ?_ (m := zF) (by unfold zF; omega) (N0 := M) ⟨fun _ _ _ => rfl, fun r q h _ => by omega⟩
  · obtain ⟨N2, k1, k2, k3⟩ := key
    have m20 : N2 20 j = M 20 j := k2 20 j (by omega)
    refine ⟨zput (zput N2 20 j' 1 (M 20 j 1)) 20 j' 2 (M 20 j 2), ?_, fun k i a b => ?_, ⟨?_, ?_⟩, fun r q hr hq => ?_⟩
    · unfold f_X5_copy
      rw [k1]
      simp (disch := omega) only [if_true, if_false, true_or, or_true, true_and, and_true, not_true_eq_false, not_false_eq_true, zbs, zlt_, zput_i, m20]
    · simp (disch := omega) only [if_true, if_false, true_or, or_true, true_and, and_true, not_true_eq_false, not_false_eq_true, zput_rowk]; exact k2 k i b
    · simp (disch := omega) only [if_true, if_false, true_or, or_true, true_and, and_true, not_true_eq_false, not_false_eq_true, zput_j, zput_eq]
    · simp (disch := omega) only [if_true, if_false, true_or, or_true, true_and, and_true, not_true_eq_false, not_false_eq_true, zput_eq]
    · simp (disch := omega) only [if_true, if_false, true_or, or_true, true_and, and_true, not_true_eq_false, not_false_eq_true, zput_k]; exact k3 r q hr hq
  · rintro i N2 hi ⟨a1, a2⟩
    dsimp only
    have h22 : N2 22 (i + 30 * j) = M 22 (i + 30 * j) := a1 22 _ (by omega)
    unfold f_X5_copy_L2
    simp (disch := omega) only [if_true, if_false, true_or, or_true, true_and, and_true, not_true_eq_false, not_false_eq_true, zw_id, if_neg, if_pos, zix_nat, zlt_]
    refine zT_some (Or.inl ⟨_, rfl, fun k i2 hk => ?_, fun r q hr hq => ?_⟩)
    · funext q
      rw [zcopy_at, if_neg (by omega), a1 k i2 hk]
    · by_cases hri : r = i
      · subst hri
        rw [zcopy_in (by omega) (by omega), h22, show 0 + (q - 0) = q by omega]
      · rw [zcopy_i (by omega)]; exact a2 r q (by omega) hq
  · rintro N2 ⟨a1, a2⟩
    dsimp only
    unfold f_X5_copy_L2
    rw [zw_id (by omega) (by omega), if_pos (by omega)]
    exact zT_some ⟨N2, rfl, a1, a2⟩
set_option maxRecDepth 8000 in
set_option maxHeartbeats 300000 in
theorem zcopy_rowk {M : zM} {k1 i1 sp k2 i2 dp n k i : Nat} (h : k ≠ k2 ∨ i ≠ i2) : zcopy M k1 i1 sp k2 i2 dp n k i = M k i := by
  funext q
  rw [zcopy_at, if_neg (by omega)]
set_option maxRecDepth 8000 in
set_option maxHeartbeats 300000 in
theorem X_toldCopy (M : zM) {j j' : Nat} (hj : j' ≠ j) : ∃ M', f_X9_copy j' j M = some M' ∧ (∀ k i, ¬ (23 ≤ k ∧ k ≤ 30 ∧ i = j') → M' k i = M k i) ∧ (M' 23 j' 7 = M 23 j 7 ∧ M' 23 j' 8 = M 23 j 8 ∧ M' 23 j' 9 = M 23 j 9) ∧ (∀ q, q < 8 → M' 24 j' q = M 24 j q ∧ M' 25 j' q = M 25 j q) ∧ ∀ q, q < 9 → M' 26 j' q = M 26 j q ∧ M' 28 j' q = M 28 j q ∧ M' 29 j' q = M 29 j q ∧ M' 30 j' q = M 30 j q := by
  unfold f_X9_copy
  simp (disch := omega) only [if_true, if_false, true_or, or_true, true_and, and_true, not_true_eq_false, not_false_eq_true, zlt_, zput_i, zcopy_k]
  refine ⟨_, rfl, fun k i h => ?_, ⟨?_, ?_, ?_⟩, fun q hq => ⟨?_, ?_⟩, fun q hq => ⟨?_, ?_, ?_, ?_⟩⟩
  · simp (disch := omega) only [if_true, if_false, true_or, or_true, true_and, and_true, not_true_eq_false, not_false_eq_true, zput_rowk, zcopy_rowk]
  · simp (disch := omega) only [if_true, if_false, true_or, or_true, true_and, and_true, not_true_eq_false, not_false_eq_true, zput_j, zput_eq]
  · simp (disch := omega) only [if_true, if_false, true_or, or_true, true_and, and_true, not_true_eq_false, not_false_eq_true, zput_j, zput_eq]
  · simp (disch := omega) only [if_true, if_false, true_or, or_true, true_and, and_true, not_true_eq_false, not_false_eq_true, zput_j, zput_eq]
  · simp (disch := omega) only [if_true, if_false, true_or, or_true, true_and, and_true, not_true_eq_false, not_false_eq_true, zput_k, zcopy_k, zcopy_in, Nat.zero_add, Nat.sub_zero]
  · simp (disch := omega) only [if_true, if_false, true_or, or_true, true_and, and_true, not_true_eq_false, not_false_eq_true, zput_k, zcopy_k, zcopy_in, Nat.zero_add, Nat.sub_zero]
  · simp (disch := omega) only [if_true, if_false, true_or, or_true, true_and, and_true, not_true_eq_false, not_false_eq_true, zput_k, zcopy_k, zcopy_in, Nat.zero_add, Nat.sub_zero]
  · simp (disch := omega) only [if_true, if_false, true_or, or_true, true_and, and_true, not_true_eq_false, not_false_eq_true, zput_k, zcopy_k, zcopy_in, Nat.zero_add, Nat.sub_zero]
  · simp (disch := omega) only [if_true, if_false, true_or, or_true, true_and, and_true, not_true_eq_false, not_false_eq_true, zput_k, zcopy_k, zcopy_in, Nat.zero_add, Nat.sub_zero]
  · simp (disch := omega) only [if_true, if_false, true_or, or_true, true_and, and_true, not_true_eq_false, not_false_eq_true, zput_k, zcopy_k, zcopy_in, Nat.zero_add, Nat.sub_zero]
set_option maxRecDepth 8000 in
set_option maxHeartbeats 300000 in
theorem worldR.congr {M M' : zM} {j j' : Nat} {a a' : Nat → Int} (h : worldR M j a) (e11 : ∀ s, 6 ≤ s → s ≤ 13 → M' 11 j' s = M 11 j s) (e12 : ∀ q, q < 6 → M' 12 j' q = M 12 j q ∧ M' 13 j' q = M 13 j q) (e15 : ∀ q, q < 30 → M' 15 j' q = M 15 j q) (e16 : ∀ t s, t < 8 → s < 7 → M' 16 (t + 8 * j') s = M 16 (t + 8 * j) s) (e20 : M' 20 j' 1 = M 20 j 1 ∧ M' 20 j' 2 = M 20 j 2) (e22 : ∀ r q, r < 30 → q < 73 → M' 22 (r + 30 * j') q = M 22 (r + 30 * j) q) (e23 : M' 23 j' 7 = M 23 j 7 ∧ M' 23 j' 8 = M 23 j 8 ∧ M' 23 j' 9 = M 23 j 9) (e24 : ∀ q, q < 8 → M' 24 j' q = M 24 j q ∧ M' 25 j' q = M 25 j q) (e26 : ∀ q, q < 9 → M' 26 j' q = M 26 j q ∧ M' 28 j' q = M 28 j q ∧ M' 29 j' q = M 29 j q ∧ M' 30 j' q = M 30 j q) (ha : ∀ q, q < 5090 → a' q = a q) : worldR M' j' a' := by
  have h0 := h.head.thg
  have h1 := h.head.own
  have h9 := h.row.book
  refine ⟨h.head.congr (fun q hq => ha q (by omega)), h.row.congr h0.2 (fun q hq => ha q (by omega)) (fun q hq => by unfold rw_; exact ha _ (by omega)), by rw [ha _ (by omega)]; exact h.day, ?_, fun t ht => ?_, h.steps.congr h.head e20 e22 (fun t ht => e16 t 0 ht (by omega)) ha, h.tld.congr h.head e23 e24 e26 (fun q hq => ha q (by omega))⟩
  · exact (h.city.copied h.head h.row e11 e12 e15 e16).congr h0.2 h1.2 h9.2 (fun q hq => ha q (by omega)) (fun q hq _ => by unfold rw_; exact ha _ (by omega)) (fun t ht _ => by unfold rw_; exact ⟨ha _ (by omega), ha _ (by omega)⟩)
  · rw [ha 1 (by omega)] at ht
    rw [e16 t 0 (by omega) (by omega)]
    exact h.told t ht
