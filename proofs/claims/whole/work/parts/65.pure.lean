/-! the class's rows: saved, loaded, copied -/
set_option maxRecDepth 8000 in
set_option maxHeartbeats 300000 in
theorem X_save (M : zM) (j r : Nat) : ∃ M', f_X0_save j r M = some M' ∧ (∀ k i, ¬ (k = 22 ∧ i = r) → M' k i = M k i) ∧ (M' 22 r 0 = M 11 j 10 ∧ M' 22 r 1 = M 11 j 11 ∧ M' 22 r 2 = M 11 j 6 ∧ M' 22 r 3 = M 11 j 7 ∧ M' 22 r 4 = M 11 j 8) ∧ (∀ i, i < 6 → M' 22 r (5 + i) = M 13 j i) ∧ (∀ i, i < 30 → M' 22 r (11 + i) = M 15 j i) ∧ ∀ t, t < 8 → M' 22 r (41 + 4 * t) = M 16 (t + 8 * j) 3 ∧ M' 22 r (42 + 4 * t) = M 16 (t + 8 * j) 4 ∧ M' 22 r (43 + 4 * t) = M 16 (t + 8 * j) 5 ∧ M' 22 r (44 + 4 * t) = M 16 (t + 8 * j) 6 := by
  generalize hN : zcopy (zcopy (zput (zput (zput (zput (zput M 22 r 0 (M 11 j 10)) 22 r 1 (M 11 j 11)) 22 r 2 (M 11 j 6)) 22 r 3 (M 11 j 7)) 22 r 4 (M 11 j 8)) 13 j 0 22 r 5 6) 15 j 0 22 r 11 30 = N
  have n1 : ∀ k i, ¬ (k = 22 ∧ i = r) → N k i = M k i := fun k i h => by
    funext q
    rw [← hN]
    rw [zcopy_at, if_neg (by omega), zcopy_at, if_neg (by omega)]
    simp (disch := omega) only [if_true, if_false, true_or, or_true, true_and, and_true, not_true_eq_false, not_false_eq_true, zput_rowk]
  have n2 : N 22 r 0 = M 11 j 10 ∧ N 22 r 1 = M 11 j 11 ∧ N 22 r 2 = M 11 j 6 ∧ N 22 r 3 = M 11 j 7 ∧ N 22 r 4 = M 11 j 8 := by
    rw [← hN]
    refine ⟨?_, ?_, ?_, ?_, ?_⟩ <;> simp (disch := omega) only [if_true, if_false, true_or, or_true, true_and, and_true, not_true_eq_false, not_false_eq_true, zcopy_j, zput_eq, zput_j]
  have n3 : ∀ i, i < 6 → N 22 r (5 + i) = M 13 j i := fun i hi => by
    rw [← hN]
    rw [zcopy_j (by omega), zcopy_in (by omega) (by omega)]
    simp (disch := omega) only [if_true, if_false, true_or, or_true, true_and, and_true, not_true_eq_false, not_false_eq_true, zput_k]
    rw [show 0 + (5 + i - 5) = i by omega]
  have n4 : ∀ i, i < 30 → N 22 r (11 + i) = M 15 j i := fun i hi => by
    rw [← hN]
    rw [zcopy_in (by omega) (by omega)]
    simp (disch := omega) only [if_true, if_false, true_or, or_true, true_and, and_true, not_true_eq_false, not_false_eq_true, zput_k, zcopy_k]
    rw [show 0 + (11 + i - 11) = i by omega]
  have key := zT_cnt0 (body := fun s : Int × zM => f_X0_save_L65 j r 41 s.1 s.2) (fun i N2 => (∀ k i, ¬ (k = 22 ∧ i = r) → N2 k i = M k i) ∧ (∀ q, q < 41 → N2 22 r q = N 22 r q) ∧ ∀ t, t < i → N2 22 r (41 + 4 * t) = M 16 (t + 8 * j) 3 ∧ N2 22 r (42 + 4 * t) = M 16 (t + 8 * j) 4 ∧ N2 22 r (43 + 4 * t) = M 16 (t + 8 * j) 5 ∧ N2 22 r (44 + 4 * t) = M 16 (t + 8 * j) 6) 8 (Q := fun N2 => (∀ k i, ¬ (k = 22 ∧ i = r) → N2 k i = M k i) ∧ (∀ q, q < 41 → N2 22 r q = N 22 r q) ∧ ∀ t, t < 8 → N2 22 r (41 + 4 * t) = M 16 (t + 8 * j) 3 ∧ N2 22 r (42 + 4 * t) = M 16 (t + 8 * j) 4 ∧ N2 22 r (43 + 4 * t) = M 16 (t + 8 * j) 5 ∧ N2 22 r (44 + 4 * t) = M 16 (t + 8 * j) 6) ?_ ?_ (m := zF) (by unfold zF; omega) (N0 := N) ⟨n1, fun q hq => rfl, fun t ht => by omega⟩
  · obtain ⟨M', k1, k2, k3, k4⟩ := key
    refine ⟨M', ?_, k2, ?_, fun i hi => ?_, fun i hi => ?_, k4⟩
    · unfold f_X0_save
      simp (disch := omega) only [if_true, if_false, true_or, or_true, true_and, and_true, not_true_eq_false, not_false_eq_true, zlt_, zput_k]
      rw [hN, k1]
      simp only [zbs]
    · rw [k3 0 (by omega), k3 1 (by omega), k3 2 (by omega), k3 3 (by omega), k3 4 (by omega)]; exact n2
    · rw [k3 _ (by omega)]; exact n3 i hi
    · rw [k3 _ (by omega)]; exact n4 i hi
  · rintro i N2 hi ⟨h1, h2, h3⟩
    dsimp only
    have e1 : zix (41 + 4 * (i : Int)) = 41 + 4 * i := zix_id (by omega) (by omega)
    have e2 : zix (41 + 4 * (i : Int) + 1) = 42 + 4 * i := zix_id (by omega) (by omega)
    have e3 : zix (41 + 4 * (i : Int) + 2) = 43 + 4 * i := zix_id (by omega) (by omega)
    have e4 : zix (41 + 4 * (i : Int) + 3) = 44 + 4 * i := zix_id (by omega) (by omega)
    have h16 := h1 16 (i + 8 * j) (by omega)
    unfold f_X0_save_L65
    simp (disch := omega) only [if_true, if_false, true_or, or_true, true_and, and_true, not_true_eq_false, not_false_eq_true, zw_id, if_neg, if_pos, zix_nat, zlt_, e1, e2, e3, e4, zput_k, h16]
    refine zT_some (Or.inl ⟨_, rfl, fun k i hk => by simp (disch := omega) only [if_true, if_false, true_or, or_true, true_and, and_true, not_true_eq_false, not_false_eq_true, zput_rowk]; exact h1 k i hk, fun q hq => by simp (disch := omega) only [if_true, if_false, true_or, or_true, true_and, and_true, not_true_eq_false, not_false_eq_true, zput_j]; exact h2 q hq, fun t ht => ?_⟩)
    by_cases hti : t = i
    · subst hti
      refine ⟨?_, ?_, ?_, ?_⟩ <;> simp (disch := omega) only [if_true, if_false, true_or, or_true, true_and, and_true, not_true_eq_false, not_false_eq_true, zput_eq, zput_j]
    · simp (disch := omega) only [if_true, if_false, true_or, or_true, true_and, and_true, not_true_eq_false, not_false_eq_true, zput_j]
      exact h3 t (by omega)
  · rintro N2 ⟨h1, h2, h3⟩
    dsimp only
    unfold f_X0_save_L65
    rw [zw_id (by omega) (by omega), if_pos (by omega)]
    exact zT_some ⟨N2, rfl, h1, h2, h3⟩
set_option maxRecDepth 8000 in
set_option maxHeartbeats 300000 in
theorem X_saved {M : zM} {j r : Nat} {A w : Nat → Int} (hc : cityR M j A w) (hA : headOK A) (hw : rowOK A w) : ∃ M', f_X0_save j r M = some M' ∧ (∀ k i, ¬ (k = 22 ∧ i = r) → M' k i = M k i) ∧ savedR M' r j A w ∧ M' 22 r 2 = A 0 ∧ M' 22 r 3 = A 1 := by
  have h0 := hA.thg
  have h1 := hA.own
  have h2 := hw.book
  obtain ⟨M', e1, e2, ⟨a0, a1, a2, a3, a4⟩, e3, e4, e5⟩ := X_save M j r
  rw [hc.own] at a2
  rw [hc.thg] at a3
  refine ⟨M', e1, e2, ⟨a0.trans hc.day, a1.trans hc.x, by omega, by omega, a4.trans hc.wrt, fun i hi _ => (e3 i hi).trans (hc.pence i hi), fun i hi h => hw.pence0 i hi (by omega), fun i hi => (e4 i (by omega)).trans (hc.card i hi), fun t ht => (e5 t (by omega)).1.trans (hc.dear t (by omega)), fun t ht => (e5 t (by omega)).2.1.trans (hc.with_ t (by omega)), fun t ht hk => (e5 t (by omega)).2.2.1.trans (hc.since t (by omega) hk), fun t ht hk => (e5 t (by omega)).2.2.2.trans (hc.from_ t (by omega) hk), fun t ht ht2 => by omega⟩, a2, a3⟩
set_option maxRecDepth 8000 in
set_option maxHeartbeats 300000 in
theorem X_load {M : zM} {j r : Nat} {A w0 w : Nat → Int} (hc : cityR M j A w0) (hA : headOK A) (hw : rowOK A w) (hs : savedR M r j A w) : ∃ M', f_X0_load j r M = some M' ∧ cityR M' j A w ∧ frX j M M' := by
  have h0 := hA.thg
  have h1 := hA.own
  have h2 := hw.book
  have s2 := hs.own
  have s3 := hs.thg
  generalize hN : zput (zput (zput M 11 j 10 (w 38)) 11 j 11 (w 39)) 11 j 8 (w 40) = N
  have nf : frX j M N := by
    rw [← hN]
    exact frX.put11.trans (frX.put11.trans frX.put11)
  have n22 : ∀ i, N 22 i = M 22 i := fun i => nf.1 22 i (by omega) (by omega) (by omega) (by omega) (by omega) (by omega)
  have n16 : ∀ i, N 16 i = M 16 i := fun i => by rw [← hN]; simp (disch := omega) only [if_true, if_false, true_or, or_true, true_and, and_true, not_true_eq_false, not_false_eq_true, zput_rowk]
  have n12 : N 12 j = M 12 j := nf.1 12 j (by omega) (by omega) (by omega) (by omega) (by omega) (by omega)
  have n11 : (∀ s, s ≠ 8 → s ≠ 10 → s ≠ 11 → N 11 j s = M 11 j s) ∧ N 11 j 8 = w 40 ∧ N 11 j 10 = w 38 ∧ N 11 j 11 = w 39 := by
    rw [← hN]
    refine ⟨fun s a b c => ?_, ?_, ?_, ?_⟩ <;> simp (disch := omega) only [if_true, if_false, true_or, or_true, true_and, and_true, not_true_eq_false, not_false_eq_true, zput_j, zput_eq]
  have key := zT_cnt0 (body := fun s : Int × zM => f_X0_load_L23 j r s.1 s.2) (fun i N2 => (∀ k i, ¬ (k = 13 ∧ i = j) → N2 k i = N k i) ∧ ∀ q, q < i → N2 13 j q = w q) 6 (Q := fun N2 => (∀ k i, ¬ (k = 13 ∧ i = j) → N2 k i = N k i) ∧ ∀ q, q < 6 → N2 13 j q = w q) ?_ ?_ (m := zF) (by unfold zF; omega) (N0 := N) ⟨fun _ _ _ => rfl, fun q hq => by omega⟩
  · obtain ⟨N2, k1, k2, k3⟩ := key
    generalize hN3 : zcopy N2 22 r 11 15 j 0 30 = N3
    have f3 : ∀ k i, ¬ (k = 13 ∧ i = j) → ¬ (k = 15 ∧ i = j) → N3 k i = N k i := fun k i a b => by
      funext q
      rw [← hN3, zcopy_at, if_neg (by omega), k2 k i a]
    have p3 : ∀ q, q < 6 → N3 13 j q = w q := fun q hq => by
      rw [← hN3, zcopy_k (by omega)]; exact k3 q hq
    have c3 : ∀ i, i < 30 → N3 15 j i = M 22 r (11 + i) := fun i hi => by
      rw [← hN3, zcopy_in (by omega) (by omega), k2 22 r (by omega), n22, show 11 + (i - 0) = 11 + i by omega]
    have key2 := zT_cnt0 (body := fun s : Int × zM => f_X0_load_L75 j r 41 s.1 s.2) (fun i N4 => (∀ k i, ¬ (k = 16 ∧ 8 * j ≤ i ∧ i < 8 * j + 8) → N4 k i = N3 k i) ∧ (∀ t s, t < 8 → s < 3 ∨ i ≤ t → N4 16 (t + 8 * j) s = M 16 (t + 8 * j) s) ∧ ∀ t : Nat, t < i → (t : Int) < A 1 → N4 16 (t + 8 * j) 3 = w (6 + t) ∧ N4 16 (t + 8 * j) 4 = w (14 + t) ∧ (w (14 + t) = -1 → N4 16 (t + 8 * j) 5 = w (22 + t) ∧ N4 16 (t + 8 * j) 6 = w (30 + t))) 8 (Q := fun N4 => (∀ k i, ¬ (k = 16 ∧ 8 * j ≤ i ∧ i < 8 * j + 8) → N4 k i = N3 k i) ∧ (∀ t s, t < 8 → s < 3 → N4 16 (t + 8 * j) s = M 16 (t + 8 * j) s) ∧ ∀ t : Nat, (t : Int) < A 1 → N4 16 (t + 8 * j) 3 = w (6 + t) ∧ N4 16 (t + 8 * j) 4 = w (14 + t) ∧ (w (14 + t) = -1 → N4 16 (t + 8 * j) 5 = w (22 + t) ∧ N4 16 (t + 8 * j) 6 = w (30 + t))) ?_ ?_ (m := zF) (by unfold zF; omega) (N0 := N3) ⟨fun _ _ _ => rfl, fun t s _ _ => by rw [f3 16 _ (by omega) (by omega), n16], fun t ht => by omega⟩
    · obtain ⟨M', g1, g2, g3, g4⟩ := key2
      have q11 : M' 11 j = N 11 j := by rw [g2 11 j (by omega), f3 11 j (by omega) (by omega)]
      have q12 : M' 12 j = M 12 j := by rw [g2 12 j (by omega), f3 12 j (by omega) (by omega), n12]
      have q13 : M' 13 j = N3 13 j := g2 13 j (by omega)
      have q15 : M' 15 j = N3 15 j := g2 15 j (by omega)
      refine ⟨M', ?_, ?_, ⟨fun k i a b c d e f => ?_, fun t ht => g3 t 0 ht (by omega)⟩⟩
      · unfold f_X0_load
        simp (disch := omega) only [if_true, if_false, true_or, or_true, true_and, and_true, not_true_eq_false, not_false_eq_true, zlt_, zput_k, hs.day, hs.x, hs.wrt]
        rw [hN, k1]
        simp only [zbs]
        rw [hN3, g1]
        simp only [zbs]
      · unfold cityR
        rw [q11, q12, q13, q15, n11.2.1, n11.2.2.1, n11.2.2.2, n11.1 6 (by omega) (by omega) (by omega), n11.1 7 (by omega) (by omega) (by omega), n11.1 9 (by omega) (by omega) (by omega), n11.1 12 (by omega) (by omega) (by omega), n11.1 13 (by omega) (by omega) (by omega)]
        refine ⟨hc.own, hc.thg, rfl, hc.room, rfl, rfl, hc.txs, hc.txt, hc.lives, fun i hi => p3 i hi, fun t ht => ?_, fun t ht => ?_, fun t ht => (g4 t ht).1, fun t ht => (g4 t ht).2.1, fun t ht hk => ((g4 t ht).2.2 hk).1, fun t ht hk => ((g4 t ht).2.2 hk).2, fun i hi => ?_⟩
        · rw [g3 t 1 (by omega) (by omega)]; exact hc.first t ht
        · rw [g3 t 2 (by omega) (by omega)]; exact hc.bulk t ht
        · rw [c3 i (by omega)]; exact hs.card i hi
      · rw [g2 k i d, f3 k i b c]
        exact nf.1 k i a b c d e f
    · rintro i N4 hi ⟨a1, a2, a3⟩
      dsimp only
      have b22 : N4 22 r = M 22 r := by rw [a1 22 r (by omega), f3 22 r (by omega) (by omega), n22]
      have e1 : zix (41 + 4 * (i : Int)) = 41 + 4 * i := zix_id (by omega) (by omega)
      have e2 : zix (41 + 4 * (i : Int) + 1) = 42 + 4 * i := zix_id (by omega) (by omega)
      have e3 : zix (41 + 4 * (i : Int) + 2) = 43 + 4 * i := zix_id (by omega) (by omega)
      have e4 : zix (41 + 4 * (i : Int) + 3) = 44 + 4 * i := zix_id (by omega) (by omega)
      unfold f_X0_load_L75
      rw [zw_id (z := (i : Int)) (by omega) (by omega), if_neg (by omega), b22, zw_id (z := M 22 r 3) (by omega) (by omega)]
      by_cases hr : M 22 r 3 ≤ i
      · rw [if_pos hr]
        unfold f_X8_beAsTold f_X0_load_j170
        simp (disch := omega) only [if_true, if_false, true_or, or_true, true_and, and_true, not_true_eq_false, not_false_eq_true, if_pos, zix_nat, zlt_, zbs, zput_j]
        refine zT_some (Or.inl ⟨_, rfl, fun k i2 hk => by simp (disch := omega) only [if_true, if_false, true_or, or_true, true_and, and_true, not_true_eq_false, not_false_eq_true, zput_rowk]; exact a1 k i2 hk, fun t s ht hs2 => ?_, fun t ht ht1 => ?_⟩)
        · by_cases hti : t = i
          · subst hti
            simp (disch := omega) only [if_true, if_false, true_or, or_true, true_and, and_true, not_true_eq_false, not_false_eq_true, zput_j]
            exact a2 t s ht (by omega)
          · simp (disch := omega) only [if_true, if_false, true_or, or_true, true_and, and_true, not_true_eq_false, not_false_eq_true, zput_i]
            exact a2 t s ht (by omega)
        · by_cases hti : t = i
          · subst hti
            have hl := hs.later t hr ht1
            have hf := hA.first t ht1
            simp (disch := omega) only [if_true, if_false, true_or, or_true, true_and, and_true, not_true_eq_false, not_false_eq_true, zput_eq, zput_j]
            rw [a2 t 0 (by omega) (by omega), a2 t 1 (by omega) (by omega), hc.first t ht1]
            exact ⟨hl.1.symm, hl.2.1.symm, fun hk => by omega⟩
          · simp (disch := omega) only [if_true, if_false, true_or, or_true, true_and, and_true, not_true_eq_false, not_false_eq_true, zput_i]
            exact a3 t (by omega) ht1
      · rw [if_neg hr]
        unfold f_X0_load_j170
        simp (disch := omega) only [if_true, if_false, true_or, or_true, true_and, and_true, not_true_eq_false, not_false_eq_true, zw_id, if_pos, zix_nat, zlt_, zput_k, e1, e2, e3, e4, b22]
        refine zT_some (Or.inl ⟨_, rfl, fun k i2 hk => by simp (disch := omega) only [if_true, if_false, true_or, or_true, true_and, and_true, not_true_eq_false, not_false_eq_true, zput_rowk]; exact a1 k i2 hk, fun t s ht hs2 => ?_, fun t ht ht1 => ?_⟩)
        · by_cases hti : t = i
          · subst hti
            simp (disch := omega) only [if_true, if_false, true_or, or_true, true_and, and_true, not_true_eq_false, not_false_eq_true, zput_j]
            exact a2 t s ht (by omega)
          · simp (disch := omega) only [if_true, if_false, true_or, or_true, true_and, and_true, not_true_eq_false, not_false_eq_true, zput_i]
            exact a2 t s ht (by omega)
        · by_cases hti : t = i
          · subst hti
            simp (disch := omega) only [if_true, if_false, true_or, or_true, true_and, and_true, not_true_eq_false, not_false_eq_true, zput_eq, zput_j]
            exact ⟨hs.dear t (by omega), hs.with_ t (by omega), fun hk => ⟨hs.since t (by omega) hk, hs.from_ t (by omega) hk⟩⟩
          · simp (disch := omega) only [if_true, if_false, true_or, or_true, true_and, and_true, not_true_eq_false, not_false_eq_true, zput_i]
            exact a3 t (by omega) ht1
    · rintro N4 ⟨a1, a2, a3⟩
      dsimp only
      unfold f_X0_load_L75
      rw [zw_id (by omega) (by omega), if_pos (by omega)]
      exact zT_some ⟨N4, rfl, a1, fun t s ht hs2 => a2 t s ht (Or.inl hs2), fun t ht => a3 t (by omega) ht⟩
  · rintro i N2 hi ⟨a1, a2⟩
    dsimp only
    have b22 : N2 22 r = M 22 r := by rw [a1 22 r (by omega), n22]
    have e1 : zix (5 + (i : Int)) = 5 + i := zix_id (by omega) (by omega)
    unfold f_X0_load_L23 f_X0_load_j50
    rw [zw_id (z := (i : Int)) (by omega) (by omega), if_neg (by omega), b22, zw_id (z := M 22 r 2) (by omega) (by omega)]
    by_cases hr : M 22 r 2 ≤ i
    · rw [if_pos hr]
      simp (disch := omega) only [if_true, if_false, true_or, or_true, true_and, and_true, not_true_eq_false, not_false_eq_true, if_pos, zix_nat, zlt_]
      refine zT_some (Or.inl ⟨_, rfl, fun k i2 hk => by rw [zput_rowk (by omega)]; exact a1 k i2 hk, fun q hq => ?_⟩)
      by_cases hqi : q = i
      · subst hqi; rw [zput_eq]; exact (hs.pence0 q (by omega) hr).symm
      · rw [zput_j hqi]; exact a2 q (by omega)
    · rw [if_neg hr]
      simp (disch := omega) only [if_true, if_false, true_or, or_true, true_and, and_true, not_true_eq_false, not_false_eq_true, zw_id, if_pos, zix_nat, zlt_, e1]
      refine zT_some (Or.inl ⟨_, rfl, fun k i2 hk => by rw [zput_rowk (by omega)]; exact a1 k i2 hk, fun q hq => ?_⟩)
      by_cases hqi : q = i
      · subst hqi; rw [zput_eq]; exact hs.pence q (by omega) (by omega)
      · rw [zput_j hqi]; exact a2 q (by omega)
  · rintro N2 ⟨a1, a2⟩
    dsimp only
    unfold f_X0_load_L23
    rw [zw_id (by omega) (by omega), if_pos (by omega)]
    exact zT_some ⟨N2, rfl, a1, a2⟩
