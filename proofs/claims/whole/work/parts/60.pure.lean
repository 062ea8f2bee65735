/-! rows: what the city's doings make of them -/
def wup (w : Nat → Int) (k : Nat) (v : Int) : Nat → Int := fun q => if q = k then v else w q
set_option maxRecDepth 8000 in
set_option maxHeartbeats 300000 in
theorem wup_eq (w : Nat → Int) (k : Nat) (v : Int) : wup w k v k = v := if_pos rfl
set_option maxRecDepth 8000 in
set_option maxHeartbeats 300000 in
theorem wup_ne {w : Nat → Int} {k : Nat} {v : Int} {q : Nat} (h : q ≠ k) : wup w k v q = w q := if_neg h
set_option maxRecDepth 8000 in
set_option maxHeartbeats 300000 in
theorem zput_wup (M : zM) (k i j : Nat) (v : Int) : zput M k i j v k i = wup (M k i) j v := zput_row M k i j v
set_option maxRecDepth 8000 in
set_option maxHeartbeats 300000 in
theorem cityR.setThing {M M' : zM} {j t : Nat} {A w w' : Nat → Int} (hc : cityR M j A w) (h8 : A 1 ≤ 8) (ht : t < 8) (e : ∀ k i, ¬ (k = 16 ∧ i = t + 8 * j) → M' k i = M k i) (w0 : ∀ q, q ≠ 6 + t → q ≠ 14 + t → q ≠ 22 + t → q ≠ 30 + t → w' q = w q) (f1 : M' 16 (t + 8 * j) 1 = M 16 (t + 8 * j) 1) (f2 : M' 16 (t + 8 * j) 2 = M 16 (t + 8 * j) 2) (d : M' 16 (t + 8 * j) 3 = w' (6 + t)) (wi : M' 16 (t + 8 * j) 4 = w' (14 + t)) (si : w' (14 + t) = -1 → M' 16 (t + 8 * j) 5 = w' (22 + t)) (fr : w' (14 + t) = -1 → M' 16 (t + 8 * j) 6 = w' (30 + t)) : cityR M' j A w' := by
  have r11 := e 11 j (by omega)
  have r12 := e 12 j (by omega)
  have r13 := e 13 j (by omega)
  have r15 := e 15 j (by omega)
  obtain ⟨g1, g2, g3, g4, g5, g6, g7, g8, g9, g10, g11, g12, g13, g14, g15, g16, g17⟩ := hc
  unfold cityR
  rw [r11, r12, r13, r15, w0 40 (by omega) (by omega) (by omega) (by omega), w0 38 (by omega) (by omega) (by omega) (by omega), w0 39 (by omega) (by omega) (by omega) (by omega)]
  refine ⟨g1, g2, g3, g4, g5, g6, g7, g8, g9, fun i hi => ?_, fun s hs => ?_, fun s hs => ?_, fun s hs => ?_, fun s hs => ?_, fun s hs hk => ?_, fun s hs hk => ?_, fun i hi => ?_⟩
  · rw [w0 i (by omega) (by omega) (by omega) (by omega)]; exact g10 i hi
  · by_cases hst : s = t
    · subst hst; rw [f1]; exact g11 s hs
    · rw [e 16 (s + 8 * j) (by omega)]; exact g11 s hs
  · by_cases hst : s = t
    · subst hst; rw [f2]; exact g12 s hs
    · rw [e 16 (s + 8 * j) (by omega)]; exact g12 s hs
  · by_cases hst : s = t
    · subst hst; exact d
    · rw [e 16 (s + 8 * j) (by omega), w0 (6 + s) (by omega) (by omega) (by omega) (by omega)]; exact g13 s hs
  · by_cases hst : s = t
    · subst hst; exact wi
    · rw [e 16 (s + 8 * j) (by omega), w0 (14 + s) (by omega) (by omega) (by omega) (by omega)]; exact g14 s hs
  · by_cases hst : s = t
    · subst hst; exact si hk
    · rw [w0 (14 + s) (by omega) (by omega) (by omega) (by omega)] at hk
      rw [e 16 (s + 8 * j) (by omega), w0 (22 + s) (by omega) (by omega) (by omega) (by omega)]; exact g15 s hs hk
  · by_cases hst : s = t
    · subst hst; exact fr hk
    · rw [w0 (14 + s) (by omega) (by omega) (by omega) (by omega)] at hk
      rw [e 16 (s + 8 * j) (by omega), w0 (30 + s) (by omega) (by omega) (by omega) (by omega)]; exact g16 s hs hk
  · rw [g17 i hi]
    unfold cardOf
    rw [w0 (41 + 4 * i) (by omega) (by omega) (by omega) (by omega), w0 (42 + 4 * i) (by omega) (by omega) (by omega) (by omega), w0 (43 + 4 * i) (by omega) (by omega) (by omega) (by omega), w0 (44 + 4 * i) (by omega) (by omega) (by omega) (by omega)]
set_option maxRecDepth 8000 in
set_option maxHeartbeats 300000 in
theorem rowOK.setThing {t : Nat} {A w w' : Nat → Int} (hw : rowOK A w) (h8 : A 1 ≤ 8) (ht : t < 8) (w0 : ∀ q, q ≠ 6 + t → q ≠ 14 + t → q ≠ 22 + t → q ≠ 30 + t → w' q = w q) (d : 0 ≤ w' (6 + t) ∧ w' (6 + t) ≤ 99) (wi : -1 ≤ w' (14 + t) ∧ w' (14 + t) < A 0) (si : w' (14 + t) = -1 → (0 ≤ w' (22 + t) ∧ w' (22 + t) ≤ w 38) ∧ 0 ≤ w' (30 + t) ∧ w' (30 + t) < A 0) (fr : w' (14 + t) ≠ -1 → w' (22 + t) = -1 ∧ w' (30 + t) = -1) : rowOK A w' := by
  obtain ⟨g1, g2, g3, g4, g5, g6, g7, g8, g9, g10⟩ := hw
  unfold rowOK
  rw [w0 40 (by omega) (by omega) (by omega) (by omega), w0 38 (by omega) (by omega) (by omega) (by omega), w0 39 (by omega) (by omega) (by omega) (by omega)]
  refine ⟨fun i hi => ?_, fun i hi => ?_, fun s hs => ?_, fun s hs => ?_, fun s hs => ?_, fun s hs => ?_, g7, g8, g9, fun i hi => ?_⟩
  · rw [w0 i (by omega) (by omega) (by omega) (by omega)]; exact g1 i hi
  · rw [w0 i (by omega) (by omega) (by omega) (by omega)]; exact g2 i hi
  · by_cases hst : s = t
    · subst hst; exact d
    · rw [w0 (6 + s) (by omega) (by omega) (by omega) (by omega)]; exact g3 s hs
  · by_cases hst : s = t
    · subst hst; exact wi
    · rw [w0 (14 + s) (by omega) (by omega) (by omega) (by omega)]; exact g4 s hs
  · by_cases hst : s = t
    · subst hst; exact si
    · rw [w0 (14 + s) (by omega) (by omega) (by omega) (by omega), w0 (22 + s) (by omega) (by omega) (by omega) (by omega), w0 (30 + s) (by omega) (by omega) (by omega) (by omega)]; exact g5 s hs
  · by_cases hst : s = t
    · subst hst; exact fr
    · rw [w0 (14 + s) (by omega) (by omega) (by omega) (by omega), w0 (22 + s) (by omega) (by omega) (by omega) (by omega), w0 (30 + s) (by omega) (by omega) (by omega) (by omega)]; exact g6 s hs
  · rw [w0 (41 + 4 * i) (by omega) (by omega) (by omega) (by omega), w0 (42 + 4 * i) (by omega) (by omega) (by omega) (by omega), w0 (43 + 4 * i) (by omega) (by omega) (by omega) (by omega), w0 (44 + 4 * i) (by omega) (by omega) (by omega) (by omega)]; exact g10 i hi
set_option maxRecDepth 8000 in
set_option maxHeartbeats 300000 in
/-- rows that differ only in what a free thing has left -/
theorem cityR.congr5 {M : zM} {j : Nat} {A A' w w' : Nat → Int} (hc : cityR M j A w) (h1 : A 1 ≤ 8) (h0 : A 0 ≤ 6) (h40 : w 40 ≤ 30) (ha : ∀ q, q < 32 → q ≠ 5 → A' q = A q) (w0 : ∀ q, q < 161 → (q < 22 ∨ 38 ≤ q) → w' q = w q) (w1 : ∀ t : Nat, t < 8 → w (14 + t) = -1 → w' (22 + t) = w (22 + t) ∧ w' (30 + t) = w (30 + t)) : cityR M j A' w' := by
  obtain ⟨g1, g2, g3, g4, g5, g6, g7, g8, g9, g10, g11, g12, g13, g14, g15, g16, g17⟩ := hc
  unfold cityR
  rw [ha 0 (by omega) (by omega), ha 1 (by omega) (by omega), ha 2 (by omega) (by omega), ha 3 (by omega) (by omega), ha 4 (by omega) (by omega), w0 38 (by omega) (by omega), w0 39 (by omega) (by omega), w0 40 (by omega) (by omega)]
  refine ⟨g1, g2, g3, g4, g5, g6, g7, g8, fun i hi => ?_, fun i hi => ?_, fun s hs => ?_, fun s hs => ?_, fun s hs => ?_, fun s hs => ?_, fun s hs hk => ?_, fun s hs hk => ?_, fun i hi => ?_⟩
  · rw [ha (10 + i) (by omega) (by omega)]; exact g9 i hi
  · rw [w0 i (by omega) (by omega)]; exact g10 i hi
  · rw [ha (16 + s) (by omega) (by omega)]; exact g11 s hs
  · rw [ha (24 + s) (by omega) (by omega)]; exact g12 s hs
  · rw [w0 (6 + s) (by omega) (by omega)]; exact g13 s hs
  · rw [w0 (14 + s) (by omega) (by omega)]; exact g14 s hs
  · rw [w0 (14 + s) (by omega) (by omega)] at hk
    rw [(w1 s (by omega) hk).1]; exact g15 s hs hk
  · rw [w0 (14 + s) (by omega) (by omega)] at hk
    rw [(w1 s (by omega) hk).2]; exact g16 s hs hk
  · rw [g17 i hi]
    unfold cardOf
    rw [w0 (41 + 4 * i) (by omega) (by omega), w0 (42 + 4 * i) (by omega) (by omega), w0 (43 + 4 * i) (by omega) (by omega), w0 (44 + 4 * i) (by omega) (by omega)]
set_option maxRecDepth 8000 in
set_option maxHeartbeats 300000 in
theorem cityR.congr {M : zM} {j : Nat} {A A' w w' : Nat → Int} (hc : cityR M j A w) (h1 : A 1 ≤ 8) (h0 : A 0 ≤ 6) (h40 : w 40 ≤ 30) (ha : ∀ q, q < 32 → A' q = A q) (w0 : ∀ q, q < 161 → (q < 22 ∨ 38 ≤ q) → w' q = w q) (w1 : ∀ t : Nat, t < 8 → w (14 + t) = -1 → w' (22 + t) = w (22 + t) ∧ w' (30 + t) = w (30 + t)) : cityR M j A' w' := hc.congr5 h1 h0 h40 (fun q hq _ => ha q hq) w0 w1
set_option maxRecDepth 8000 in
set_option maxHeartbeats 300000 in
theorem rowOK.congr {A A' w w' : Nat → Int} (hw : rowOK A w) (h1 : A 1 ≤ 8) (ha : ∀ q, q < 2 → A' q = A q) (w0 : ∀ q, q < 161 → w' q = w q) : rowOK A' w' := by
  have h40 := hw.book
  obtain ⟨g1, g2, g3, g4, g5, g6, g7, g8, g9, g10⟩ := hw
  unfold rowOK
  rw [ha 0 (by omega), ha 1 (by omega), w0 38 (by omega), w0 39 (by omega), w0 40 (by omega)]
  refine ⟨fun i hi => ?_, fun i hi => ?_, fun s hs => ?_, fun s hs => ?_, fun s hs => ?_, fun s hs => ?_, g7, g8, g9, fun i hi => ?_⟩
  · rw [w0 i (by omega)]; exact g1 i hi
  · rw [w0 i (by omega)]; exact g2 i hi
  · rw [w0 (6 + s) (by omega)]; exact g3 s hs
  · rw [w0 (14 + s) (by omega)]; exact g4 s hs
  · rw [w0 (14 + s) (by omega), w0 (22 + s) (by omega), w0 (30 + s) (by omega)]; exact g5 s hs
  · rw [w0 (14 + s) (by omega), w0 (22 + s) (by omega), w0 (30 + s) (by omega)]; exact g6 s hs
  · rw [w0 (41 + 4 * i) (by omega), w0 (42 + 4 * i) (by omega), w0 (43 + 4 * i) (by omega), w0 (44 + 4 * i) (by omega)]; exact g10 i hi
/-- cells that the class's doings in city j may change -/
def frX (j : Nat) (M M' : zM) : Prop := (∀ k i, ¬ (k = 11 ∧ i = j) → ¬ (k = 13 ∧ i = j) → ¬ (k = 15 ∧ i = j) → ¬ (k = 16 ∧ 8 * j ≤ i ∧ i < 8 * j + 8) → k ≠ 18 → k ≠ 19 → M' k i = M k i) ∧ ∀ t, t < 8 → M' 16 (t + 8 * j) 0 = M 16 (t + 8 * j) 0
set_option maxRecDepth 8000 in
set_option maxHeartbeats 300000 in
theorem frX.rfl_ {j : Nat} {M : zM} : frX j M M := ⟨fun _ _ _ _ _ _ _ _ => rfl, fun _ _ => rfl⟩
set_option maxRecDepth 8000 in
set_option maxHeartbeats 300000 in
theorem frX.trans {j : Nat} {M M' M2 : zM} (h : frX j M M') (h2 : frX j M' M2) : frX j M M2 := ⟨fun k i a b c d e f => by rw [h2.1 k i a b c d e f, h.1 k i a b c d e f], fun t ht => by rw [h2.2 t ht, h.2 t ht]⟩
set_option maxRecDepth 8000 in
set_option maxHeartbeats 300000 in
theorem frX.of18 {j : Nat} {M M' : zM} (h : ∀ k i, k ≠ 18 → k ≠ 19 → M' k i = M k i) : frX j M M' := ⟨fun k i _ _ _ _ e f => h k i e f, fun t _ => by rw [h 16 _ (by omega) (by omega)]⟩
set_option maxRecDepth 8000 in
set_option maxHeartbeats 300000 in
theorem frX.put11 {j s : Nat} {M : zM} {v : Int} : frX j M (zput M 11 j s v) := ⟨fun k i a _ _ _ _ _ => zput_rowk (by omega), fun t _ => zput_k (by omega)⟩
set_option maxRecDepth 8000 in
set_option maxHeartbeats 300000 in
theorem frX.put13 {j s : Nat} {M : zM} {v : Int} : frX j M (zput M 13 j s v) := ⟨fun k i _ a _ _ _ _ => zput_rowk (by omega), fun t _ => zput_k (by omega)⟩
set_option maxRecDepth 8000 in
set_option maxHeartbeats 300000 in
theorem frX.put15 {j s : Nat} {M : zM} {v : Int} : frX j M (zput M 15 j s v) := ⟨fun k i _ _ a _ _ _ => zput_rowk (by omega), fun t _ => zput_k (by omega)⟩
set_option maxRecDepth 8000 in
set_option maxHeartbeats 300000 in
theorem frX.put16 {j t s : Nat} {M : zM} {v : Int} (ht : t < 8) (hs : s ≠ 0) : frX j M (zput M 16 (t + 8 * j) s v) := ⟨fun k i _ _ _ a _ _ => zput_rowk (by omega), fun t _ => zput_j (by omega)⟩
set_option maxRecDepth 8000 in
set_option maxHeartbeats 300000 in
theorem frX.copy15 {j a b n : Nat} {M : zM} : frX j M (zcopy M 15 j a 15 j b n) := ⟨fun k i _ _ h _ _ _ => by funext q; unfold zcopy; rw [if_neg (by omega)], fun t _ => zcopy_k (by omega)⟩
/-- STOLEN -/
def sSteal (w : Nat → Int) (t : Nat) : Nat → Int := wup (wup (wup w (22 + t) (w 38)) (30 + t) (w (14 + t))) (14 + t) (-1)
set_option maxRecDepth 8000 in
set_option maxHeartbeats 300000 in
theorem rowOK.steal {A w : Nat → Int} {t : Nat} (hA : headOK A) (hw : rowOK A w) (ht : (t : Int) < A 1) (hk : w (14 + t) ≠ -1) : rowOK A (sSteal w t) := by
  have h0 := hA.thg
  have h1 := hw.at_ t ht
  have h2 := hw.day
  have h3 := hw.dear t ht
  have hs := hA.some_
  unfold sSteal
  refine hw.setThing h0.2 (by omega) (t := t) (fun q a b c d => ?_) ?_ ?_ ?_ ?_
  · simp (disch := omega) only [if_true, if_false, true_or, or_true, true_and, and_true, not_true_eq_false, not_false_eq_true, wup_ne]
  · simp (disch := omega) only [if_true, if_false, true_or, or_true, true_and, and_true, not_true_eq_false, not_false_eq_true, wup_ne]; exact h3
  · rw [wup_eq]; omega
  · intro _
    simp (disch := omega) only [if_true, if_false, true_or, or_true, true_and, and_true, not_true_eq_false, not_false_eq_true, wup_ne, wup_eq]
    omega
  · rw [wup_eq]; intro h; exact absurd rfl h
set_option maxRecDepth 8000 in
set_option maxHeartbeats 300000 in
theorem X_take {M : zM} {j t : Nat} {A w : Nat → Int} (hc : cityR M j A w) (hA : headOK A) (ht : (t : Int) < A 1) : ∃ M', f_X0_take j t M = some M' ∧ cityR M' j A (sSteal w t) ∧ frX j M M' := by
  have h0 := hA.thg
  have c1 := hc.with_ t ht
  have c2 := hc.dear t ht
  unfold f_X0_take zlet
  simp (disch := omega) only [if_true, if_false, true_or, or_true, true_and, and_true, not_true_eq_false, not_false_eq_true, zw_id, if_pos, zix_nat, zput_k, c1, hc.day]
  refine ⟨_, rfl, ?_, ?_⟩
  · unfold sSteal
    refine hc.setThing h0.2 (by omega) (t := t) (fun k i h => ?_) (fun q a b c d => ?_) ?_ ?_ ?_ ?_ ?_ ?_
    · simp (disch := omega) only [if_true, if_false, true_or, or_true, true_and, and_true, not_true_eq_false, not_false_eq_true, zput_rowk]
    · simp (disch := omega) only [if_true, if_false, true_or, or_true, true_and, and_true, not_true_eq_false, not_false_eq_true, wup_ne]
    · simp (disch := omega) only [if_true, if_false, true_or, or_true, true_and, and_true, not_true_eq_false, not_false_eq_true, zput_j]
    · simp (disch := omega) only [if_true, if_false, true_or, or_true, true_and, and_true, not_true_eq_false, not_false_eq_true, zput_j]
    · simp (disch := omega) only [if_true, if_false, true_or, or_true, true_and, and_true, not_true_eq_false, not_false_eq_true, zput_j, wup_ne]; exact c2
    · simp (disch := omega) only [if_true, if_false, true_or, or_true, true_and, and_true, not_true_eq_false, not_false_eq_true, zput_eq, wup_eq]
    · intro _; simp (disch := omega) only [if_true, if_false, true_or, or_true, true_and, and_true, not_true_eq_false, not_false_eq_true, zput_eq, wup_eq, zput_j, wup_ne]
    · intro _; simp (disch := omega) only [if_true, if_false, true_or, or_true, true_and, and_true, not_true_eq_false, not_false_eq_true, zput_eq, wup_eq, zput_j, wup_ne]
  · exact (frX.put16 (by omega) (by omega)).trans ((frX.put16 (by omega) (by omega)).trans (frX.put16 (by omega) (by omega)))
set_option maxRecDepth 8000 in
set_option maxHeartbeats 300000 in
theorem R_steals {M : zM} {w : Nat → Int} {t : Nat} (hW : M 68 0 = w) (ht : t < 8) : ∃ M', f_X11_stealsNow t M = some M' ∧ M' 68 0 = sSteal w t ∧ ∀ k i, k ≠ 68 → M' k i = M k i := by
  unfold f_X11_stealsNow zlet
  simp (disch := omega) only [if_true, if_false, true_or, or_true, true_and, and_true, not_true_eq_false, not_false_eq_true, zw_id, if_pos, zi22, zi14, zi30, zput_wup, wup_ne, hW]
  exact ⟨_, rfl, by simp only [zput_wup, hW]; rfl, fun k i hk => by simp (disch := omega) only [if_true, if_false, true_or, or_true, true_and, and_true, not_true_eq_false, not_false_eq_true, zput_rowk]⟩
/-! the book -/
def sShift (w : Nat → Int) : Nat → Int := wup (fun q => if 41 ≤ q ∧ q < 157 then w (q + 4) else w q) 40 29
def sPush (w : Nat → Int) (t : Nat) (to : Int) : Nat → Int := wup (wup (wup (wup (wup w (41 + 4 * (w 40).toNat) (w 38)) (42 + 4 * (w 40).toNat) t) (43 + 4 * (w 40).toNat) to) (44 + 4 * (w 40).toNat) (w (6 + t))) 40 (w 40 + 1)
def sWrite (w : Nat → Int) (t : Nat) (to : Int) : Nat → Int := sPush (if w 40 = 30 then sShift w else w) t to
set_option maxRecDepth 8000 in
set_option maxHeartbeats 300000 in
theorem sShift_lo {w : Nat → Int} {q : Nat} (h : q < 40) : sShift w q = w q := by
  unfold sShift
  rw [wup_ne (by omega), if_neg (by omega)]
set_option maxRecDepth 8000 in
set_option maxHeartbeats 300000 in
theorem sShift_40 {w : Nat → Int} : sShift w 40 = 29 := wup_eq _ _ _
set_option maxRecDepth 8000 in
set_option maxHeartbeats 300000 in
theorem sShift_hi {w : Nat → Int} {q : Nat} (h : 41 ≤ q) (h2 : q < 157) : sShift w q = w (q + 4) := by
  unfold sShift
  rw [wup_ne (by omega), if_pos ⟨h, h2⟩]
set_option maxRecDepth 8000 in
set_option maxHeartbeats 300000 in
theorem rowOK.shift {A w : Nat → Int} (hA : headOK A) (hw : rowOK A w) (h30 : w 40 = 30) : rowOK A (sShift w) := by
  have h0 := hA.thg
  obtain ⟨g1, g2, g3, g4, g5, g6, g7, g8, g9, g10⟩ := hw
  unfold rowOK
  rw [sShift_40, sShift_lo (show 38 < 40 by omega), sShift_lo (show 39 < 40 by omega)]
  refine ⟨fun i hi => ?_, fun i hi => ?_, fun s hs => ?_, fun s hs => ?_, fun s hs => ?_, fun s hs => ?_, g7, g8, by omega, fun i hi => ?_⟩
  · rw [sShift_lo (by omega)]; exact g1 i hi
  · rw [sShift_lo (by omega)]; exact g2 i hi
  · rw [sShift_lo (by omega)]; exact g3 s hs
  · rw [sShift_lo (by omega)]; exact g4 s hs
  · rw [sShift_lo (by omega), sShift_lo (by omega), sShift_lo (by omega)]; exact g5 s hs
  · rw [sShift_lo (by omega), sShift_lo (by omega), sShift_lo (by omega)]; exact g6 s hs
  · have := g10 (i + 1) (by omega)
    rw [sShift_hi (by omega) (by omega), sShift_hi (by omega) (by omega), sShift_hi (by omega) (by omega), sShift_hi (by omega) (by omega)]
    exact this
set_option maxRecDepth 8000 in
set_option maxHeartbeats 300000 in
theorem cityR.shift {M : zM} {j : Nat} {A w : Nat → Int} (hc : cityR M j A w) (hA : headOK A) (h30 : w 40 = 30) : cityR (zput (zcopy M 15 j 1 15 j 0 29) 11 j 8 29) j A (sShift w) := by
  have h0 := hA.thg
  obtain ⟨g1, g2, g3, g4, g5, g6, g7, g8, g9, g10, g11, g12, g13, g14, g15, g16, g17⟩ := hc
  unfold cityR
  rw [sShift_40, sShift_lo (show 38 < 40 by omega), sShift_lo (show 39 < 40 by omega)]
  simp (disch := omega) only [if_true, if_false, true_or, or_true, true_and, and_true, not_true_eq_false, not_false_eq_true, zput_eq, zput_j, zput_k, zcopy_k]
  refine ⟨g1, g2, g4, g5, g6, g7, g8, g9, fun i hi => ?_, g11, g12, fun s hs => ?_, fun s hs => ?_, fun s hs hk => ?_, fun s hs hk => ?_, fun i hi => ?_⟩
  · rw [sShift_lo (by omega)]; exact g10 i hi
  · rw [sShift_lo (by omega)]; exact g13 s hs
  · rw [sShift_lo (by omega)]; exact g14 s hs
  · rw [sShift_lo (by omega)] at hk
    rw [sShift_lo (by omega)]; exact g15 s hs hk
  · rw [sShift_lo (by omega)] at hk
    rw [sShift_lo (by omega)]; exact g16 s hs hk
  · rw [zcopy_in (by omega) (by omega)]
    have := g17 (1 + (i - 0)) (by omega)
    rw [this]
    unfold cardOf
    rw [sShift_hi (by omega) (by omega), sShift_hi (by omega) (by omega), sShift_hi (by omega) (by omega), sShift_hi (by omega) (by omega)]
    rw [show 41 + 4 * (1 + (i - 0)) = 41 + 4 * i + 4 by omega, show 42 + 4 * (1 + (i - 0)) = 42 + 4 * i + 4 by omega, show 43 + 4 * (1 + (i - 0)) = 43 + 4 * i + 4 by omega, show 44 + 4 * (1 + (i - 0)) = 44 + 4 * i + 4 by omega]
set_option maxRecDepth 8000 in
set_option maxHeartbeats 300000 in
theorem sPush_lo {w : Nat → Int} {t q : Nat} {to : Int} (h : q < 40) : sPush w t to q = w q := by
  unfold sPush
  simp (disch := omega) only [if_true, if_false, true_or, or_true, true_and, and_true, not_true_eq_false, not_false_eq_true, wup_ne]
set_option maxRecDepth 8000 in
set_option maxHeartbeats 300000 in
theorem sPush_40 {w : Nat → Int} {t : Nat} {to : Int} : sPush w t to 40 = w 40 + 1 := wup_eq _ _ _
set_option maxRecDepth 8000 in
set_option maxHeartbeats 300000 in
theorem sPush_old {w : Nat → Int} {t q : Nat} {to : Int} (h : 41 ≤ q) (h2 : q < 41 + 4 * (w 40).toNat) : sPush w t to q = w q := by
  unfold sPush
  simp (disch := omega) only [if_true, if_false, true_or, or_true, true_and, and_true, not_true_eq_false, not_false_eq_true, wup_ne]
set_option maxRecDepth 8000 in
set_option maxHeartbeats 300000 in
theorem sPush_new {w : Nat → Int} {t : Nat} {to : Int} : sPush w t to (41 + 4 * (w 40).toNat) = w 38 ∧ sPush w t to (42 + 4 * (w 40).toNat) = t ∧ sPush w t to (43 + 4 * (w 40).toNat) = to ∧ sPush w t to (44 + 4 * (w 40).toNat) = w (6 + t) := by
  unfold sPush
  refine ⟨?_, ?_, ?_, ?_⟩ <;> simp (disch := omega) only [if_true, if_false, true_or, or_true, true_and, and_true, not_true_eq_false, not_false_eq_true, wup_ne, wup_eq]
set_option maxRecDepth 8000 in
set_option maxHeartbeats 300000 in
theorem rowOK.push {A w : Nat → Int} {t : Nat} {to : Int} (hA : headOK A) (hw : rowOK A w) (h30 : w 40 < 30) (ht : (t : Int) < A 1) (hto : 0 ≤ to ∧ to < A 0) : rowOK A (sPush w t to) := by
  have h0 := hA.thg
  have hd := hw.dear t ht
  obtain ⟨g1, g2, g3, g4, g5, g6, g7, g8, g9, g10⟩ := hw
  unfold rowOK
  rw [sPush_40, sPush_lo (show 38 < 40 by omega), sPush_lo (show 39 < 40 by omega)]
  refine ⟨fun i hi => ?_, fun i hi => ?_, fun s hs => ?_, fun s hs => ?_, fun s hs => ?_, fun s hs => ?_, g7, g8, by omega, fun i hi => ?_⟩
  · rw [sPush_lo (by omega)]; exact g1 i hi
  · rw [sPush_lo (by omega)]; exact g2 i hi
  · rw [sPush_lo (by omega)]; exact g3 s hs
  · rw [sPush_lo (by omega)]; exact g4 s hs
  · rw [sPush_lo (by omega), sPush_lo (by omega), sPush_lo (by omega)]; exact g5 s hs
  · rw [sPush_lo (by omega), sPush_lo (by omega), sPush_lo (by omega)]; exact g6 s hs
  · by_cases hin : i = (w 40).toNat
    · subst hin
      obtain ⟨n1, n2, n3, n4⟩ := sPush_new (w := w) (t := t) (to := to)
      rw [n1, n2, n3, n4]
      omega
    · have := g10 i (by omega)
      rw [sPush_old (by omega) (by omega), sPush_old (by omega) (by omega), sPush_old (by omega) (by omega), sPush_old (by omega) (by omega)]
      exact this
set_option maxRecDepth 8000 in
set_option maxHeartbeats 300000 in
theorem cityR.push {M : zM} {j t : Nat} {A w : Nat → Int} {to : Int} (hc : cityR M j A w) (hA : headOK A) (hw : rowOK A w) (h30 : w 40 < 30) : cityR (zput (zput M 15 j (w 40).toNat (((w 38 * 8 + t) * 6 + to) * 100 + w (6 + t))) 11 j 8 (w 40 + 1)) j A (sPush w t to) := by
  have h0 := hA.thg
  have h9 := hw.book
  obtain ⟨g1, g2, g3, g4, g5, g6, g7, g8, g9, g10, g11, g12, g13, g14, g15, g16, g17⟩ := hc
  unfold cityR
  rw [sPush_40, sPush_lo (show 38 < 40 by omega), sPush_lo (show 39 < 40 by omega)]
  simp (disch := omega) only [if_true, if_false, true_or, or_true, true_and, and_true, not_true_eq_false, not_false_eq_true, zput_eq, zput_j, zput_k]
  refine ⟨g1, g2, g4, g5, g6, g7, g8, g9, fun i hi => ?_, g11, g12, fun s hs => ?_, fun s hs => ?_, fun s hs hk => ?_, fun s hs hk => ?_, fun i hi => ?_⟩
  · rw [sPush_lo (by omega)]; exact g10 i hi
  · rw [sPush_lo (by omega)]; exact g13 s hs
  · rw [sPush_lo (by omega)]; exact g14 s hs
  · rw [sPush_lo (by omega)] at hk
    rw [sPush_lo (by omega)]; exact g15 s hs hk
  · rw [sPush_lo (by omega)] at hk
    rw [sPush_lo (by omega)]; exact g16 s hs hk
  · by_cases hin : i = (w 40).toNat
    · subst hin
      obtain ⟨n1, n2, n3, n4⟩ := sPush_new (w := w) (t := t) (to := to)
      rw [zput_eq]
      unfold cardOf
      rw [n1, n2, n3, n4]
    · rw [zput_j hin, g17 i (by omega)]
      unfold cardOf
      rw [sPush_old (by omega) (by omega), sPush_old (by omega) (by omega), sPush_old (by omega) (by omega), sPush_old (by omega) (by omega)]
