/-! the latest STEP taken back, on the class's side; what holds between calls -/
set_option maxRecDepth 8000 in
set_option maxHeartbeats 300000 in
theorem sUndo_out {A : Nat → Int} {n q : Nat} (h : q < 90 ∨ 251 ≤ q) (h5 : q ≠ 5) : sUndo A n q = A q := by
  unfold sUndo
  rw [if_neg h5, if_neg (by omega)]
set_option maxRecDepth 8000 in
set_option maxHeartbeats 300000 in
theorem sUndo_in {A : Nat → Int} {n q : Nat} (h : q < 161) : sUndo A n (90 + q) = A (260 + 161 * n + q) := by
  unfold sUndo
  rw [if_neg (by omega), if_pos (by omega), show 90 + q - 90 = q by omega]
set_option maxRecDepth 8000 in
set_option maxHeartbeats 300000 in
theorem X_takeBack {M : zM} {A : Nat → Int} {n : Nat} (h : worldR M 0 A) (hn : A 5 = (n : Int) + 1) : ∃ M', f_X5_takeBack 0 0 M = some M' ∧ worldR M' 0 (sUndo A n) ∧ (∀ k i, ¬ (k = 20 ∧ i = 0) → ¬ (k = 11 ∧ i = 0) → ¬ (k = 13 ∧ i = 0) → ¬ (k = 15 ∧ i = 0) → ¬ (k = 16 ∧ i < 8) → k ≠ 18 → k ≠ 19 → M' k i = M k i) ∧ M' 20 0 1 = n := by
  have h0 := h.head.thg
  have h1 := h.head.own
  have h5 := h.head.stp
  obtain ⟨g1, g2, g3⟩ := h.steps
  obtain ⟨nx, hnx⟩ := Int.eq_ofNat_of_zero_le g2.1
  generalize hN : zput (zput M 20 0 2 (((nx : Int) + 30 - 1) % 30)) 20 0 1 (n : Int) = N
  have nf : ∀ k i, ¬ (k = 20 ∧ i = 0) → N k i = M k i := fun k i a => by
    rw [← hN, zput_rowk (by omega), zput_rowk (by omega)]
  have n2 : N 20 0 2 = ((nx : Int) + 30 - 1) % 30 := by rw [← hN, zput_j (by omega), zput_eq]
  have n1 : N 20 0 1 = n := by rw [← hN, zput_eq]
  obtain ⟨r, hr, k1, k2, k3, k4⟩ := g3 n (by omega)
  rw [hnx] at k1
  have hr2 : ((nx : Int) + 30 - 1) % 30 = r := by omega
  have hcN := h.city.frame' (M' := N) (fun k i a b => nf k i (by omega))
  have hsN : savedR N (r + 30 * 0) 0 A (rw_ A (260 + 161 * n)) := k2.congr h.head k3 (fun q hq => by rw [nf 22 _ (by omega)]) (fun t ht => by rw [nf 16 _ (by omega)]) (fun q hq => rfl) (fun q hq => rfl)
  obtain ⟨M', e1, e2, e3⟩ := X_load hcN h.head k3 hsN
  have f := e3.1
  have ff : ∀ k i, ¬ (k = 20 ∧ i = 0) → ¬ (k = 11 ∧ i = 0) → ¬ (k = 13 ∧ i = 0) → ¬ (k = 15 ∧ i = 0) → ¬ (k = 16 ∧ i < 8) → k ≠ 18 → k ≠ 19 → M' k i = M k i := fun k i z a b c d e g => by
    rw [f k i a b c (by omega) e g]; exact nf k i z
  have f20 : M' 20 0 = N 20 0 := f 20 0 (by omega) (by omega) (by omega) (by omega) (by omega) (by omega)
  have e16 : ∀ t, t < 8 → M' 16 (t + 8 * 0) 0 = M 16 (t + 8 * 0) 0 := fun t ht => by rw [e3.2 t ht, nf 16 _ (by omega)]
  refine ⟨M', ?_, ⟨?_, ?_, ?_, ?_, fun t ht => ?_, ?_, ?_⟩, ff, by rw [f20, n1]⟩
  · unfold f_X5_takeBack
    rw [hnx]
    simp (disch := omega) only [if_true, if_false, true_or, or_true, true_and, and_true, not_true_eq_false, not_false_eq_true, zlt_, zrem_30, zw_id, zput_j, zput_eq, g1, hn, Int.add_sub_cancel]
    rw [hN, hr2, zix_nat (by omega), if_pos (by omega), e1]
    simp only [zbs]
  · obtain ⟨q1, q2, q3, q4, q5, q6, q7, q8, q9, q10, q11, q12, q13, q14, q15, q16⟩ := h.head
    unfold headOK
    rw [sUndo_out (q := 0) (by omega) (by omega), sUndo_out (q := 1) (by omega) (by omega), sUndo_out (q := 2) (by omega) (by omega), sUndo_out (q := 3) (by omega) (by omega), sUndo_out (q := 4) (by omega) (by omega), sUndo_out (q := 6) (by omega) (by omega), sUndo_out (q := 7) (by omega) (by omega), sUndo_out (q := 8) (by omega) (by omega)]
    refine ⟨q1, q2, q3, q4, q5, q6, ?_, q8, q9, q10, fun i hi => ?_, fun t ht => ?_, fun t ht => ?_, fun i hi => ?_, fun i hi => ?_, fun i hi => ?_⟩
    · unfold sUndo; rw [if_pos rfl]; omega
    · rw [sUndo_out (by omega) (by omega)]; exact q11 i hi
    · rw [sUndo_out (by omega) (by omega)]; exact q12 t ht
    · rw [sUndo_out (by omega) (by omega)]; exact q13 t ht
    · rw [sUndo_out (by omega) (by omega), sUndo_out (by omega) (by omega)]; exact q14 i hi
    · rw [sUndo_out (by omega) (by omega)]; exact q15 i hi
    · rw [sUndo_out (by omega) (by omega), sUndo_out (by omega) (by omega), sUndo_out (by omega) (by omega)]; exact q16 i hi
  · exact k3.congr h0.2 (fun q hq => sUndo_out (by omega) (by omega)) (fun q hq => by unfold rw_; exact sUndo_in hq)
  · rw [show (128 : Nat) = 90 + 38 from rfl, sUndo_in (by omega), show 260 + 161 * n + 38 = 298 + 161 * n by omega]
    exact k4
  · exact e2.congr5 h0.2 h1.2 k3.book.2 (fun q hq hq5 => sUndo_out (by omega) hq5) (fun q hq _ => by unfold rw_; exact sUndo_in hq) (fun t ht _ => by unfold rw_; exact ⟨sUndo_in (by omega), sUndo_in (by omega)⟩)
  · rw [sUndo_out (by omega) (by omega)] at ht
    rw [e16 t (by omega)]
    exact h.told t ht
  · have s5 : sUndo A n 5 = n := by unfold sUndo; rw [if_pos rfl]
    refine ⟨by rw [f20, n1, s5], by rw [f20, n2]; omega, fun i hi => ?_⟩
    rw [s5] at hi
    obtain ⟨r', hr', l1, l2, l3, l4⟩ := g3 i (by omega)
    rw [hnx] at l1
    refine ⟨r', hr', ?_, l2.congr5 h.head l3 (fun q hq => by rw [ff 22 _ (by omega) (by omega) (by omega) (by omega) (by omega) (by omega) (by omega)]) e16 (fun q hq hq5 => sUndo_out (by omega) hq5) (fun q hq => by unfold rw_; exact sUndo_out (by omega) (by omega)), l3.congr h0.2 (fun q hq => sUndo_out (by omega) (by omega)) (fun q hq => by unfold rw_; exact sUndo_out (by omega) (by omega)), ?_⟩
    · rw [f20, n2, s5]; omega
    · rw [sUndo_out (by omega) (by omega)]; exact l4
  · have fz : ∀ k, 23 ≤ k → M' k 0 = M k 0 := fun k hk => ff k 0 (by omega) (by omega) (by omega) (by omega) (by omega) (by omega) (by omega)
    refine h.tld.congr5 h.head ?_ (fun q hq => ?_) (fun q hq => ?_) (fun q hq hq5 => sUndo_out (by omega) hq5)
    · rw [fz 23 (by omega)]; exact ⟨rfl, rfl, rfl⟩
    · rw [fz 24 (by omega), fz 25 (by omega)]; exact ⟨rfl, rfl⟩
    · rw [fz 26 (by omega), fz 28 (by omega), fz 29 (by omega), fz 30 (by omega)]; exact ⟨rfl, rfl, rfl, rfl⟩
/-- a byte on both tapes -/
def byteR (x y : Int) : Prop := (0 ≤ x ∧ x ≤ 255) ∧ y = (if x < 128 then x else x - 256)
/-- what holds between calls, T being what the texts' laws answer -/
def holdsI (M : zM) (T : Nat → Nat → Option zLw) : Prop :=
  (worldR M 0 (M 43 0)) ∧
  (worldR M 1 (M 44 0)) ∧
  (textsOK M (M 43 0 3) T) ∧
  (M 44 0 3 ≤ M 43 0 3) ∧
  (M 35 0 1 = M 42 0 3 ∧ 0 ≤ M 42 0 3 ∧ M 42 0 3 ≤ 300) ∧
  (∀ i : Nat, (i : Int) < M 42 0 3 → byteR (M 36 0 i) (M 45 0 i)) ∧
  ((M 37 0 3 = 0 ∧ M 42 0 4 = -1 ∧ M 42 0 5 = -1) ∨ (M 37 0 3 = 1 ∧ M 37 0 4 = M 42 0 4 ∧ M 37 0 5 = M 42 0 5))
set_option maxRecDepth 8000 in
set_option maxHeartbeats 300000 in
theorem holdsI.w0 {M : zM} {T : Nat → Nat → Option zLw} (h : holdsI M T) : worldR M 0 (M 43 0) := h.1
set_option maxRecDepth 8000 in
set_option maxHeartbeats 300000 in
theorem holdsI.w1 {M : zM} {T : Nat → Nat → Option zLw} (h : holdsI M T) : worldR M 1 (M 44 0) := h.2.1
set_option maxRecDepth 8000 in
set_option maxHeartbeats 300000 in
theorem holdsI.txt {M : zM} {T : Nat → Nat → Option zLw} (h : holdsI M T) : textsOK M (M 43 0 3) T := h.2.2.1
set_option maxRecDepth 8000 in
set_option maxHeartbeats 300000 in
theorem holdsI.txs {M : zM} {T : Nat → Nat → Option zLw} (h : holdsI M T) : M 44 0 3 ≤ M 43 0 3 := h.2.2.2.1
set_option maxRecDepth 8000 in
set_option maxHeartbeats 300000 in
theorem holdsI.len {M : zM} {T : Nat → Nat → Option zLw} (h : holdsI M T) : M 35 0 1 = M 42 0 3 ∧ 0 ≤ M 42 0 3 ∧ M 42 0 3 ≤ 300 := h.2.2.2.2.1
set_option maxRecDepth 8000 in
set_option maxHeartbeats 300000 in
theorem holdsI.tape {M : zM} {T : Nat → Nat → Option zLw} (h : holdsI M T) : ∀ i : Nat, (i : Int) < M 42 0 3 → byteR (M 36 0 i) (M 45 0 i) := h.2.2.2.2.2.1
set_option maxRecDepth 8000 in
set_option maxHeartbeats 300000 in
theorem holdsI.flt {M : zM} {T : Nat → Nat → Option zLw} (h : holdsI M T) : (M 37 0 3 = 0 ∧ M 42 0 4 = -1 ∧ M 42 0 5 = -1) ∨ (M 37 0 3 = 1 ∧ M 37 0 4 = M 42 0 4 ∧ M 37 0 5 = M 42 0 5) := h.2.2.2.2.2.2
def zI (M : zM) : Prop := ∃ T, holdsI M T
/-- a call on both: one answer, and it holds again -/
def zCall (x : Option (Int × zM)) (r : zM → Option (Int × zM)) : Prop := ∃ q q' : Int × zM, x = some q ∧ r q.2 = some q' ∧ q.1 = q'.1 ∧ zI q'.2
set_option maxRecDepth 8000 in
set_option maxHeartbeats 300000 in
theorem zCall.same {M : zM} {x : Option (Int × zM)} {r : zM → Option (Int × zM)} (h : zI M) {v : Int} (h1 : x = some (v, M)) (h2 : r M = some (v, M)) : zCall x r := ⟨(v, M), (v, M), h1, h2, rfl, h⟩
set_option maxRecDepth 8000 in
set_option maxHeartbeats 300000 in
theorem zCall.mk {x : Option (Int × zM)} {r : zM → Option (Int × zM)} {M1 M2 : zM} {v : Int} (h1 : x = some (v, M1)) (h2 : r M1 = some (v, M2)) (h : zI M2) : zCall x r := ⟨(v, M1), (v, M2), h1, h2, rfl, h⟩
/-- cells of the class that are not the image's, nor a text's, nor the tape's, nor the reader's -/
def sc0 (k i : Nat) : Prop := (i ≠ 1 ∧ (k = 11 ∨ k = 12 ∨ k = 13 ∨ k = 15 ∨ k = 20 ∨ (23 ≤ k ∧ k ≤ 30))) ∨ (k = 16 ∧ (i < 8 ∨ 16 ≤ i)) ∨ (k = 22 ∧ (i < 30 ∨ 60 ≤ i)) ∨ k = 18 ∨ k = 19 ∨ (31 ≤ k ∧ k ≤ 34)
def frW (M M' : zM) : Prop := ∀ k i, ¬ sc0 k i → M' k i = M k i
def frV (M M' : zM) : Prop := ∀ k i, k ≠ 43 → ¬ (66 ≤ k ∧ k ≤ 70) → M' k i = M k i
set_option maxRecDepth 8000 in
set_option maxHeartbeats 300000 in
theorem frW.rfl_ {M : zM} : frW M M := fun _ _ _ => rfl
set_option maxRecDepth 8000 in
set_option maxHeartbeats 300000 in
theorem frW.trans {M M' M2 : zM} (h : frW M M') (h2 : frW M' M2) : frW M M2 := fun k i a => by rw [h2 k i a, h k i a]
set_option maxRecDepth 8000 in
set_option maxHeartbeats 300000 in
theorem frV.rfl_ {M : zM} : frV M M := fun _ _ _ _ => rfl
set_option maxRecDepth 8000 in
set_option maxHeartbeats 300000 in
theorem frV.trans {M M' M2 : zM} (h : frV M M') (h2 : frV M' M2) : frV M M2 := fun k i a b => by rw [h2 k i a b, h k i a b]
set_option maxRecDepth 8000 in
set_option maxHeartbeats 300000 in
theorem frX.w0 {M M' : zM} (h : frX 0 M M') : frW M M' := fun k i a => h.1 k i (by unfold sc0 at a; omega) (by unfold sc0 at a; omega) (by unfold sc0 at a; omega) (by unfold sc0 at a; omega) (by unfold sc0 at a; omega) (by unfold sc0 at a; omega)
set_option maxRecDepth 8000 in
set_option maxHeartbeats 300000 in
theorem frX.w2 {M M' : zM} (h : frX 2 M M') : frW M M' := fun k i a => h.1 k i (by unfold sc0 at a; omega) (by unfold sc0 at a; omega) (by unfold sc0 at a; omega) (by unfold sc0 at a; omega) (by unfold sc0 at a; omega) (by unfold sc0 at a; omega)
set_option maxRecDepth 8000 in
set_option maxHeartbeats 300000 in
theorem frR.v {M M' : zM} (h : frR M M') : frV M M' := fun k i a b => h k i (by omega) (by omega) (by omega)
set_option maxRecDepth 8000 in
set_option maxHeartbeats 300000 in
theorem frV.of43 {M M' : zM} (h : ∀ k i, k ≠ 43 → M' k i = M k i) : frV M M' := fun k i a b => h k i a
set_option maxRecDepth 8000 in
set_option maxHeartbeats 300000 in
theorem frV.of68 {M M' : zM} (h : ∀ k i, k ≠ 68 → M' k i = M k i) : frV M M' := fun k i a b => h k i (by omega)
set_option maxRecDepth 8000 in
set_option maxHeartbeats 300000 in
theorem holdsI.step {M M1 M2 : zM} {T : Nat → Nat → Option zLw} {A' : Nat → Int} (h : holdsI M T) (f1 : frW M M1) (w : worldR M1 0 A') (f2 : frV M1 M2) (hA : M2 43 0 = A') (h3 : A' 3 = M 43 0 3) : holdsI M2 T := by
  have fa : ∀ k i, ¬ sc0 k i → k ≠ 43 → ¬ (66 ≤ k ∧ k ≤ 70) → M2 k i = M k i := fun k i a b c => by rw [f2 k i b c, f1 k i a]
  have fx : ∀ k i, k < 42 → M2 k i = M1 k i := fun k i hk => f2 k i (by omega) (by omega)
  have f44 : M2 44 0 = M 44 0 := fa 44 0 (by unfold sc0; omega) (by omega) (by omega)
  have f42 : M2 42 0 = M 42 0 := fa 42 0 (by unfold sc0; omega) (by omega) (by omega)
  have f45 : M2 45 0 = M 45 0 := fa 45 0 (by unfold sc0; omega) (by omega) (by omega)
  have f35 : M2 35 0 = M 35 0 := fa 35 0 (by unfold sc0; omega) (by omega) (by omega)
  have f36 : M2 36 0 = M 36 0 := fa 36 0 (by unfold sc0; omega) (by omega) (by omega)
  have f37 : M2 37 0 = M 37 0 := fa 37 0 (by unfold sc0; omega) (by omega) (by omega)
  refine ⟨?_, ?_, ?_, ?_, ?_, ?_, ?_⟩
  · rw [hA]
    exact w.congr (fun s _ _ => by rw [fx 11 0 (by omega)]) (fun q _ => by rw [fx 12 0 (by omega), fx 13 0 (by omega)]; exact ⟨rfl, rfl⟩) (fun q _ => by rw [fx 15 0 (by omega)]) (fun t s _ _ => by rw [fx 16 _ (by omega)]) (by rw [fx 20 0 (by omega)]; exact ⟨rfl, rfl⟩) (fun r q _ _ => by rw [fx 22 _ (by omega)]) (by rw [fx 23 0 (by omega)]; exact ⟨rfl, rfl, rfl⟩) (fun q _ => by rw [fx 24 0 (by omega), fx 25 0 (by omega)]; exact ⟨rfl, rfl⟩) (fun q _ => by rw [fx 26 0 (by omega), fx 28 0 (by omega), fx 29 0 (by omega), fx 30 0 (by omega)]; exact ⟨rfl, rfl, rfl, rfl⟩) (fun q _ => rfl)
  · rw [f44]
    have g : ∀ k, k < 42 → (k = 11 ∨ k = 12 ∨ k = 13 ∨ k = 15 ∨ k = 20 ∨ (23 ≤ k ∧ k ≤ 30)) → M2 k 1 = M k 1 := fun k h1 h2 => fa k 1 (by unfold sc0; omega) (by omega) (by omega)
    exact h.w1.congr (fun s _ _ => by rw [g 11 (by omega) (by omega)]) (fun q _ => by rw [g 12 (by omega) (by omega), g 13 (by omega) (by omega)]; exact ⟨rfl, rfl⟩) (fun q _ => by rw [g 15 (by omega) (by omega)]) (fun t s ht _ => by rw [fa 16 _ (by unfold sc0; omega) (by omega) (by omega)]) (by rw [g 20 (by omega) (by omega)]; exact ⟨rfl, rfl⟩) (fun r q hr _ => by rw [fa 22 _ (by unfold sc0; omega) (by omega) (by omega)]) (by rw [g 23 (by omega) (by omega)]; exact ⟨rfl, rfl, rfl⟩) (fun q _ => by rw [g 24 (by omega) (by omega), g 25 (by omega) (by omega)]; exact ⟨rfl, rfl⟩) (fun q _ => by rw [g 26 (by omega) (by omega), g 28 (by omega) (by omega), g 29 (by omega) (by omega), g 30 (by omega) (by omega)]; exact ⟨rfl, rfl, rfl, rfl⟩) (fun q _ => rfl)
  · rw [hA, h3]
    exact h.txt.frame (fun k j hk => fa k j (by unfold sc0; unfold txK at hk; omega) (by unfold txK at hk; omega) (by unfold txK at hk; omega))
  · rw [f44, hA, h3]; exact h.txs
  · rw [f35, f42]; exact h.len
  · rw [f42, f36, f45]; exact h.tape
  · rw [f37, f42]; exact h.flt
