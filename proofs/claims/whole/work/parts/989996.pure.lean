/-! call: text, both sides -/
set_option maxRecDepth 8000 in
set_option maxHeartbeats 2000000 in
theorem headOK.setText {A A' : Nat → Int} {t : Nat} (h : headOK A) (h3 : A 3 = t) (ht : t < 4) (e : ∀ q, q ≠ 3 → A' q = A q) (e3 : A' 3 = (t : Int) + 1) : headOK A' := by
  obtain ⟨q1, q2, q3, q4, q5, q6, q7, q8, q9, q10, q11, q12, q13, q14, q15, q16⟩ := h
  unfold headOK
  rw [e 0 (by omega), e 1 (by omega), e 2 (by omega), e3, e 4 (by omega), e 5 (by omega), e 6 (by omega), e 7 (by omega), e 8 (by omega)]
  refine ⟨q1, q2, q3, q4, by omega, by omega, q7, q8, q9, q10, fun i hi => ?_, fun t ht => ?_, fun t ht => ?_, fun i hi => ?_, fun i hi => ?_, fun i hi => ?_⟩
  · rw [e _ (by omega)]; exact q11 i hi
  · rw [e _ (by omega)]; exact q12 t ht
  · rw [e _ (by omega)]; exact q13 t ht
  · rw [e _ (by omega), e _ (by omega)]; exact q14 i hi
  · rw [e _ (by omega)]; exact q15 i hi
  · rw [e _ (by omega), e _ (by omega), e _ (by omega)]; exact q16 i hi
set_option maxRecDepth 8000 in
set_option maxHeartbeats 2000000 in
theorem call_text {M : zM} (h : zI M) : zCall (f_X10_text M) (fun N => f_X11_text N) := by
  have hz := h
  obtain ⟨T, hI⟩ := h
  have hA := hI.w0.head
  have h3 := hA.txs
  have hc3 := hI.w0.city.txs
  obtain ⟨l1, l2, l3⟩ := hI.len
  by_cases h4 : M 43 0 3 = 4
  · refine zCall.same hz (v := -1) ?_ ?_
    · unfold f_X10_text
      rw [hc3, h4, if_neg (by decide)]
    · unfold f_X11_text
      rw [h4, if_neg (nn_ (by decide))]
  obtain ⟨t, ht⟩ := Int.eq_ofNat_of_zero_le h3.1
  have ht4 : t < 4 := by omega
  obtain ⟨L, hL⟩ := Int.eq_ofNat_of_zero_le l2
  have hL3 : L ≤ 300 := by omega
  have hb : ∀ i, i < L → 0 ≤ M 36 0 i ∧ M 36 0 i ≤ 255 := fun i hi => (hI.tape i (by omega)).1
  obtain ⟨M1, n, r, a1, a2, a3, a4, a5, a6⟩ := X_readInto (M := M) (B := M 36 0) (L := L) (x := t) ht4 rfl (by rw [l1, hL]) hL3 hb
  have hk := tkOK_of hL3 hb a2
  have hs : ∀ q, r = .inr q → sOK q.1 q.2.1 q.2.2 := fun q hq => by
    rw [hq] at a3
    exact txS_ok (fun i => (hk.2.1 i).1) (fun i hi => (hk.2.2.2.1 i hi).1) hk.2.2.1 25 0 [] [] [] q a3 (Nat.zero_le _) ⟨(fun j R z => by cases z), (fun j1 j2 R1 R2 z => by cases z), rfl, (fun a ha => by cases ha)⟩
  have startX : ∀ v : Int, f_X2_readInto t M = some (v, M1) → f_X10_text M = if ¬ zw v = 0 then some (((zput (zput M1 35 0 1 0) 11 0 12 ((zput M1 35 0 1 0 11 0 12) + 1) 11 0 12) - 1), zput (zput M1 35 0 1 0) 11 0 12 ((zput M1 35 0 1 0 11 0 12) + 1)) else some ((-1), zput M1 35 0 1 0) := by
    intro v hv
    unfold f_X10_text
    rw [hc3, ht, zw_nat (by omega), if_pos (by omega), if_pos (by omega), zix_nat (by omega), hv]
    simp only [zbs]
    rw [zlt_]
    simp only [zlt_]
  have c12 : M1 11 0 12 = t := by rw [a6 11 0 (by omega) (by omega), hc3, ht]
  have old : ∀ (M' : zM), (∀ k i, 2 ≤ k → k ≤ 10 → i ≠ t → M' k i = M k i) → (∀ i, i < t → M' 46 0 i = M 46 0 i) → (∀ k, 47 ≤ k → k ≤ 51 → ∀ j, j < 24 * t → M' k 0 j = M k 0 j) → (∀ k, k = 52 ∨ k = 53 → ∀ j, j < 400 * t → M' k 0 j = M k 0 j) → ∀ i, i < t → textOK M' i (T i) := fun M' w1 w2 w3 w4 i hi => (hI.txt i (by omega)).keep hi (fun k h2 h10 => w1 k i h2 h10 (by omega)) (w2 i hi) w3 w4
  cases r with
  | inl q =>
    have f2 : ∀ k i, ¬ (37 ≤ k ∧ k ≤ 41) → ¬ (2 ≤ k ∧ k ≤ 10 ∧ i = t) → k ≠ 35 → zput M1 35 0 1 0 k i = M k i := fun k i p1 p2 p3 => by rw [zput_rowk (by omega)]; exact a6 k i p1 p2
    obtain ⟨M', b1, ⟨b2, b3, b4⟩, b5⟩ : outRt (M 36 0) L t (zput M1 35 0 1 0) (.inl q) := R_text (by rw [f2 43 0 (by omega) (by omega) (by omega)]; exact ht) ht4 hL3 hb (by rw [f2 42 0 (by omega) (by omega) (by omega)]; exact hL) (fun i hi => by rw [f2 45 0 (by omega) (by omega) (by omega)]; exact (hI.tape i (by omega)).2) a2 a3 (fun q hq => by cases hq)
    obtain ⟨c1, c2, c3⟩ := a4
    have f' : ∀ k i, k ≠ 42 → ¬ (54 ≤ k ∧ k ≤ 65) → ¬ (37 ≤ k ∧ k ≤ 41) → ¬ (2 ≤ k ∧ k ≤ 10 ∧ i = t) → k ≠ 35 → M' k i = M k i := fun k i p1 p2 p3 p4 p5 => by rw [b5 k i p1 p2, f2 k i p3 p4 p5]
    have e43 : M' 43 0 = M 43 0 := f' 43 0 (by omega) (by omega) (by omega) (by omega) (by omega)
    have e44 : M' 44 0 = M 44 0 := f' 44 0 (by omega) (by omega) (by omega) (by omega) (by omega)
    have e37 : M' 37 0 = M1 37 0 := by rw [b5 37 0 (by omega) (by omega), zput_rowk (by omega)]
    refine zCall.mk (M1 := zput M1 35 0 1 0) (M2 := M') (v := -1) ?_ b1 ⟨T, ?_, ?_, fun i hi => ?_, ?_, ?_, fun i hi => ?_, Or.inr ⟨?_, ?_, ?_⟩⟩
    · rw [startX 0 a1, if_neg (nn_ zw_0)]
    · rw [e43]
      exact hI.w0.of (fun k i p1 p2 _ => f' k i (by omega) (by omega) (by omega) (by omega) (by omega)) (fun q _ => rfl)
    · rw [e44]
      exact hI.w1.of (fun k i p1 p2 _ => f' k i (by omega) (by omega) (by omega) (by omega) (by omega)) (fun q _ => rfl)
    · rw [e43] at hi
      exact old M' (fun k i p1 p2 p3 => f' k i (by omega) (by omega) (by omega) (by omega) (by omega)) (fun i _ => by rw [f' 46 0 (by omega) (by omega) (by omega) (by omega) (by omega)]) (fun k p1 p2 j _ => by rw [f' k 0 (by omega) (by omega) (by omega) (by omega) (by omega)]) (fun k p1 j _ => by rw [f' k 0 (by omega) (by omega) (by omega) (by omega) (by omega)]) i (by omega)
    · rw [e43, e44]; exact hI.txs
    · rw [b5 35 0 (by omega) (by omega), zput_eq, b2]
      exact ⟨rfl, by omega, by omega⟩
    · rw [b2] at hi; omega
    · rw [e37]; exact a5
    · rw [e37, b3]; exact c1
    · rw [e37, b4]; exact c3
  | inr q =>
    obtain ⟨⟨c1, c2⟩, law', iX, hX⟩ := a4
    generalize hM3 : zput (zput M1 35 0 1 0) 11 0 12 ((t : Int) + 1) = M3
    have f3 : ∀ k i, ¬ (37 ≤ k ∧ k ≤ 41) → ¬ (2 ≤ k ∧ k ≤ 10 ∧ i = t) → k ≠ 35 → ¬ (k = 11 ∧ i = 0) → M3 k i = M k i := fun k i p1 p2 p3 p4 => by rw [← hM3, zput_rowk (by omega), zput_rowk (by omega)]; exact a6 k i p1 p2
    obtain ⟨M', N, iR, b1, ⟨b2, b3, b4⟩, hR, b5, b43, b46, b47, b48, b49, b50, b51, b52, b53⟩ : outRt (M 36 0) L t M3 (.inr q) := R_text (by rw [f3 43 0 (by omega) (by omega) (by omega) (by omega)]; exact ht) ht4 hL3 hb (by rw [f3 42 0 (by omega) (by omega) (by omega) (by omega)]; exact hL) (fun i hi => by rw [f3 45 0 (by omega) (by omega) (by omega) (by omega)]; exact (hI.tape i (by omega)).2) a2 a3 hs
    have hsq := hs q rfl
    have hc24 := hR.c24
    have hXl : q.2.2.length ≤ 399 := by
      have h1 := hsq.len
      have h2 := hX.lv.2.2.2.2.2.2.2.2.1
      omega
    have f' : ∀ k i, k ≠ 42 → k ≠ 43 → ¬ (46 ≤ k ∧ k ≤ 65) → ¬ (37 ≤ k ∧ k ≤ 41) → ¬ (2 ≤ k ∧ k ≤ 10 ∧ i = t) → k ≠ 35 → ¬ (k = 11 ∧ i = 0) → M' k i = M k i := fun k i p1 p2 p3 p4 p5 p6 p7 => by rw [b5 k i p1 p2 p3, f3 k i p4 p5 p6 p7]
    have m3 : ∀ k, 46 ≤ k → k ≤ 53 → M3 k 0 = M k 0 := fun k p1 p2 => f3 k 0 (by omega) (by omega) (by omega) (by omega)
    have e44 : M' 44 0 = M 44 0 := f' 44 0 (by omega) (by omega) (by omega) (by omega) (by omega) (by omega) (by omega)
    have e43 : M' 43 0 = fun j => if j = 3 then (t : Int) + 1 else M 43 0 j := by rw [b43, f3 43 0 (by omega) (by omega) (by omega) (by omega)]
    have e37 : M' 37 0 = M1 37 0 := by rw [b5 37 0 (by omega) (by omega) (by omega), ← hM3, zput_rowk (by omega), zput_rowk (by omega)]
    have ek : ∀ k i, 2 ≤ k → k ≤ 10 → M' k i = M1 k i := fun k i p1 p2 => by rw [b5 k i (by omega) (by omega) (by omega), ← hM3, zput_rowk (by omega), zput_rowk (by omega)]
    have e3 : (fun j => if j = 3 then (t : Int) + 1 else M 43 0 j) 3 = (t : Int) + 1 := if_pos rfl
    have ee : ∀ q, q ≠ 3 → (fun j => if j = 3 then (t : Int) + 1 else M 43 0 j) q = M 43 0 q := fun q hq => if_neg hq
    -- the class's cells as they are now
    have hX' : clsX (tK (M 36 0) L) (tV (M 36 0) L) (tPl (M 36 0) L) n t law' M1 iX q.1 q.2.1 := hX
    obtain ⟨Tn, hTn⟩ : ∃ Tn, textOK M' t Tn := by
      have g : ∃ Tn, textOK (fun k i => if 2 ≤ k ∧ k ≤ 10 ∨ 37 ≤ k ∧ k ≤ 41 then M1 k i else M' k i) t Tn := by
        generalize hQ : (fun k i => if 2 ≤ k ∧ k ≤ 10 ∨ 37 ≤ k ∧ k ≤ 41 then M1 k i else M' k i : zM) = Q
        have q1 : ∀ k i, 2 ≤ k ∧ k ≤ 10 ∨ 37 ≤ k ∧ k ≤ 41 → Q k i = M1 k i := fun k i hk => by rw [← hQ]; exact if_pos hk
        have q2 : ∀ k i, 46 ≤ k → Q k i = M' k i := fun k i hk => by rw [← hQ]; exact if_neg (by omega)
        refine textOK_new (M := Q) (n := n) (K := tK (M 36 0) L) (V := tV (M 36 0) L) (Pl := tPl (M 36 0) L) (m := n) (i := iX) (law := law') ht4 ⟨?_, ?_, fun j R hj => ?_, fun j R hj hR => ?_, fun k hk hkt => ?_, hX.rng, hX.le, hX.c24, hX.pos⟩ hR hsq hXl ?_ (fun j hj => ?_) (fun j hj => ?_) (fun j hj => ?_) (fun j hj => ?_) (fun j hj => ?_) (fun j hj => ?_) (fun j hj => ?_)
        · unfold lvX cM
          rw [q1 39 0 (by omega), q1 40 0 (by omega), q1 41 0 (by omega), q1 37 0 (by omega), q1 38 0 (by omega), q1 2 t (by omega), q1 9 t (by omega), q1 10 t (by omega)]
          exact hX.lv
        · rw [q1 2 t (by omega)]; exact hX.num
        · rw [q1 3 t (by omega), q1 4 t (by omega), q1 5 t (by omega), q1 6 t (by omega)]; exact hX.cls j R hj
        · rw [q1 7 t (by omega), q1 8 t (by omega)]; exact hX.laws j R hj hR
        · rw [q1 7 t (by omega)]; exact hX.none_ k hk hkt
        · rw [q2 46 0 (by omega), b46]
          exact if_pos rfl
        · rw [q2 47 0 (by omega), b47, cpy_in hj]
        · rw [q2 48 0 (by omega), b48, cpy_in hj]
        · rw [q2 49 0 (by omega), b49, cpy_in hj]
        · rw [q2 50 0 (by omega), b50, cpy_in hj]
        · rw [q2 51 0 (by omega), b51, cpy_in hj]
        · rw [q2 52 0 (by omega), b52, cpy_in hj]
        · rw [q2 53 0 (by omega), b53, cpy_in hj]
      obtain ⟨Tn, hTn⟩ := g
      refine ⟨Tn, hTn.frame (fun k j hk => ?_)⟩
      unfold txK at hk
      by_cases h2 : 2 ≤ k ∧ k ≤ 10 ∨ 37 ≤ k ∧ k ≤ 41
      · rw [if_pos h2, ek k j (by omega) (by omega)]
      · rw [if_neg h2]
    refine zCall.mk (M1 := M3) (M2 := M') (v := (t : Int)) ?_ b1 ⟨fun i => if i = t then Tn else T i, ?_, ?_, fun i hi => ?_, ?_, ?_, fun i hi => ?_, Or.inr ⟨?_, ?_, ?_⟩⟩
    · have e12 : zput M1 35 0 1 0 11 0 12 = t := by rw [zput_k (by omega)]; exact c12
      rw [startX 1 a1, if_pos zw_1n, e12, zput_eq, hM3, Int.add_sub_cancel]
    · rw [e43]
      refine hI.w0.setText (hA.setText ht ht4 ee e3) ee (fun k i p1 p2 => f' k i (by omega) (by omega) (by omega) (by omega) (by omega) (by omega) (by omega)) (fun s hs => ?_) ?_
      · rw [b5 11 0 (by omega) (by omega) (by omega), ← hM3, zput_j hs, zput_k (by omega), a6 11 0 (by omega) (by omega)]
      · rw [b5 11 0 (by omega) (by omega) (by omega), ← hM3, zput_eq]
        exact e3.symm
    · rw [e44]
      exact hI.w1.of (fun k i p1 p2 p3 => f' k i (by omega) (by omega) (by omega) (by omega) (by omega) (by omega) (by omega)) (fun q _ => rfl)
    · rw [e43] at hi
      have hi : (i : Int) < (t : Int) + 1 := hi
      by_cases hit : i = t
      · dsimp only
        rw [if_pos hit, hit]
        exact hTn
      · dsimp only
        rw [if_neg hit]
        refine old M' (fun k i p1 p2 p3 => f' k i (by omega) (by omega) (by omega) (by omega) (by omega) (by omega) (by omega)) (fun i hi => ?_) (fun k p1 p2 j hj => ?_) (fun k p1 j hj => ?_) i (by omega)
        · rw [b46]
          dsimp only
          rw [if_neg (by omega), m3 46 (by omega) (by omega)]
        · have hk5 : k = 47 ∨ k = 48 ∨ k = 49 ∨ k = 50 ∨ k = 51 := by omega
          rcases hk5 with rfl | rfl | rfl | rfl | rfl
          · rw [b47, cpy_out (Or.inl hj), m3 47 (by omega) (by omega)]
          · rw [b48, cpy_out (Or.inl hj), m3 48 (by omega) (by omega)]
          · rw [b49, cpy_out (Or.inl hj), m3 49 (by omega) (by omega)]
          · rw [b50, cpy_out (Or.inl hj), m3 50 (by omega) (by omega)]
          · rw [b51, cpy_out (Or.inl hj), m3 51 (by omega) (by omega)]
        · rcases p1 with rfl | rfl
          · rw [b52, cpy_out (Or.inl hj), m3 52 (by omega) (by omega)]
          · rw [b53, cpy_out (Or.inl hj), m3 53 (by omega) (by omega)]
    · rw [e43, e44]
      show M 44 0 3 ≤ (t : Int) + 1
      have := hI.txs
      omega
    · rw [b5 35 0 (by omega) (by omega) (by omega), ← hM3, zput_k (by omega), zput_eq, b2]
      exact ⟨rfl, by omega, by omega⟩
    · rw [b2] at hi; omega
    · rw [e37]; exact a5
    · rw [e37, b3]; exact c1
    · rw [e37, b4]; exact c2
