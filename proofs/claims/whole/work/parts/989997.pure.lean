/-! the start; all calls -/
set_option maxRecDepth 8000 in
set_option maxHeartbeats 2000000 in
theorem world_0 (j : Nat) : worldR zM1 j (zM1 43 0) := by
  have c11 : ∀ s, zM1 11 j s = if s = 9 then 9 else if s = 11 then 89 else if s = 13 then -1 else 0 := fun s => by
    unfold zM1
    rw [zput_k (by omega), zput_k (by omega), zput_k (by omega)]
    rfl
  have cz : ∀ k i s, k ≠ 42 → k ≠ 37 → k ≠ 11 → k ≠ 43 → zM1 k i s = 0 := fun k i s a b c d => by
    unfold zM1
    rw [zput_k d, zput_k d, zput_k d]
    exact zM0_arr ⟨a, b, c⟩ i s
  have az : ∀ q, q ≠ 129 → q ≠ 4 → q ≠ 2 → zM1 43 0 q = 0 := fun q a b c => by
    unfold zM1
    rw [zput_j a, zput_j b, zput_j c]
    exact zM0_arr (by omega) 0 q
  have a2 : zM1 43 0 2 = 9 := by
    unfold zM1
    rw [zput_j (by omega), zput_j (by omega), zput_eq]
  have a4 : zM1 43 0 4 = -1 := by
    unfold zM1
    rw [zput_j (by omega), zput_eq]
  have a129 : zM1 43 0 129 = 89 := by
    unfold zM1
    rw [zput_eq]
  generalize zM1 43 0 = A at az a2 a4 a129 ⊢
  have w : ∀ q, q ≠ 39 → rw_ A 90 q = 0 := fun q hq => az _ (by omega) (by omega) (by omega)
  have w39 : rw_ A 90 39 = 89 := a129
  have e0 := az 0 (by omega) (by omega) (by omega)
  have e1 := az 1 (by omega) (by omega) (by omega)
  have e3 := az 3 (by omega) (by omega) (by omega)
  have e5 := az 5 (by omega) (by omega) (by omega)
  have e6 := az 6 (by omega) (by omega) (by omega)
  have e7 := az 7 (by omega) (by omega) (by omega)
  have e8 := az 8 (by omega) (by omega) (by omega)
  refine ⟨⟨by omega, by omega, by omega, by omega, by omega, by omega, by omega, by omega, by omega, by omega, fun i hi => ?_, fun t ht => by omega, fun t ht => by omega, fun i hi => by omega, fun i hi => by omega, fun i hi => by omega⟩, ⟨fun i hi => ?_, fun i hi _ => w i (by omega), fun t ht => by omega, fun t ht => by omega, fun t ht => by omega, fun t ht => by omega, ?_, ?_, ?_, fun i hi => ?_⟩, by rw [az 128 (by omega) (by omega) (by omega)]; omega, ⟨?_, ?_, ?_, ?_, ?_, ?_, ?_, ?_, fun i hi => by omega, fun i hi => ?_, fun t ht => by omega, fun t ht => by omega, fun t ht => by omega, fun t ht => by omega, fun t ht => by omega, fun t ht => by omega, fun i hi => ?_⟩, fun t ht => by omega, ⟨?_, ?_, fun i hi => by omega⟩, ⟨?_, ?_, ?_, fun i hi => by omega, fun i hi => by omega, fun i hi => by omega, fun i hi => by omega, fun i hi => by omega, fun i hi => by omega⟩⟩
  · rw [az _ (by omega) (by omega) (by omega)]; omega
  · rw [w i (by omega)]; omega
  · rw [w 38 (by omega)]; omega
  · rw [w39]; omega
  · rw [w 40 (by omega)]; omega
  · rw [w 40 (by omega)] at hi; omega
  · rw [c11, e0]; rfl
  · rw [c11, e1]; rfl
  · rw [c11, w 40 (by omega)]; rfl
  · rw [c11, a2]; rfl
  · rw [c11, w 38 (by omega)]; rfl
  · rw [c11, w39]; rfl
  · rw [c11, e3]; rfl
  · rw [c11, a4]; rfl
  · rw [w i (by omega)]; exact cz 13 j i (by omega) (by omega) (by omega) (by omega)
  · rw [w 40 (by omega)] at hi; omega
  · rw [e5]; exact cz 20 j 1 (by omega) (by omega) (by omega) (by omega)
  · rw [cz 20 j 2 (by omega) (by omega) (by omega) (by omega)]; omega
  · rw [e6]; exact cz 23 j 7 (by omega) (by omega) (by omega) (by omega)
  · rw [e7]; exact cz 23 j 8 (by omega) (by omega) (by omega) (by omega)
  · rw [e8]; exact cz 23 j 9 (by omega) (by omega) (by omega) (by omega)
set_option maxRecDepth 8000 in
set_option maxHeartbeats 2000000 in
theorem zI_0 : ∃ M2, f_X11_copies 1 zM1 = some M2 ∧ zI M2 := by
  obtain ⟨M2, b1, b2, b3⟩ := copies_out zM1
  have a3 : zM1 43 0 3 = 0 := by
    unfold zM1
    rw [zput_j (by omega), zput_j (by omega), zput_j (by omega)]
    exact zM0_arr (by omega) 0 3
  have e43 : M2 43 0 = zM1 43 0 := b2 43 0 (by omega)
  have z42 : ∀ s, zM1 42 0 s = if s = 4 ∨ s = 5 then -1 else 0 := fun s => by
    unfold zM1
    rw [zput_k (by omega), zput_k (by omega), zput_k (by omega)]
    rfl
  have z37 : zM1 37 0 3 = 0 := by
    unfold zM1
    rw [zput_k (by omega), zput_k (by omega), zput_k (by omega)]
    rfl
  have z35 : zM1 35 0 1 = 0 := by
    unfold zM1
    rw [zput_k (by omega), zput_k (by omega), zput_k (by omega)]
    exact zM0_arr (by omega) 0 1
  have m3 : M2 42 0 3 = 0 := by rw [b2 42 0 (by omega), z42]; rfl
  refine ⟨M2, b1, fun _ _ => none, ?_, ?_, fun i hi => ?_, ?_, ?_, fun i hi => ?_, Or.inl ⟨?_, ?_, ?_⟩⟩
  · rw [e43]
    exact (world_0 0).of (fun k i x y z => b2 k i (by omega)) (fun q _ => rfl)
  · exact (world_0 1).of (fun k i x y z => b2 k i (by omega)) (fun q hq => b3 q hq)
  · rw [e43, a3] at hi; omega
  · rw [e43, b3 3 (by omega)]; exact Int.le_refl _
  · rw [m3, b2 35 0 (by omega), z35]; omega
  · rw [m3] at hi; omega
  · rw [b2 37 0 (by omega)]; exact z37
  · rw [b2 42 0 (by omega), z42]; rfl
  · rw [b2 42 0 (by omega), z42]; rfl
set_option maxRecDepth 8000 in
set_option maxHeartbeats 2000000 in
theorem lB_01 (v : Int) : lB v = 0 ∨ lB v = 1 := by
  unfold lB
  split
  · exact Or.inl rfl
  · exact Or.inr rfl
set_option maxRecDepth 8000 in
set_option maxHeartbeats 2000000 in
theorem zI_ok : lawOK zI := by
  intro k hk a ha M hM
  have h := lB_01 (a 4)
  have hk2 : k = 0 ∨ k = 1 ∨ k = 2 ∨ k = 3 ∨ k = 4 ∨ k = 5 ∨ k = 6 ∨ k = 7 ∨ k = 8 ∨ k = 9 ∨ k = 10 ∨ k = 11 ∨ k = 12 ∨ k = 13 ∨ k = 14 ∨ k = 15 ∨ k = 16 ∨ k = 17 ∨ k = 18 ∨ k = 19 ∨ k = 20 ∨ k = 21 ∨ k = 22 ∨ k = 23 ∨ k = 24 ∨ k = 25 ∨ k = 26 ∨ k = 27 ∨ k = 28 ∨ k = 29 ∨ k = 30 ∨ k = 31 ∨ k = 32 ∨ k = 33 ∨ k = 34 ∨ k = 35 ∨ k = 36 ∨ k = 37 ∨ k = 38 := by omega
  rcases hk2 with rfl | rfl | rfl | rfl | rfl | rfl | rfl | rfl | rfl | rfl | rfl | rfl | rfl | rfl | rfl | rfl | rfl | rfl | rfl | rfl | rfl | rfl | rfl | rfl | rfl | rfl | rfl | rfl | rfl | rfl | rfl | rfl | rfl | rfl | rfl | rfl | rfl | rfl | rfl
  · exact call_owner hM (ha 1)
  · exact call_thing hM (ha 1) (ha 2) (ha 3)
  · exact call_room hM (ha 1)
  · exact call_steal hM (ha 1)
  · exact call_send hM (ha 1)
  · exact call_give hM (ha 1) (ha 2)
  · exact call_day hM (ha 1)
  · exact call_decades hM (ha 1) (ha 2)
  · exact call_feed hM
  · exact call_end hM (ha 1)
  · exact call_text hM
  · exact call_fault hM (ha 1)
  · exact call_by hM (ha 1)
  · exact call_played hM (ha 1)
  · exact call_undo hM
  · exact call_ofOwner hM (ha 1) (ha 2)
  · exact call_of hM (ha 1) (ha 2)
  · exact call_law hM (ha 1) (ha 2)
  · exact call_book hM (ha 1) (ha 2)
  · exact call_foretold hM (ha 1) (ha 2) (ha 3)
  · exact call_pence hM (ha 1) (ha 2)
  · exact call_plan hM (ha 1) (ha 2)
  · exact call_first hM
  · exact call_fewest hM (ha 1) (ha 2) (ha 3) (ha 4)
  · exact call_worth hM (ha 1)
  · exact call_whose hM (ha 1)
  · exact call_twice hM
  · exact call_since hM (ha 1) (ha 2) (ha 3) (by omega)
  · exact call_bargain hM (ha 1) (ha 2) (ha 3)
  · exact call_vote hM (ha 1)
  · exact call_voted hM
  · exact call_lying hM (ha 1)
  · exact call_seen hM (ha 1) (ha 2) (lB_01 (a 3))
  · exact call_rule hM
  · exact call_odds hM (ha 1) (ha 2)
  · exact call_early hM
  · exact call_image hM
  · exact call_back hM
  · exact call_about hM
