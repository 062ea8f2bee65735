/-! what holds, held over: cells that a call leaves as they were -/
theorem cityR.frame {M M' : zM} {j : Nat} {a w : Nat → Int} (h : cityR M j a w) (h8 : a 1 ≤ 8) (e11 : M' 11 j = M 11 j) (e12 : M' 12 j = M 12 j) (e13 : M' 13 j = M 13 j) (e15 : M' 15 j = M 15 j) (e16 : ∀ t : Nat, t < 8 → M' 16 (t + 8 * j) = M 16 (t + 8 * j)) : cityR M' j a w := by
  unfold cityR at h ⊢
  rw [e11, e12, e13, e15]
  obtain ⟨g1, g2, g3, g4, g5, g6, g7, g8, g9, g10, g11, g12, g13, g14, g15, g16, g17⟩ := h
  exact ⟨g1, g2, g3, g4, g5, g6, g7, g8, g9, g10, fun t ht => by rw [e16 t (by omega)]; exact g11 t ht, fun t ht => by rw [e16 t (by omega)]; exact g12 t ht, fun t ht => by rw [e16 t (by omega)]; exact g13 t ht, fun t ht => by rw [e16 t (by omega)]; exact g14 t ht, fun t ht => by rw [e16 t (by omega)]; exact g15 t ht, fun t ht => by rw [e16 t (by omega)]; exact g16 t ht, g17⟩
theorem savedR.frame {M M' : zM} {r j : Nat} {a w : Nat → Int} (h : savedR M r j a w) (h8 : a 1 ≤ 8) (e22 : M' 22 r = M 22 r) (e16 : ∀ t : Nat, t < 8 → M' 16 (t + 8 * j) 0 = M 16 (t + 8 * j) 0) : savedR M' r j a w := by
  unfold savedR at h ⊢
  rw [e22]
  obtain ⟨g1, g2, g3, g4, g5, g6, g7, g8, g9, g10, g11, g12, g13⟩ := h
  exact ⟨g1, g2, g3, g4, g5, g6, g7, g8, g9, g10, g11, g12, fun t ht ht2 => by rw [e16 t (by omega)]; exact g13 t ht ht2⟩
theorem stepsR.frame {M M' : zM} {j : Nat} {a : Nat → Int} (h : stepsR M j a) (h8 : a 1 ≤ 8) (e20 : M' 20 j = M 20 j) (e22 : ∀ r : Nat, r < 30 → M' 22 (r + 30 * j) = M 22 (r + 30 * j)) (e16 : ∀ t : Nat, t < 8 → M' 16 (t + 8 * j) 0 = M 16 (t + 8 * j) 0) : stepsR M' j a := by
  unfold stepsR at h ⊢
  rw [e20]
  obtain ⟨g1, g2, g3⟩ := h
  refine ⟨g1, g2, fun i hi => ?_⟩
  obtain ⟨r, hr, h1, h2, h3⟩ := g3 i hi
  exact ⟨r, hr, h1, h2.frame h8 (e22 r hr) e16, h3⟩
theorem toldR.frame {M M' : zM} {j : Nat} {a : Nat → Int} (h : toldR M j a) (e23 : M' 23 j = M 23 j) (e24 : M' 24 j = M 24 j) (e25 : M' 25 j = M 25 j) (e26 : M' 26 j = M 26 j) (e28 : M' 28 j = M 28 j) (e29 : M' 29 j = M 29 j) (e30 : M' 30 j = M 30 j) : toldR M' j a := by
  unfold toldR at h ⊢
  rw [e23, e24, e25, e26, e28, e29, e30]
  exact h
theorem worldR.frame {M M' : zM} {j : Nat} {a : Nat → Int} (h : worldR M j a) (e : ∀ k, 11 ≤ k → k ≤ 13 ∨ k = 15 ∨ k = 20 ∨ 23 ≤ k → k ≤ 30 → M' k j = M k j) (e16 : ∀ t : Nat, t < 8 → M' 16 (t + 8 * j) = M 16 (t + 8 * j)) (e22 : ∀ r : Nat, r < 30 → M' 22 (r + 30 * j) = M 22 (r + 30 * j)) : worldR M' j a := by
  have h8 := h.head.thg
  have e16' : ∀ t : Nat, t < 8 → M' 16 (t + 8 * j) 0 = M 16 (t + 8 * j) 0 := fun t ht => by rw [e16 t ht]
  refine ⟨h.head, h.row, h.day, h.city.frame h8.2 (e 11 (by omega) (by omega) (by omega)) (e 12 (by omega) (by omega) (by omega)) (e 13 (by omega) (by omega) (by omega)) (e 15 (by omega) (by omega) (by omega)) e16, fun t ht => by rw [e16 t (by omega)]; exact h.told t ht, h.steps.frame h8.2 (e 20 (by omega) (by omega) (by omega)) e22 e16', h.tld.frame (e 23 (by omega) (by omega) (by omega)) (e 24 (by omega) (by omega) (by omega)) (e 25 (by omega) (by omega) (by omega)) (e 26 (by omega) (by omega) (by omega)) (e 28 (by omega) (by omega) (by omega)) (e 29 (by omega) (by omega) (by omega)) (e 30 (by omega) (by omega) (by omega))⟩
theorem cityR.frame' {M M' : zM} {j : Nat} {a w : Nat → Int} (h : cityR M j a w) (e : ∀ k i, 11 ≤ k → k ≤ 16 → M' k i = M k i) : cityR M' j a w := by
  unfold cityR at h ⊢
  have r11 := e 11 j (by omega) (by omega)
  have r12 := e 12 j (by omega) (by omega)
  have r13 := e 13 j (by omega) (by omega)
  have r15 := e 15 j (by omega) (by omega)
  have r16 := fun i => e 16 i (by omega) (by omega)
  simp only [r11, r12, r13, r15, r16]
  exact h
