theorem headOK.setRoom {a : Nat → Int} {v : Int} (h : headOK a) (hv : 0 ≤ v ∧ v ≤ 99) : headOK (fun q => if q = 2 then v else a q) := by
  unfold headOK at h ⊢
  simp (disch := omega) only [if_neg, if_pos]
  obtain ⟨g1, g2, g3, g4, g5⟩ := h
  exact ⟨g1, g2, g3, hv, g5⟩
theorem rowOK.setRoom {a w : Nat → Int} {v : Int} (h : rowOK a w) : rowOK (fun q => if q = 2 then v else a q) w := by
  unfold rowOK at h ⊢
  simp (disch := omega) only [if_neg, if_pos]
  exact h
