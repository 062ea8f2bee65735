/-! calls: twice, worth -/
/-- a thing came back twice to one owner, by the first n cards -/
def twB (w : Nat → Int) (n : Nat) (t : Nat) : Bool := decide (∃ i : Nat, i < n ∧ ∃ j : Nat, j < i ∧ w (42 + 4 * i) = t ∧ w (42 + 4 * j) = t ∧ w (43 + 4 * i) = w (43 + 4 * j))
set_option maxRecDepth 8000 in
set_option maxHeartbeats 2000000 in
theorem cntB_two {w : Nat → Int} {t o : Int} : ∀ n, 2 ≤ cntB w t o n ↔ ∃ i : Nat, i < n ∧ ∃ j : Nat, j < i ∧ (w (42 + 4 * i) = t ∧ w (43 + 4 * i) = o) ∧ (w (42 + 4 * j) = t ∧ w (43 + 4 * j) = o) := by
  have one : ∀ n, 1 ≤ cntB w t o n ↔ ∃ j : Nat, j < n ∧ (w (42 + 4 * j) = t ∧ w (43 + 4 * j) = o) := by
    intro n
    induction n with
    | zero =>
      constructor
      · intro h; exact absurd h (by show ¬ 1 ≤ 0; omega)
      · rintro ⟨j, hj, _⟩; omega
    | succ n ih =>
      rw [cntB_one, ih]
      constructor
      · rintro (⟨j, hj, h⟩ | h)
        · exact ⟨j, by omega, h⟩
        · exact ⟨n, by omega, h⟩
      · rintro ⟨j, hj, h⟩
        by_cases hjn : j = n
        · subst hjn; exact Or.inr h
        · exact Or.inl ⟨j, by omega, h⟩
  intro n
  induction n with
  | zero =>
    constructor
    · intro h; exact absurd h (by show ¬ 2 ≤ 0; omega)
    · rintro ⟨i, hi, _⟩; omega
  | succ n ih =>
    show 2 ≤ cntB w t o n + (if w (42 + 4 * n) = t ∧ w (43 + 4 * n) = o then 1 else 0) ↔ _
    by_cases h : w (42 + 4 * n) = t ∧ w (43 + 4 * n) = o
    · rw [if_pos h]
      constructor
      · intro h2
        obtain ⟨j, hj, h3⟩ := (one n).mp (by omega)
        exact ⟨n, by omega, j, hj, h, h3⟩
      · rintro ⟨i, hi, j, hj, h3, h4⟩
        have := (one n).mpr ⟨j, by omega, h4⟩
        omega
    · rw [if_neg h, Nat.add_zero, ih]
      constructor
      · rintro ⟨i, hi, h3⟩
        exact ⟨i, by omega, h3⟩
      · rintro ⟨i, hi, j, hj, h3, h4⟩
        by_cases hin : i = n
        · subst hin; exact absurd h3 h
        · exact ⟨i, by omega, j, hj, h3, h4⟩
