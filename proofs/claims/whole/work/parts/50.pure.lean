/-! THE PURE PART: loops, stores -/
/-- a loop with a variant: from k turns at most, it ends, with what is wanted -/
theorem zlp_inv {S E : Type} {body : S → Option (S ⊕ E)} (P : Nat → S → Prop) (Post : E → Prop) (step : ∀ k s, P k s → (∃ s' k', body s = some (.inl s') ∧ k' < k ∧ P k' s') ∨ (∃ e, body s = some (.inr e) ∧ Post e)) : ∀ (n k : Nat) (s : S), k < n → P k s → ∃ e, zlp body n s = some e ∧ Post e := by
  intro n
  induction n with
  | zero => intro k s h; omega
  | succ n ih =>
    intro k s h hP
    rcases step k s hP with ⟨s', k', h1, h2, h3⟩ | ⟨e, h1, h2⟩
    · obtain ⟨e, h4, h5⟩ := ih k' s' (by omega) h3
      exact ⟨e, by unfold zlp; rw [h1]; exact h4, h5⟩
    · exact ⟨e, by unfold zlp; rw [h1], h2⟩
theorem zput_eq (M : zM) (k i j : Nat) (v : Int) : zput M k i j v k i j = v := by unfold zput; rw [if_pos ⟨rfl, rfl, rfl⟩]
theorem zput_k {M : zM} {k i j : Nat} {v : Int} {k' i' j' : Nat} (h : k' ≠ k) : zput M k i j v k' i' j' = M k' i' j' := by unfold zput; rw [if_neg (fun q => h q.1)]
theorem zput_i {M : zM} {k i j : Nat} {v : Int} {k' i' j' : Nat} (h : i' ≠ i) : zput M k i j v k' i' j' = M k' i' j' := by unfold zput; rw [if_neg (fun q => h q.2.1)]
theorem zput_j {M : zM} {k i j : Nat} {v : Int} {k' i' j' : Nat} (h : j' ≠ j) : zput M k i j v k' i' j' = M k' i' j' := by unfold zput; rw [if_neg (fun q => h q.2.2)]
theorem zput_at (M : zM) (k i j : Nat) (v : Int) (k' i' j' : Nat) : zput M k i j v k' i' j' = if k' = k ∧ i' = i ∧ j' = j then v else M k' i' j' := rfl
theorem zput_row (M : zM) (k i j : Nat) (v : Int) : zput M k i j v k i = fun q => if q = j then v else M k i q := by
  funext q
  unfold zput
  by_cases h : q = j
  · rw [if_pos ⟨rfl, rfl, h⟩, if_pos h]
  · rw [if_neg (fun z => h z.2.2), if_neg h]
theorem zput_rowk {M : zM} {k i j : Nat} {v : Int} {k' i' : Nat} (h : k' ≠ k ∨ i' ≠ i) : zput M k i j v k' i' = M k' i' := by
  funext q
  unfold zput
  rw [if_neg (fun z => h.elim (fun g => g z.1) (fun g => g z.2.1))]
theorem zix_id {z : Int} {n : Nat} (h : z = (n : Int)) (h2 : n < 2147483648) : zix z = n := by
  subst h
  have : zw (n : Int) = (n : Int) := zw_id (by omega) (by omega)
  first
    | (unfold zix; rw [this]; rfl)
    | (unfold zix; omega)
    | (unfold zix; rfl)
/-- the reference's copies: all of a comes to the image, or the other way -/
theorem copies_out (M : zM) : ∃ M', f_X11_copies 1 M = some M' ∧ (∀ k i, ¬ (k = 44 ∧ i = 0) → M' k i = M k i) ∧ (∀ j, j < 5090 → M' 44 0 j = M 43 0 j) := by
  have key := zlp_inv (body := fun s : Int × zM => f_X11_copies_L2 1 s.1 s.2) (fun k s => ∃ n : Nat, s.1 = (n : Int) ∧ n + k = 5090 ∧ (∀ k i, ¬ (k = 44 ∧ i = 0) → s.2 k i = M k i) ∧ (∀ j, j < n → s.2 44 0 j = M 43 0 j)) (fun M' => (∀ k i, ¬ (k = 44 ∧ i = 0) → M' k i = M k i) ∧ (∀ j, j < 5090 → M' 44 0 j = M 43 0 j)) ?_ zF 5090 (0, M) (by decide) ⟨0, rfl, rfl, fun _ _ _ => rfl, fun j h => by omega⟩
  · obtain ⟨M', h1, h2, h3⟩ := key
    refine ⟨M', ?_, h2, h3⟩
    unfold f_X11_copies
    rw [h1]
    rfl
  · rintro k ⟨i, N⟩ ⟨n, rfl, hk, h1, h2⟩
    dsimp only at h1 h2 ⊢
    have hz : zw (n : Int) = (n : Int) := zw_id (by omega) (by omega)
    unfold f_X11_copies_L2
    rw [hz]
    by_cases hn : 5090 ≤ (n : Int)
    · rw [if_pos hn]
      exact Or.inr ⟨N, rfl, h1, fun j hj => h2 j (by omega)⟩
    · rw [if_neg hn, if_neg (show ¬ zw 1 = 0 by decide), if_pos ⟨by omega, by omega⟩, if_pos ⟨by omega, by omega⟩, zix_id rfl (by omega)]
      refine Or.inl ⟨((n : Int) + 1, zput N 44 0 n (N 43 0 n)), k - 1, rfl, by omega, n + 1, by simp, by omega, fun k i h => ?_, fun j hj => ?_⟩
      · show zput N 44 0 n (N 43 0 n) k i = M k i
        rw [zput_rowk (k := 44) (i := 0) (k' := k) (i' := i) (by omega)]
        exact h1 k i h
      · dsimp only
        rw [zput_row]
        dsimp only
        by_cases hj2 : j = n
        · rw [if_pos hj2, hj2, h1 43 0 (by omega)]
        · rw [if_neg hj2]
          exact h2 j (by omega)
