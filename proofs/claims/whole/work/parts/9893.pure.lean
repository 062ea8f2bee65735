/-! text: what is read of TOKENS (kinds K, values V), by descent -/
abbrev zCd : Type := List (Int × Int)
abbrev zP : Type := Option ((Int × Nat) ⊕ (Nat × zCd))
def pF (w : Int) (i : Nat) : zP := some (.inl (w, i))
def pR (i : Nat) (c : zCd) : zP := some (.inr (i, c))
def pB (x : zP) (k : Nat → zCd → zP) : zP := match x with
  | none => none
  | some (.inl f) => some (.inl f)
  | some (.inr r) => k r.1 r.2
set_option maxRecDepth 8000 in
set_option maxHeartbeats 2000000 in
theorem pB_inv {x : zP} {k : Nat → zCd → zP} {r : (Int × Nat) ⊕ (Nat × zCd)} (h : pB x k = some r) : (∃ w f, x = pF w f ∧ r = .inl (w, f)) ∨ ∃ i c, x = pR i c ∧ k i c = some r := by
  cases x with
  | none => cases h
  | some y =>
    cases y with
    | inl f => cases h; exact Or.inl ⟨f.1, f.2, rfl, rfl⟩
    | inr q => exact Or.inr ⟨q.1, q.2, rfl, h⟩
def isNm (k : Int) : Bool := decide ((10 ≤ k ∧ k ≤ 15) ∨ k = 4 ∨ k = 5)
def mayNm (law k : Int) : Bool := decide (¬ (k = 15 ∨ (k = 5 ∧ law ≠ 2)) ∨ law = 3)
def zD (K V : Nat → Int) (law : Int) : Nat → Nat → Nat → Nat → Nat → zP
  | 0, _, _, _, _ => none
  | n + 1, t, o, i, b => match t with
    | 0 => pB (zD K V law n 1 o i b) fun i1 c1 => pB (zD K V law n 7 o i1 (b + c1.length)) fun i2 c2 => pR i2 (c1 ++ c2)
    | 1 => pB (zD K V law n 2 o i b) fun i1 c1 => pB (zD K V law n 8 o i1 (b + c1.length)) fun i2 c2 => pR i2 (c1 ++ c2)
    | 2 => if K i = 25 then (if V i ≤ 9999 then pR (i + 1) [(25, V i)] else pF 2 i)
      else if isNm (K i) = true then (if mayNm law (K i) = true then pR (i + 1) [(50, K i)] else pF 5 i)
      else if K i = 36 ∨ K i = 33 ∨ K i = 17 ∨ K i = 18 then (if o < 8 then zD K V law n 3 (o + 1) i b else pF 3 i)
      else pF 1 i
    | 3 => if K i = 36 then (pB (zD K V law n 0 o (i + 1) b) fun i1 c1 => if K i1 = 37 then pR (i1 + 1) c1 else pF 1 i1)
      else if K i = 33 then (pB (zD K V law n 2 o (i + 1) b) fun i1 c1 => pR i1 (c1 ++ [(51, 0)]))
      else if K i = 17 then (pB (zD K V law n 2 o (i + 1) b) fun i1 c1 => if K i1 = 16 then (pB (zD K V law n 2 o (i1 + 1) (b + c1.length)) fun i2 c2 => pR i2 (c1 ++ (c2 ++ [(17, 0)]))) else pF 1 i1)
      else if K i = 18 then (pB (zD K V law n 4 o (i + 1) b) fun i1 c1 => if K i1 = 19 then (pB (zD K V law n 0 o (i1 + 1) (b + c1.length + 1)) fun i2 c2 => if K i2 = 20 then (pB (zD K V law n 0 o (i2 + 1) (b + c1.length + 1 + c2.length + 1)) fun i3 c3 => if K i3 = 21 then pR (i3 + 1) (c1 ++ ((19, ((b + c1.length + 1 + c2.length + 1 : Nat) : Int)) :: (c2 ++ ((20, ((b + c1.length + 1 + c2.length + 1 + c3.length : Nat) : Int)) :: c3)))) else pF 1 i3) else pF 1 i2) else pF 1 i1) else none
    | 4 => pB (zD K V law n 5 o i b) fun i1 c1 => pB (zD K V law n 9 o i1 (b + c1.length)) fun i2 c2 => pR i2 (c1 ++ c2)
    | 5 => pB (zD K V law n 6 o i b) fun i1 c1 => pB (zD K V law n 10 o i1 (b + c1.length)) fun i2 c2 => pR i2 (c1 ++ c2)
    | 6 => if K i = 24 then (if o < 8 then (pB (zD K V law n 6 (o + 1) (i + 1) b) fun i1 c1 => pR i1 (c1 ++ [(24, 0)])) else pF 3 i)
      else pB (zD K V law n 0 o i b) fun i1 c1 => if 26 ≤ K i1 ∧ K i1 ≤ 31 then (pB (zD K V law n 0 o (i1 + 1) (b + c1.length)) fun i2 c2 => pR i2 (c1 ++ (c2 ++ [(K i1, 0)]))) else pF 1 i1
    | 7 => if K i = 32 ∨ K i = 33 then (pB (zD K V law n 1 o (i + 1) b) fun i1 c1 => pB (zD K V law n 7 o i1 (b + c1.length + 1)) fun i2 c2 => pR i2 (c1 ++ ((K i, 0) :: c2))) else pR i []
    | 8 => if K i = 34 ∨ K i = 35 then (pB (zD K V law n 2 o (i + 1) b) fun i1 c1 => pB (zD K V law n 8 o i1 (b + c1.length + 1)) fun i2 c2 => pR i2 (c1 ++ ((K i, 0) :: c2))) else pR i []
    | 9 => if K i = 22 then (pB (zD K V law n 5 o (i + 1) b) fun i1 c1 => pB (zD K V law n 9 o i1 (b + c1.length + 1)) fun i2 c2 => pR i2 (c1 ++ ((22, 0) :: c2))) else pR i []
    | 10 => if K i = 23 then (pB (zD K V law n 6 o (i + 1) b) fun i1 c1 => pB (zD K V law n 10 o i1 (b + c1.length + 1)) fun i2 c2 => pR i2 (c1 ++ ((23, 0) :: c2))) else pR i []
    | _ => none
section ZTXD
variable {K V : Nat → Int} {law : Int} {n o i b : Nat}
set_option maxRecDepth 8000 in
set_option maxHeartbeats 2000000 in
theorem zD_0 : zD K V law (n + 1) 0 o i b = pB (zD K V law n 1 o i b) fun i1 c1 => pB (zD K V law n 7 o i1 (b + c1.length)) fun i2 c2 => pR i2 (c1 ++ c2) := rfl
set_option maxRecDepth 8000 in
set_option maxHeartbeats 2000000 in
theorem zD_1 : zD K V law (n + 1) 1 o i b = pB (zD K V law n 2 o i b) fun i1 c1 => pB (zD K V law n 8 o i1 (b + c1.length)) fun i2 c2 => pR i2 (c1 ++ c2) := rfl
set_option maxRecDepth 8000 in
set_option maxHeartbeats 2000000 in
theorem zD_2 : zD K V law (n + 1) 2 o i b = if K i = 25 then (if V i ≤ 9999 then pR (i + 1) [(25, V i)] else pF 2 i)
      else if isNm (K i) = true then (if mayNm law (K i) = true then pR (i + 1) [(50, K i)] else pF 5 i)
      else if K i = 36 ∨ K i = 33 ∨ K i = 17 ∨ K i = 18 then (if o < 8 then zD K V law n 3 (o + 1) i b else pF 3 i)
      else pF 1 i := rfl
set_option maxRecDepth 8000 in
set_option maxHeartbeats 2000000 in
theorem zD_3 : zD K V law (n + 1) 3 o i b = if K i = 36 then (pB (zD K V law n 0 o (i + 1) b) fun i1 c1 => if K i1 = 37 then pR (i1 + 1) c1 else pF 1 i1)
      else if K i = 33 then (pB (zD K V law n 2 o (i + 1) b) fun i1 c1 => pR i1 (c1 ++ [(51, 0)]))
      else if K i = 17 then (pB (zD K V law n 2 o (i + 1) b) fun i1 c1 => if K i1 = 16 then (pB (zD K V law n 2 o (i1 + 1) (b + c1.length)) fun i2 c2 => pR i2 (c1 ++ (c2 ++ [(17, 0)]))) else pF 1 i1)
      else if K i = 18 then (pB (zD K V law n 4 o (i + 1) b) fun i1 c1 => if K i1 = 19 then (pB (zD K V law n 0 o (i1 + 1) (b + c1.length + 1)) fun i2 c2 => if K i2 = 20 then (pB (zD K V law n 0 o (i2 + 1) (b + c1.length + 1 + c2.length + 1)) fun i3 c3 => if K i3 = 21 then pR (i3 + 1) (c1 ++ ((19, ((b + c1.length + 1 + c2.length + 1 : Nat) : Int)) :: (c2 ++ ((20, ((b + c1.length + 1 + c2.length + 1 + c3.length : Nat) : Int)) :: c3)))) else pF 1 i3) else pF 1 i2) else pF 1 i1) else none := rfl
set_option maxRecDepth 8000 in
set_option maxHeartbeats 2000000 in
theorem zD_4 : zD K V law (n + 1) 4 o i b = pB (zD K V law n 5 o i b) fun i1 c1 => pB (zD K V law n 9 o i1 (b + c1.length)) fun i2 c2 => pR i2 (c1 ++ c2) := rfl
set_option maxRecDepth 8000 in
set_option maxHeartbeats 2000000 in
theorem zD_5 : zD K V law (n + 1) 5 o i b = pB (zD K V law n 6 o i b) fun i1 c1 => pB (zD K V law n 10 o i1 (b + c1.length)) fun i2 c2 => pR i2 (c1 ++ c2) := rfl
set_option maxRecDepth 8000 in
set_option maxHeartbeats 2000000 in
theorem zD_6 : zD K V law (n + 1) 6 o i b = if K i = 24 then (if o < 8 then (pB (zD K V law n 6 (o + 1) (i + 1) b) fun i1 c1 => pR i1 (c1 ++ [(24, 0)])) else pF 3 i)
      else pB (zD K V law n 0 o i b) fun i1 c1 => if 26 ≤ K i1 ∧ K i1 ≤ 31 then (pB (zD K V law n 0 o (i1 + 1) (b + c1.length)) fun i2 c2 => pR i2 (c1 ++ (c2 ++ [(K i1, 0)]))) else pF 1 i1 := rfl
set_option maxRecDepth 8000 in
set_option maxHeartbeats 2000000 in
theorem zD_7 : zD K V law (n + 1) 7 o i b = if K i = 32 ∨ K i = 33 then (pB (zD K V law n 1 o (i + 1) b) fun i1 c1 => pB (zD K V law n 7 o i1 (b + c1.length + 1)) fun i2 c2 => pR i2 (c1 ++ ((K i, 0) :: c2))) else pR i [] := rfl
set_option maxRecDepth 8000 in
set_option maxHeartbeats 2000000 in
theorem zD_8 : zD K V law (n + 1) 8 o i b = if K i = 34 ∨ K i = 35 then (pB (zD K V law n 2 o (i + 1) b) fun i1 c1 => pB (zD K V law n 8 o i1 (b + c1.length + 1)) fun i2 c2 => pR i2 (c1 ++ ((K i, 0) :: c2))) else pR i [] := rfl
set_option maxRecDepth 8000 in
set_option maxHeartbeats 2000000 in
theorem zD_9 : zD K V law (n + 1) 9 o i b = if K i = 22 then (pB (zD K V law n 5 o (i + 1) b) fun i1 c1 => pB (zD K V law n 9 o i1 (b + c1.length + 1)) fun i2 c2 => pR i2 (c1 ++ ((22, 0) :: c2))) else pR i [] := rfl
set_option maxRecDepth 8000 in
set_option maxHeartbeats 2000000 in
theorem zD_10 : zD K V law (n + 1) 10 o i b = if K i = 23 then (pB (zD K V law n 6 o (i + 1) b) fun i1 c1 => pB (zD K V law n 10 o i1 (b + c1.length + 1)) fun i2 c2 => pR i2 (c1 ++ ((23, 0) :: c2))) else pR i [] := rfl
end ZTXD
/-- how far it goes: m TOKENS in all -/
def bdP (t i m : Nat) (r : (Int × Nat) ⊕ (Nat × zCd)) : Prop := match r with
  | .inl q => (1 ≤ q.1 ∧ q.1 ≤ 6) ∧ i ≤ q.2 ∧ q.2 ≤ m
  | .inr q => i ≤ q.1 ∧ q.2.length ≤ q.1 - i ∧ (t < 7 → i < q.1 ∧ 0 < q.2.length) ∧ q.1 ≤ m
set_option maxRecDepth 8000 in
set_option maxHeartbeats 2000000 in
theorem bdP.fail {t i m f : Nat} {w : Int} (h1 : 1 ≤ w ∧ w ≤ 6) (h2 : i ≤ f) (h3 : f ≤ m) : bdP t i m (.inl (w, f)) := ⟨h1, h2, h3⟩
set_option maxRecDepth 8000 in
set_option maxHeartbeats 2000000 in
theorem zD_bd {K V : Nat → Int} {law : Int} {m : Nat} (hm : ∀ i, m ≤ i → K i = 40) : ∀ (n t o i b : Nat) (r : (Int × Nat) ⊕ (Nat × zCd)), i ≤ m → zD K V law n t o i b = some r → bdP t i m r := by
  have lt : ∀ i, K i ≠ 40 → i < m := fun i h => Nat.lt_of_not_le (fun z => h (hm i z))
  intro n
  induction n with
  | zero => intro t o i b r _ h; cases h
  | succ n ih =>
    -- one part, and a loop
    have two : ∀ (t s l o i b : Nat) (r : (Int × Nat) ⊕ (Nat × zCd)), s < 7 → i ≤ m → (pB (zD K V law n s o i b) fun i1 c1 => pB (zD K V law n l o i1 (b + c1.length)) fun i2 c2 => pR i2 (c1 ++ c2)) = some r → bdP t i m r := by
      intro t s l o i b r hs hi h
      rcases pB_inv h with ⟨w, f, h1, rfl⟩ | ⟨i1, c1, h1, h2⟩
      · have q := ih s o i b _ hi h1
        exact q
      · have q1 := ih s o i b _ hi h1
        obtain ⟨a1, a2, a3, a4⟩ := q1
        dsimp only at a1 a2 a3 a4
        have a3 := a3 hs
        rcases pB_inv h2 with ⟨w, f, h3, rfl⟩ | ⟨i2, c2, h3, h4⟩
        · obtain ⟨b1, b2, b3⟩ := ih l o i1 _ _ a4 h3
          exact ⟨b1, by dsimp only at b2 ⊢; omega, b3⟩
        · obtain ⟨b1, b2, b3, b4⟩ := ih l o i1 _ _ a4 h3
          dsimp only at b1 b2 b3 b4
          cases h4
          refine ⟨by dsimp only; omega, ?_, fun _ => ⟨by dsimp only; omega, ?_⟩, b4⟩ <;> (dsimp only; rw [List.length_append]; omega)
    have loop : ∀ (t s o i b : Nat) (op : Int) (r : (Int × Nat) ⊕ (Nat × zCd)), s < 7 → ¬ t < 7 → i ≤ m → K i ≠ 40 → (pB (zD K V law n s o (i + 1) b) fun i1 c1 => pB (zD K V law n t o i1 (b + c1.length + 1)) fun i2 c2 => pR i2 (c1 ++ ((op, 0) :: c2))) = some r → bdP t i m r := by
      intro t s o i b op r hs ht hi hk h
      have hlt := lt i hk
      rcases pB_inv h with ⟨w, f, h1, rfl⟩ | ⟨i1, c1, h1, h2⟩
      · obtain ⟨b1, b2, b3⟩ := ih s o (i + 1) b _ (by omega) h1
        exact ⟨b1, by dsimp only at b2 ⊢; omega, b3⟩
      · obtain ⟨a1, a2, a3, a4⟩ := ih s o (i + 1) b _ (by omega) h1
        dsimp only at a1 a2 a3 a4
        have a3 := a3 hs
        rcases pB_inv h2 with ⟨w, f, h3, rfl⟩ | ⟨i2, c2, h3, h4⟩
        · obtain ⟨b1, b2, b3⟩ := ih t o i1 _ _ a4 h3
          exact ⟨b1, by dsimp only at b2 ⊢; omega, b3⟩
        · obtain ⟨b1, b2, b3, b4⟩ := ih t o i1 _ _ a4 h3
          dsimp only at b1 b2 b3 b4
          cases h4
          refine ⟨by dsimp only; omega, ?_, fun z => absurd z ht, b4⟩
          dsimp only; rw [List.length_append, List.length_cons]; omega
    intro t o i b r hi h
    match t, h with
    | 0, h => exact two 0 1 7 o i b r (by omega) hi h
    | 1, h => exact two 1 2 8 o i b r (by omega) hi h
    | 4, h => exact two 4 5 9 o i b r (by omega) hi h
    | 5, h => exact two 5 6 10 o i b r (by omega) hi h
    | 7, h =>
      rw [zD_7] at h
      by_cases hk : K i = 32 ∨ K i = 33
      · rw [if_pos hk] at h; exact loop 7 1 o i b _ r (by omega) (by omega) hi (by omega) h
      · rw [if_neg hk] at h; cases h; exact ⟨Nat.le_refl _, Nat.zero_le _, fun z => absurd z (by omega), hi⟩
    | 8, h =>
      rw [zD_8] at h
      by_cases hk : K i = 34 ∨ K i = 35
      · rw [if_pos hk] at h; exact loop 8 2 o i b _ r (by omega) (by omega) hi (by omega) h
      · rw [if_neg hk] at h; cases h; exact ⟨Nat.le_refl _, Nat.zero_le _, fun z => absurd z (by omega), hi⟩
    | 9, h =>
      rw [zD_9] at h
      by_cases hk : K i = 22
      · rw [if_pos hk] at h; exact loop 9 5 o i b _ r (by omega) (by omega) hi (by omega) h
      · rw [if_neg hk] at h; cases h; exact ⟨Nat.le_refl _, Nat.zero_le _, fun z => absurd z (by omega), hi⟩
    | 10, h =>
      rw [zD_10] at h
      by_cases hk : K i = 23
      · rw [if_pos hk] at h; exact loop 10 6 o i b _ r (by omega) (by omega) hi (by omega) h
      · rw [if_neg hk] at h; cases h; exact ⟨Nat.le_refl _, Nat.zero_le _, fun z => absurd z (by omega), hi⟩
    | 2, h =>
      rw [zD_2] at h
      by_cases k1 : K i = 25
      · have := lt i (by omega)
        rw [if_pos k1] at h
        by_cases k2 : V i ≤ 9999
        · rw [if_pos k2] at h; cases h; exact ⟨by dsimp only; omega, by dsimp only [List.length_singleton]; simp, fun _ => ⟨by dsimp only; omega, by simp⟩, by dsimp only; omega⟩
        · rw [if_neg k2] at h; cases h; exact bdP.fail (by omega) (by omega) (by omega)
      · rw [if_neg k1] at h
        by_cases k2 : isNm (K i) = true
        · have := lt i (by
            unfold isNm at k2
            have := of_decide_eq_true k2
            omega)
          rw [if_pos k2] at h
          by_cases k3 : mayNm law (K i) = true
          · rw [if_pos k3] at h; cases h; exact ⟨by dsimp only; omega, by dsimp only [List.length_singleton]; simp, fun _ => ⟨by dsimp only; omega, by simp⟩, by dsimp only; omega⟩
          · rw [if_neg k3] at h; cases h; exact bdP.fail (by omega) (by omega) (by omega)
        · rw [if_neg k2] at h
          by_cases k3 : K i = 36 ∨ K i = 33 ∨ K i = 17 ∨ K i = 18
          · rw [if_pos k3] at h
            by_cases k4 : o < 8
            · rw [if_pos k4] at h
              have q := ih 3 (o + 1) i b r hi h
              cases r with
              | inl q1 => exact q
              | inr q1 => exact ⟨q.1, q.2.1, fun _ => q.2.2.1 (by omega), q.2.2.2⟩
            · rw [if_neg k4] at h; cases h; exact bdP.fail (by omega) (by omega) (by omega)
          · rw [if_neg k3] at h; cases h; exact bdP.fail (by omega) (by omega) (by omega)
    | 3, h =>
      rw [zD_3] at h
      have im : ∀ s i1 b r, i1 ≤ m → zD K V law n s o i1 b = some r → bdP s i1 m r := fun s i1 b r h1 h2 => ih s o i1 b r h1 h2
      by_cases k1 : K i = 36
      · have hlt := lt i (by omega)
        rw [if_pos k1] at h
        rcases pB_inv h with ⟨w, f, h1, rfl⟩ | ⟨i1, c1, h1, h2⟩
        · obtain ⟨b1, b2, b3⟩ := im _ _ _ _ (by omega) h1
          exact ⟨b1, by dsimp only at b2 ⊢; omega, b3⟩
        · obtain ⟨a1, a2, a3, a4⟩ := im _ _ _ _ (by omega) h1
          dsimp only at a1 a2 a3 a4
          have a3 := a3 (by omega)
          by_cases k2 : K i1 = 37
          · have := lt i1 (by omega)
            rw [if_pos k2] at h2; cases h2
            exact ⟨by dsimp only; omega, by dsimp only; omega, fun _ => ⟨by dsimp only; omega, a3.2⟩, by dsimp only; omega⟩
          · rw [if_neg k2] at h2; cases h2; exact bdP.fail (by omega) (by omega) a4
      · rw [if_neg k1] at h
        by_cases k2 : K i = 33
        · have hlt := lt i (by omega)
          rw [if_pos k2] at h
          rcases pB_inv h with ⟨w, f, h1, rfl⟩ | ⟨i1, c1, h1, h2⟩
          · obtain ⟨b1, b2, b3⟩ := im _ _ _ _ (by omega) h1
            exact ⟨b1, by dsimp only at b2 ⊢; omega, b3⟩
          · obtain ⟨a1, a2, a3, a4⟩ := im _ _ _ _ (by omega) h1
            dsimp only at a1 a2 a3 a4
            have a3 := a3 (by omega)
            cases h2
            refine ⟨by dsimp only; omega, ?_, fun _ => ⟨by dsimp only; omega, ?_⟩, a4⟩ <;> (dsimp only; rw [List.length_append, List.length_singleton]; omega)
        · rw [if_neg k2] at h
          by_cases k3 : K i = 17
          · have hlt := lt i (by omega)
            rw [if_pos k3] at h
            rcases pB_inv h with ⟨w, f, h1, rfl⟩ | ⟨i1, c1, h1, h2⟩
            · obtain ⟨b1, b2, b3⟩ := im _ _ _ _ (by omega) h1
              exact ⟨b1, by dsimp only at b2 ⊢; omega, b3⟩
            · obtain ⟨a1, a2, a3, a4⟩ := im _ _ _ _ (by omega) h1
              dsimp only at a1 a2 a3 a4
              have a3 := a3 (by omega)
              by_cases k4 : K i1 = 16
              · have hlt1 := lt i1 (by omega)
                rw [if_pos k4] at h2
                rcases pB_inv h2 with ⟨w, f, h3, rfl⟩ | ⟨i2, c2, h3, h4⟩
                · obtain ⟨b1, b2, b3⟩ := im _ _ _ _ (by omega) h3
                  exact ⟨b1, by dsimp only at b2 ⊢; omega, b3⟩
                · obtain ⟨b1, b2, b3, b4⟩ := im _ _ _ _ (by omega) h3
                  dsimp only at b1 b2 b3 b4
                  have b3 := b3 (by omega)
                  cases h4
                  refine ⟨by dsimp only; omega, ?_, fun _ => ⟨by dsimp only; omega, ?_⟩, b4⟩ <;> (dsimp only; rw [List.length_append, List.length_append, List.length_singleton]; omega)
              · rw [if_neg k4] at h2; cases h2; exact bdP.fail (by omega) (by omega) a4
          · rw [if_neg k3] at h
            by_cases k18 : K i = 18
            · have hlt := lt i (by omega)
              rw [if_pos k18] at h
              rcases pB_inv h with ⟨w, f, h1, rfl⟩ | ⟨i1, c1, h1, h2⟩
              · obtain ⟨b1, b2, b3⟩ := im _ _ _ _ (by omega) h1
                exact ⟨b1, by dsimp only at b2 ⊢; omega, b3⟩
              · obtain ⟨a1, a2, a3, a4⟩ := im _ _ _ _ (by omega) h1
                dsimp only at a1 a2 a3 a4
                have a3 := a3 (by omega)
                by_cases k4 : K i1 = 19
                · have hlt1 := lt i1 (by omega)
                  rw [if_pos k4] at h2
                  rcases pB_inv h2 with ⟨w, f, h3, rfl⟩ | ⟨i2, c2, h3, h4⟩
                  · obtain ⟨b1, b2, b3⟩ := im _ _ _ _ (by omega) h3
                    exact ⟨b1, by dsimp only at b2 ⊢; omega, b3⟩
                  · obtain ⟨b1, b2, b3, b4⟩ := im _ _ _ _ (by omega) h3
                    dsimp only at b1 b2 b3 b4
                    have b3 := b3 (by omega)
                    by_cases k5 : K i2 = 20
                    · have hlt2 := lt i2 (by omega)
                      rw [if_pos k5] at h4
                      rcases pB_inv h4 with ⟨w, f, h5, rfl⟩ | ⟨i3, c3, h5, h6⟩
                      · obtain ⟨d1, d2, d3⟩ := im _ _ _ _ (by omega) h5
                        exact ⟨d1, by dsimp only at d2 ⊢; omega, d3⟩
                      · obtain ⟨d1, d2, d3, d4⟩ := im _ _ _ _ (by omega) h5
                        dsimp only at d1 d2 d3 d4
                        have d3 := d3 (by omega)
                        by_cases k6 : K i3 = 21
                        · have hlt3 := lt i3 (by omega)
                          rw [if_pos k6] at h6
                          cases h6
                          refine ⟨by dsimp only; omega, ?_, fun _ => ⟨by dsimp only; omega, ?_⟩, by dsimp only; omega⟩ <;> (dsimp only; rw [List.length_append, List.length_cons, List.length_append, List.length_cons]; omega)
                        · rw [if_neg k6] at h6; cases h6; exact bdP.fail (by omega) (by omega) d4
                    · rw [if_neg k5] at h4; cases h4; exact bdP.fail (by omega) (by omega) b4
                · rw [if_neg k4] at h2; cases h2; exact bdP.fail (by omega) (by omega) a4
            · rw [if_neg k18] at h; cases h
    | 6, h =>
      rw [zD_6] at h
      have im : ∀ s o i1 b r, i1 ≤ m → zD K V law n s o i1 b = some r → bdP s i1 m r := fun s o i1 b r h1 h2 => ih s o i1 b r h1 h2
      by_cases k1 : K i = 24
      · have hlt := lt i (by omega)
        rw [if_pos k1] at h
        by_cases k2 : o < 8
        · rw [if_pos k2] at h
          rcases pB_inv h with ⟨w, f, h1, rfl⟩ | ⟨i1, c1, h1, h2⟩
          · obtain ⟨b1, b2, b3⟩ := im _ _ _ _ _ (by omega) h1
            exact ⟨b1, by dsimp only at b2 ⊢; omega, b3⟩
          · obtain ⟨a1, a2, a3, a4⟩ := im _ _ _ _ _ (by omega) h1
            dsimp only at a1 a2 a3 a4
            have a3 := a3 (by omega)
            cases h2
            refine ⟨by dsimp only; omega, ?_, fun _ => ⟨by dsimp only; omega, ?_⟩, a4⟩ <;> (dsimp only; rw [List.length_append, List.length_singleton]; omega)
        · rw [if_neg k2] at h; cases h; exact bdP.fail (by omega) (by omega) (by omega)
      · rw [if_neg k1] at h
        rcases pB_inv h with ⟨w, f, h1, rfl⟩ | ⟨i1, c1, h1, h2⟩
        · obtain ⟨b1, b2, b3⟩ := im _ _ _ _ _ (by omega) h1
          exact ⟨b1, b2, b3⟩
        · obtain ⟨a1, a2, a3, a4⟩ := im _ _ _ _ _ (by omega) h1
          dsimp only at a1 a2 a3 a4
          have a3 := a3 (by omega)
          by_cases k4 : 26 ≤ K i1 ∧ K i1 ≤ 31
          · have hlt1 := lt i1 (by omega)
            rw [if_pos k4] at h2
            rcases pB_inv h2 with ⟨w, f, h3, rfl⟩ | ⟨i2, c2, h3, h4⟩
            · obtain ⟨b1, b2, b3⟩ := im _ _ _ _ _ (by omega) h3
              exact ⟨b1, by dsimp only at b2 ⊢; omega, b3⟩
            · obtain ⟨b1, b2, b3, b4⟩ := im _ _ _ _ _ (by omega) h3
              dsimp only at b1 b2 b3 b4
              have b3 := b3 (by omega)
              cases h4
              refine ⟨by dsimp only; omega, ?_, fun _ => ⟨by dsimp only; omega, ?_⟩, b4⟩ <;> (dsimp only; rw [List.length_append, List.length_append, List.length_singleton]; omega)
          · rw [if_neg k4] at h2; cases h2; exact bdP.fail (by omega) (by omega) a4
    | t + 11, h => cases h
