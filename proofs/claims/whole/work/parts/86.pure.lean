/-! calls: voted, lying -/
/-- what is voted: by the mean, by the middle -/
noncomputable def outF (g : Nat → Int) (n : Nat) (mean : Bool) : Int := if mean then Int.tdiv (sumN g n) n else Classical.epsilon (fun L => IsMid g n L)
set_option maxRecDepth 8000 in
set_option maxHeartbeats 2000000 in
theorem outF_mid {g : Nat → Int} {n : Nat} {r : Int} (h : IsMid g n r) : outF g n false = r := by
  have h2 : IsMid g n (Classical.epsilon (fun L => IsMid g n L)) := Classical.epsilon_spec ⟨r, h⟩
  exact h2.uniq h
set_option maxRecDepth 8000 in
set_option maxHeartbeats 2000000 in
theorem mean_le {g : Nat → Int} {n : Nat} (hn : 0 < n) (hg : ∀ i, i < n → 0 ≤ g i ∧ g i ≤ 99) : (0 ≤ sumN g n ∧ sumN g n ≤ n * 99) ∧ 0 ≤ Int.tdiv (sumN g n) n ∧ Int.tdiv (sumN g n) n ≤ 99 := by
  have h := sumN_le (f := g) (n := n) (b := 99) hg
  refine ⟨h, ?_⟩
  rw [Int.tdiv_eq_ediv_of_nonneg h.1]
  refine ⟨Int.ediv_nonneg h.1 (by omega), ?_⟩
  have : sumN g n / n < 100 := Int.ediv_lt_of_lt_mul (by omega) (by omega)
  omega
set_option maxRecDepth 8000 in
set_option maxHeartbeats 2000000 in
theorem X_outcome {M : zM} {n : Nat} {f : Nat → Int} {y : Int} (hn : 0 < n ∧ n ≤ 9) (h8 : M 23 0 8 = n) (hf : ∀ i, i < n → M 26 0 i = f i ∧ 0 ≤ f i ∧ f i ≤ 99) : ∃ M', f_X9_outcome 0 y M = some (outF f n (decide (zw y ≠ 0)), M') ∧ (0 ≤ outF f n (decide (zw y ≠ 0)) ∧ outF f n (decide (zw y ≠ 0)) ≤ 99) ∧ ∀ k i, ¬ (k = 27 ∧ i = 0) → M' k i = M k i := by
  unfold f_X9_outcome
  by_cases hy : zw y = 0
  · obtain ⟨r, M', e1, e2, e3, e4⟩ := X_middle hn h8 hf
    rw [if_pos hy, e1, show decide (zw y ≠ 0) = false from decide_eq_false (fun z => z hy), outF_mid e2]
    simp only [zbs]
    exact ⟨M', rfl, e3, e4⟩
  · obtain ⟨m1, m2⟩ := mean_le (g := f) (n := n) hn.1 (fun i hi => (hf i hi).2)
    have key : zlp (fun s : Int × Int => f_X9_mean_L4 0 s.1 s.2 M) zF (0, 0) = some (sumN f n) := zlp_fun (body := fun s : Int × Int => f_X9_mean_L4 0 s.1 s.2 M) (fun i => (sumN f i, (i : Int))) n (sumN f n) (fun i hi => by
      unfold f_X9_mean_L4
      dsimp only
      rw [h8, zw_nat (by omega), zw_nat (by omega), if_neg (by omega), if_pos (by omega), zix_nat (by omega), (hf i hi).1]
      rfl) (by
      unfold f_X9_mean_L4
      dsimp only
      rw [h8, zw_nat (by omega), if_pos (by omega)]) (m := zF) (by unfold zF; omega)
    rw [if_neg hy, show decide (zw y ≠ 0) = true from decide_eq_true hy]
    unfold f_X9_mean
    rw [key]
    simp only [zbs]
    rw [h8, zw_nat (n := n) (by omega), if_pos (by omega), if_neg (by omega), zw_id (z := sumN f n) (by omega) (by omega)]
    simp only [zbs]
    exact ⟨M, rfl, m2, fun _ _ _ => rfl⟩
set_option maxRecDepth 8000 in
set_option maxHeartbeats 2000000 in
/-- the reference: k's vote being other -/
theorem R_votedBy {M : zM} {A g : Nat → Int} {n : Nat} {k other y : Int} (hM : M 43 0 = A) (hn : 0 < n ∧ n ≤ 9) (h7 : A 7 = n) (hk : -1 ≤ k ∧ k < 9) (ho : 0 ≤ other ∧ other ≤ 99) (hA : ∀ i : Nat, i < n → 0 ≤ A (48 + i) ∧ A (48 + i) ≤ 99) (hg : ∀ i : Nat, i < n → g i = if (i : Int) = k then other else A (48 + i)) : f_X11_votedBy k other y M = some (outF g n (decide (zw y ≠ 0)), M) := by
  have m7 : M 43 0 7 = (n : Int) := by rw [hM]; exact h7
  have hgb : ∀ i, i < n → 0 ≤ g i ∧ g i ≤ 99 := fun i hi => by
    rw [hg i hi]
    have := hA i hi
    split <;> omega
  obtain ⟨b1, b2⟩ := mean_le (g := g) (n := n) hn.1 hgb
  have key : zlp (fun s : Int × Int => f_X11_votedBy_L6 k other y s.1 s.2 M) zF (0, 0) = some (sumN g n) := zlp_fun (body := fun s : Int × Int => f_X11_votedBy_L6 k other y s.1 s.2 M) (fun i => (sumN g i, (i : Int))) n (sumN g n) (fun i hi => by
    have e : M 43 0 (48 + i) = A (48 + i) := by rw [hM]
    unfold f_X11_votedBy_L6 f_X11_votedBy_j40
    dsimp only
    rw [m7, zw_nat (n := i) (by omega), zw_nat (n := n) (by omega), if_neg (by omega), zw_id (z := k) (by omega) (by omega), zi48 (by omega), e, zw_id (z := 48 + (i : Int)) (by omega) (by omega)]
    show _ = some (Sum.inl (sumN g i + g i, ((i + 1 : Nat) : Int)))
    rw [hg i hi]
    by_cases hik : (i : Int) = k
    · rw [if_neg (nn_ hik), if_pos hik]; rfl
    · rw [if_pos hik, if_neg hik, if_pos (by omega)]; rfl) (by
    unfold f_X11_votedBy_L6
    dsimp only
    rw [m7, zw_nat (by omega), if_pos (by omega)]) (m := zF) (by unfold zF; omega)
  unfold f_X11_votedBy
  rw [key]
  simp only [zbs]
  by_cases hy : zw y = 0
  · rw [if_pos hy, show decide (zw y ≠ 0) = false from decide_eq_false (fun z => z hy)]
    have cnt : ∀ low : Nat, low ≤ 100 → zlp (fun s : Int × Int => f_X11_votedBy_L90 k other (low : Int) s.1 s.2 M) zF (0, 0) = some ((cntL g (low : Int) n : Nat) : Int) := by
      intro low hl
      refine zlp_fun (body := fun s : Int × Int => f_X11_votedBy_L90 k other (low : Int) s.1 s.2 M) (fun i => (((cntL g (low : Int) i : Nat) : Int), (i : Int))) n _ (fun i hi => ?_) ?_ (m := zF) (by unfold zF; omega)
      · have e : M 43 0 (48 + i) = A (48 + i) := by rw [hM]
        have hAi := hA i hi
        have hstep : cntL g (low : Int) (i + 1) = cntL g (low : Int) i + (if g i ≤ low then 1 else 0) := rfl
        unfold f_X11_votedBy_L90 f_X11_votedBy_j124 f_X11_votedBy_j134
        dsimp only
        rw [hstep, hg i hi, m7, zw_nat (n := i) (by omega), zw_nat (n := n) (by omega), if_neg (by omega), zw_id (z := k) (by omega) (by omega), zi48 (by omega), e, zw_id (z := 48 + (i : Int)) (by omega) (by omega), zw_nat (n := low) (by omega), zw_id (z := A (48 + i)) (by omega) (by omega), zw_id (z := other) (by omega) (by omega)]
        by_cases hik : (i : Int) = k
        · rw [if_neg (nn_ hik), if_pos hik]
          by_cases hle : other ≤ low
          · rw [if_neg (by omega), if_pos hle]; rfl
          · rw [if_pos (by omega), if_neg hle]; rfl
        · rw [if_pos hik, if_neg hik, if_pos (by omega)]
          by_cases hle : A (48 + i) ≤ low
          · rw [if_neg (by omega), if_pos hle]; rfl
          · rw [if_pos (by omega), if_neg hle]; rfl
      · unfold f_X11_votedBy_L90
        dsimp only
        rw [m7, zw_nat (by omega), if_pos (by omega)]
    have key2 := zT_for (body := fun s : Int × Int => f_X11_votedBy_L70 k other s.1 s.2 M) (fun low s => s.1 = (low : Int) ∧ s.2 = ((cntL g ((low : Int) - 1) n : Nat) : Int) ∧ ∀ L' : Int, L' < (low : Int) - 1 → 2 * cntL g L' n < n) 100 (Q := fun e => IsMid g n (e - 1)) ?_ (m := zF) (by unfold zF; omega) (s := (0, 0)) ⟨rfl, by
        have hz : ∀ m, m ≤ n → cntL g (((0 : Nat) : Int) - 1) m = 0 := by
          intro m
          induction m with
          | zero => intro _; rfl
          | succ m ih =>
            intro hm
            show cntL g _ m + (if g m ≤ ((0 : Nat) : Int) - 1 then 1 else 0) = 0
            have := hgb m (by omega)
            rw [ih (by omega), if_neg (by omega)]
        rw [hz n (by omega)]; rfl, fun L' hL => by
        have hz : ∀ m, m ≤ n → cntL g L' m = 0 := by
          intro m
          induction m with
          | zero => intro _; rfl
          | succ m ih =>
            intro hm
            show cntL g _ m + (if g m ≤ L' then 1 else 0) = 0
            have := hgb m (by omega)
            rw [ih (by omega), if_neg (by omega)]
        rw [hz n (by omega)]; omega⟩
    · obtain ⟨e, k1, k2⟩ := key2
      rw [k1]
      simp only [zbs]
      rw [outF_mid k2]
    · rintro low ⟨x, c⟩ hl ⟨h1, h2, h3⟩
      dsimp only at h1 h2 h3 ⊢
      subst h1 h2
      have hcl := cntL_le (g := g) (L := (low : Int) - 1) n
      unfold f_X11_votedBy_L70
      rw [m7, zw_nat (n := n) (by omega), zw_id (by omega) (by omega)]
      by_cases hc : (n : Int) ≤ 2 * ((cntL g ((low : Int) - 1) n : Nat) : Int)
      · rw [if_pos hc]
        exact zT_some (Or.inr ⟨_, rfl, by omega, h3⟩)
      · rw [if_neg hc, cnt low hl]
        simp only [zbs]
        have hlt : low < 100 := by
          by_cases h100 : low = 100
          · have := cntL_all (g := g) (L := (low : Int) - 1) n (fun i hi => by have := hgb i hi; omega)
            omega
          · omega
        refine zT_some (Or.inl ⟨_, rfl, hlt, by dsimp only; omega, ?_, fun L' hL => ?_⟩)
        · dsimp only
          rw [show ((low + 1 : Nat) : Int) - 1 = (low : Int) by omega]
        · by_cases hL2 : L' < (low : Int) - 1
          · exact h3 L' hL2
          · rw [show L' = (low : Int) - 1 by omega]; omega
  · rw [if_neg hy, show decide (zw y ≠ 0) = true from decide_eq_true hy, m7, zw_nat (n := n) (by omega), if_neg (by omega), zw_id (z := sumN g n) (by omega) (by omega)]
    rfl
set_option maxRecDepth 8000 in
set_option maxHeartbeats 2000000 in
theorem call_voted {M : zM} {y : Int} (h : zI M) : zCall (f_X10_voted y M) (fun N => f_X11_voted y N) := by
  have hz := h
  obtain ⟨T, hI⟩ := h
  have w0 := hI.w0
  have hA := w0.head
  have h7 := hA.vts
  have hv := w0.tld.votes
  by_cases h0 : M 43 0 7 = 0
  · refine zCall.same hz (v := -1) ?_ ?_
    · unfold f_X10_voted
      rw [hv, h0, if_neg (nn_ zw_0)]
    · unfold f_X11_voted
      rw [h0, if_neg (nn_ zw_0)]
  obtain ⟨n, hn⟩ := Int.eq_ofNat_of_zero_le h7.1
  obtain ⟨M1, e1, e2, e3⟩ := X_outcome (M := M) (n := n) (f := fun i => M 43 0 (48 + i)) (y := y) (by omega) (by rw [hv, hn]) (fun i hi => ⟨w0.tld.vote i (by omega), hA.vote i (by omega)⟩)
  have hM1 : M1 43 0 = M 43 0 := e3 43 0 (by omega)
  have hR := R_votedBy (M := M1) (A := M 43 0) (g := fun i => M 43 0 (48 + i)) (n := n) (k := -1) (other := 0) (y := y) hM1 (by omega) hn (by omega) (by omega) (fun i hi => hA.vote i (by omega)) (fun i hi => by rw [if_neg (by omega)])
  have m7 : M1 43 0 7 = (n : Int) := by rw [hM1, hn]
  have g27 : ∀ k, k ≠ 27 → M1 k 0 = M k 0 := fun k hk => e3 k 0 (by omega)
  refine zCall.mk (M1 := M1) (M2 := M1) (v := outF (fun i => M 43 0 (48 + i)) n (decide (zw y ≠ 0))) ?_ ?_ ⟨T, hI.told hA (fun q _ => rfl) (fun k i a => e3 k i (by omega)) (w0.tld.congr hA ?_ (fun q _ => ?_) (fun q _ => ?_) (fun q _ => rfl)) frV.rfl_ hM1⟩
  · unfold f_X10_voted
    rw [hv, hn, zw_nat (by omega), if_pos (by omega), e1]
    simp only [zbs]
  · unfold f_X11_voted
    rw [m7, zw_nat (by omega), if_pos (by omega), hR]
    simp only [zbs]
  · rw [g27 23 (by omega)]; exact ⟨rfl, rfl, rfl⟩
  · rw [g27 24 (by omega), g27 25 (by omega)]; exact ⟨rfl, rfl⟩
  · rw [g27 26 (by omega), g27 28 (by omega), g27 29 (by omega), g27 30 (by omega)]; exact ⟨rfl, rfl, rfl, rfl⟩
/-! lying -/
set_option maxRecDepth 8000 in
set_option maxHeartbeats 2000000 in
theorem R_away {x y : Int} {M : zM} (hx : 0 ≤ x ∧ x ≤ 99) (hy : 0 ≤ y ∧ y ≤ 99) : f_X11_away x y M = some (if y ≤ x then x - y else y - x, M) := by
  unfold f_X11_away
  rw [zw_id (by omega) (by omega), zw_id (by omega) (by omega)]
  by_cases h : y ≤ x
  · rw [if_pos h, if_pos h]
  · rw [if_neg h, if_neg h]
def awy (x y : Int) : Int := if y ≤ x then x - y else y - x
set_option maxRecDepth 8000 in
set_option maxHeartbeats 2000000 in
theorem awy_le {x y : Int} (hx : 0 ≤ x ∧ x ≤ 99) (hy : 0 ≤ y ∧ y ≤ 99) : 0 ≤ awy x y ∧ awy x y ≤ 99 := by
  unfold awy
  split <;> omega
set_option maxRecDepth 8000 in
set_option maxHeartbeats 2000000 in
theorem awy_X {x y : Int} (hx : 0 ≤ x ∧ x ≤ 99) (hy : 0 ≤ y ∧ y ≤ 99) : (if 0 ≤ zw (x - y) then (x - y) else 0 - (x - y)) = awy x y := by
  unfold awy
  rw [zw_id (by omega) (by omega)]
  (repeat' split) <;> omega
/-- votes, k's being lie -/
def lieF (f : Nat → Int) (k : Nat) (lie : Int) : Nat → Int := fun q => if q = k then lie else f q
noncomputable def lyM (f : Nat → Int) (n k : Nat) (b : Bool) (off : Int) : Nat → Int
  | 0 => 0
  | i + 1 => if lyM f n k b off i < off - awy (f k) (outF (lieF f k i) n b) then off - awy (f k) (outF (lieF f k i) n b) else lyM f n k b off i
set_option maxRecDepth 8000 in
set_option maxHeartbeats 2000000 in
theorem lyM_le {f : Nat → Int} {n k : Nat} {b : Bool} {off : Int} (hoff : 0 ≤ off ∧ off ≤ 99) (ha : ∀ i, i < 100 → 0 ≤ awy (f k) (outF (lieF f k (i : Nat)) n b)) : ∀ i, i ≤ 100 → 0 ≤ lyM f n k b off i ∧ lyM f n k b off i ≤ off := by
  intro i
  induction i with
  | zero => intro _; exact ⟨Int.le_refl _, hoff.1⟩
  | succ i ih =>
    intro hi
    have h1 := ih (by omega)
    have h2 := ha i (by omega)
    unfold lyM
    split
    · omega
    · exact h1
