/-! text: the class finds all TOKENS, one behind the other -/
set_option maxRecDepth 8000 in
set_option maxHeartbeats 2000000 in
theorem tE_ge {B : Nat → Int} {L : Nat} : ∀ c, (∀ i, i < c → tPl B L i < L) → c ≤ tE B L c := by
  intro c
  induction c with
  | zero => intro _; exact Nat.zero_le _
  | succ c ih =>
    intro h
    have h1 := ih (fun i hi => h i (by omega))
    have h2 := h c (by omega)
    have h3 := tPl_spec (B := B) (L := L) c
    have h4 := tEnd_spec (B := B) h2
    rw [tE_succ h2]
    omega
/-- n TOKENS, and the end -/
def tN (B : Nat → Int) (L n : Nat) : Prop := n ≤ L ∧ tPl B L n = L ∧ ∀ i, i < n → tPl B L i < L
set_option maxRecDepth 8000 in
set_option maxHeartbeats 2000000 in
theorem X_find {M : zM} {B : Nat → Int} {L : Nat} (hB : M 36 0 = B) (hL : M 35 0 1 = L) (h3 : L ≤ 300) (hb : ∀ i, i < L → 0 ≤ B i ∧ B i ≤ 255) : ∃ (M' : zM) (n : Nat), f_X4_find M = some M' ∧ tN B L n ∧ (∀ j, j ≤ n → M' 39 0 j = tK B L j ∧ M' 41 0 j = tPl B L j ∧ (tK B L j = 25 → M' 40 0 j = tV B L j)) ∧ M' 38 0 4 = 0 ∧ M' 38 0 5 = tK B L 0 ∧ ∀ k i, k < 38 ∨ 41 < k → M' k i = M k i := by
  have key := zT_for (body := fun s : Int × Int × Int × zM => f_X4_find_L6 s.1 s.2.1 s.2.2.1 s.2.2.2) (fun i s => ∃ (c q : Nat) (N : zM), s = ((c : Int), (q : Int), (i : Int), N) ∧ (i ≤ q ∧ q ≤ L) ∧ skE isBl B L q = tPl B L c ∧ (∀ j, j < c → tPl B L j < L) ∧ (∀ j, j < c → N 39 0 j = tK B L j ∧ N 41 0 j = tPl B L j ∧ (tK B L j = 25 → N 40 0 j = tV B L j)) ∧ ∀ k i, k < 38 ∨ 41 < k → N k i = M k i) L (Q := fun e => ∃ (c : Nat) (N : zM), e = ((c : Int), N) ∧ tN B L c ∧ (∀ j, j < c → N 39 0 j = tK B L j ∧ N 41 0 j = tPl B L j ∧ (tK B L j = 25 → N 40 0 j = tV B L j)) ∧ ∀ k i, k < 38 ∨ 41 < k → N k i = M k i) ?_ (m := zF) (by unfold zF; omega) (s := (0, 0, 0, M)) ⟨0, 0, M, rfl, ⟨Nat.le_refl _, Nat.zero_le _⟩, rfl, fun j hj => by omega, fun j hj => by omega, fun _ _ _ => rfl⟩
  · obtain ⟨e, k1, c, N, rfl, k2, k3, k4⟩ := key
    have hc0 : 0 ≤ zw (c : Int) ∧ zw (c : Int) < 301 := by have := k2.1; rw [zw_nat (by omega)]; omega
    have zc : zix (c : Int) = c := zix_nat (by have := k2.1; omega)
    have hk40 : tK B L c = 40 := (tK_le c).2.2.mpr k2.2.1
    unfold f_X4_find
    rw [k1]
    simp only [zbs]
    unfold f_X4_find_j67
    rw [if_pos hc0, zlt_, if_pos hc0, zlt_, zlt_, zlt_, zc]
    have e35 : zput N 39 0 c 40 35 0 1 = (L : Int) := by rw [zput_k (by omega), k4 35 0 (by omega)]; exact hL
    have fz : ∀ j, zput (zput (zput N 39 0 c 40) 41 0 c (zput N 39 0 c 40 35 0 1)) 38 0 4 0 39 0 j = if j = c then 40 else N 39 0 j := fun j => by
      rw [zput_k (by omega), zput_k (by omega)]
      by_cases h : j = c
      · rw [h, zput_eq, if_pos rfl]
      · rw [zput_j h, if_neg h]
    have k39 : ∀ j, j ≤ c → (if j = c then 40 else N 39 0 j) = tK B L j := fun j hj => by
      by_cases h : j = c
      · rw [if_pos h, h, hk40]
      · rw [if_neg h]; exact (k3 j (by omega)).1
    refine ⟨_, c, rfl, k2, fun j hj => ⟨?_, ?_, fun h => ?_⟩, ?_, ?_, fun k i hk => ?_⟩
    · rw [zput_k (by omega), fz]; exact k39 j hj
    · rw [zput_k (by omega), zput_k (by omega)]
      by_cases h : j = c
      · rw [h, zput_eq, e35, k2.2.1]
      · rw [zput_j h, zput_k (by omega)]; exact (k3 j (by omega)).2.1
    · have hjc : j ≠ c := fun z => by rw [z, hk40] at h; omega
      rw [zput_k (by omega), zput_k (by omega), zput_k (by omega), zput_k (by omega)]
      exact (k3 j (by omega)).2.2 h
    · rw [zput_j (by omega), zput_eq]
    · rw [zput_eq, fz]; exact k39 0 (Nat.zero_le _)
    · rw [zput_rowk (by omega), zput_rowk (by omega), zput_rowk (by omega), zput_rowk (by omega)]
      exact k4 k i hk
  · rintro i s hi ⟨c, q, N, rfl, g1, g2, g3, g4, g5⟩
    dsimp only
    have hcE := tE_ge c g3
    have hpc := tPl_spec (B := B) (L := L) c
    have hB2 : N 36 0 = B := by rw [g5 36 0 (by omega)]; exact hB
    have hL2 : N 35 0 1 = L := by rw [g5 35 0 (by omega)]; exact hL
    unfold f_X4_find_L6
    rw [hL2, zw_nat (n := i) (by omega), zw_nat (n := L) (by omega), zw_nat (n := q) (by omega)]
    by_cases hq : L ≤ q
    · have hqL : q = L := by omega
      have hend : tPl B L c = L := by rw [← g2]; exact (skE_end hq).trans hqL
      have fin : zT (some (.inr ((c : Int), N)) : Option ((Int × Int × Int × zM) ⊕ (Int × zM))) (fun r => (∃ s', r = .inl s' ∧ i < L ∧ ∃ (c q : Nat) (N : zM), s' = ((c : Int), (q : Int), ((i + 1 : Nat) : Int), N) ∧ (i + 1 ≤ q ∧ q ≤ L) ∧ skE isBl B L q = tPl B L c ∧ (∀ j, j < c → tPl B L j < L) ∧ (∀ j, j < c → N 39 0 j = tK B L j ∧ N 41 0 j = tPl B L j ∧ (tK B L j = 25 → N 40 0 j = tV B L j)) ∧ ∀ k i, k < 38 ∨ 41 < k → N k i = M k i) ∨ ∃ e, r = .inr e ∧ ∃ (c : Nat) (N : zM), e = ((c : Int), N) ∧ tN B L c ∧ (∀ j, j < c → N 39 0 j = tK B L j ∧ N 41 0 j = tPl B L j ∧ (tK B L j = 25 → N 40 0 j = tV B L j)) ∧ ∀ k i, k < 38 ∨ 41 < k → N k i = M k i) := zT_some (Or.inr ⟨_, rfl, c, N, rfl, ⟨by omega, hend, g3⟩, g4, g5⟩)
      by_cases h300 : (300 : Int) ≤ i
      · rw [if_pos h300]; exact fin
      · rw [if_neg h300, if_pos (by omega)]; exact fin
    · rw [if_neg (by omega), if_neg (by omega), X_atIn hB2 hL2 h3 (by omega)]
      simp only [zbs]
      have hbq := hb q (by omega)
      rw [X_isBl (by omega)]
      simp only [zbs]
      unfold f_X4_find_j61
      by_cases hbl : isBl (B q) = true
      · rw [if_pos hbl, if_neg zw_1n]
        refine zT_some (Or.inl ⟨_, rfl, by omega, c, q + 1, N, rfl, ⟨by omega, by omega⟩, ?_, g3, g4, g5⟩)
        rw [← skE_yes (by omega) hbl]; exact g2
      · rw [if_neg hbl, if_pos zw_0]
        have hpq : tPl B L c = q := by rw [← g2]; exact skE_no (by omega) hbl
        have hc0 : 0 ≤ zw (c : Int) ∧ zw (c : Int) < 301 := by rw [zw_nat (by omega)]; omega
        have zc : zix (c : Int) = c := zix_nat (by omega)
        rw [if_pos hc0, zlt_, zc]
        generalize hN1 : zput N 41 0 c (q : Int) = N1
        have f1 : ∀ k i, k ≠ 41 → N1 k i = N k i := fun k i h => by rw [← hN1, zput_rowk (by omega)]
        obtain ⟨N2, a1, a2, a3, a4, a5, a6⟩ := X_findOne (M := N1) (c := c) (p := q) (by rw [f1 36 0 (by omega)]; exact hB2) (by rw [f1 35 0 (by omega)]; exact hL2) h3 hb (by omega) (by omega)
        have hte := tEnd_spec (B := B) (show q < L by omega)
        have hpl : tPl B L c < L := by omega
        have hE1 : tE B L (c + 1) = tEnd B L q := by rw [tE_succ hpl, hpq]
        have hKc : tK B L c = tKind B L q := by unfold tK; rw [if_pos hpl, hpq]
        have hVc : tV B L c = tVal B L q := by unfold tV; rw [hpq]
        rw [a1]
        simp only [zbs]
        refine zT_some (Or.inl ⟨_, rfl, by omega, c + 1, tEnd B L q, N2, rfl, ⟨by omega, hte.2⟩, by unfold tPl; rw [hE1], fun j hj => ?_, fun j hj => ?_, fun k i hk => by rw [a4 k i (by omega) (by omega), f1 k i (by omega)]; exact g5 k i hk⟩)
        · by_cases h : j = c
          · rw [h]; exact hpl
          · exact g3 j (by omega)
        · by_cases h : j = c
          · subst h
            refine ⟨by rw [a2, hKc], by rw [a4 41 0 (by omega) (by omega), ← hN1, zput_eq, hpq], fun hk => ?_⟩
            rw [a3 (by rw [← hKc]; exact hk), hVc]
          · obtain ⟨b1, b2, b3⟩ := g4 j (by omega)
            obtain ⟨b4, b5⟩ := a5 j h
            refine ⟨by rw [b4, f1 39 0 (by omega)]; exact b1, by rw [a4 41 0 (by omega) (by omega), ← hN1, zput_j h]; exact b2, fun hk => by rw [b5, f1 40 0 (by omega)]; exact b3 hk⟩
/-! text: words by numbers, on the reference's side -/
def hsh (B : Nat → Int) (a : Nat) : Nat → Int
  | 0 => 0
  | k + 1 => 64 * hsh B a k + B (a + k) - 64
set_option maxRecDepth 8000 in
set_option maxHeartbeats 2000000 in
theorem hsh_pos {B : Nat → Int} {a : Nat} : ∀ k, (∀ i, i < k → 65 ≤ B (a + i) ∧ B (a + i) ≤ 127) → 0 ≤ hsh B a k ∧ (0 < k → 0 < hsh B a k) := by
  intro k
  induction k with
  | zero => intro _; exact ⟨Int.le_refl _, fun h => by omega⟩
  | succ k ih =>
    intro h
    have h1 := ih (fun i hi => h i (by omega))
    have h2 := h k (by omega)
    unfold hsh
    omega
set_option maxRecDepth 8000 in
set_option maxHeartbeats 2000000 in
theorem hsh_inj {B B' : Nat → Int} {a a' : Nat} : ∀ k k', (∀ i, i < k → 65 ≤ B (a + i) ∧ B (a + i) ≤ 127) → (∀ i, i < k' → 65 ≤ B' (a' + i) ∧ B' (a' + i) ≤ 127) → hsh B a k = hsh B' a' k' → k = k' ∧ ∀ i, i < k → B (a + i) = B' (a' + i) := by
  intro k
  induction k with
  | zero =>
    intro k' h h' e
    cases k' with
    | zero => exact ⟨rfl, fun i hi => by omega⟩
    | succ k' =>
      have := (hsh_pos (k' + 1) h').2 (by omega)
      rw [← e] at this
      unfold hsh at this
      omega
  | succ k ih =>
    intro k' h h' e
    cases k' with
    | zero =>
      have := (hsh_pos (k + 1) h).2 (by omega)
      rw [e] at this
      unfold hsh at this
      omega
    | succ k' =>
      unfold hsh at e
      have h1 := h k (by omega)
      have h2 := h' k' (by omega)
      obtain ⟨i1, i2⟩ := ih k' (fun i hi => h i (by omega)) (fun i hi => h' i (by omega)) (by omega)
      subst i1
      refine ⟨rfl, fun i hi => ?_⟩
      by_cases hik : i = k
      · subst hik; omega
      · exact i2 i (by omega)
set_option maxRecDepth 8000 in
set_option maxHeartbeats 2000000 in
theorem hsh_bd {B : Nat → Int} {a : Nat} : ∀ k, k ≤ 8 → (∀ i, i < k → 65 ≤ B (a + i) ∧ B (a + i) ≤ 127) → 0 ≤ hsh B a k ∧ hsh B a k < 2 ^ (6 * k) := by
  intro k
  induction k with
  | zero => intro _ _; exact ⟨Int.le_refl _, show (0 : Int) < 2 ^ (6 * 0) by decide⟩
  | succ k ih =>
    intro hk h
    have h1 := ih (by omega) (fun i hi => h i (by omega))
    have h2 := h k (by omega)
    have e : (2 : Int) ^ (6 * (k + 1)) = 64 * 2 ^ (6 * k) := by rw [Nat.mul_add, Int.pow_add]; omega
    unfold hsh
    rw [e]
    omega
/-- what the reference calls the class's kinds of words, and of signs -/
def rkL : List Int := [0, 1, 2, 3, 4, 5, 6, 7, 8, 9, 10, 21, 22, 12, 23, 24, 11, 13, 14, 15, 16, 17, 18, 19, 20]
def hcL : List Int := [613817523, 563825010, 3375, 37357021683, 803137906, 883071911, 13302765, 869423212, 13523876, 10395045, 149625, 11426868, 9590898, 9132843, 10169325, 815196389, 3046, 11688372, 2662, 13797742, 9882853, 154532, 3058, 138148, 191476]
set_option maxRecDepth 8000 in
set_option maxHeartbeats 2000000 in
theorem words_ok : (List.range 25).all (fun j => decide (hsh (Wf j) 0 (wl j) = hcL.getD j 0 ∧ wl j ≤ 7 ∧ ∀ i, i < wl j → 65 ≤ Wf j i ∧ Wf j i ≤ 127)) = true := by decide +kernel
set_option maxRecDepth 8000 in
set_option maxHeartbeats 2000000 in
theorem word_ok {j : Nat} (hj : j < 25) : hsh (Wf j) 0 (wl j) = hcL.getD j 0 ∧ wl j ≤ 7 ∧ ∀ i, i < wl j → 65 ≤ Wf j i ∧ Wf j i ≤ 127 := of_decide_eq_true (List.all_eq_true.mp words_ok j (List.mem_range.mpr hj))
set_option maxRecDepth 8000 in
set_option maxHeartbeats 2000000 in
theorem isLt_rng {c : Int} (h : isLt c = true) : 65 ≤ c ∧ c ≤ 127 := by
  unfold isLt at h
  have := of_decide_eq_true h
  omega
set_option maxRecDepth 8000 in
set_option maxHeartbeats 2000000 in
theorem mtB_hash {B : Nat → Int} {a e j : Nat} (hj : j < 25) (h : ∀ i, i < e - a → 65 ≤ B (a + i) ∧ B (a + i) ≤ 127) : mtB B a e j = true ↔ hsh B a (e - a) = hcL.getD j 0 := by
  obtain ⟨w1, w2, w3⟩ := word_ok hj
  unfold mtB
  rw [decide_eq_true_eq, ← w1]
  constructor
  · rintro ⟨h1, h2⟩
    rw [h1]
    have : ∀ k, k ≤ wl j → hsh B a k = hsh (Wf j) 0 k := by
      intro k
      induction k with
      | zero => intro _; rfl
      | succ k ih =>
        intro hk
        unfold hsh
        rw [ih (by omega), h2 k (by omega), Nat.zero_add]
    exact this _ (Nat.le_refl _)
  · intro h1
    obtain ⟨i1, i2⟩ := hsh_inj (e - a) (wl j) h (fun i hi => by rw [Nat.zero_add]; exact w3 i hi) h1
    exact ⟨i1, fun i hi => by rw [i2 i (by omega), Nat.zero_add]⟩
set_option maxRecDepth 8000 in
set_option maxHeartbeats 2000000 in
theorem wkF_cases {B : Nat → Int} {a e : Nat} : ∀ (d j : Nat), (∃ i, j ≤ i ∧ i < j + d ∧ wkF B a e d j = i ∧ mtB B a e i = true) ∨ (wkF B a e d j = 39 ∧ ∀ i, j ≤ i → i < j + d → ¬ mtB B a e i = true) := by
  intro d
  induction d with
  | zero => intro j; exact Or.inr ⟨rfl, fun i h1 h2 => by omega⟩
  | succ d ih =>
    intro j
    unfold wkF
    by_cases h : mtB B a e j = true
    · rw [if_pos h]
      exact Or.inl ⟨j, Nat.le_refl _, by omega, rfl, h⟩
    · rw [if_neg h]
      rcases ih (j + 1) with ⟨i, h1, h2, h3, h4⟩ | ⟨h1, h2⟩
      · exact Or.inl ⟨i, by omega, by omega, h3, h4⟩
      · refine Or.inr ⟨h1, fun i h3 h4 => ?_⟩
        by_cases hij : i = j
        · rw [hij]; exact h
        · exact h2 i (by omega) (by omega)
