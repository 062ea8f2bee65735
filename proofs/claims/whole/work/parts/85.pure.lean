/-! votes: the middle, the mean -/
def cntL (g : Nat → Int) (L : Int) : Nat → Nat
  | 0 => 0
  | n + 1 => cntL g L n + (if g n ≤ L then 1 else 0)
set_option maxRecDepth 8000 in
set_option maxHeartbeats 2000000 in
theorem cntL_le {g : Nat → Int} {L : Int} : ∀ n, cntL g L n ≤ n := by
  intro n
  induction n with
  | zero => exact Nat.le_refl _
  | succ n ih => show cntL g L n + _ ≤ _; split <;> omega
set_option maxRecDepth 8000 in
set_option maxHeartbeats 2000000 in
theorem cntL_congr {g h : Nat → Int} {L : Int} : ∀ n, (∀ i, i < n → g i = h i) → cntL g L n = cntL h L n := by
  intro n
  induction n with
  | zero => intro _; rfl
  | succ n ih =>
    intro hh
    show cntL g L n + _ = cntL h L n + _
    rw [ih (fun i hi => hh i (by omega)), hh n (by omega)]
set_option maxRecDepth 8000 in
set_option maxHeartbeats 2000000 in
theorem cntL_all {g : Nat → Int} {L : Int} : ∀ n, (∀ i, i < n → g i ≤ L) → cntL g L n = n := by
  intro n
  induction n with
  | zero => intro _; rfl
  | succ n ih =>
    intro h
    show cntL g L n + _ = _
    rw [ih (fun i hi => h i (by omega)), if_pos (h n (by omega))]
set_option maxRecDepth 8000 in
set_option maxHeartbeats 2000000 in
theorem cntL_none {g : Nat → Int} {L : Int} {m : Nat} : ∀ d, (∀ i, m ≤ i → i < m + d → L < g i) → cntL g L (m + d) = cntL g L m := by
  intro d
  induction d with
  | zero => intro _; rfl
  | succ d ih =>
    intro h
    show cntL g L (m + d) + (if g (m + d) ≤ L then 1 else 0) = _
    have := h (m + d) (by omega) (by omega)
    rw [ih (fun i a b => h i a (by omega)), if_neg (by omega), Nat.add_zero]
set_option maxRecDepth 8000 in
set_option maxHeartbeats 2000000 in
theorem cntL_mono {g : Nat → Int} {L : Int} {m : Nat} : ∀ d, cntL g L m ≤ cntL g L (m + d) := by
  intro d
  induction d with
  | zero => exact Nat.le_refl _
  | succ d ih => show _ ≤ cntL g L (m + d) + _; omega
def IsMid (g : Nat → Int) (n : Nat) (L : Int) : Prop := n ≤ 2 * cntL g L n ∧ ∀ L', L' < L → 2 * cntL g L' n < n
set_option maxRecDepth 8000 in
set_option maxHeartbeats 2000000 in
theorem IsMid.uniq {g : Nat → Int} {n : Nat} {L L' : Int} (h : IsMid g n L) (h' : IsMid g n L') : L = L' := by
  have a := h.2 L'
  have b := h'.2 L
  have c := h.1
  have d := h'.1
  by_cases h1 : L' < L
  · have := a h1; omega
  · by_cases h2 : L < L'
    · have := b h2; omega
    · omega
set_option maxRecDepth 8000 in
set_option maxHeartbeats 2000000 in
theorem sorted_mid {f S : Nat → Int} {n : Nat} (hn : 0 < n) (hc : ∀ L, cntL S L n = cntL f L n) (hs : ∀ i j, i ≤ j → j < n → S i ≤ S j) : IsMid f n (S ((n - 1) / 2)) := by
  have hm : (n - 1) / 2 < n := by omega
  constructor
  · rw [← hc]
    have h1 : cntL S (S ((n - 1) / 2)) ((n - 1) / 2 + 1) = (n - 1) / 2 + 1 := cntL_all _ (fun i hi => hs i _ (by omega) hm)
    have h2 := cntL_mono (g := S) (L := S ((n - 1) / 2)) (m := (n - 1) / 2 + 1) (n - ((n - 1) / 2 + 1))
    rw [show (n - 1) / 2 + 1 + (n - ((n - 1) / 2 + 1)) = n by omega] at h2
    omega
  · intro L' hL
    rw [← hc]
    have h1 := cntL_none (g := S) (L := L') (m := (n - 1) / 2) (n - (n - 1) / 2) (fun i a b => by have := hs _ i a (by omega); omega)
    rw [show (n - 1) / 2 + (n - (n - 1) / 2) = n by omega] at h1
    have h2 := cntL_le (g := S) (L := L') ((n - 1) / 2)
    omega
/-- one more is put in -/
def insS (P : Nat → Int) (j : Nat) (v : Int) : Nat → Int := fun q => if q < j then P q else if q = j then v else P (q - 1)
set_option maxRecDepth 8000 in
set_option maxHeartbeats 2000000 in
theorem insS_cnt {P : Nat → Int} {j : Nat} {v L : Int} : ∀ d, cntL (insS P j v) L (j + d + 1) = cntL P L (j + d) + (if v ≤ L then 1 else 0) := by
  intro d
  induction d with
  | zero =>
    show cntL (insS P j v) L j + (if insS P j v j ≤ L then 1 else 0) = cntL P L j + _
    rw [cntL_congr j (g := insS P j v) (h := P) (fun i hi => if_pos hi), show insS P j v j = v by unfold insS; rw [if_neg (by omega), if_pos rfl]]
  | succ d ih =>
    show cntL (insS P j v) L (j + d + 1) + (if insS P j v (j + d + 1) ≤ L then 1 else 0) = cntL P L (j + d) + (if P (j + d) ≤ L then 1 else 0) + _
    rw [ih, show insS P j v (j + d + 1) = P (j + d) by unfold insS; rw [if_neg (by omega), if_neg (by omega), show j + d + 1 - 1 = j + d by omega]]
    omega
set_option maxRecDepth 8000 in
set_option maxHeartbeats 2000000 in
theorem X_middle {M : zM} {n : Nat} {f : Nat → Int} (hn : 0 < n ∧ n ≤ 9) (h8 : M 23 0 8 = n) (hf : ∀ i, i < n → M 26 0 i = f i ∧ 0 ≤ f i ∧ f i ≤ 99) : ∃ r M', f_X9_middle 0 M = some (r, M') ∧ IsMid f n r ∧ (0 ≤ r ∧ r ≤ 99) ∧ ∀ k i, ¬ (k = 27 ∧ i = 0) → M' k i = M k i := by
  have key := zT_cnt0 (body := fun s : Int × zM => f_X9_middle_L2 0 s.1 s.2) (fun i N => (∀ k q, ¬ (k = 27 ∧ q = 0) → N k q = M k q) ∧ (∀ L, cntL (N 27 0) L i = cntL f L i) ∧ (∀ a b, a ≤ b → b < i → N 27 0 a ≤ N 27 0 b) ∧ ∀ a, a < i → 0 ≤ N 27 0 a ∧ N 27 0 a ≤ 99) n (Q := fun N => (∀ k q, ¬ (k = 27 ∧ q = 0) → N k q = M k q) ∧ (∀ L, cntL (N 27 0) L n = cntL f L n) ∧ (∀ a b, a ≤ b → b < n → N 27 0 a ≤ N 27 0 b) ∧ ∀ a, a < n → 0 ≤ N 27 0 a ∧ N 27 0 a ≤ 99) ?_ ?_ (m := zF) (by unfold zF; omega) (N0 := M) ⟨fun _ _ _ => rfl, fun _ => rfl, fun a b _ h => by omega, fun a h => by omega⟩
  · obtain ⟨M', k1, k2, k3, k4, k5⟩ := key
    have m8 : M' 23 0 8 = n := by rw [k2 23 0 (by omega)]; exact h8
    have hm := sorted_mid hn.1 k3 k4
    have hb := k5 ((n - 1) / 2) (by omega)
    refine ⟨M' 27 0 ((n - 1) / 2), M', ?_, hm, hb, k2⟩
    unfold f_X9_middle
    rw [k1]
    simp only [zbs]
    have e1 : zw ((n : Int) - 1) = (n : Int) - 1 := zw_id (by omega) (by omega)
    have e2 : Int.tdiv ((n : Int) - 1) 2 = (((n - 1) / 2 : Nat) : Int) := by rw [Int.tdiv_eq_ediv_of_nonneg (by omega)]; omega
    rw [m8, zw_nat (n := n) (by omega), if_pos (by omega), e1, e2, zw_nat (by omega), if_pos (by omega), zix_nat (by omega)]
  · rintro i N hi ⟨h1, h2, h3, h4⟩
    dsimp only
    have m8 : N 23 0 8 = n := by rw [h1 23 0 (by omega)]; exact h8
    obtain ⟨v1, v2, v3⟩ := hf i (by omega)
    have mv : ∀ N2 : zM, (∀ k q, ¬ (k = 27 ∧ q = 0) → N2 k q = M k q) → N2 26 0 i = f i := fun N2 hN => by rw [hN 26 0 (by omega)]; exact v1
    have inner := zT_for (body := fun s : Int × Int × zM => f_X9_middle_L14 0 (i : Int) s.1 s.2.1 s.2.2) (fun c s => c ≤ i ∧ s.1 = ((i - c : Nat) : Int) ∧ s.2.1 = ((i - c : Nat) : Int) ∧ (∀ k q, ¬ (k = 27 ∧ q = 0) → s.2.2 k q = M k q) ∧ (∀ q, q < i - c → s.2.2 27 0 q = N 27 0 q) ∧ (∀ q, i - c < q → q ≤ i → s.2.2 27 0 q = N 27 0 (q - 1)) ∧ ∀ q, i - c ≤ q → q < i → f i < N 27 0 q) i (Q := fun e => ∃ j : Nat, j ≤ i ∧ e.1 = (j : Int) ∧ (∀ k q, ¬ (k = 27 ∧ q = 0) → e.2 k q = M k q) ∧ (∀ q, q < j → e.2 27 0 q = N 27 0 q) ∧ (∀ q, j < q → q ≤ i → e.2 27 0 q = N 27 0 (q - 1)) ∧ (∀ q, j ≤ q → q < i → f i < N 27 0 q) ∧ (0 < j → N 27 0 (j - 1) ≤ f i)) ?_ (m := zF) (by unfold zF; omega) (s := ((i : Int), (i : Int), N)) ⟨by omega, rfl, rfl, h1, fun q _ => rfl, fun q a b => by omega, fun q a b => by omega⟩
    · obtain ⟨⟨e1, N2⟩, k1, j, hj, rfl, g1, g2, g3, g4, g5⟩ := inner
      dsimp only at g1 g2 g3 g4 g5 k1
      have m26 := mv N2 g1
      unfold f_X9_middle_L2 f_X9_middle_j59
      rw [m8, zw_nat (by omega), zw_nat (by omega), if_neg (by omega), k1]
      simp only [zbs]
      rw [zw_nat (n := j) (by omega), if_pos (by omega), if_pos (by omega), zix_nat (by omega), zix_nat (by omega), m26]
      simp only [zlt_]
      have hS : ∀ q, q ≤ i → zput N2 27 0 j (f i) 27 0 q = insS (N 27 0) j (f i) q := fun q hq => by
        unfold insS
        by_cases hqj : q = j
        · subst hqj; rw [zput_eq, if_neg (by omega), if_pos rfl]
        · rw [zput_j hqj]
          by_cases hlt : q < j
          · rw [if_pos hlt, g2 q hlt]
          · rw [if_neg hlt, if_neg hqj, g3 q (by omega) hq]
      refine zT_some (Or.inl ⟨_, rfl, fun k q a => by rw [zput_rowk (by omega)]; exact g1 k q a, fun L => ?_, fun a b hab hb => ?_, fun a ha => ?_⟩)
      · rw [cntL_congr (i + 1) (g := zput N2 27 0 j (f i) 27 0) (h := insS (N 27 0) j (f i)) (fun q hq => hS q (by omega))]
        have := insS_cnt (P := N 27 0) (j := j) (v := f i) (L := L) (i - j)
        rw [show j + (i - j) = i by omega] at this
        rw [this, h2 L]
        rfl
      · rw [hS a (by omega), hS b (by omega)]
        unfold insS
        by_cases a1 : a < j
        · rw [if_pos a1]
          by_cases b1 : b < j
          · rw [if_pos b1]; exact h3 a b hab (by omega)
          · rw [if_neg b1]
            by_cases b2 : b = j
            · rw [if_pos b2]
              have := h3 a (j - 1) (by omega) (by omega)
              have := g5 (by omega)
              omega
            · rw [if_neg b2]; exact h3 a (b - 1) (by omega) (by omega)
        · rw [if_neg a1]
          by_cases a2 : a = j
          · rw [if_pos a2, if_neg (by omega)]
            by_cases b2 : b = j
            · rw [if_pos b2]; omega
            · rw [if_neg b2]
              have := g4 (b - 1) (by omega) (by omega)
              omega
          · rw [if_neg a2, if_neg (by omega), if_neg (by omega)]
            exact h3 (a - 1) (b - 1) (by omega) (by omega)
      · rw [hS a (by omega)]
        unfold insS
        by_cases a1 : a < j
        · rw [if_pos a1]; exact h4 a (by omega)
        · rw [if_neg a1]
          by_cases a2 : a = j
          · rw [if_pos a2]; exact ⟨v2, v3⟩
          · rw [if_neg a2]; exact h4 (a - 1) (by omega)
    · rintro c ⟨x, y, N2⟩ hc ⟨g0, g1, g2, g3, g4, g5, g6⟩
      dsimp only at g0 g1 g2 g3 g4 g5 g6 ⊢
      subst g1 g2
      unfold f_X9_middle_L14
      rw [zw_nat (n := i - c) (by omega)]
      by_cases h0 : i - c = 0
      · rw [if_pos (by omega)]
        exact zT_some (Or.inr ⟨_, rfl, i - c, by omega, rfl, g3, g4, g5, g6, fun h => by omega⟩)
      · have z1 : ((i - c : Nat) : Int) - 1 = ((i - c - 1 : Nat) : Int) := by omega
        have z2 : ((i - c : Nat) : Int) + -1 = ((i - c - 1 : Nat) : Int) := by omega
        have hr := h4 (i - c - 1) (by omega)
        rw [if_neg (by omega), z1, z2, zw_nat (n := i - c - 1) (by omega), if_pos (by omega), zw_nat (n := i) (by omega), if_pos (by omega), zix_nat (by omega), zix_nat (by omega), zix_nat (by omega), g4 (i - c - 1) (by omega), mv N2 g3, zw_id (z := N 27 0 (i - c - 1)) (by omega) (by omega), zw_id (z := f i) (by omega) (by omega)]
        by_cases hle : N 27 0 (i - c - 1) ≤ f i
        · rw [if_pos hle]
          exact zT_some (Or.inr ⟨_, rfl, i - c, by omega, rfl, g3, g4, g5, g6, fun _ => hle⟩)
        · rw [if_neg hle, if_pos (by omega), if_pos (by omega)]
          simp only [zlt_]
          refine zT_some (Or.inl ⟨_, rfl, by omega, by omega, by dsimp only; omega, by dsimp only; omega, fun k q a => ?_, fun q hq => ?_, fun q a b => ?_, fun q a b => ?_⟩)
          · dsimp only
            rw [zput_rowk (by omega)]; exact g3 k q a
          · dsimp only
            rw [zput_j (by omega)]; exact g4 q (by omega)
          · dsimp only
            by_cases hq : q = i - c
            · subst hq; rw [zput_eq]
            · rw [zput_j hq]; exact g5 q (by omega) b
          · by_cases hq : q = i - c - 1
            · subst hq; omega
            · exact g6 q (by omega) b
  · rintro N ⟨h1, h2, h3, h4⟩
    dsimp only
    have m8 : N 23 0 8 = n := by rw [h1 23 0 (by omega)]; exact h8
    unfold f_X9_middle_L2
    rw [m8, zw_nat (by omega), if_pos (by omega)]
    exact zT_some ⟨N, rfl, h1, h2, h3, h4⟩
