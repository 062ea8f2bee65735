/-! text: the reference reads deeds -/
/-- cells that reading a text leaves -/
def frE (M M' : zM) : Prop := (∀ k i, k ≠ 42 → ¬ (54 ≤ k ∧ k ≤ 65) → M' k i = M k i) ∧ ∀ j, j < 15 → M' 42 0 j = M 42 0 j
set_option maxRecDepth 8000 in
set_option maxHeartbeats 2000000 in
theorem frE.rfl_ {M : zM} : frE M M := ⟨fun _ _ _ _ => rfl, fun _ _ => rfl⟩
set_option maxRecDepth 8000 in
set_option maxHeartbeats 2000000 in
theorem frE.trans {M M' M2 : zM} (h : frE M M') (h2 : frE M' M2) : frE M M2 := ⟨fun k i a b => by rw [h2.1 k i a b, h.1 k i a b], fun j a => by rw [h2.2 j a, h.2 j a]⟩
set_option maxRecDepth 8000 in
set_option maxHeartbeats 2000000 in
theorem frB.e {M M' : zM} (h : frB M M') : frE M M' := ⟨fun k i a b => h.1 k i a (by omega) (by omega) (by omega), fun j a => h.2 j (by omega) (by omega) (by omega) (by omega)⟩
set_option maxRecDepth 8000 in
set_option maxHeartbeats 2000000 in
theorem frE.p42 {M : zM} {j : Nat} {v : Int} (hj : 15 ≤ j) : frE M (zput M 42 0 j v) := ⟨fun k i a b => zput_rowk (by omega), fun q a => zput_j (by omega)⟩
set_option maxRecDepth 8000 in
set_option maxHeartbeats 2000000 in
theorem frE.pk {M : zM} {k j : Nat} {v : Int} (hk : 54 ≤ k ∧ k ≤ 65) : frE M (zput M k 0 j v) := ⟨fun k' i a b => zput_rowk (by omega), fun q a => zput_k (by omega)⟩
section ZTXQ
variable {B : Nat → Int} {L i : Nat} {X : zCd} {M : zM}
set_option maxRecDepth 8000 in
set_option maxHeartbeats 2000000 in
/-- cells that tell nothing of the reading -/
theorem stR.side {o : Nat} {fr : List Int} {W : zWt} {k j : Nat} {v : Int} (h : stR B L M i o fr W X) (hk : 59 ≤ k ∧ k ≤ 63) : stR B L (zput M k 0 j v) i o fr W X := by
  refine ⟨h.tape.putk (by omega) (by omega), h.tok.putk (by omega), ?_, ?_, ?_, ?_, ?_, ?_, ?_, ?_, ?_⟩
  · rw [zput_k (by omega)]; exact h.ok
  · rw [zput_k (by omega)]; exact h.wat
  · rw [zput_k (by omega)]; exact h.opn
  · rw [zput_k (by omega)]; exact h.frs
  · rw [zput_rowk (by omega)]; exact h.frm
  · rw [zput_k (by omega)]; exact h.wts
  · rw [zput_rowk (by omega), zput_rowk (by omega)]; exact h.wtm
  · rw [zput_k (by omega)]; exact h.ords
  · unfold rcM; rw [zput_rowk (by omega), zput_rowk (by omega)]; exact h.code
set_option maxRecDepth 8000 in
set_option maxHeartbeats 2000000 in
theorem stR.slot {o : Nat} {fr : List Int} {W : zWt} {j : Nat} {v : Int} (h : stR B L M i o fr W X) (hj : j = 30 ∨ j = 31) : stR B L (zput M 42 0 j v) i o fr W X := by
  refine ⟨h.tape.put (by omega), h.tok.put (by omega), ?_, ?_, ?_, ?_, ?_, ?_, ?_, ?_, ?_⟩
  · rw [zput_j (by omega)]; exact h.ok
  · rw [zput_j (by omega)]; exact h.wat
  · rw [zput_j (by omega)]; exact h.opn
  · rw [zput_j (by omega)]; exact h.frs
  · rw [zput_rowk (by omega)]; exact h.frm
  · rw [zput_j (by omega)]; exact h.wts
  · rw [zput_rowk (by omega), zput_rowk (by omega)]; exact h.wtm
  · rw [zput_j (by omega)]; exact h.ords
  · unfold rcM; rw [zput_rowk (by omega), zput_rowk (by omega)]; exact h.code
def lvR (B : Nat → Int) (L : Nat) (X : zCd) (M : zM) (r : (Int × Nat) ⊕ Nat) : Prop := match r with
  | .inl q => failR B L M q.1 q.2
  | .inr i => stR B L M i 0 [] [] X
set_option maxRecDepth 8000 in
set_option maxHeartbeats 2000000 in
theorem failR.put {w : Int} {f k j : Nat} {v : Int} (h : failR B L M w f) (hk : 59 ≤ k ∧ k ≤ 63) : failR B L (zput M k 0 j v) w f := by
  unfold failR at h ⊢
  rw [zput_k (by omega), zput_k (by omega)]
  exact h
set_option maxRecDepth 8000 in
set_option maxHeartbeats 2000000 in
theorem lvR.put {r : (Int × Nat) ⊕ Nat} {k j : Nat} {v : Int} (h : lvR B L X M r) (hk : 59 ≤ k ∧ k ≤ 63) : lvR B L X (zput M k 0 j v) r := by
  cases r with
  | inl q => exact failR.put h hk
  | inr i => exact stR.side h hk
set_option maxRecDepth 8000 in
set_option maxHeartbeats 2000000 in
theorem errs_dead {w v : Int} {f : Nat} (h : failR B L M w f) : f_X11_errs v M = some M := by
  unfold f_X11_errs
  rw [h.1, if_pos (by have := h.2.1; rw [zw_id (by omega) (by omega)]; omega)]
set_option maxRecDepth 8000 in
set_option maxHeartbeats 2000000 in
theorem R_numAny {lo hi : Int} {r : (Int × Nat) ⊕ Nat} (h : lvR B L X M r) (hlo : 0 ≤ lo ∧ lo ≤ 100) (hhi : 0 ≤ hi ∧ hi ≤ 100) : ∃ (v : Int) (M' : zM), f_X11_number lo hi M = some (v, M') ∧ lvR B L X M' (sB r (numI (tK B L) (tV B L) lo hi)) ∧ (∀ i j, r = .inr i → numI (tK B L) (tV B L) lo hi i = .inr j → v = tV B L i) ∧ frB M M' := by
  cases r with
  | inl q =>
    have h : failR B L M q.1 q.2 := h
    have hw := h.2.1
    refine ⟨lo, M, ?_, h, (fun i j z => by cases z), frB.rfl_⟩
    unfold f_X11_number f_X11_number_j15
    rw [h.1, zw_id (by omega) (by omega), if_pos (by omega), errs_dead h]
    exact zbs _ _
  | inr i =>
    have h : stR B L M i 0 [] [] X := h
    have ht := h.tok.2.1
    unfold f_X11_number f_X11_number_j15
    rw [h.ok, if_neg (by decide)]
    show ∃ v M', _ ∧ lvR B L X M' (numI (tK B L) (tV B L) lo hi i) ∧ _ ∧ _
    by_cases h1 : tK B L i = 25
    · obtain ⟨t1, t2, t3⟩ := ht.is2 h1
      rw [t1, if_pos (by decide)]
      by_cases h2 : lo ≤ tV B L i ∧ tV B L i ≤ hi
      · have t4 : M 42 0 18 = tV B L i := by omega
        have e1 : numI (tK B L) (tV B L) lo hi i = .inr (i + 1) := by unfold numI; rw [if_pos h1, if_pos h2]
        obtain ⟨M1, a1, a2, a3, a4⟩ := R_nxt h
        rw [e1]
        refine ⟨tV B L i, M1, ?_, a2, (fun i' j z _ => by cases z; rfl), (a4 0).1⟩
        rw [t4, in_yes h2.1 h2.2 (by omega) (by omega) (by omega)]
        simp only [zbs]
        rw [if_pos zw_1n, a1]
        simp only [zbs]
        rw [t4]
      · have e1 : numI (tK B L) (tV B L) lo hi i = .inl (2, i) := by unfold numI; rw [if_pos h1, if_neg h2]
        obtain ⟨M1, a1, a2, a3⟩ := R_err (w := 2) h (by omega)
        rw [e1]
        refine ⟨lo, M1, ?_, a2, (fun i' j z z2 => by cases z; rw [e1] at z2; cases z2), a3⟩
        rw [in_no (by omega) (by omega) (by omega) (by omega)]
        simp only [zbs]
        rw [if_neg (nn_ zw_0), a1]
        exact zbs _ _
    · have hs := ht.not2 h1
      have hle := ht.sort_le
      have e1 : numI (tK B L) (tV B L) lo hi i = .inl (1, i) := by unfold numI; rw [if_neg h1]
      obtain ⟨M1, a1, a2, a3⟩ := R_err (w := 1) h (by omega)
      rw [e1]
      refine ⟨lo, M1, ?_, a2, (fun i' j z z2 => by cases z; rw [e1] at z2; cases z2), a3⟩
      rw [if_neg (by rw [zw_id (by omega) (by omega)]; exact hs), a1]
      exact zbs _ _
set_option maxRecDepth 8000 in
set_option maxHeartbeats 2000000 in
theorem R_behAny {lo hi w kk : Int} {r : (Int × Nat) ⊕ Nat} (h : lvR B L X M r) (hlo : 0 ≤ lo ∧ lo ≤ 100) (hhi : 0 ≤ hi ∧ hi ≤ 100) (hk : 0 ≤ kk ∧ kk < 25) (hw : w = rk kk) : ∃ (v : Int) (M' : zM), f_X11_numberBehind w lo hi M = some (v, M') ∧ lvR B L X M' (sB (sB r (expI (tK B L) kk)) (numI (tK B L) (tV B L) lo hi)) ∧ (∀ i j, r = .inr i → tK B L i = kk → numI (tK B L) (tV B L) lo hi (i + 1) = .inr j → v = tV B L (i + 1)) ∧ frB M M' := by
  cases r with
  | inl q =>
    have h : failR B L M q.1 q.2 := h
    have hq := h.2.1
    obtain ⟨v, M1, a1, a2, a3, a4⟩ := R_numAny (lo := lo) (hi := hi) (r := .inl q) (X := X) h hlo hhi
    refine ⟨v, M1, ?_, a2, (fun i j z => by cases z), a4⟩
    unfold f_X11_numberBehind f_X11_numberBehind_j20 f_X11_numberBehind_j31
    rw [h.1, zw_id (by omega) (by omega), if_pos (by omega), if_pos (by omega), a1]
    exact zbs _ _
  | inr i =>
    have h : stR B L M i 0 [] [] X := h
    have ht := h.tok.2.1
    unfold f_X11_numberBehind f_X11_numberBehind_j20 f_X11_numberBehind_j31
    rw [h.ok, if_neg (nn_ zw_0), R_isW ht hk hw]
    simp only [zbs]
    show ∃ v M', _ ∧ lvR B L X M' (sB (expI (tK B L) kk i) (numI (tK B L) (tV B L) lo hi)) ∧ _ ∧ _
    by_cases h1 : tK B L i = kk
    · have e1 : expI (tK B L) kk i = .inr (i + 1) := if_pos h1
      rw [e1, if_pos h1, if_pos zw_1n, h.ok, if_neg (nn_ zw_0)]
      obtain ⟨M1, a1, a2, a3, a4⟩ := R_nxt h
      obtain ⟨v, M2, b1, b2, b3, b4⟩ := R_numAny (lo := lo) (hi := hi) (r := .inr (i + 1)) (X := X) a2 hlo hhi
      refine ⟨v, M2, ?_, b2, (fun i' j z _ z2 => by cases z; exact b3 _ _ rfl z2), (a4 0).1.trans b4⟩
      rw [a1]
      simp only [zbs]
      rw [b1]
      exact zbs _ _
    · have e1 : expI (tK B L) kk i = .inl (1, i) := if_neg h1
      rw [e1, if_neg h1, if_neg (nn_ zw_0)]
      obtain ⟨M1, a1, a2, a3⟩ := R_err (w := 1) h (by omega)
      obtain ⟨v, M2, b1, b2, b3, b4⟩ := R_numAny (lo := lo) (hi := hi) (r := .inl (1, i)) (X := X) a2 hlo hhi
      refine ⟨v, M2, ?_, b2, (fun i' j z z1 _ => by cases z; exact absurd z1 h1), a3.trans b4⟩
      rw [a1]
      simp only [zbs]
      rw [a2.1, if_pos (by decide), b1]
      exact zbs _ _
set_option maxRecDepth 8000 in
set_option maxHeartbeats 2000000 in
theorem R_142 {r : (Int × Nat) ⊕ Nat} {n : Nat} {a b c : Int} (hn : n < 24) (h30 : M 42 0 30 = n) (h : lvR B L X M r) : ∃ M', f_X11_doing_j142 a b c M = some M' ∧ lvR B L X M' r ∧ (M' 61 0 n = a ∧ M' 62 0 n = b ∧ M' 63 0 n = c) ∧ frE M M' ∧ (∀ q, 59 ≤ q → q ≤ 63 → ∀ j, j ≠ n → M' q 0 j = M q 0 j) ∧ (M' 59 0 = M 59 0 ∧ M' 60 0 = M 60 0) ∧ M' 42 0 30 = n := by
  unfold f_X11_doing_j142
  rw [h30, zw_nat (by omega), if_pos (by omega), zlt_, zput_k (by omega), h30, zw_nat (by omega), if_pos (by omega), zlt_, zput_k (by omega), zput_k (by omega), h30, zw_nat (by omega), if_pos (by omega), zlt_, zix_nat (by omega)]
  refine ⟨_, rfl, ((h.put (by omega)).put (by omega)).put (by omega), ⟨?_, ?_, zput_eq _ _ _ _ _⟩, (frE.pk (by omega)).trans ((frE.pk (by omega)).trans (frE.pk (by omega))), fun q q1 q2 j hj => ?_, ⟨?_, ?_⟩, ?_⟩
  · rw [zput_k (by omega), zput_k (by omega), zput_eq]
  · rw [zput_k (by omega), zput_eq]
  · rw [zput_j hj, zput_j hj, zput_j hj]
  · rw [zput_rowk (by omega), zput_rowk (by omega), zput_rowk (by omega)]
  · rw [zput_rowk (by omega), zput_rowk (by omega), zput_rowk (by omega)]
  · rw [zput_k (by omega), zput_k (by omega), zput_k (by omega)]; exact h30
set_option maxRecDepth 8000 in
set_option maxHeartbeats 2000000 in
theorem R_deed {k : Int} {n : Nat} (hn : n < 24) (hk : 4 ≤ k ∧ k ≤ 10) (h31 : M 42 0 31 = k) (h30 : M 42 0 30 = n) (h : stR B L M i 0 [] [] X) : ∃ M', f_X11_doing M = some M' ∧ lvR B L X M' (dI (tK B L) (tV B L) k i) ∧ frE M M' ∧ (∀ q, 59 ≤ q → q ≤ 63 → ∀ j, j ≠ n → M' q 0 j = M q 0 j) ∧ (M' 59 0 = M 59 0 ∧ M' 60 0 = M 60 0) ∧ M' 42 0 30 = n ∧ ∀ j, dI (tK B L) (tV B L) k i = .inr j → M' 61 0 n = tV B L i ∧ (k = 5 ∨ k = 9 → M' 62 0 n = tV B L (i + 2)) ∧ (k = 5 → M' 63 0 n = tV B L (i + 4)) := by
  have h0 : lvR B L X M (.inr i) := h
  have fq : ∀ {N N' : zM}, frB N N' → ∀ q, 59 ≤ q → q ≤ 63 → N' q 0 = N q 0 := fun f q q1 q2 => f.1 q 0 (by omega) (by omega) (by omega) (by omega)
  have f30 : ∀ {N N' : zM}, frB N N' → N' 42 0 30 = N 42 0 30 := fun f => f.2 30 (by omega) (by omega) (by omega) (by omega)
  unfold f_X11_doing
  rw [h31, zw_id (z := k) (by omega) (by omega)]
  have one : ∀ lo hi : Int, 0 ≤ lo ∧ lo ≤ 100 → 0 ≤ hi ∧ hi ≤ 100 → k ≠ 5 → k ≠ 9 → lo = loT k → hi = hiT k → ∃ M', ((f_X11_number lo hi M).bind fun p2 => f_X11_doing_j142 p2.1 (-1) (-1) p2.2) = some M' ∧ lvR B L X M' (dI (tK B L) (tV B L) k i) ∧ frE M M' ∧ (∀ q, 59 ≤ q → q ≤ 63 → ∀ j, j ≠ n → M' q 0 j = M q 0 j) ∧ (M' 59 0 = M 59 0 ∧ M' 60 0 = M 60 0) ∧ M' 42 0 30 = n ∧ ∀ j, dI (tK B L) (tV B L) k i = .inr j → M' 61 0 n = tV B L i ∧ (k = 5 ∨ k = 9 → M' 62 0 n = tV B L (i + 2)) ∧ (k = 5 → M' 63 0 n = tV B L (i + 4)) := by
    intro lo hi b1 b2 n5 n9 e1 e2
    have hd : dI (tK B L) (tV B L) k i = numI (tK B L) (tV B L) lo hi i := by unfold dI; rw [if_neg n5, if_neg n9, e1, e2]
    rw [hd]
    obtain ⟨v, M1, a1, a2, a3, a4⟩ := R_numAny (lo := lo) (hi := hi) h0 b1 b2
    obtain ⟨M2, c1, c2, ⟨c3, -, -⟩, c4, c5, ⟨c6, c7⟩, c8⟩ := R_142 (a := v) (b := -1) (c := -1) hn (by rw [f30 a4]; exact h30) a2
    refine ⟨M2, ?_, c2, a4.e.trans c4, fun q q1 q2 j hj => by rw [c5 q q1 q2 j hj, fq a4 q q1 q2], ⟨by rw [c6, fq a4 59 (by omega) (by omega)], by rw [c7, fq a4 60 (by omega) (by omega)]⟩, c8, fun j hj => ⟨?_, fun z => by omega, fun z => by omega⟩⟩
    · rw [a1]
      simp only [zbs]
      exact c1
    · rw [c3]; exact a3 i j rfl hj
  by_cases h4 : k = 4
  · rw [if_pos h4]
    exact one 0 10 (by omega) (by omega) (by omega) (by omega) (by rw [h4]; rfl) (by rw [h4]; rfl)
  rw [if_neg h4]
  by_cases h5 : k = 5
  · rw [if_pos h5]
    obtain ⟨v1, M1, a1, a2, a3, a4⟩ := R_numAny (lo := 0) (hi := 99) h0 (by omega) (by omega)
    obtain ⟨v2, M2, b1, b2, b3, b4⟩ := R_behAny (lo := 0) (hi := 5) (w := 11) (kk := 16) a2 (by omega) (by omega) (by omega) rfl
    obtain ⟨v3, M3, c1, c2, c3, c4⟩ := R_behAny (lo := 1) (hi := 9) (w := 12) (kk := 13) b2 (by omega) (by omega) (by omega) rfl
    have f13 : frB M M3 := a4.trans (b4.trans c4)
    obtain ⟨M4, d1, d2, ⟨d3, d4, d5⟩, d6, d7, ⟨d8, d9⟩, d10⟩ := R_142 (a := v1) (b := v2) (c := v3) hn (by rw [f30 f13]; exact h30) c2
    have hd : dI (tK B L) (tV B L) k i = sB (sB (sB (sB (numI (tK B L) (tV B L) 0 99 i) (expI (tK B L) 16)) (numI (tK B L) (tV B L) 0 5)) (expI (tK B L) 13)) (numI (tK B L) (tV B L) 1 9) := by unfold dI; rw [if_pos h5]
    rw [hd]
    refine ⟨M4, ?_, d2, f13.e.trans d6, fun q q1 q2 j hj => by rw [d7 q q1 q2 j hj, fq f13 q q1 q2], ⟨by rw [d8, fq f13 59 (by omega) (by omega)], by rw [d9, fq f13 60 (by omega) (by omega)]⟩, d10, fun j hj => ?_⟩
    · rw [a1]
      simp only [zbs]
      rw [b1]
      simp only [zbs]
      rw [c1]
      simp only [zbs]
      exact d1
    · obtain ⟨q4, o4, p4⟩ := sB_ok hj
      obtain ⟨q3, o3, p3⟩ := sB_ok o4
      obtain ⟨q2, o2, p2⟩ := sB_ok o3
      obtain ⟨q1, o1, p1⟩ := sB_ok o2
      obtain ⟨t1, -⟩ := numI_ok o1
      obtain ⟨t2, k2⟩ := expI_ok p1
      obtain ⟨t3, -⟩ := numI_ok p2
      obtain ⟨t4, k4⟩ := expI_ok p3
      have u1 := a3 i q1 rfl o1
      subst t1 t2 t3 t4
      have u2 := b3 (i + 1) _ o1 k2 p2
      have u3 := c3 (i + 1 + 1 + 1) _ o3 k4 p4
      exact ⟨by rw [d3]; exact u1, fun _ => by rw [d4]; exact u2, fun _ => by rw [d5]; exact u3⟩
  rw [if_neg h5]
  by_cases h6 : k = 6
  · rw [if_pos h6]
    exact one 0 99 (by omega) (by omega) (by omega) (by omega) (by rw [h6]; rfl) (by rw [h6]; rfl)
  rw [if_neg h6]
  by_cases h7 : k = 7
  · rw [if_pos h7]
    exact one 0 7 (by omega) (by omega) (by omega) (by omega) (by rw [h7]; rfl) (by rw [h7]; rfl)
  rw [if_neg h7]
  by_cases h8 : k = 8
  · rw [if_pos h8]
    exact one 0 7 (by omega) (by omega) (by omega) (by omega) (by rw [h8]; rfl) (by rw [h8]; rfl)
  rw [if_neg h8]
  by_cases h9 : k = 9
  · rw [if_pos h9]
    obtain ⟨v1, M1, a1, a2, a3, a4⟩ := R_numAny (lo := 0) (hi := 7) h0 (by omega) (by omega)
    obtain ⟨v2, M2, b1, b2, b3, b4⟩ := R_behAny (lo := 0) (hi := 5) (w := 2) (kk := 2) a2 (by omega) (by omega) (by omega) rfl
    have f13 : frB M M2 := a4.trans b4
    obtain ⟨M4, d1, d2, ⟨d3, d4, d5⟩, d6, d7, ⟨d8, d9⟩, d10⟩ := R_142 (a := v1) (b := v2) (c := -1) hn (by rw [f30 f13]; exact h30) b2
    have hd : dI (tK B L) (tV B L) k i = sB (sB (numI (tK B L) (tV B L) 0 7 i) (expI (tK B L) 2)) (numI (tK B L) (tV B L) 0 5) := by unfold dI; rw [if_neg h5, if_pos h9]
    rw [hd]
    refine ⟨M4, ?_, d2, f13.e.trans d6, fun q q1 q2 j hj => by rw [d7 q q1 q2 j hj, fq f13 q q1 q2], ⟨by rw [d8, fq f13 59 (by omega) (by omega)], by rw [d9, fq f13 60 (by omega) (by omega)]⟩, d10, fun j hj => ?_⟩
    · rw [a1]
      simp only [zbs]
      rw [b1]
      simp only [zbs]
      exact d1
    · obtain ⟨q2, o2, p2⟩ := sB_ok hj
      obtain ⟨q1, o1, p1⟩ := sB_ok o2
      obtain ⟨t1, -⟩ := numI_ok o1
      obtain ⟨t2, k2⟩ := expI_ok p1
      have u1 := a3 i q1 rfl o1
      subst t1 t2
      have u2 := b3 (i + 1) _ o1 k2 p2
      exact ⟨by rw [d3]; exact u1, fun _ => by rw [d4]; exact u2, fun z => by omega⟩
  rw [if_neg h9, if_pos (show k = 10 by omega)]
  exact one 1 60 (by omega) (by omega) (by omega) (by omega) (by rw [show k = 10 by omega]; rfl) (by rw [show k = 10 by omega]; rfl)
set_option maxRecDepth 8000 in
set_option maxHeartbeats 2000000 in
/-- a clause is over -/
theorem R_clOver {fr : List Int} {P : zWt} (h : stR B L M i 0 fr (P ++ []) X) (hfr : fr.length ≤ 1) (hP : okP 1 fr.length P) (hB : wtB 40 P) (hl : P.length ≤ 80) (hX : X.length + P.length < 400) : ∃ M', f_X11_clauseIsOver M = some M' ∧ stR B L M' (i + 1) 0 [] [] (X ++ pops P ++ [(408, 0)]) ∧ M' 42 0 28 = 4 ∧ M' 42 0 30 = M 42 0 30 + 1 ∧ frE M M' ∧ ∀ q, 59 ≤ q → q ≤ 63 → M' q 0 = M q 0 := by
  obtain ⟨M1, a1, a2, a3, a4⟩ := R_works (r := 1) (Wt := []) (by omega) (fun p l e => by cases e) (by omega) h hP (by rw [List.append_nil]; exact hB) (by rw [List.append_nil]; exact hl) (by omega)
  have h2 : stR B L (zput M1 42 0 22 0) i 0 [] [] (X ++ pops P) := by
    refine ⟨a2.tape.put (by omega), a2.tok.put (by omega), ?_, ?_, ?_, ?_, trivial, ?_, trivial, ?_, ?_⟩
    · rw [zput_j (by omega)]; exact a2.ok
    · rw [zput_j (by omega)]; exact a2.wat
    · rw [zput_j (by omega)]; exact a2.opn
    · rw [zput_eq]; rfl
    · rw [zput_j (by omega)]; exact a2.wts
    · rw [zput_j (by omega)]; exact a2.ords
    · unfold rcM; rw [zput_rowk (by omega), zput_rowk (by omega)]; exact a2.code
  obtain ⟨M2, b1, b2, b3, b4⟩ := R_emit (v := 408) (u := 0) h2 (by rw [List.length_append, pops_len]; omega)
  have h3 := b2.slot (j := 30) (v := M2 42 0 30 + 1) (Or.inl rfl)
  obtain ⟨M3, c1, c2, c3, c4⟩ := R_nxt h3
  have e30 : M2 42 0 30 = M 42 0 30 := by rw [(b4 0).1.2 30 (by omega) (by omega) (by omega) (by omega), zput_j (by omega), (a4 0).1.2 30 (by omega) (by omega) (by omega) (by omega)]
  refine ⟨zput M3 42 0 28 4, ?_, c2.state, zput_eq _ _ _ _ _, ?_, (a4 0).1.e.trans ((frE.p42 (by omega)).trans ((b4 0).1.e.trans ((frE.p42 (by omega)).trans ((c4 0).1.e.trans (frE.p42 (by omega)))))), fun q q1 q2 => ?_⟩
  · unfold f_X11_clauseIsOver
    rw [a1]
    simp only [zbs]
    rw [zlt_, b1]
    simp only [zbs]
    rw [zlt_, c1]
    simp only [zbs, zlt_]
  · rw [zput_j (by omega), (c4 0).1.2 30 (by omega) (by omega) (by omega) (by omega), zput_eq, e30]
  · rw [zput_rowk (by omega), (c4 0).1.1 q 0 (by omega) (by omega) (by omega) (by omega), zput_rowk (by omega), (b4 0).1.1 q 0 (by omega) (by omega) (by omega) (by omega), zput_rowk (by omega), (a4 0).1.1 q 0 (by omega) (by omega) (by omega) (by omega)]
end ZTXQ
