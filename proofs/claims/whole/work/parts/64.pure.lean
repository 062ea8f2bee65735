/-! the reference's rows: laid, kept, steps -/
set_option maxRecDepth 8000 in
set_option maxHeartbeats 300000 in
theorem R_lays (M : zM) : ∃ M', f_X11_laysNow M = some M' ∧ (∀ k i, k ≠ 68 → M' k i = M k i) ∧ ∀ q, q < 161 → M' 68 0 q = M 43 0 (90 + q) := by
  have key := zT_cnt0 (body := fun s : Int × zM => f_X11_laysNow_L2 s.1 s.2) (fun i N => (∀ k i, k ≠ 68 → N k i = M k i) ∧ ∀ q, q < i → N 68 0 q = M 43 0 (90 + q)) 161 (Q := fun M' => (∀ k i, k ≠ 68 → M' k i = M k i) ∧ ∀ q, q < 161 → M' 68 0 q = M 43 0 (90 + q)) ?_ ?_ (m := zF) (by unfold zF; omega) (N0 := M) ⟨fun _ _ _ => rfl, fun q hq => by omega⟩
  · obtain ⟨M', k1, k2, k3⟩ := key
    refine ⟨M', ?_, k2, k3⟩
    unfold f_X11_laysNow
    rw [k1]
    simp only [zbs]
  · rintro i N hi ⟨h1, h2⟩
    dsimp only
    unfold f_X11_laysNow_L2
    simp (disch := omega) only [if_true, if_false, true_or, or_true, true_and, and_true, not_true_eq_false, not_false_eq_true, zw_id, if_neg, if_pos, zix_nat, zi90, zlt_, h1]
    refine zT_some (Or.inl ⟨_, rfl, fun k i hk => by rw [zput_rowk (by omega)]; exact h1 k i hk, fun q hq => ?_⟩)
    by_cases hqi : q = i
    · subst hqi; rw [zput_eq]
    · rw [zput_j hqi]; exact h2 q (by omega)
  · rintro N ⟨h1, h2⟩
    dsimp only
    unfold f_X11_laysNow_L2
    rw [zw_id (by omega) (by omega), if_pos (by omega)]
    exact zT_some ⟨N, rfl, h1, h2⟩
set_option maxRecDepth 8000 in
set_option maxHeartbeats 300000 in
theorem R_keepsNow (M : zM) : ∃ M', f_X11_keepsNow M = some M' ∧ (∀ k i, k ≠ 43 → M' k i = M k i) ∧ ∀ q, M' 43 0 q = if 90 ≤ q ∧ q < 251 then M 68 0 (q - 90) else M 43 0 q := by
  have key := zT_cnt0 (body := fun s : Int × zM => f_X11_keepsNow_L2 s.1 s.2) (fun i N => (∀ k i, k ≠ 43 → N k i = M k i) ∧ ∀ q, N 43 0 q = if 90 ≤ q ∧ q < 90 + i then M 68 0 (q - 90) else M 43 0 q) 161 (Q := fun M' => (∀ k i, k ≠ 43 → M' k i = M k i) ∧ ∀ q, M' 43 0 q = if 90 ≤ q ∧ q < 251 then M 68 0 (q - 90) else M 43 0 q) ?_ ?_ (m := zF) (by unfold zF; omega) (N0 := M) ⟨fun _ _ _ => rfl, fun q => by rw [if_neg (by omega)]⟩
  · obtain ⟨M', k1, k2, k3⟩ := key
    refine ⟨M', ?_, k2, k3⟩
    unfold f_X11_keepsNow
    rw [k1]
    simp only [zbs]
  · rintro i N hi ⟨h1, h2⟩
    dsimp only
    unfold f_X11_keepsNow_L2
    simp (disch := omega) only [if_true, if_false, true_or, or_true, true_and, and_true, not_true_eq_false, not_false_eq_true, zw_id, if_neg, if_pos, zix_nat, zi90, zlt_, h1]
    refine zT_some (Or.inl ⟨_, rfl, fun k i hk => by rw [zput_rowk (by omega)]; exact h1 k i hk, fun q => ?_⟩)
    by_cases hqi : q = 90 + i
    · subst hqi
      rw [zput_eq, if_pos (by omega), show 90 + i - 90 = i by omega]
    · rw [zput_j hqi, h2 q]
      by_cases hc : 90 ≤ q ∧ q < 90 + i
      · rw [if_pos hc, if_pos (by omega)]
      · rw [if_neg hc, if_neg (by omega)]
  · rintro N ⟨h1, h2⟩
    dsimp only
    unfold f_X11_keepsNow_L2
    rw [zw_id (by omega) (by omega), if_pos (by omega)]
    exact zT_some ⟨N, rfl, h1, h2⟩
set_option maxRecDepth 8000 in
set_option maxHeartbeats 300000 in
theorem R_step52 {M : zM} {A : Nat → Int} {n : Nat} (hM : M 43 0 = A) (hn : A 5 = n) (h30 : n < 30) : ∃ M', f_X11_keepsStep_j52 M = some M' ∧ (∀ k i, k ≠ 43 → M' k i = M k i) ∧ ∀ q, M' 43 0 q = if q = 5 then (n : Int) + 1 else if 260 + 161 * n ≤ q ∧ q < 421 + 161 * n then A (90 + (q - (260 + 161 * n))) else A q := by
  have key := zT_cnt0 (body := fun s : Int × zM => f_X11_keepsStep_L54 s.1 s.2) (fun i N => (∀ k i, k ≠ 43 → N k i = M k i) ∧ ∀ q, N 43 0 q = if 260 + 161 * n ≤ q ∧ q < 260 + 161 * n + i then A (90 + (q - (260 + 161 * n))) else A q) 161 (Q := fun M' => (∀ k i, k ≠ 43 → M' k i = M k i) ∧ ∀ q, M' 43 0 q = if 260 + 161 * n ≤ q ∧ q < 421 + 161 * n then A (90 + (q - (260 + 161 * n))) else A q) ?_ ?_ (m := zF) (by unfold zF; omega) (N0 := M) ⟨fun _ _ _ => rfl, fun q => by rw [if_neg (by omega), hM]⟩
  · obtain ⟨M', k1, k2, k3⟩ := key
    have h5 : M' 43 0 5 = n := by rw [k3, if_neg (by omega), hn]
    refine ⟨zput M' 43 0 5 (n + 1), ?_, fun k i hk => by rw [zput_rowk (by omega)]; exact k2 k i hk, fun q => ?_⟩
    · unfold f_X11_keepsStep_j52
      rw [k1]
      simp only [zbs, zlt_, h5]
    · by_cases hq : q = 5
      · subst hq; rw [zput_eq, if_pos rfl]
      · rw [zput_j hq, if_neg hq, k3]
  · rintro i N hi ⟨h1, h2⟩
    dsimp only
    have h5 : N 43 0 5 = n := by rw [h2, if_neg (by omega), hn]
    have h9 : N 43 0 (90 + i) = A (90 + i) := by rw [h2, if_neg (by omega)]
    have e1 : zix (260 + 161 * (n : Int) + (i : Int)) = 260 + 161 * n + i := zix_id (by omega) (by omega)
    unfold f_X11_keepsStep_L54
    simp (disch := omega) only [if_true, if_false, true_or, or_true, true_and, and_true, not_true_eq_false, not_false_eq_true, zw_id, if_neg, if_pos, zi90, zlt_, h5, h9, e1]
    refine zT_some (Or.inl ⟨_, rfl, fun k i hk => by rw [zput_rowk (by omega)]; exact h1 k i hk, fun q => ?_⟩)
    by_cases hqi : q = 260 + 161 * n + i
    · subst hqi
      rw [zput_eq, if_pos (by omega), show 260 + 161 * n + i - (260 + 161 * n) = i by omega]
    · rw [zput_j hqi, h2 q]
      by_cases hc : 260 + 161 * n ≤ q ∧ q < 260 + 161 * n + i
      · rw [if_pos hc, if_pos (by omega)]
      · rw [if_neg hc, if_neg (by omega)]
  · rintro N ⟨h1, h2⟩
    dsimp only
    unfold f_X11_keepsStep_L54
    rw [zw_id (by omega) (by omega), if_pos (by omega)]
    refine zT_some ⟨N, rfl, h1, fun q => ?_⟩
    rw [h2 q, show 260 + 161 * n + 161 = 421 + 161 * n by omega]
/-- a STEP is kept -/
def sKeepN (A : Nat → Int) (n : Nat) : Nat → Int := fun q => if q = 5 then (n : Int) + 1 else if 260 + 161 * n ≤ q ∧ q < 421 + 161 * n then A (90 + (q - (260 + 161 * n))) else A q
def sDrop (A : Nat → Int) : Nat → Int := fun q => if q = 5 then 29 else if 260 ≤ q ∧ q < 4929 then A (q + 161) else A q
def sKeep (A : Nat → Int) : Nat → Int := if A 5 = 30 then sKeepN (sDrop A) 29 else sKeepN A (A 5).toNat
set_option maxRecDepth 8000 in
set_option maxHeartbeats 300000 in
theorem R_keepsStep {M : zM} {A : Nat → Int} (hM : M 43 0 = A) (h5 : 0 ≤ A 5 ∧ A 5 ≤ 30) : ∃ M', f_X11_keepsStep M = some M' ∧ (∀ k i, k ≠ 43 → M' k i = M k i) ∧ M' 43 0 = sKeep A := by
  have h4 : M 43 0 5 = A 5 := by rw [hM]
  unfold sKeep
  by_cases h : A 5 = 30
  · rw [if_pos h]
    have key := zT_cnt (body := fun s : Int × zM => f_X11_keepsStep_L15 s.1 s.2) 260 (fun i N => (∀ k i, k ≠ 43 → N k i = M k i) ∧ ∀ q, N 43 0 q = if 260 ≤ q ∧ q < 260 + i then A (q + 161) else A q) 4669 (Q := fun M' => (∀ k i, k ≠ 43 → M' k i = M k i) ∧ ∀ q, M' 43 0 q = if 260 ≤ q ∧ q < 4929 then A (q + 161) else A q) ?_ ?_ (m := zF) (by unfold zF; omega) (N0 := M) ⟨fun _ _ _ => rfl, fun q => by rw [if_neg (by omega), hM]⟩
    · obtain ⟨N, k1, k2, k3⟩ := key
      have k1 : zlp (fun s : Int × zM => f_X11_keepsStep_L15 s.1 s.2) zF (260, M) = some N := k1
      have hd : zput N 43 0 5 29 43 0 = sDrop A := by
        funext q
        unfold sDrop
        by_cases hq : q = 5
        · subst hq; rw [zput_eq, if_pos rfl]
        · rw [zput_j hq, if_neg hq, k3]
      obtain ⟨M', e1, e2, e3⟩ := R_step52 (n := 29) hd (by unfold sDrop; rw [if_pos rfl]; rfl) (by omega)
      refine ⟨M', ?_, fun k i hk => by rw [e2 k i hk, zput_rowk (by omega), k2 k i hk], ?_⟩
      · have hc : ¬ ¬ zw (M 43 0 5) = 30 := by rw [h4, h, zw_id (by omega) (by omega)]; exact fun z => z rfl
        unfold f_X11_keepsStep
        rw [if_neg hc, k1]
        simp only [zbs, zlt_]
        exact e1
      · funext q
        rw [e3 q]
        rfl
    · rintro i N hi ⟨h1, h2⟩
      dsimp only
      have e1 : zix ((260 + i : Nat) : Int) = 260 + i := zix_id (by omega) (by omega)
      have e2 : zix (((260 + i : Nat) : Int) + 161) = 260 + i + 161 := zix_id (by omega) (by omega)
      have h9 : N 43 0 (260 + i + 161) = A (260 + i + 161) := by rw [h2, if_neg (by omega)]
      unfold f_X11_keepsStep_L15
      simp (disch := omega) only [if_true, if_false, true_or, or_true, true_and, and_true, not_true_eq_false, not_false_eq_true, zw_id, if_neg, if_pos, zlt_, e1, e2, h9]
      refine zT_some (Or.inl ⟨_, rfl, fun k i hk => by rw [zput_rowk (by omega)]; exact h1 k i hk, fun q => ?_⟩)
      by_cases hqi : q = 260 + i
      · subst hqi
        rw [zput_eq, if_pos (by omega)]
      · rw [zput_j hqi, h2 q]
        by_cases hc : 260 ≤ q ∧ q < 260 + i
        · rw [if_pos hc, if_pos (by omega)]
        · rw [if_neg hc, if_neg (by omega)]
    · rintro N ⟨h1, h2⟩
      dsimp only
      unfold f_X11_keepsStep_L15
      rw [zw_id (by omega) (by omega), if_pos (by omega)]
      exact zT_some ⟨N, rfl, h1, fun q => by rw [h2 q]⟩
  · rw [if_neg h]
    obtain ⟨n, hn⟩ := Int.eq_ofNat_of_zero_le h5.1
    obtain ⟨M', e1, e2, e3⟩ := R_step52 hM hn (by omega)
    refine ⟨M', ?_, e2, ?_⟩
    · have hc : ¬ zw (M 43 0 5) = 30 := by rw [h4, zw_id (by omega) (by omega)]; exact h
      unfold f_X11_keepsStep
      rw [if_pos hc]
      exact e1
    · funext q
      rw [e3 q, hn, Int.toNat_natCast]
      rfl
/-- the latest STEP is taken back -/
def sUndo (A : Nat → Int) (n : Nat) : Nat → Int := fun q => if q = 5 then (n : Int) else if 90 ≤ q ∧ q < 251 then A (260 + 161 * n + (q - 90)) else A q
set_option maxRecDepth 8000 in
set_option maxHeartbeats 300000 in
theorem R_undo {M : zM} {A : Nat → Int} {n : Nat} (hM : M 43 0 = A) (hn : A 5 = (n : Int) + 1) (h30 : n < 30) : ∃ M', f_X11_undo M = some ((n : Int), M') ∧ (∀ k i, k ≠ 43 → M' k i = M k i) ∧ M' 43 0 = sUndo A n := by
  have h5 : M 43 0 5 = (n : Int) + 1 := by rw [hM, hn]
  have h6 : (n : Int) + 1 - 1 = n := by omega
  have key := zT_cnt0 (body := fun s : Int × zM => f_X11_undo_L23 s.1 s.2) (fun i N => (∀ k i, k ≠ 43 → N k i = M k i) ∧ ∀ q, N 43 0 q = if q = 5 then (n : Int) else if 90 ≤ q ∧ q < 90 + i then A (260 + 161 * n + (q - 90)) else A q) 161 (Q := fun M' => (∀ k i, k ≠ 43 → M' k i = M k i) ∧ ∀ q, M' 43 0 q = if q = 5 then (n : Int) else if 90 ≤ q ∧ q < 251 then A (260 + 161 * n + (q - 90)) else A q) ?_ ?_ (m := zF) (by unfold zF; omega) (N0 := zput M 43 0 5 n) ⟨fun k i hk => zput_rowk (by omega), fun q => by
    by_cases hq : q = 5
    · subst hq; rw [zput_eq, if_pos rfl]
    · rw [zput_j hq, if_neg hq, if_neg (by omega), hM]⟩
  · obtain ⟨M', k1, k2, k3⟩ := key
    have h7 : M' 43 0 5 = n := by rw [k3, if_pos rfl]
    refine ⟨M', ?_, k2, by funext q; rw [k3 q]; rfl⟩
    have hc : ¬ zw (M 43 0 5) = 0 := by rw [h5, zw_id (by omega) (by omega)]; omega
    unfold f_X11_undo
    rw [if_pos hc]
    simp only [zlt_, h5, h6]
    rw [k1]
    simp only [zbs, h7]
  · rintro i N hi ⟨h1, h2⟩
    dsimp only
    have h7 : N 43 0 5 = n := by rw [h2, if_pos rfl]
    have h9 : N 43 0 (260 + 161 * n + i) = A (260 + 161 * n + i) := by rw [h2, if_neg (by omega), if_neg (by omega)]
    have e1 : zix (260 + 161 * (n : Int) + (i : Int)) = 260 + 161 * n + i := zix_id (by omega) (by omega)
    unfold f_X11_undo_L23
    simp (disch := omega) only [if_true, if_false, true_or, or_true, true_and, and_true, not_true_eq_false, not_false_eq_true, zw_id, if_neg, if_pos, zi90, zlt_, h7, h9, e1]
    refine zT_some (Or.inl ⟨_, rfl, fun k i hk => by rw [zput_rowk (by omega)]; exact h1 k i hk, fun q => ?_⟩)
    by_cases hqi : q = 90 + i
    · subst hqi
      rw [zput_eq, if_neg (by omega), if_pos (by omega), show 90 + i - 90 = i by omega]
    · rw [zput_j hqi, h2 q]
      by_cases hq5 : q = 5
      · rw [if_pos hq5, if_pos hq5]
      · rw [if_neg hq5, if_neg hq5]
        by_cases hc : 90 ≤ q ∧ q < 90 + i
        · rw [if_pos hc, if_pos (by omega)]
        · rw [if_neg hc, if_neg (by omega)]
  · rintro N ⟨h1, h2⟩
    dsimp only
    unfold f_X11_undo_L23
    rw [zw_id (by omega) (by omega), if_pos (by omega)]
    exact zT_some ⟨N, rfl, h1, fun q => by rw [h2 q]⟩
set_option maxRecDepth 8000 in
set_option maxHeartbeats 300000 in
theorem R_undo_no {M : zM} {A : Nat → Int} (hM : M 43 0 = A) (hn : A 5 = 0) : f_X11_undo M = some (-1, M) := by
  have h5 : M 43 0 5 = 0 := by rw [hM, hn]
  unfold f_X11_undo
  rw [if_neg (by rw [h5]; exact fun z => z rfl)]
set_option maxRecDepth 8000 in
set_option maxHeartbeats 300000 in
theorem copies_in (M : zM) : ∃ M', f_X11_copies 0 M = some M' ∧ (∀ k i, k ≠ 43 → M' k i = M k i) ∧ (∀ j, j < 5090 → M' 43 0 j = M 44 0 j) := by
  have key := zT_cnt0 (body := fun s : Int × zM => f_X11_copies_L2 0 s.1 s.2) (fun i N => (∀ k i, k ≠ 43 → N k i = M k i) ∧ ∀ q, q < i → N 43 0 q = M 44 0 q) 5090 (Q := fun M' => (∀ k i, k ≠ 43 → M' k i = M k i) ∧ ∀ q, q < 5090 → M' 43 0 q = M 44 0 q) ?_ ?_ (m := zF) (by unfold zF; omega) (N0 := M) ⟨fun _ _ _ => rfl, fun q hq => by omega⟩
  · obtain ⟨M', k1, k2, k3⟩ := key
    refine ⟨M', ?_, k2, k3⟩
    unfold f_X11_copies
    rw [k1]
    simp only [zbs]
  · rintro i N hi ⟨h1, h2⟩
    dsimp only
    unfold f_X11_copies_L2 f_X11_copies_j40
    simp (disch := omega) only [if_true, if_false, true_or, or_true, true_and, and_true, not_true_eq_false, not_false_eq_true, zw_id, if_neg, if_pos, zix_nat, zlt_, h1]
    refine zT_some (Or.inl ⟨_, rfl, fun k i hk => by rw [zput_rowk (by omega)]; exact h1 k i hk, fun q hq => ?_⟩)
    by_cases hqi : q = i
    · subst hqi; rw [zput_eq]
    · rw [zput_j hqi]; exact h2 q (by omega)
  · rintro N ⟨h1, h2⟩
    dsimp only
    unfold f_X11_copies_L2
    rw [zw_id (by omega) (by omega), if_pos (by omega)]
    exact zT_some ⟨N, rfl, h1, h2⟩
