/-! text: the reference keeps what it has read -/
def cpy (f : Nat → Int) (s n : Nat) (g : Nat → Int) : Nat → Int := fun j => if s ≤ j ∧ j < s + n then g (j - s) else f j
set_option maxRecDepth 8000 in
set_option maxHeartbeats 2000000 in
theorem cpy_in {f g : Nat → Int} {s n k : Nat} (h : k < n) : cpy f s n g (s + k) = g k := by
  unfold cpy
  rw [if_pos (by omega), show s + k - s = k by omega]
set_option maxRecDepth 8000 in
set_option maxHeartbeats 2000000 in
theorem cpy_out {f g : Nat → Int} {s n j : Nat} (h : j < s ∨ s + n ≤ j) : cpy f s n g j = f j := by
  unfold cpy
  rw [if_neg (by omega)]
set_option maxRecDepth 8000 in
set_option maxHeartbeats 2000000 in
theorem cpy_put {N : zM} {k s n : Nat} {f g : Nat → Int} {v : Int} (h : N k 0 = cpy f s n g) (hv : v = g n) : zput N k 0 (s + n) v k 0 = cpy f s (n + 1) g := by
  rw [zput_row]
  funext j
  rw [h]
  unfold cpy
  by_cases hj : j = s + n
  · rw [if_pos hj, if_pos (by omega), hv, show j - s = n by omega]
  · rw [if_neg hj]
    by_cases h2 : s ≤ j ∧ j < s + n
    · rw [if_pos h2, if_pos (by omega)]
    · rw [if_neg h2, if_neg (by omega)]
set_option maxRecDepth 8000 in
set_option maxHeartbeats 2000000 in
theorem cpy_0 {f g : Nat → Int} {s : Nat} : f = cpy f s 0 g := by
  funext j
  unfold cpy
  rw [if_neg (by omega)]
set_option maxRecDepth 8000 in
set_option maxHeartbeats 2000000 in
theorem R_copy1 {N : zM} {t n : Nat} (ht : t < 4) (hn : n ≤ 24) (h30 : N 42 0 30 = n) : ∃ M', zlp (fun s : Int × zM => f_X11_text_L211 (t : Int) s.1 s.2) zF (0, N) = some M' ∧ (∀ k i, ¬ (47 ≤ k ∧ k ≤ 51) → M' k i = N k i) ∧ M' 47 0 = cpy (N 47 0) (24 * t) n (N 59 0) ∧ M' 48 0 = cpy (N 48 0) (24 * t) n (fun k => 400 * (t : Int) + N 60 0 k) ∧ M' 49 0 = cpy (N 49 0) (24 * t) n (N 61 0) ∧ M' 50 0 = cpy (N 50 0) (24 * t) n (N 62 0) ∧ M' 51 0 = cpy (N 51 0) (24 * t) n (N 63 0) := by
  refine zT_cnt0 (body := fun s : Int × zM => f_X11_text_L211 (t : Int) s.1 s.2) (fun i N' => (∀ k i, ¬ (47 ≤ k ∧ k ≤ 51) → N' k i = N k i) ∧ N' 47 0 = cpy (N 47 0) (24 * t) i (N 59 0) ∧ N' 48 0 = cpy (N 48 0) (24 * t) i (fun k => 400 * (t : Int) + N 60 0 k) ∧ N' 49 0 = cpy (N 49 0) (24 * t) i (N 61 0) ∧ N' 50 0 = cpy (N 50 0) (24 * t) i (N 62 0) ∧ N' 51 0 = cpy (N 51 0) (24 * t) i (N 63 0)) n ?_ ?_ (m := zF) (by unfold zF; omega) (N0 := N) ⟨fun _ _ _ => rfl, cpy_0, cpy_0, cpy_0, cpy_0, cpy_0⟩
  · rintro i N' hi ⟨g0, g1, g2, g3, g4, g5⟩
    dsimp only
    have ez : (24 * (t : Int)) + (i : Int) = ((24 * t + i : Nat) : Int) := by omega
    have z1 : 0 ≤ zw (i : Int) ∧ zw (i : Int) < 24 := by rw [zw_nat (by omega)]; omega
    have z2 : 0 ≤ zw ((24 * t + i : Nat) : Int) ∧ zw ((24 * t + i : Nat) : Int) < 96 := by rw [zw_nat (by omega)]; omega
    have z3 : zix ((24 * t + i : Nat) : Int) = 24 * t + i := zix_nat (by omega)
    have z4 : zix (i : Int) = i := zix_nat (by omega)
    unfold f_X11_text_L211
    rw [g0 42 0 (by omega), h30, zw_nat (n := n) (by omega), ez, if_neg (by rw [zw_nat (by omega)]; omega), if_pos z1, if_pos z2, zlt_, if_pos z1, if_pos z2, zlt_, if_pos z1, if_pos z2, zlt_, if_pos z1, if_pos z2, zlt_, if_pos z1, if_pos z2, zlt_, z3, z4]
    refine zT_some (Or.inl ⟨_, rfl, fun k i' hk => ?_, ?_, ?_, ?_, ?_, ?_⟩)
    · rw [zput_rowk (by omega), zput_rowk (by omega), zput_rowk (by omega), zput_rowk (by omega), zput_rowk (by omega)]
      exact g0 k i' hk
    · rw [zput_rowk (by omega), zput_rowk (by omega), zput_rowk (by omega), zput_rowk (by omega)]
      exact cpy_put g1 (by rw [g0 59 0 (by omega)])
    · rw [zput_rowk (by omega), zput_rowk (by omega), zput_rowk (by omega)]
      refine cpy_put (by rw [zput_rowk (by omega)]; exact g2) ?_
      rw [zput_k (by omega), g0 60 0 (by omega)]
    · rw [zput_rowk (by omega), zput_rowk (by omega)]
      refine cpy_put (by rw [zput_rowk (by omega), zput_rowk (by omega)]; exact g3) ?_
      rw [zput_k (by omega), zput_k (by omega), g0 61 0 (by omega)]
    · rw [zput_rowk (by omega)]
      refine cpy_put (by rw [zput_rowk (by omega), zput_rowk (by omega), zput_rowk (by omega)]; exact g4) ?_
      rw [zput_k (by omega), zput_k (by omega), zput_k (by omega), g0 62 0 (by omega)]
    · refine cpy_put (by rw [zput_rowk (by omega), zput_rowk (by omega), zput_rowk (by omega), zput_rowk (by omega)]; exact g5) ?_
      rw [zput_k (by omega), zput_k (by omega), zput_k (by omega), zput_k (by omega), g0 63 0 (by omega)]
  · rintro N' ⟨g0, g1⟩
    dsimp only
    unfold f_X11_text_L211
    rw [g0 42 0 (by omega), h30, if_pos (Int.le_refl _)]
    exact zT_some ⟨N', rfl, g0, g1⟩
set_option maxRecDepth 8000 in
set_option maxHeartbeats 2000000 in
theorem R_copy2 {N : zM} {t n : Nat} (ht : t < 4) (hn : n ≤ 399) (h37 : N 42 0 37 = n) (h64 : ∀ k, k < n → 0 ≤ N 64 0 k ∧ N 64 0 k ≤ 500) : ∃ M', zlp (fun s : Int × zM => f_X11_text_L318 (t : Int) s.1 s.2) zF (0, N) = some M' ∧ (∀ k i, k ≠ 52 → k ≠ 53 → M' k i = N k i) ∧ M' 52 0 = cpy (N 52 0) (400 * t) n (N 64 0) ∧ M' 53 0 = cpy (N 53 0) (400 * t) n (fun k => N 65 0 k + (if N 64 0 k = 404 ∨ N 64 0 k = 409 then 400 * (t : Int) else 0)) := by
  refine zT_cnt0 (body := fun s : Int × zM => f_X11_text_L318 (t : Int) s.1 s.2) (fun i N' => (∀ k i, k ≠ 52 → k ≠ 53 → N' k i = N k i) ∧ N' 52 0 = cpy (N 52 0) (400 * t) i (N 64 0) ∧ N' 53 0 = cpy (N 53 0) (400 * t) i (fun k => N 65 0 k + (if N 64 0 k = 404 ∨ N 64 0 k = 409 then 400 * (t : Int) else 0))) n ?_ ?_ (m := zF) (by unfold zF; omega) (N0 := N) ⟨fun _ _ _ _ => rfl, cpy_0, cpy_0⟩
  · rintro i N' hi ⟨g0, g1, g2⟩
    dsimp only
    have hb := h64 i hi
    have ez : (400 * (t : Int)) + (i : Int) = ((400 * t + i : Nat) : Int) := by omega
    have z1 : 0 ≤ zw (i : Int) ∧ zw (i : Int) < 400 := by rw [zw_nat (by omega)]; omega
    have z2 : 0 ≤ zw ((400 * t + i : Nat) : Int) ∧ zw ((400 * t + i : Nat) : Int) < 1600 := by rw [zw_nat (by omega)]; omega
    have z3 : zix ((400 * t + i : Nat) : Int) = 400 * t + i := zix_nat (by omega)
    have z4 : zix (i : Int) = i := zix_nat (by omega)
    have fin : ∀ v : Int, v = N 65 0 i + (if N 64 0 i = 404 ∨ N 64 0 i = 409 then 400 * (t : Int) else 0) → zT (some (.inl ((i : Int) + 1, zput (zput N' 52 0 (400 * t + i) (N 64 0 i)) 53 0 (400 * t + i) v)) : Option ((Int × zM) ⊕ zM)) (fun r => (∃ N'', r = .inl ((i : Int) + 1, N'') ∧ ((∀ k i, k ≠ 52 → k ≠ 53 → N'' k i = N k i) ∧ N'' 52 0 = cpy (N 52 0) (400 * t) (i + 1) (N 64 0) ∧ N'' 53 0 = cpy (N 53 0) (400 * t) (i + 1) (fun k => N 65 0 k + (if N 64 0 k = 404 ∨ N 64 0 k = 409 then 400 * (t : Int) else 0)))) ∨ ∃ e, r = .inr e ∧ ((∀ k i, k ≠ 52 → k ≠ 53 → e k i = N k i) ∧ e 52 0 = cpy (N 52 0) (400 * t) n (N 64 0) ∧ e 53 0 = cpy (N 53 0) (400 * t) n (fun k => N 65 0 k + (if N 64 0 k = 404 ∨ N 64 0 k = 409 then 400 * (t : Int) else 0)))) := by
      intro v hv
      refine zT_some (Or.inl ⟨_, rfl, fun k i' a b => ?_, ?_, ?_⟩)
      · rw [zput_rowk (by omega), zput_rowk (by omega)]
        exact g0 k i' a b
      · rw [zput_rowk (by omega)]
        exact cpy_put g1 rfl
      · exact cpy_put (by rw [zput_rowk (by omega)]; exact g2) hv
    unfold f_X11_text_L318 f_X11_text_j377 f_X11_text_j386
    rw [g0 42 0 (by omega) (by omega), h37, zw_nat (n := n) (by omega), ez, if_neg (by rw [zw_nat (by omega)]; omega), if_pos z1, if_pos z2, zlt_, if_pos z1, z3, z4, zput_k (by omega), g0 64 0 (by omega) (by omega), g0 65 0 (by omega) (by omega), zw_id (z := N 64 0 i) (by omega) (by omega)]
    by_cases h4 : N 64 0 i = 404
    · rw [if_pos h4, if_pos z2, zlt_]
      exact fin _ (by rw [if_pos (Or.inl h4)])
    · rw [if_neg h4]
      by_cases h9 : N 64 0 i = 409
      · rw [if_neg (nn_ h9), if_pos z2, zlt_]
        exact fin _ (by rw [if_pos (Or.inr h9)])
      · rw [if_pos h9, if_pos z2, zlt_]
        exact fin _ (by rw [if_neg (by omega)])
  · rintro N' ⟨g0, g1⟩
    dsimp only
    unfold f_X11_text_L318
    rw [g0 42 0 (by omega) (by omega), h37, if_pos (Int.le_refl _)]
    exact zT_some ⟨N', rfl, g0, g1⟩
/-- what the reference's text leaves -/
def outRt (B : Nat → Int) (L t : Nat) (M : zM) (r : (Int × Nat) ⊕ (zCs × zCd × zCd)) : Prop := match r with
  | .inl q => ∃ M', f_X11_text M = some (-1, M') ∧ (M' 42 0 3 = 0 ∧ M' 42 0 4 = q.1 ∧ M' 42 0 5 = tPl B L q.2) ∧ ∀ k i, k ≠ 42 → ¬ (54 ≤ k ∧ k ≤ 65) → M' k i = M k i
  | .inr q => ∃ M' N i', f_X11_text M = some ((t : Int), M') ∧ (M' 42 0 3 = 0 ∧ M' 42 0 4 = 0 ∧ M' 42 0 5 = -1) ∧ clsR B L N i' q.1 q.2.1 q.2.2 ∧ (∀ k i, k ≠ 42 → k ≠ 43 → ¬ (46 ≤ k ∧ k ≤ 65) → M' k i = M k i) ∧ M' 43 0 = (fun j => if j = 3 then (t : Int) + 1 else M 43 0 j) ∧ M' 46 0 = (fun j => if j = t then (q.1.length : Int) else M 46 0 j) ∧ M' 47 0 = cpy (M 47 0) (24 * t) q.1.length (N 59 0) ∧ M' 48 0 = cpy (M 48 0) (24 * t) q.1.length (fun k => 400 * (t : Int) + N 60 0 k) ∧ M' 49 0 = cpy (M 49 0) (24 * t) q.1.length (N 61 0) ∧ M' 50 0 = cpy (M 50 0) (24 * t) q.1.length (N 62 0) ∧ M' 51 0 = cpy (M 51 0) (24 * t) q.1.length (N 63 0) ∧ M' 52 0 = cpy (M 52 0) (400 * t) q.2.2.length (N 64 0) ∧ M' 53 0 = cpy (M 53 0) (400 * t) q.2.2.length (fun k => N 65 0 k + (if N 64 0 k = 404 ∨ N 64 0 k = 409 then 400 * (t : Int) else 0))
set_option maxRecDepth 8000 in
set_option maxHeartbeats 2000000 in
theorem R_text {M : zM} {B : Nat → Int} {L t n : Nat} (h43 : M 43 0 3 = t) (ht : t < 4) (h3 : L ≤ 300) (hb : ∀ i, i < L → 0 ≤ B i ∧ B i ≤ 255) (hL : M 42 0 3 = L) (htp : ∀ i, i < L → M 45 0 i = sgn (B i)) (hn : tN B L n) {r : (Int × Nat) ⊕ (zCs × zCd × zCd)} (hr : txS (tK B L) (tV B L) 4000 25 0 [] [] [] = some r) (hs : ∀ q, r = .inr q → sOK q.1 q.2.1 q.2.2) : outRt B L t M r := by
  have hk := tkOK_of h3 hb hn
  generalize hM : zput (zput (zput (zput (zput (zput (zput (zput (zput (zput (zput M 42 0 14 (L : Int)) 42 0 3 0) 42 0 15 0) 42 0 19 0) 42 0 20 (-1)) 42 0 21 0) 42 0 22 0) 42 0 25 0) 42 0 28 4) 42 0 30 0) 42 0 37 0 = M1
  have f1 : ∀ k i, k ≠ 42 → M1 k i = M k i := fun k i hk => by
    rw [← hM, zput_rowk (by omega), zput_rowk (by omega), zput_rowk (by omega), zput_rowk (by omega), zput_rowk (by omega), zput_rowk (by omega), zput_rowk (by omega), zput_rowk (by omega), zput_rowk (by omega), zput_rowk (by omega), zput_rowk (by omega)]
  have slots : (M1 42 0 14 = L ∧ M1 42 0 3 = 0 ∧ M1 42 0 15 = 0 ∧ M1 42 0 19 = 0) ∧ (M1 42 0 20 = -1 ∧ M1 42 0 21 = 0 ∧ M1 42 0 22 = 0) ∧ M1 42 0 25 = 0 ∧ M1 42 0 28 = 4 ∧ M1 42 0 30 = 0 ∧ M1 42 0 37 = 0 := by
    rw [← hM]
    simp (disch := omega) only [if_true, if_false, true_or, or_true, true_and, and_true, not_true_eq_false, not_false_eq_true, zput_eq, zput_j]
  obtain ⟨⟨s14, s3, s15, s19⟩, ⟨s20, s21, s22⟩, s25, s28, s30, s37⟩ := slots
  have htape : tapeR M1 B L := ⟨⟨h3, hb⟩, s14, fun i hi => by rw [f1 45 0 (by omega)]; exact htp i hi⟩
  obtain ⟨M2, a1, a2, a3⟩ := R_next (i := 0) htape (by rw [s15]; rfl)
  have g : ∀ j, j ≠ 15 → j ≠ 16 → j ≠ 17 → j ≠ 18 → M2 42 0 j = M1 42 0 j := a3.2
  have hst : stR B L M2 0 0 [] [] [] := ⟨htape.frN a3, a2, by rw [g 19 (by omega) (by omega) (by omega) (by omega)]; exact s19, by rw [g 20 (by omega) (by omega) (by omega) (by omega)]; exact s20, by rw [g 21 (by omega) (by omega) (by omega) (by omega)]; exact s21, by rw [g 22 (by omega) (by omega) (by omega) (by omega)]; exact s22, trivial, by rw [g 25 (by omega) (by omega) (by omega) (by omega)]; exact s25, trivial, by rw [g 37 (by omega) (by omega) (by omega) (by omega)]; exact s37, trivial⟩
  have hc : clsR B L M2 0 [] [] [] := ⟨hst, by rw [g 28 (by omega) (by omega) (by omega) (by omega)]; exact s28, by rw [g 30 (by omega) (by omega) (by omega) (by omega)]; exact s30, (fun j R z => by cases z), (fun j R z => by cases z), Nat.zero_le _, rfl, Nat.zero_le _⟩
  obtain ⟨k, M3, b1, b2, b3, b4, b5⟩ := R_clauses hk.2.2.1 hk.1 25 0 [] [] [] r M2 hr hc (Nat.zero_le _)
  have hm := hk.1
  have hloop : zlp (fun s : zM => f_X11_text_L74 s) zF M2 = some M3 := zlp_mono (1 + k) zF M2 M3 (b1 1 M3 (zlp_inr b2)) (by unfold zF; omega)
  have fr3 : ∀ k i, k ≠ 42 → ¬ (54 ≤ k ∧ k ≤ 65) → M3 k i = M k i := fun k i h1 h2 => by
    rw [b4.1 k i h1 h2, a3.1 k i (by omega), f1 k i h1]
  have e3 : M3 42 0 3 = 0 := by rw [b4.2 3 (by omega), g 3 (by omega) (by omega) (by omega) (by omega)]; exact s3
  have start : f_X11_text M = f_X11_text_j167 M3 := by
    unfold f_X11_text
    rw [h43, if_pos (by rw [zw_nat (by omega)]; omega), zlt_, zlt_, zlt_, zlt_, zlt_, zlt_, zlt_, zlt_, zlt_, zlt_, zlt_, hL, hM, a1]
    simp only [zbs]
    rw [hloop]
    simp only [zbs]
  cases r with
  | inl q =>
    have b3 : failR B L M3 q.1 q.2 := b3
    obtain ⟨w1, w2, w3⟩ := b3
    refine ⟨zput (zput M3 42 0 4 (M3 42 0 19)) 42 0 5 (M3 42 0 20), ?_, ⟨?_, ?_, ?_⟩, fun k i h1 h2 => ?_⟩
    · rw [start]
      unfold f_X11_text_j167
      rw [zlt_, zput_j (by omega), zlt_, zput_j (by omega), zput_j (by omega), w1, if_neg (by rw [zw_id (by omega) (by omega)]; omega)]
    · rw [zput_j (by omega), zput_j (by omega)]; exact e3
    · rw [zput_j (by omega), zput_eq]; exact w1
    · rw [zput_eq]; exact w3
    · rw [zput_rowk (by omega), zput_rowk (by omega)]; exact fr3 k i h1 h2
  | inr q =>
    obtain ⟨i', hi3, hc3⟩ := b3
    have hsq := hs q rfl
    have hXl := hc3.le
    have hc24 := hc3.c24
    have hX : q.2.2.length ≤ 399 := by omega
    generalize hN : zput (zput (zput M3 42 0 4 (M3 42 0 19)) 42 0 5 (M3 42 0 20)) 46 0 t (q.1.length : Int) = N
    have nk : ∀ k i, k ≠ 42 → k ≠ 46 → N k i = M3 k i := fun k i h1 h2 => by rw [← hN, zput_rowk (by omega), zput_rowk (by omega), zput_rowk (by omega)]
    have n42 : ∀ j, j ≠ 4 → j ≠ 5 → N 42 0 j = M3 42 0 j := fun j h1 h2 => by rw [← hN, zput_k (by omega), zput_j h2, zput_j h1]
    have n4 : N 42 0 4 = 0 := by rw [← hN, zput_k (by omega), zput_j (by omega), zput_eq]; exact hc3.st.ok
    have n5 : N 42 0 5 = -1 := by rw [← hN, zput_k (by omega), zput_eq]; exact hc3.st.wat
    have n46 : N 46 0 = fun j => if j = t then (q.1.length : Int) else M3 46 0 j := by
      rw [← hN, zput_row, zput_rowk (by omega), zput_rowk (by omega)]
    have hcode := cAt_at q.2.2 0 hc3.st.code
    obtain ⟨N1, p1, p2, p3, p4, p5, p6, p7⟩ := R_copy1 (N := N) ht hc24 (by rw [n42 30 (by omega) (by omega)]; exact hc3.num)
    obtain ⟨N2, u1, u2, u3, u4⟩ := R_copy2 (N := N1) (n := q.2.2.length) ht hX (by rw [p2 42 0 (by omega), n42 37 (by omega) (by omega)]; exact hc3.st.ords) (fun k hk => by
      have h1 := hcode k hk
      rw [Nat.zero_add] at h1
      unfold rcM at h1
      have h2 : N1 64 0 k = (lst q.2.2 k).1 := by rw [p2 64 0 (by omega), nk 64 0 (by omega) (by omega), ← h1]
      have h3 : lst q.2.2 k ∈ q.2.2 := by
        unfold lst
        rw [List.getD_eq_getElem?_getD, List.getElem?_eq_getElem hk]
        exact List.getElem_mem hk
      rw [h2]
      exact hsq.ops _ h3)
    have e43 : N2 43 0 = M 43 0 := by rw [u2 43 0 (by omega) (by omega), p2 43 0 (by omega), nk 43 0 (by omega) (by omega), fr3 43 0 (by omega) (by omega)]
    have cp : ∀ k, k ≠ 42 → k ≠ 46 → ¬ (54 ≤ k ∧ k ≤ 65) → N k 0 = M k 0 := fun k h1 h2 h3 => by rw [nk k 0 h1 h2, fr3 k 0 h1 h3]
    refine ⟨zput N2 43 0 3 ((t : Int) + 1), M3, i', ?_, ⟨?_, ?_, ?_⟩, hc3, fun k i h1 h2 h3 => ?_, ?_, ?_, ?_, ?_, ?_, ?_, ?_, ?_, ?_⟩
    · rw [start]
      unfold f_X11_text_j167
      rw [zlt_, zput_j (by omega), zlt_, zput_j (by omega), zput_j (by omega), hc3.st.ok, if_pos (by decide)]
      have e43' : zput (zput M3 42 0 4 0) 42 0 5 (M3 42 0 20) 43 0 3 = t := by rw [zput_k (by omega), zput_k (by omega), fr3 43 0 (by omega) (by omega)]; exact h43
      have e30' : zput (zput M3 42 0 4 0) 42 0 5 (M3 42 0 20) 42 0 30 = q.1.length := by rw [zput_j (by omega), zput_j (by omega)]; exact hc3.num
      have hN' : zput (zput (zput M3 42 0 4 0) 42 0 5 (M3 42 0 20)) 46 0 t (q.1.length : Int) = N := by rw [← hN, hc3.st.ok]
      rw [e43', e30', zw_nat (n := t) (by omega), if_pos (by omega), zix_nat (n := t) (by omega), zlt_, hN', p1]
      simp only [zbs]
      rw [u1]
      simp only [zbs]
      rw [e43, h43, zlt_]
    · rw [zput_k (by omega), u2 42 0 (by omega) (by omega), p2 42 0 (by omega), n42 3 (by omega) (by omega)]; exact e3
    · rw [zput_k (by omega), u2 42 0 (by omega) (by omega), p2 42 0 (by omega)]; exact n4
    · rw [zput_k (by omega), u2 42 0 (by omega) (by omega), p2 42 0 (by omega)]; exact n5
    · rw [zput_rowk (by omega), u2 k i (by omega) (by omega), p2 k i (by omega), nk k i h1 (by omega), fr3 k i h1 (by omega)]
    · rw [zput_row, e43]
    · rw [zput_rowk (by omega), u2 46 0 (by omega) (by omega), p2 46 0 (by omega), n46, fr3 46 0 (by omega) (by omega)]
    · rw [zput_rowk (by omega), u2 47 0 (by omega) (by omega), p3, cp 47 (by omega) (by omega) (by omega), nk 59 0 (by omega) (by omega)]
    · rw [zput_rowk (by omega), u2 48 0 (by omega) (by omega), p4, cp 48 (by omega) (by omega) (by omega), nk 60 0 (by omega) (by omega)]
    · rw [zput_rowk (by omega), u2 49 0 (by omega) (by omega), p5, cp 49 (by omega) (by omega) (by omega), nk 61 0 (by omega) (by omega)]
    · rw [zput_rowk (by omega), u2 50 0 (by omega) (by omega), p6, cp 50 (by omega) (by omega) (by omega), nk 62 0 (by omega) (by omega)]
    · rw [zput_rowk (by omega), u2 51 0 (by omega) (by omega), p7, cp 51 (by omega) (by omega) (by omega), nk 63 0 (by omega) (by omega)]
    · rw [zput_rowk (by omega), u3, p2 52 0 (by omega), p2 64 0 (by omega), cp 52 (by omega) (by omega) (by omega), nk 64 0 (by omega) (by omega)]
    · rw [zput_rowk (by omega), u4, p2 53 0 (by omega), p2 64 0 (by omega), p2 65 0 (by omega), cp 53 (by omega) (by omega) (by omega), nk 64 0 (by omega) (by omega), nk 65 0 (by omega) (by omega)]
