/-! call: first -/
def sPl (A : Nat → Int) (d : Int) (w : Nat → Int) : Nat → (Nat → Int)
  | 0 => w
  | i + 1 => if A (33 + 2 * i) = d then sSteal (sPl A d w i) (A (32 + 2 * i)).toNat else sPl A d w i
def failP (A : Nat → Int) (d : Int) (w : Nat → Int) (i : Nat) : Prop := A (33 + 2 * i) = d ∧ ¬ sMay A (sPl A d w i) (A (32 + 2 * i)).toNat
def sDayW (T : Nat → Nat → Option zLw) (A w : Nat → Int) (n : Nat) : Nat → (Nat → Int)
  | 0 => w
  | d + 1 => sThru T A (sPl A (d : Nat) (sDayW T A w n d) n) 1
def FirstR (T : Nat → Nat → Option zLw) (A w : Nat → Int) (n D : Nat) (r : Int) : Prop := (r = -1 ∧ ∀ d, d ≤ D → ∀ i, i < n → ¬ failP A (d : Nat) (sDayW T A w n d) i) ∨ ∃ d i : Nat, d ≤ D ∧ i < n ∧ r = i ∧ failP A (d : Nat) (sDayW T A w n d) i ∧ (∀ j, j < i → ¬ failP A (d : Nat) (sDayW T A w n d) j) ∧ ∀ e, e < d → ∀ j, j < n → ¬ failP A (e : Nat) (sDayW T A w n e) j
set_option maxRecDepth 8000 in
set_option maxHeartbeats 2000000 in
theorem FirstR.uniq {T : Nat → Nat → Option zLw} {A w : Nat → Int} {n D : Nat} {r r' : Int} (h : FirstR T A w n D r) (h' : FirstR T A w n D r') : r = r' := by
  rcases h with ⟨h1, h2⟩ | ⟨d, i, a1, a2, a3, a4, a5, a6⟩
  · rcases h' with ⟨g1, g2⟩ | ⟨d', i', b1, b2, b3, b4, b5, b6⟩
    · rw [h1, g1]
    · exact absurd b4 (h2 d' b1 i' b2)
  · rcases h' with ⟨g1, g2⟩ | ⟨d', i', b1, b2, b3, b4, b5, b6⟩
    · exact absurd a4 (g2 d a1 i a2)
    · by_cases hd : d < d'
      · exact absurd a4 (b6 d hd i a2)
      · by_cases hd' : d' < d
        · exact absurd b4 (a6 d' hd' i' b2)
        · have : d = d' := by omega
          subst this
          by_cases hi : i < i'
          · exact absurd a4 (b5 i hi)
          · by_cases hi' : i' < i
            · exact absurd b4 (a5 i' hi')
            · rw [a3, b3]; congr 1; omega
set_option maxRecDepth 8000 in
set_option maxHeartbeats 2000000 in
theorem sPl_38 {A w : Nat → Int} {d : Int} (hA : headOK A) : ∀ i : Nat, (i : Int) ≤ A 6 → sPl A d w i 38 = w 38 := by
  have h1 := hA.thg
  intro i
  induction i with
  | zero => intro _; rfl
  | succ i ih =>
    intro hi
    have hp := hA.plan i (by omega)
    unfold sPl
    split
    · unfold sSteal
      rw [wup_ne (by omega), wup_ne (by omega), wup_ne (by omega)]
      exact ih (by omega)
    · exact ih (by omega)
set_option maxRecDepth 8000 in
set_option maxHeartbeats 2000000 in
theorem X_planned {M : zM} {A w : Nat → Int} {n : Nat} {d : Int} (hc : cityR M 2 A w) (hA : headOK A) (hw : rowOK A w) (tl : toldR M 0 A) (hn : A 6 = n) (hd : 0 ≤ d ∧ d ≤ 60) : (∃ i M', i < n ∧ f_X10_firstThatCannot d M = some ((i : Int), M') ∧ failP A d w i ∧ (∀ j, j < i → ¬ failP A d w j) ∧ frX 2 M M') ∨ ∃ M', f_X10_firstThatCannot d M = some (-1, M') ∧ (∀ j, j < n → ¬ failP A d w j) ∧ cityR M' 2 A (sPl A d w n) ∧ rowOK A (sPl A d w n) ∧ frX 2 M M' := by
  have h6 := hA.pln
  have h1 := hA.thg
  have key := zT_cnt0 (body := fun s : Int × zM => f_X10_firstThatCannot_L2 d s.1 s.2) (fun i N => (∀ j, j < i → ¬ failP A d w j) ∧ cityR N 2 A (sPl A d w i) ∧ rowOK A (sPl A d w i) ∧ frX 2 M N) n (Q := fun e => (∃ (i : Nat) (N : zM), i < n ∧ e = .inl ((i : Int), N) ∧ failP A d w i ∧ (∀ j, j < i → ¬ failP A d w j) ∧ frX 2 M N) ∨ ∃ N, e = .inr N ∧ (∀ j, j < n → ¬ failP A d w j) ∧ cityR N 2 A (sPl A d w n) ∧ rowOK A (sPl A d w n) ∧ frX 2 M N) ?_ ?_ (m := zF) (by unfold zF; omega) (N0 := M) ⟨fun j hj => by omega, hc, hw, frX.rfl_⟩
  · obtain ⟨e, k1, k2⟩ := key
    rcases k2 with ⟨i, N, a1, rfl, a2, a3, a4⟩ | ⟨N, rfl, a2, a3, a4, a5⟩
    · refine Or.inl ⟨i, N, a1, ?_, a2, a3, a4⟩
      unfold f_X10_firstThatCannot
      rw [k1]
      rfl
    · refine Or.inr ⟨N, ?_, a2, a3, a4, a5⟩
      unfold f_X10_firstThatCannot
      rw [k1]
      rfl
  · rintro i N hi ⟨g1, g2, g3, g4⟩
    dsimp only
    have fN := g4.1
    have r23 := fN 23 0 (by omega) (by omega) (by omega) (by omega) (by omega) (by omega)
    have r24 := fN 24 0 (by omega) (by omega) (by omega) (by omega) (by omega) (by omega)
    have r25 := fN 25 0 (by omega) (by omega) (by omega) (by omega) (by omega) (by omega)
    have hp := hA.plan i (by omega)
    have m7 : N 23 0 7 = n := by rw [r23, tl.plans, hn]
    have m24 : N 24 0 i = A (32 + 2 * i) := by rw [r24, tl.planThing i (by omega)]
    have m25 : N 25 0 i = A (33 + 2 * i) := by rw [r25, tl.planDays i (by omega)]
    obtain ⟨t, ht⟩ := Int.eq_ofNat_of_zero_le hp.1.1
    have hst : sPl A d w (i + 1) = if A (33 + 2 * i) = d then sSteal (sPl A d w i) (A (32 + 2 * i)).toNat else sPl A d w i := rfl
    have hfl : failP A d w i ↔ A (33 + 2 * i) = d ∧ ¬ sMay A (sPl A d w i) (A (32 + 2 * i)).toNat := Iff.rfl
    unfold f_X10_firstThatCannot_L2 f_X10_firstThatCannot_j63
    rw [m7, zw_nat (by omega), zw_nat (by omega), if_neg (by omega), if_pos (by omega), zix_nat (by omega), m24, m25, zw_id (z := A (33 + 2 * i)) (by omega) (by omega), zw_id (z := d) (by omega) (by omega), ht]
    rw [ht, Int.toNat_natCast] at hst hfl
    by_cases hq : A (33 + 2 * i) = d
    · rw [if_neg (nn_ hq), if_pos (show 0 ≤ (i : Int) ∧ (i : Int) < 8 by omega)]
      have hct := X_canTake g2 hA g3 (t := t) (by omega)
      by_cases hm : sMay A (sPl A d w i) t
      · obtain ⟨N2, e1, e2, e3⟩ := X_take g2 hA (t := t) (by omega)
        rw [hct.1 hm]
        simp only [zbs]
        rw [if_pos (show ¬ zw 1 = 0 by rw [zw01.2.1]; omega), if_pos (show 0 ≤ (i : Int) ∧ (i : Int) < 8 by omega), m24, ht, e1]
        simp only [zbs]
        rw [if_pos hq] at hst
        refine zT_some (Or.inl ⟨_, rfl, fun j hj => ?_, by rw [hst]; exact e2, by rw [hst]; exact g3.steal hA (by omega) hm.1, g4.trans e3⟩)
        by_cases hji : j = i
        · subst hji; rw [hfl]; exact fun z => z.2 hm
        · exact g1 j (by omega)
      · rw [hct.2 hm]
        simp only [zbs]
        rw [if_neg (nn_ zw_0)]
        exact zT_some (Or.inr ⟨_, rfl, Or.inl ⟨i, N, hi, rfl, hfl.mpr ⟨hq, hm⟩, g1, g4⟩⟩)
    · rw [if_pos hq]
      rw [if_neg hq] at hst
      refine zT_some (Or.inl ⟨_, rfl, fun j hj => ?_, by rw [hst]; exact g2, by rw [hst]; exact g3, g4⟩)
      by_cases hji : j = i
      · subst hji; rw [hfl]; exact fun z => hq z.1
      · exact g1 j (by omega)
  · rintro N ⟨g1, g2, g3, g4⟩
    dsimp only
    have m7 : N 23 0 7 = n := by rw [g4.1 23 0 (by omega) (by omega) (by omega) (by omega) (by omega) (by omega), tl.plans, hn]
    unfold f_X10_firstThatCannot_L2
    rw [m7, zw_nat (by omega), if_pos (by omega)]
    exact zT_some ⟨_, rfl, Or.inr ⟨N, rfl, g1, g2, g3, g4⟩⟩
set_option maxRecDepth 8000 in
set_option maxHeartbeats 2000000 in
theorem R_planned {M : zM} {A w : Nat → Int} {n : Nat} {d : Int} (hM : M 43 0 = A) (hW : M 68 0 = w) (hA : headOK A) (hw : rowOK A w) (hn : A 6 = n) (hd : 0 ≤ d ∧ d ≤ 60) : zT (zlp (fun s : Int × zM => f_X11_first_L20 d s.1 s.2) zF (0, M)) (fun e => (∃ (i : Nat) (N : zM), i < n ∧ e = .inl ((i : Int), N) ∧ failP A d w i ∧ (∀ j, j < i → ¬ failP A d w j) ∧ frR M N) ∨ ∃ N, e = .inr N ∧ (∀ j, j < n → ¬ failP A d w j) ∧ N 68 0 = sPl A d w n ∧ rowOK A (sPl A d w n) ∧ frR M N) := by
  have h6 := hA.pln
  have h1 := hA.thg
  refine zT_cnt0 (body := fun s : Int × zM => f_X11_first_L20 d s.1 s.2) (fun i N => (∀ j, j < i → ¬ failP A d w j) ∧ N 68 0 = sPl A d w i ∧ rowOK A (sPl A d w i) ∧ frR M N) n ?_ ?_ (m := zF) (by unfold zF; omega) (N0 := M) ⟨fun j hj => by omega, hW, hw, frR.rfl_⟩
  · rintro i N hi ⟨g1, g2, g3, g4⟩
    dsimp only
    have hN : N 43 0 = A := by rw [g4 43 0 (by omega) (by omega) (by omega)]; exact hM
    have hp := hA.plan i (by omega)
    have m6 : N 43 0 6 = n := by rw [hN, hn]
    have m24 : N 43 0 (32 + 2 * i) = A (32 + 2 * i) := by rw [hN]
    have m25 : N 43 0 (33 + 2 * i) = A (33 + 2 * i) := by rw [hN]
    have e1 : zix (32 + 2 * (i : Int)) = 32 + 2 * i := zix_id (by omega) (by omega)
    have e2 : zix (32 + 2 * (i : Int) + 1) = 33 + 2 * i := zix_id (by omega) (by omega)
    obtain ⟨t, ht⟩ := Int.eq_ofNat_of_zero_le hp.1.1
    have hst : sPl A d w (i + 1) = if A (33 + 2 * i) = d then sSteal (sPl A d w i) (A (32 + 2 * i)).toNat else sPl A d w i := rfl
    have hfl : failP A d w i ↔ A (33 + 2 * i) = d ∧ ¬ sMay A (sPl A d w i) (A (32 + 2 * i)).toNat := Iff.rfl
    unfold f_X11_first_L20 f_X11_first_j78
    rw [m6, zw_nat (by omega), zw_nat (by omega), if_neg (by omega), zw_id (z := 32 + 2 * (i : Int) + 1) (by omega) (by omega), if_pos (by omega), e1, e2, m24, m25, zw_id (z := A (33 + 2 * i)) (by omega) (by omega), zw_id (z := d) (by omega) (by omega), zw_id (z := 32 + 2 * (i : Int)) (by omega) (by omega), ht]
    rw [ht, Int.toNat_natCast] at hst hfl
    by_cases hq : A (33 + 2 * i) = d
    · rw [if_neg (nn_ hq), if_pos (by omega)]
      have hct := R_may hN g2 g3 hA (t := t) (by omega)
      by_cases hm : sMay A (sPl A d w i) t
      · obtain ⟨N2, a1, a2, a3⟩ := R_steals g2 (t := t) (by omega)
        rw [hct.1 hm]
        simp only [zbs]
        rw [if_pos (by rw [zw01.2.1]; omega), a1]
        simp only [zbs]
        rw [if_pos hq] at hst
        refine zT_some (Or.inl ⟨_, rfl, fun j hj => ?_, by rw [hst]; exact a2, by rw [hst]; exact g3.steal hA (by omega) hm.1, g4.trans (frR.of68 a3)⟩)
        by_cases hji : j = i
        · subst hji; rw [hfl]; exact fun z => z.2 hm
        · exact g1 j (by omega)
      · rw [hct.2 hm]
        simp only [zbs]
        rw [if_neg (nn_ zw_0)]
        exact zT_some (Or.inr ⟨_, rfl, Or.inl ⟨i, N, hi, rfl, hfl.mpr ⟨hq, hm⟩, g1, g4⟩⟩)
    · rw [if_pos hq]
      rw [if_neg hq] at hst
      refine zT_some (Or.inl ⟨_, rfl, fun j hj => ?_, by rw [hst]; exact g2, by rw [hst]; exact g3, g4⟩)
      by_cases hji : j = i
      · subst hji; rw [hfl]; exact fun z => hq z.1
      · exact g1 j (by omega)
  · rintro N ⟨g1, g2, g3, g4⟩
    dsimp only
    have m6 : N 43 0 6 = n := by rw [g4 43 0 (by omega) (by omega) (by omega), hM, hn]
    unfold f_X11_first_L20
    rw [m6, zw_nat (by omega), if_pos (by omega)]
    exact zT_some ⟨_, rfl, Or.inr ⟨N, rfl, g1, g2, g3, g4⟩⟩
