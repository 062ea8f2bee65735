/-! text: the reference's next TOKEN, put together -/
set_option maxRecDepth 8000 in
set_option maxHeartbeats 2000000 in
theorem R_in {v lo hi : Int} {N : zM} (hv : -2147483648 ≤ v ∧ v ≤ 2147483647) (hl : -2147483648 ≤ lo ∧ lo ≤ 2147483647) (hh : -2147483648 ≤ hi ∧ hi ≤ 2147483647) : f_X11_in v lo hi N = some (if lo ≤ v ∧ v ≤ hi then 1 else 0, N) := by
  by_cases h : lo ≤ v ∧ v ≤ hi
  · rw [in_yes h.1 h.2 hv hl hh, if_pos h]
  · rw [in_no (by omega) hv hl hh, if_neg h]
set_option maxRecDepth 8000 in
set_option maxHeartbeats 2000000 in
theorem R_tail {x : Int} {S : zM} (hx : -128 ≤ x ∧ x ≤ 127) : ((f_X11_in x 59 62 S).bind fun p13 => if ¬ zw p13.1 = 0 then f_X11_next_j365 x p13.2 else (f_X11_in x 40 45 p13.2).bind fun p23 => if ¬ zw p23.1 = 0 then f_X11_next_j365 x p23.2 else if zw x = 47 then f_X11_next_j365 x p23.2 else if ¬ zw x = 35 then f_X11_next_j370 x 4 p23.2 else f_X11_next_j365 x p23.2) = f_X11_next_j370 x (if (59 ≤ x ∧ x ≤ 62) ∨ (40 ≤ x ∧ x ≤ 45) ∨ x = 47 ∨ x = 35 then 3 else 4) S := by
  rw [R_in (by omega) (by omega) (by omega)]
  simp only [zbs]
  unfold f_X11_next_j365
  by_cases h1 : 59 ≤ x ∧ x ≤ 62
  · rw [if_pos h1, if_pos zw_1n, if_pos (Or.inl h1)]
  · rw [if_neg h1, if_neg (nn_ zw_0), R_in (by omega) (by omega) (by omega)]
    simp only [zbs]
    by_cases h2 : 40 ≤ x ∧ x ≤ 45
    · rw [if_pos h2, if_pos zw_1n, if_pos (Or.inr (Or.inl h2))]
    · rw [if_neg h2, if_neg (nn_ zw_0), zw_id (by omega) (by omega)]
      by_cases h3 : x = 47
      · rw [if_pos h3, if_pos (Or.inr (Or.inr (Or.inl h3)))]
      · rw [if_neg h3]
        by_cases h4 : x = 35
        · rw [if_neg (nn_ h4), if_pos (Or.inr (Or.inr (Or.inr h4)))]
        · rw [if_pos h4, if_neg (by omega)]
set_option maxRecDepth 8000 in
set_option maxHeartbeats 2000000 in
theorem R_j385 {S : zM} {B : Nat → Int} {L p : Nat} {v : Int} (h : tapeR S B L) (hp : p < L) (hat : S 42 0 15 = ((p + 1 : Nat) : Int)) (hv : v = 60 ∨ v = 62) : (p + 1 < L ∧ B (p + 1) = 61 → f_X11_next_j385 v S = some (zput (zput S 42 0 18 (if v = 60 then 300 else 301)) 42 0 15 ((p + 2 : Nat) : Int))) ∧ (¬ (p + 1 < L ∧ B (p + 1) = 61) → f_X11_next_j385 v S = some S) := by
  have h3 := h.1.1
  unfold f_X11_next_j385 f_X11_next_j426
  rw [h.2.1, hat, zw_nat (n := L) (by omega), zw_nat (n := p + 1) (by omega), zix_nat (by omega), zw_id (z := v) (by omega) (by omega)]
  constructor
  · rintro ⟨h1, h2⟩
    have hs : sgn (B (p + 1)) = 61 := by rw [h2]; rfl
    rw [if_neg (by omega), if_pos (by omega), h.at_ h1, hs, if_neg (nn_ (by decide))]
    simp only [zlt_]
    by_cases h60 : v = 60
    · rw [if_neg (nn_ h60), if_pos h60, zput_j (by omega), hat, show ((p + 1 : Nat) : Int) + 1 = ((p + 2 : Nat) : Int) by omega]
    · rw [if_pos h60, if_neg h60, zput_j (by omega), hat, show ((p + 1 : Nat) : Int) + 1 = ((p + 2 : Nat) : Int) by omega]
  · intro h1
    by_cases hl : p + 1 < L
    · have hb := h.1.2 (p + 1) hl
      have hs : sgn (B (p + 1)) ≠ 61 ∧ -128 ≤ sgn (B (p + 1)) ∧ sgn (B (p + 1)) ≤ 127 := by
        have : B (p + 1) ≠ 61 := fun z => h1 ⟨hl, z⟩
        unfold sgn; split <;> omega
      rw [if_neg (by omega), if_pos (by omega), h.at_ hl, zw_id (z := sgn (B (p + 1))) (by omega) (by omega), if_pos hs.1]
    · rw [if_pos (by omega)]
set_option maxRecDepth 8000 in
set_option maxHeartbeats 2000000 in
theorem R_mark {S : zM} {B : Nat → Int} {L p : Nat} {v : Int} (h : tapeR S B L) (hp : p < L) (hlt : ¬ isLt (B p) = true) (hdg : ¬ isDg (B p) = true) (hat : S 42 0 15 = ((p + 1 : Nat) : Int)) (h18 : S 42 0 18 = sgn (B p)) : ∃ S', f_X11_next_j370 (sgn (B p)) (if (59 ≤ sgn (B p) ∧ sgn (B p) ≤ 62) ∨ (40 ≤ sgn (B p) ∧ sgn (B p) ≤ 45) ∨ sgn (B p) = 47 ∨ sgn (B p) = 35 then 3 else 4) S = some S' ∧ S' 42 0 15 = tEnd B L p ∧ tokS (S' 42 0 17) (S' 42 0 18) (tKind B L p) v ∧ S' 42 0 16 = S 42 0 16 ∧ frN S S' := by
  have hb := h.1.2 p hp
  have e1 : tKind B L p = mk (B p) (tBe B L p) := by unfold tKind; rw [if_neg hlt, if_neg hdg]
  have e2 : tEnd B L p = if mk (B p) (tBe B L p) = 27 ∨ mk (B p) (tBe B L p) = 29 then p + 2 else p + 1 := by unfold tEnd; rw [if_neg hlt, if_neg hdg]
  have hx : -128 ≤ sgn (B p) ∧ sgn (B p) ≤ 127 := by unfold sgn; split <;> omega
  rw [e1, e2]
  generalize hc : B p = c at hb hx h18
  unfold f_X11_next_j370
  rw [zlt_, zw_id (z := sgn c) (by omega) (by omega)]
  -- two signs in one, perhaps
  have two : ∀ (k1 k2 t2 : Int), c = 60 ∧ k1 = 26 ∧ k2 = 27 ∧ t2 = 300 ∨ c = 62 ∧ k1 = 28 ∧ k2 = 29 ∧ t2 = 301 → ∃ S', f_X11_next_j385 c (zput S 42 0 17 3) = some S' ∧ S' 42 0 15 = ((if mk c (tBe B L p) = 27 ∨ mk c (tBe B L p) = 29 then p + 2 else p + 1 : Nat) : Int) ∧ tokS (S' 42 0 17) (S' 42 0 18) (mk c (tBe B L p)) v ∧ S' 42 0 16 = S 42 0 16 ∧ frN S S' := by
    intro k1 k2 t2 hcc
    have ht : tapeR (zput S 42 0 17 3) B L := h.frN (frN.put (by omega))
    obtain ⟨j1, j2⟩ := R_j385 (v := c) ht hp (by rw [zput_j (by omega)]; exact hat) (by omega)
    have hmk : ∀ b, mk c b = if b = 61 then k2 else k1 := fun b => by
      unfold mk
      rcases hcc with ⟨rfl, rfl, rfl, -⟩ | ⟨rfl, rfl, rfl, -⟩
      · rw [if_pos rfl]
      · rw [if_neg (by omega), if_pos rfl]
    have hsg : sg k1 = c ∧ sg k2 = t2 := by rcases hcc with ⟨rfl, rfl, rfl, rfl⟩ | ⟨rfl, rfl, rfl, rfl⟩ <;> exact ⟨rfl, rfl⟩
    have hsc : sgn c = c := if_pos (by omega)
    by_cases hq : p + 1 < L ∧ B (p + 1) = 61
    · have hbe : tBe B L p = 61 := by unfold tBe; rw [if_pos hq.1]; exact hq.2
      have hm : mk c (tBe B L p) = k2 := by rw [hmk, if_pos hbe]
      refine ⟨_, j1 hq, ?_, ?_, ?_, (frN.put (by omega)).trans ((frN.put (by omega)).trans (frN.put (by omega)))⟩
      · rw [zput_eq, hm, if_pos (by omega)]
      · rw [zput_j (by omega), zput_j (by omega), zput_eq, zput_j (by omega), zput_eq, hm]
        refine Or.inr (Or.inr (Or.inr (Or.inl ⟨by omega, rfl, ?_⟩)))
        rw [hsg.2]
        split <;> omega
      · rw [zput_j (by omega), zput_j (by omega), zput_j (by omega)]
    · have hbe : tBe B L p ≠ 61 := by
        unfold tBe
        by_cases hl : p + 1 < L
        · rw [if_pos hl]; exact fun z => hq ⟨hl, z⟩
        · rw [if_neg hl]; omega
      have hm : mk c (tBe B L p) = k1 := by rw [hmk, if_neg hbe]
      refine ⟨_, j2 hq, ?_, ?_, ?_, frN.put (by omega)⟩
      · rw [zput_j (by omega), hat, hm, if_neg (by omega)]
      · rw [zput_eq, zput_j (by omega), h18, hm, hsc]
        exact Or.inr (Or.inr (Or.inr (Or.inl ⟨by omega, rfl, hsg.1.symm⟩)))
      · rw [zput_j (by omega)]
  by_cases h60 : c = 60
  · have e : sgn c = 60 := by rw [h60]; rfl
    rw [e, if_pos (Or.inl (by omega)), if_pos rfl]
    have := two 26 27 300 (Or.inl ⟨h60, rfl, rfl, rfl⟩)
    rw [h60] at this ⊢
    exact this
  by_cases h62 : c = 62
  · have e : sgn c = 62 := by rw [h62]; rfl
    rw [e, if_pos (Or.inl (by omega)), if_neg (by omega), if_neg (nn_ rfl)]
    have := two 28 29 301 (Or.inr ⟨h62, rfl, rfl, rfl⟩)
    rw [h62] at this ⊢
    exact this
  have hs60 : sgn c ≠ 60 ∧ sgn c ≠ 62 := by unfold sgn; split <;> omega
  rw [if_neg hs60.1, if_pos hs60.2]
  have hm2 : ¬ (mk c (tBe B L p) = 27 ∨ mk c (tBe B L p) = 29) := by
    unfold mk
    rw [if_neg h60, if_neg h62]
    (repeat' split) <;> omega
  rw [if_neg hm2]
  refine ⟨_, rfl, ?_, ?_, by rw [zput_j (by omega)], frN.put (by omega)⟩
  · rw [zput_j (by omega)]; exact hat
  · rw [zput_eq, zput_j (by omega), h18]
    unfold mk tokS
    rw [if_neg h60, if_neg h62]
    by_cases g1 : c = 61
    · subst g1; exact Or.inr (Or.inr (Or.inr (Or.inl ⟨by decide, by decide, by decide⟩)))
    by_cases g2 : c = 35
    · subst g2; exact Or.inr (Or.inr (Or.inr (Or.inl ⟨by decide, by decide, by decide⟩)))
    by_cases g3 : c = 43
    · subst g3; exact Or.inr (Or.inr (Or.inr (Or.inl ⟨by decide, by decide, by decide⟩)))
    by_cases g4 : c = 45
    · subst g4; exact Or.inr (Or.inr (Or.inr (Or.inl ⟨by decide, by decide, by decide⟩)))
    by_cases g5 : c = 42
    · subst g5; exact Or.inr (Or.inr (Or.inr (Or.inl ⟨by decide, by decide, by decide⟩)))
    by_cases g6 : c = 47
    · subst g6; exact Or.inr (Or.inr (Or.inr (Or.inl ⟨by decide, by decide, by decide⟩)))
    by_cases g7 : c = 40
    · subst g7; exact Or.inr (Or.inr (Or.inr (Or.inl ⟨by decide, by decide, by decide⟩)))
    by_cases g8 : c = 41
    · subst g8; exact Or.inr (Or.inr (Or.inr (Or.inl ⟨by decide, by decide, by decide⟩)))
    by_cases g9 : c = 59
    · subst g9; exact Or.inr (Or.inr (Or.inr (Or.inl ⟨by decide, by decide, by decide⟩)))
    rw [if_neg g1, if_neg g2, if_neg g3, if_neg g4, if_neg g5, if_neg g6, if_neg g7, if_neg g8, if_neg g9]
    refine Or.inr (Or.inr (Or.inr (Or.inr ⟨rfl, ?_⟩)))
    by_cases g10 : c = 44
    · subst g10; exact Or.inr ⟨by decide, by decide⟩
    · refine Or.inl (if_neg ?_)
      unfold sgn
      split <;> omega
/-- the TOKEN that the reference has come to -/
def tokR (N : zM) (B : Nat → Int) (L i : Nat) : Prop := N 42 0 16 = tPl B L i ∧ tokS (N 42 0 17) (N 42 0 18) (tK B L i) (tV B L i) ∧ N 42 0 15 = tE B L (i + 1)
set_option maxRecDepth 8000 in
set_option maxHeartbeats 2000000 in
theorem R_next {N : zM} {B : Nat → Int} {L i : Nat} (h : tapeR N B L) (hat : N 42 0 15 = tE B L i) : ∃ N', f_X11_next N = some N' ∧ tokR N' B L i ∧ frN N N' := by
  have h3 := h.1.1
  have hpl := tPl_spec (B := B) (L := L) i
  obtain ⟨N1, a1, a2, a3⟩ := R_skip h (tE_le i) hat
  have a2' : N1 42 0 15 = tPl B L i := a2
  unfold f_X11_next
  rw [a1]
  simp only [zbs]
  unfold f_X11_next_j52
  rw [zlt_, a2']
  generalize hN2 : zput N1 42 0 16 (tPl B L i : Int) = N2
  have f2 : frN N N2 := a3.trans (by rw [← hN2]; exact frN.put (by omega))
  have ht := h.frN f2
  have n15 : N2 42 0 15 = tPl B L i := by rw [← hN2, zput_j (by omega)]; exact a2'
  have n16 : N2 42 0 16 = tPl B L i := by rw [← hN2, zput_eq]
  rw [n15, ht.2.1, zw_nat (n := tPl B L i) (by omega), zw_nat (n := L) (by omega), zix_nat (n := tPl B L i) (by omega)]
  by_cases hl : tPl B L i < L
  · have hE : tE B L (i + 1) = tEnd B L (tPl B L i) := tE_succ hl
    have hK : tK B L i = tKind B L (tPl B L i) := if_pos hl
    unfold tokR
    rw [hE, hK]
    unfold tV
    generalize tPl B L i = p at hl n15 n16 hpl
    have hb := h.1.2 p hl
    rw [if_pos (by omega), if_pos (by omega), ht.at_ hl, R_isLt hb]
    simp only [zbs]
    by_cases hlt : isLt (B p) = true
    · rw [if_pos hlt, if_neg zw_1n]
      obtain ⟨v, N3, b1, b2, b3, b5, b4⟩ := R_letters ht hl hlt n15
      obtain ⟨s1, s2, s3, -⟩ := skE_spec (p := isLt) (B := B) (L := L) (a := p + 1) (by omega)
      have e1 : tKind B L p = wkF B p (skE isLt B L (p + 1)) 25 0 := if_pos hlt
      have e2 : tEnd B L p = skE isLt B L (p + 1) := if_pos hlt
      rw [b1]
      simp only [zbs]
      rw [e1, e2]
      generalize skE isLt B L (p + 1) = e at b2 b3 s1 s2 s3
      have hB : ∀ j, j < e - p → 65 ≤ B (p + j) ∧ B (p + j) ≤ 127 := fun j hj => isLt_rng (by
        by_cases hj0 : j = 0
        · rw [hj0]; exact hlt
        · exact s3 (p + j) (by omega) (by omega))
      have fin : ∀ u : Int, (0 ≤ u ∧ ((0 ≤ wkF B p e 25 0 ∧ wkF B p e 25 0 < 25) ∧ u = rk (wkF B p e 25 0)) ∧ u < 100) ∨ (u = -1 ∧ wkF B p e 25 0 = 39) → ∃ N', f_X11_next_j189 u N3 = some N' ∧ (N' 42 0 16 = (p : Int) ∧ tokS (N' 42 0 17) (N' 42 0 18) (wkF B p e 25 0) (tVal B L p) ∧ N' 42 0 15 = (e : Int)) ∧ frN N N' := by
        intro u hu
        unfold f_X11_next_j189 f_X11_next_j205
        rw [zlt_, zput_eq, zw_id (z := u) (by omega) (by omega)]
        rcases hu with ⟨h1, h2, h4⟩ | ⟨h1, h2⟩
        · rw [if_pos h1, zlt_]
          refine ⟨_, rfl, ⟨?_, ?_, ?_⟩, f2.trans (b4.trans ((frN.put (by omega)).trans (frN.put (by omega))))⟩
          · rw [zput_j (by omega), zput_j (by omega), b5]
            exact n16
          · rw [zput_eq, zput_j (by omega), zput_eq]
            exact Or.inr (Or.inr (Or.inl ⟨h2.1, rfl, h2.2⟩))
          · rw [zput_j (by omega), zput_j (by omega)]; exact b3
        · rw [if_neg (by omega), zlt_]
          refine ⟨_, rfl, ⟨?_, ?_, ?_⟩, f2.trans (b4.trans ((frN.put (by omega)).trans (frN.put (by omega))))⟩
          · rw [zput_j (by omega), zput_j (by omega), b5]
            exact n16
          · rw [zput_eq]
            exact Or.inr (Or.inr (Or.inr (Or.inr ⟨h2, Or.inl rfl⟩)))
          · rw [zput_j (by omega), zput_j (by omega)]; exact b3
      have hcs := wkF_cases (B := B) (a := p) (e := e) 25 0
      unfold f_X11_next_j173
      rw [zw_nat (n := e - p) (by omega)]
      by_cases h7 : e - p ≤ 7
      · rw [if_pos (by omega)]
        have hv := b2 (by omega)
        have hbd := hsh_bd (B := B) (a := p) (e - p) (by omega) hB
        have hbd2 : hsh B p (e - p) < 2 ^ 42 := Int.lt_of_lt_of_le hbd.2 (by
          have : (2 : Int) ^ 42 = 2 ^ (6 * (e - p)) * 2 ^ (42 - 6 * (e - p)) := by rw [← Int.pow_add]; congr 1; omega
          rw [this]
          have h1 : (0 : Int) < 2 ^ (6 * (e - p)) := Int.pow_pos (by decide)
          have h2 : (0 : Int) < 2 ^ (42 - 6 * (e - p)) := Int.pow_pos (by decide)
          have h3 := Int.mul_le_mul_of_nonneg_left (show (1 : Int) ≤ 2 ^ (42 - 6 * (e - p)) by omega) (show (0 : Int) ≤ 2 ^ (6 * (e - p)) by omega)
          omega)
        have e42 : (2 : Int) ^ 42 = 4398046511104 := by decide
        rcases hcs with ⟨j, j1, j2, j3, j4⟩ | ⟨j1, j2⟩
        · have hh := (mtB_hash (by omega) hB).mp j4
          rw [hv, hh, R_wordOf_at j N3 (by omega)]
          simp only [zbs]
          have hr : 0 ≤ rkL.getD j 0 ∧ rkL.getD j 0 < 100 := by
            have : ∀ j, j < 25 → 0 ≤ rkL.getD j 0 ∧ rkL.getD j 0 < 100 := by decide
            exact this j (by omega)
          exact fin _ (Or.inl ⟨hr.1, ⟨by omega, by rw [j3, rk_word]⟩, hr.2⟩)
        · rw [hv, R_wordOf_no (by omega) (fun j hj z => j2 j (by omega) (by omega) ((mtB_hash hj hB).mpr z))]
          simp only [zbs]
          exact fin _ (Or.inr ⟨rfl, j1⟩)
      · rw [if_neg (by omega)]
        refine fin _ (Or.inr ⟨rfl, ?_⟩)
        rcases hcs with ⟨j, j1, j2, j3, j4⟩ | ⟨j1, j2⟩
        · exfalso
          unfold mtB at j4
          have hl7 := (word_ok (j := j) (by omega)).2.1
          have := (of_decide_eq_true j4).1
          omega
        · exact j1
    · rw [if_neg hlt, if_pos zw_0, R_isDg hb]
      simp only [zbs]
      by_cases hdg : isDg (B p) = true
      · rw [if_pos hdg, if_neg zw_1n, zlt_, zlt_]
        have e1 : tKind B L p = 25 := by unfold tKind; rw [if_neg hlt, if_pos hdg]
        have e2 : tEnd B L p = skE isDg B L (p + 1) := by unfold tEnd; rw [if_neg hlt, if_pos hdg]
        have f3 : frN N2 (zput (zput N2 42 0 17 2) 42 0 18 0) := (frN.put (by omega)).trans (frN.put (by omega))
        obtain ⟨N3, b1, b2, b3, b4, b5, b6⟩ := R_digits (ht.frN f3) hl hdg (by rw [zput_j (by omega), zput_j (by omega)]; exact n15) (zput_eq _ _ _ _ _)
        rw [b1]
        simp only [zbs]
        refine ⟨N3, rfl, ⟨?_, ?_, by rw [e2]; exact b3⟩, f2.trans (f3.trans b6)⟩
        · rw [b4, zput_j (by omega), zput_j (by omega)]; exact n16
        · rw [b5, zput_j (by omega), zput_eq, e1]
          exact Or.inr (Or.inl ⟨rfl, rfl, b2.1, b2.2⟩)
      · rw [if_neg hdg, if_pos zw_0, zlt_, zlt_]
        have hx : -128 ≤ sgn (B p) ∧ sgn (B p) ≤ 127 := by unfold sgn; split <;> omega
        rw [R_tail hx]
        have f3 : frN N2 (zput (zput N2 42 0 15 (N2 42 0 15 + 1)) 42 0 18 (sgn (B p))) := (frN.put (by omega)).trans (frN.put (by omega))
        obtain ⟨N3, b1, b2, b3, b4, b5⟩ := R_mark (v := tVal B L p) (ht.frN f3) hl hlt hdg (by rw [zput_j (by omega), zput_eq, n15]; omega) (zput_eq _ _ _ _ _)
        rw [b1]
        refine ⟨N3, rfl, ⟨?_, b3, b2⟩, f2.trans ?_⟩
        · rw [b4, zput_j (by omega), zput_j (by omega)]; exact n16
        · exact f3.trans b5
  · have hend : tPl B L i = L := by omega
    rw [if_neg (nn_ (by omega)), zlt_]
    refine ⟨_, rfl, ⟨by rw [zput_j (by omega)]; exact n16, ?_, by rw [zput_j (by omega), n15, tE_stop hend, hend]⟩, f2.trans (frN.put (by omega))⟩
    rw [zput_eq]
    exact Or.inl ⟨(tK_le i).2.2.mpr hend, rfl⟩
