/-! text: the reference's descent, a one -/
set_option maxRecDepth 8000 in
set_option maxHeartbeats 2000000 in
theorem rd_one {B : Nat → Int} {L m nl n : Nat} {law : Int} (hend : ∀ i, m ≤ i → tK B L i = 40) (hm : m ≤ 300) (hnl : nl ≤ 30) (hlaw : 0 ≤ law ∧ law ≤ 3) (ih : rdR B L m nl law n) {o i b : Nat} {r : (Int × Nat) ⊕ (Nat × zCd)} (h : zD (tK B L) (tV B L) law (n + 1) 2 o i b = some r) {M : zM} {f : Int} {fr : List Int} {P Wt : zWt} {X : zCd} (hi : i ≤ m) (hb : bgnR B L M 2 i o b nl law f fr P Wt X) : outRO B L 2 M i o nl f fr Wt X r := by
  have hP : P = [] := hb.p0 (by omega)
  subst hP
  have lt : ∀ i, tK B L i ≠ 40 → i < m := fun i h => Nat.lt_of_not_le (fun z => h (hend i z))
  have hnum := hb.nums
  have hle := hb.le
  have hlen := hb.len
  have ho8 := hb.o8
  rw [List.length_nil] at hlen
  have hst : stR B L M i o (f :: fr) Wt X := hb.st
  have fail : ∀ (w : Int), (∃ M', f_X11_begins M = some M' ∧ failR B L M' w i ∧ frB M M') → outRO B L 2 M i o nl f fr Wt X (.inl (w, i)) := by
    rintro w ⟨M1, a1, a2, a3⟩
    exact outR.now (c := 2) a2 (go_1 hst.ok hb.s0 a1) a3 (Nat.le_refl _) (by omega)
  rw [zD_2] at h
  by_cases k1 : tK B L i = 25
  · rw [if_pos k1] at h
    by_cases k2 : tV B L i ≤ 9999
    · rw [if_pos k2] at h
      cases h
      obtain ⟨M1, a1, a2, a3⟩ := beg_num hst k1 k2 (by omega)
      exact ⟨1, M1, fun F N hF hN => go_1 hst.ok hb.s0 (a3 F N (by omega) hN), a1, a2 _, by dsimp only; omega⟩
    · rw [if_neg k2] at h
      cases h
      exact fail 2 (beg_numN hst k1 k2)
  · rw [if_neg k1] at h
    by_cases k2 : isNm (tK B L i) = true
    · rw [if_pos k2] at h
      by_cases k3 : mayNm law (tK B L i) = true
      · rw [if_pos k3] at h
        cases h
        obtain ⟨M1, a1, a2, a3⟩ := beg_name hst hb.lw hlaw k2 k3 (by omega)
        exact ⟨1, M1, fun F N hF hN => go_1 hst.ok hb.s0 (a3 F N (by omega) hN), a1, a2 _, by dsimp only; omega⟩
      · rw [if_neg k3] at h
        cases h
        exact fail 5 (beg_nameN hst hb.lw hlaw k2 k3)
    · rw [if_neg k2] at h
      by_cases k3 : tK B L i = 36 ∨ tK B L i = 33 ∨ tK B L i = 17 ∨ tK B L i = 18
      · rw [if_pos k3] at h
        by_cases k4 : o < 8
        · rw [if_pos k4] at h
          have hb3 : bgnR B L M 3 i o b nl law f fr [] Wt X := ⟨hb.st, hb.s0, hb.lw, ⟨hb.top.1, fun z => by omega, fun z => by omega⟩, hb.lim, hb.o8, hb.len, hb.le, hb.wB, hb.wL, Nat.zero_le _, okP_nil, fun _ z => absurd rfl z, fun _ => rfl⟩
          exact (ih 3 (o + 1) i b r h o M f fr [] Wt X (fun _ => ⟨rfl, k4⟩) (fun z => absurd rfl z) hi hb3).1 (Or.inr rfl)
        · rw [if_neg k4] at h
          cases h
          exact fail 3 (beg_openN hst k2 k3 (by omega))
      · rw [if_neg k3] at h
        cases h
        exact fail 1 (beg_bad hst k1 k2 k3)
set_option maxRecDepth 8000 in
set_option maxHeartbeats 2000000 in
theorem rd_opened {B : Nat → Int} {L m nl n : Nat} {law : Int} (hend : ∀ i, m ≤ i → tK B L i = 40) (hm : m ≤ 300) (hnl : nl ≤ 30) (ih : rdR B L m nl law n) {o i b : Nat} {r : (Int × Nat) ⊕ (Nat × zCd)} (ho : o < 8) (h : zD (tK B L) (tV B L) law (n + 1) 3 (o + 1) i b = some r) {M : zM} {f : Int} {fr : List Int} {P Wt : zWt} {X : zCd} (hi : i ≤ m) (hb : bgnR B L M 3 i o b nl law f fr P Wt X) : outRO B L 3 M i o nl f fr Wt X r := by
  have hP : P = [] := hb.p0 (by omega)
  subst hP
  have lt : ∀ i, tK B L i ≠ 40 → i < m := fun i h => Nat.lt_of_not_le (fun z => h (hend i z))
  have hnum := hb.nums
  have hlim := hb.lim
  have hwL := hb.wL
  have ho8 := hb.o8
  have hle := hb.le
  have l3 : lmT 3 = 2 := rfl
  have l0 : lmT 0 = 2 := rfl
  have l2 : lmT 2 = 2 := rfl
  have l4 : lmT 4 = 1 := rfl
  have sl3 : slT 3 = 0 := rfl
  have sl0 : slT 0 = 2 := rfl
  have sl2 : slT 2 = 0 := rfl
  have sl4 : slT 4 = 2 := rfl
  have hlen := hb.len
  rw [List.length_nil] at hlen
  have hst : stR B L M i o (f :: fr) Wt X := hb.st
  have hwB : wtB (fr.length + 1) Wt := hb.wB
  have hk : tK B L i = 36 ∨ tK B L i = 33 ∨ tK B L i = 17 ∨ tK B L i = 18 := by
    refine Decidable.byContradiction fun hn => ?_
    rw [zD_3, if_neg (by omega), if_neg (by omega), if_neg (by omega), if_neg (by omega)] at h
    cases h
  have hn : ¬ isNm (tK B L i) = true := by
    unfold isNm
    rw [decide_eq_true_eq]
    omega
  have hlt := lt i (by omega)
  obtain ⟨M1, a1, a2, a3, a4⟩ := beg_open hst hb.s0 hn hk ho (by rw [List.length_cons]; omega)
  have g0 : rnS 1 M M1 := go_1 hst.ok hb.s0 a1
  have hlw1 : M1 42 0 31 = law := by rw [(a4 0).1.2 31 (by omega) (by omega) (by omega) (by omega)]; exact hb.lw
  -- a part of kind s begins behind the sign that opens
  have bg : ∀ (s : Nat) (g : Int), s = 0 ∨ s = 2 ∨ s = 4 → fO (tK B L i) = g → (s = 4 ↔ tK B L i = 18) → ffT s g → bgnR B L M1 s (i + 1) (o + 1) b nl law g (f :: fr) [] Wt X := by
    intro s g hs hg h18 htop
    rw [hg] at a2
    have hsl : slT s ≤ 2 := slT_le s
    refine ⟨a2, ?_, hlw1, htop, ?_, by omega, hb.len, by omega, by rw [List.length_cons]; exact hwB.le (by omega), by rw [List.length_cons]; omega, Nat.zero_le _, okP_nil, fun _ _ _ => by rw [List.length_cons]; exact hwB.okW, fun _ => rfl⟩
    · rw [a3]
      rcases hs with rfl | rfl | rfl
      · rw [if_neg (by omega)]; rfl
      · rw [if_neg (by omega)]; rfl
      · rw [if_pos (by omega)]; rfl
    · rw [List.length_cons]
      rcases hs with rfl | rfl | rfl <;> omega
  rw [zD_3] at h
  by_cases k36 : tK B L i = 36
  · rw [if_pos k36] at h
    have e6 : fO (tK B L i) = 6 := by rw [k36]; rfl
    have hb1 := bg 0 6 (by omega) e6 (by omega) ⟨by omega, fun z => by omega, fun z => by omega⟩
    rcases pB_inv h with ⟨w, q, h1, rfl⟩ | ⟨i1, c1, h1, h2⟩
    · have g := (ih 0 (o + 1) (i + 1) b _ h1 (o + 1) M1 6 (f :: fr) [] Wt X (fun z => by omega) (fun _ => rfl) (by omega) hb1).2.2 (by omega) (by omega) (by omega)
      have g : outR B L M1 (i + 1) 2 (w, q) := g
      exact g.step (c := 2) g0 (a4 0).1 (by omega) (by omega)
    · have g := (ih 0 (o + 1) (i + 1) b _ h1 (o + 1) M1 6 (f :: fr) [] Wt X (fun z => by omega) (fun _ => rfl) (by omega) hb1).2.2 (by omega) (by omega) (by omega)
      obtain ⟨k, M2, P2, X2, b1, b2, b3, b4, b5, b6, b7, b8, b9⟩ := g
      dsimp only at b3 b4 b9
      obtain ⟨g1, g2, g3, g4⟩ := zD_bd hend n 0 (o + 1) (i + 1) b _ (by omega) h1
      dsimp only at g1 g2 g3 g4
      have g3 := g3 (by omega)
      have ne := (zD_end n 0 (o + 1) (i + 1) b i1 c1 h1).2.2.1 (Or.inl rfl)
      have b4' : X2 ++ pops P2 = X ++ imL nl c1 := by rw [b4]; show X ++ [] ++ _ = _; rw [List.append_nil]
      have hl2 : X2.length + P2.length = b + c1.length + nl := by
        have e := congrArg List.length b4'
        rw [List.length_append, List.length_append, pops_len, imL_len] at e
        omega
      rw [List.length_cons] at b5 b7
      obtain ⟨r1, r2⟩ := hb.room (i' := 0) (by omega) b7
      have e2 : f_X11_goesOn M2 = f_X11_goesOn_j65 6 M2 := goes_no b3 (by rw [List.length_cons]; omega) ne
      by_cases k4 : tK B L i1 = 37
      · rw [if_pos k4] at h2
        cases h2
        obtain ⟨M3, d1, d2, d3⟩ := g_paren b3 k4 (by rw [List.length_cons]; exact hwB.okW) (by rw [List.length_cons]; exact b5) (by rw [List.length_cons]; omega) r1 r2 (by omega)
        rw [b4'] at d1
        exact ⟨1 + k + 1, M3, fun F N hF hN => (g0.trans b1).trans (go_2 b3.ok b2 (by rw [e2]; exact d3 F N (by omega) hN)), d1, (a4 _).trans ((b8.le (by rw [List.length_cons]; omega)).trans (d2 _)), by dsimp only; omega⟩
      · rw [if_neg k4] at h2
        cases h2
        obtain ⟨M3, d1, d2, d3⟩ := g_bad b3 (Or.inl ⟨rfl, k4⟩)
        exact outR.now (c := 2) d2 ((g0.trans b1).trans (go_2 b3.ok b2 (by rw [e2]; exact d1))) ((a4 0).1.trans (b8.1.trans d3)) (by omega) (by omega)
  rw [if_neg k36] at h
  by_cases k33 : tK B L i = 33
  · rw [if_pos k33] at h
    have e6 : fO (tK B L i) = 7 := by rw [k33]; rfl
    have hb1 := bg 2 7 (by omega) e6 (by omega) ⟨by omega, fun z => by omega, fun z => by omega⟩
    rcases pB_inv h with ⟨w, q, h1, rfl⟩ | ⟨i1, c1, h1, h2⟩
    · have g := (ih 2 (o + 1) (i + 1) b _ h1 (o + 1) M1 7 (f :: fr) [] Wt X (fun z => by omega) (fun _ => rfl) (by omega) hb1).1 (Or.inl rfl)
      have g : outR B L M1 (i + 1) 2 (w, q) := g
      exact g.step (c := 2) g0 (a4 0).1 (by omega) (by omega)
    · cases h2
      have g := (ih 2 (o + 1) (i + 1) b _ h1 (o + 1) M1 7 (f :: fr) [] Wt X (fun z => by omega) (fun _ => rfl) (by omega) hb1).1 (Or.inl rfl)
      obtain ⟨k, M2, b1, b2, b3, b4⟩ := g
      dsimp only at b2 b4
      obtain ⟨g1, g2, g3, g4⟩ := zD_bd hend n 2 (o + 1) (i + 1) b _ (by omega) h1
      dsimp only at g1 g2 g3 g4
      obtain ⟨M3, d1, d2, d3⟩ := ov_up (op := 402) (Or.inl ⟨rfl, rfl⟩) b2 (by rw [List.length_cons]; omega) (by rw [List.length_append, imL_len]; omega)
      refine ⟨1 + k, M3, fun F N hF hN => g0.trans (b1 (F + 1) N (by omega) (d3 F N hN)), ?_, (a4 _).trans ((b3.le (by rw [List.length_cons]; omega)).trans (d2 _)), by dsimp only; omega⟩
      dsimp only
      rw [imL_app, ← List.append_assoc]
      exact d1
  rw [if_neg k33] at h
  by_cases k17 : tK B L i = 17
  · rw [if_pos k17] at h
    have e6 : fO (tK B L i) = 10 := by rw [k17]; rfl
    have hb1 := bg 2 10 (by omega) e6 (by omega) ⟨by omega, fun z => by omega, fun z => by omega⟩
    rcases pB_inv h with ⟨w, q, h1, rfl⟩ | ⟨i1, c1, h1, h2⟩
    · have g := (ih 2 (o + 1) (i + 1) b _ h1 (o + 1) M1 10 (f :: fr) [] Wt X (fun z => by omega) (fun _ => rfl) (by omega) hb1).1 (Or.inl rfl)
      have g : outR B L M1 (i + 1) 2 (w, q) := g
      exact g.step (c := 2) g0 (a4 0).1 (by omega) (by omega)
    · have g := (ih 2 (o + 1) (i + 1) b _ h1 (o + 1) M1 10 (f :: fr) [] Wt X (fun z => by omega) (fun _ => rfl) (by omega) hb1).1 (Or.inl rfl)
      obtain ⟨k, M2, b1, b2, b3, b4⟩ := g
      dsimp only at b2 b4
      obtain ⟨g1, g2, g3, g4⟩ := zD_bd hend n 2 (o + 1) (i + 1) b _ (by omega) h1
      dsimp only at g1 g2 g3 g4
      have g3 := g3 (by omega)
      by_cases k4 : tK B L i1 = 16
      · rw [if_pos k4] at h2
        have hlt1 := lt i1 (by omega)
        obtain ⟨M3, d1, d2, d3, d4⟩ := ov_first b2 (by rw [List.length_cons]; omega) k4 (F := 1) (by omega)
        have gs := b1 1 M3 (by omega) d1
        have hb3 : bgnR B L M3 2 (i1 + 1) (o + 1) (b + c1.length) nl law 11 (f :: fr) [] Wt (X ++ imL nl c1) := ⟨d2, d3, by rw [(d4 0).1.2 31 (by omega) (by omega) (by omega) (by omega), b3.1.2 31 (by omega) (by omega) (by omega) (by omega)]; exact hlw1, ⟨by omega, fun z => by omega, fun z => by omega⟩, by rw [List.length_cons]; omega, by omega, by rw [List.length_append, imL_len, List.length_nil]; omega, by omega, by rw [List.length_cons]; exact hwB.le (by omega), by rw [List.length_cons]; omega, Nat.zero_le _, okP_nil, fun z _ _ => absurd rfl z, fun _ => rfl⟩
        have fr1 : frB M M3 := (a4 0).1.trans (b3.1.trans (d4 0).1)
        rcases pB_inv h2 with ⟨w, q, h3, rfl⟩ | ⟨i2, c2, h3, h4⟩
        · have g := (ih 2 (o + 1) (i1 + 1) _ _ h3 (o + 1) M3 11 (f :: fr) [] Wt _ (fun z => by omega) (fun _ => rfl) (by omega) hb3).1 (Or.inl rfl)
          have g : outR B L M3 (i1 + 1) 2 (w, q) := g
          exact g.step (c := 2) (g0.trans gs) fr1 (by omega) (by omega)
        · cases h4
          have g := (ih 2 (o + 1) (i1 + 1) _ _ h3 (o + 1) M3 11 (f :: fr) [] Wt _ (fun z => by omega) (fun _ => rfl) (by omega) hb3).1 (Or.inl rfl)
          obtain ⟨k2, M4, p1, p2, p3, p4⟩ := g
          dsimp only at p2 p4
          obtain ⟨q1, q2, q3, q4⟩ := zD_bd hend n 2 (o + 1) (i1 + 1) _ _ (by omega) h3
          dsimp only at q1 q2 q3 q4
          obtain ⟨M5, t1, t2, t3⟩ := ov_up (op := 403) (Or.inr ⟨rfl, rfl⟩) p2 (by rw [List.length_cons]; omega) (by rw [List.length_append, List.length_append, imL_len, imL_len]; omega)
          refine ⟨1 + k + k2, M5, fun F N hF hN => (g0.trans gs).trans (p1 (F + 1) N (by omega) (t3 F N hN)), ?_, (a4 _).trans ((b3.le (by rw [List.length_cons]; omega)).trans ((d4 _).trans ((p3.le (by rw [List.length_cons]; omega)).trans (t2 _)))), by dsimp only; omega⟩
          dsimp only
          have e5 : X ++ imL nl (c1 ++ (c2 ++ [(17, 0)])) = X ++ imL nl c1 ++ imL nl c2 ++ [(403, 0)] := by
            rw [imL_app, imL_app]
            simp only [List.append_assoc]
            rfl
          rw [e5]
          exact t1
      · rw [if_neg k4] at h2
        cases h2
        obtain ⟨M3, d1, d2, d3⟩ := ov_firstN b2 (by rw [List.length_cons]; omega) k4 (F := 1) (by omega)
        exact outR.now (c := 2) d2 (g0.trans (b1 1 M3 (by omega) d1)) ((a4 0).1.trans (b3.1.trans d3)) (by omega) (by omega)
  rw [if_neg k17] at h
  have k18 : tK B L i = 18 := by omega
  rw [if_pos k18] at h
  have e6 : fO (tK B L i) = 2 := by rw [k18]; rfl
  have hb1 := bg 4 2 (by omega) e6 (by omega) ⟨by omega, fun z => by omega, fun _ => rfl⟩
  rcases pB_inv h with ⟨w, q, h1, rfl⟩ | ⟨i1, c1, h1, h2⟩
  · have g := (ih 4 (o + 1) (i + 1) b _ h1 (o + 1) M1 2 (f :: fr) [] Wt X (fun z => by omega) (fun _ => rfl) (by omega) hb1).2.2 (by omega) (by omega) (by omega)
    have g : outR B L M1 (i + 1) 3 (w, q) := g
    exact g.step (c := 2) g0 (a4 0).1 (by omega) (by omega)
  have g := (ih 4 (o + 1) (i + 1) b _ h1 (o + 1) M1 2 (f :: fr) [] Wt X (fun z => by omega) (fun _ => rfl) (by omega) hb1).2.2 (by omega) (by omega) (by omega)
  obtain ⟨k, M2, P2, X2, b1, b2, b3, b4, b5, b6, b7, b8, b9⟩ := g
  dsimp only at b3 b4 b9
  obtain ⟨g1, g2, g3, g4⟩ := zD_bd hend n 4 (o + 1) (i + 1) b _ (by omega) h1
  dsimp only at g1 g2 g3 g4
  have g3 := g3 (by omega)
  have ne := (zD_end n 4 (o + 1) (i + 1) b i1 c1 h1).2.2.2 (Or.inl rfl)
  have b4' : X2 ++ pops P2 = X ++ imL nl c1 := by rw [b4]; show X ++ [] ++ _ = _; rw [List.append_nil]
  have hl2 : X2.length + P2.length = b + c1.length + nl := by
    have e := congrArg List.length b4'
    rw [List.length_append, List.length_append, pops_len, imL_len] at e
    omega
  rw [List.length_cons] at b5 b7
  obtain ⟨r1, r2⟩ := hb.room (i' := 0) (by omega) b7
  by_cases k4 : tK B L i1 = 19
  case neg =>
    rw [if_neg k4] at h2
    cases h2
    obtain ⟨M3, d1, d2, d3⟩ := asks_bad b3 ⟨k4, ne.1, ne.2⟩ (by rw [List.length_cons]; omega)
    exact outR.now (c := 2) d2 ((g0.trans b1).trans (go_3 b3.ok b2 d1)) ((a4 0).1.trans (b8.1.trans d3)) (by omega) (by omega)
  rw [if_pos k4] at h2
  have hlt1 := lt i1 (by omega)
  obtain ⟨M3, d1, d2, d3, d4, d5⟩ := asks_then b3 k4 (by rw [List.length_cons]; exact hwB.okW) (by rw [List.length_cons]; exact b5) (by rw [List.length_cons]; omega) r1 r2 (by omega)
  rw [b4'] at d2
  rw [hl2] at d3
  rw [List.length_cons] at d3
  have g3s : rnS 1 M2 M3 := go_3 b3.ok b2 d1
  have hlw3 : M3 42 0 31 = law := by rw [d5.1.2 31 (by omega) (by omega) (by omega) (by omega), b8.1.2 31 (by omega) (by omega) (by omega) (by omega)]; exact hlw1
  have lX1 : (X ++ imL nl c1).length = b + c1.length + nl := by rw [List.length_append, imL_len]; omega
  have hb3 : bgnR B L M3 0 (i1 + 1) (o + 1) (b + c1.length + 1) nl law 8 (f :: fr) [] Wt (X ++ imL nl c1 ++ [(404, 0)]) := ⟨d2, d4, hlw3, ⟨by omega, fun z => by omega, fun z => by omega⟩, by rw [List.length_cons]; omega, by omega, by rw [List.length_append, lX1, List.length_nil, List.length_singleton]; omega, by omega, by rw [List.length_cons]; exact hwB.le (by omega), by rw [List.length_cons]; omega, Nat.zero_le _, okP_nil, fun _ _ _ => by rw [List.length_cons]; exact hwB.okW, fun _ => rfl⟩
  have fr1 : frT (fr.length + 1) M M3 := (a4 _).trans ((b8.le (by rw [List.length_cons]; omega)).trans d5)
  have run3 := (g0.trans b1).trans g3s
  rcases pB_inv h2 with ⟨w, q, h3, rfl⟩ | ⟨i2, c2, h3, h4⟩
  · have g := (ih 0 (o + 1) (i1 + 1) _ _ h3 (o + 1) M3 8 (f :: fr) [] Wt _ (fun z => by omega) (fun _ => rfl) (by omega) hb3).2.2 (by omega) (by omega) (by omega)
    have g : outR B L M3 (i1 + 1) 2 (w, q) := g
    exact g.step (c := 2) run3 fr1.1 (by omega) (by omega)
  have g := (ih 0 (o + 1) (i1 + 1) _ _ h3 (o + 1) M3 8 (f :: fr) [] Wt _ (fun z => by omega) (fun _ => rfl) (by omega) hb3).2.2 (by omega) (by omega) (by omega)
  obtain ⟨k2, M4, P4, X4, p1, p2, p3, p4, p5, p6, p7, p8, p9⟩ := g
  dsimp only at p3 p4 p9
  obtain ⟨q1, q2, q3, q4⟩ := zD_bd hend n 0 (o + 1) (i1 + 1) _ _ (by omega) h3
  dsimp only at q1 q2 q3 q4
  have q3 := q3 (by omega)
  have ne2 := (zD_end n 0 (o + 1) (i1 + 1) _ i2 c2 h3).2.2.1 (Or.inl rfl)
  have p4' : X4 ++ pops P4 = (X ++ imL nl c1) ++ ((404, 0) :: imL nl c2) := by
    rw [p4]
    show X ++ imL nl c1 ++ [(404, 0)] ++ [] ++ imL nl c2 = _
    simp only [List.append_assoc, List.cons_append, List.nil_append]
  have hl4 : X4.length + P4.length = b + c1.length + nl + 1 + c2.length := by
    have e := congrArg List.length p4'
    rw [List.length_append, List.length_append, lX1, List.length_cons, pops_len, imL_len] at e
    omega
  rw [List.length_cons] at p5 p7
  obtain ⟨r3, r4⟩ := hb.room (i' := 0) (by omega) p7
  have e4 : f_X11_goesOn M4 = f_X11_goesOn_j65 8 M4 := goes_no p3 (by rw [List.length_cons]; omega) ne2
  by_cases k5 : tK B L i2 = 20
  case neg =>
    rw [if_neg k5] at h4
    cases h4
    obtain ⟨M5, t1, t2, t3⟩ := g_bad p3 (Or.inr (Or.inl ⟨rfl, k5⟩))
    exact outR.now (c := 2) t2 ((run3.trans p1).trans (go_2 p3.ok p2 (by rw [e4]; exact t1))) (fr1.1.trans (p8.1.trans t3)) (by omega) (by omega)
  rw [if_pos k5] at h4
  have hlt2 := lt i2 (by omega)
  have q58 : M4 58 0 ((f :: fr).length + 1) = (X ++ imL nl c1).length := by
    rw [(p8.2 _ (Nat.le_refl _)).2, lX1]
    exact d3
  obtain ⟨M5, t1, t2, t3, t4, t5⟩ := g_else p3 k5 (by rw [List.length_cons]; exact hwB.okW) (by rw [List.length_cons]; exact p5) (by rw [List.length_cons]; omega) r3 r4 (by omega) p4' q58
  rw [lX1, imL_len] at t2 t3
  have g5s : rnS 1 M4 M5 := go_2 p3.ok p2 (by rw [e4]; exact t1)
  have hb5 : bgnR B L M5 0 (i2 + 1) (o + 1) (b + c1.length + 1 + c2.length + 1) nl law 9 (f :: fr) [] Wt _ := ⟨t2, t4, by rw [t5.1.2 31 (by omega) (by omega) (by omega) (by omega), p8.1.2 31 (by omega) (by omega) (by omega) (by omega)]; exact hlw3, ⟨by omega, fun z => by omega, fun z => by omega⟩, by rw [List.length_cons]; omega, by omega, by rw [List.length_append, lX1, List.length_cons, List.length_append, imL_len, List.length_nil, List.length_singleton]; omega, by omega, by rw [List.length_cons]; exact hwB.le (by omega), by rw [List.length_cons]; omega, Nat.zero_le _, okP_nil, fun _ _ _ => by rw [List.length_cons]; exact hwB.okW, fun _ => rfl⟩
  have fr2 : frT (fr.length + 1) M M5 := fr1.trans ((p8.le (by rw [List.length_cons]; omega)).trans t5)
  have run5 := (run3.trans p1).trans g5s
  rcases pB_inv h4 with ⟨w, q, h5, rfl⟩ | ⟨i3, c3, h5, h6⟩
  · have g := (ih 0 (o + 1) (i2 + 1) _ _ h5 (o + 1) M5 9 (f :: fr) [] Wt _ (fun z => by omega) (fun _ => rfl) (by omega) hb5).2.2 (by omega) (by omega) (by omega)
    have g : outR B L M5 (i2 + 1) 2 (w, q) := g
    exact g.step (c := 2) run5 fr2.1 (by omega) (by omega)
  have g := (ih 0 (o + 1) (i2 + 1) _ _ h5 (o + 1) M5 9 (f :: fr) [] Wt _ (fun z => by omega) (fun _ => rfl) (by omega) hb5).2.2 (by omega) (by omega) (by omega)
  obtain ⟨k3, M6, P6, X6, u1, u2, u3, u4, u5, u6, u7, u8, u9⟩ := g
  dsimp only at u3 u4 u9
  obtain ⟨v1, v2, v3, v4⟩ := zD_bd hend n 0 (o + 1) (i2 + 1) _ _ (by omega) h5
  dsimp only at v1 v2 v3 v4
  have v3 := v3 (by omega)
  have ne3 := (zD_end n 0 (o + 1) (i2 + 1) _ i3 c3 h5).2.2.1 (Or.inl rfl)
  have u4' : X6 ++ pops P6 = ((X ++ imL nl c1) ++ ((404, ((b + c1.length + nl + 1 + c2.length + 1 : Nat) : Int)) :: imL nl c2)) ++ ((409, 0) :: imL nl c3) := by
    rw [u4]
    show X ++ imL nl c1 ++ ((404, _) :: (imL nl c2 ++ [(409, 0)])) ++ [] ++ imL nl c3 = _
    simp only [List.append_assoc, List.cons_append, List.nil_append]
  have lX3 : ((X ++ imL nl c1) ++ ((404, ((b + c1.length + nl + 1 + c2.length + 1 : Nat) : Int)) :: imL nl c2)).length = b + c1.length + nl + 1 + c2.length := by
    rw [List.length_append, lX1, List.length_cons, imL_len]; omega
  have hl6 : X6.length + P6.length = b + c1.length + nl + 1 + c2.length + 1 + c3.length := by
    have e := congrArg List.length u4'
    rw [List.length_append, List.length_append, lX3, List.length_cons, pops_len, imL_len] at e
    omega
  rw [List.length_cons] at u5 u7
  obtain ⟨r5, r6⟩ := hb.room (i' := 0) (by omega) u7
  have e6' : f_X11_goesOn M6 = f_X11_goesOn_j65 9 M6 := goes_no u3 (by rw [List.length_cons]; omega) ne3
  by_cases k6 : tK B L i3 = 21
  case neg =>
    rw [if_neg k6] at h6
    cases h6
    obtain ⟨M7, x1, x2, x3⟩ := g_bad u3 (Or.inr (Or.inr (Or.inl ⟨rfl, k6⟩)))
    exact outR.now (c := 2) x2 ((run5.trans u1).trans (go_2 u3.ok u2 (by rw [e6']; exact x1))) (fr2.1.trans (u8.1.trans x3)) (by omega) (by omega)
  rw [if_pos k6] at h6
  cases h6
  have q59 : M6 58 0 ((f :: fr).length + 1) = ((X ++ imL nl c1) ++ ((404, ((b + c1.length + nl + 1 + c2.length + 1 : Nat) : Int)) :: imL nl c2)).length := by
    rw [(u8.2 _ (Nat.le_refl _)).2, lX3]
    exact t3
  obtain ⟨M7, x1, x2, x3⟩ := g_end u3 k6 (by rw [List.length_cons]; exact hwB.okW) (by rw [List.length_cons]; exact u5) (by rw [List.length_cons]; omega) r5 r6 (by omega) u4' q59
  rw [lX3, imL_len] at x1
  refine ⟨1 + k + 1 + k2 + 1 + k3 + 1, M7, fun F N hF hN => (run5.trans u1).trans (go_2 u3.ok u2 (by rw [e6']; exact x3 F N (by omega) hN)), ?_, fr2.trans ((u8.le (by rw [List.length_cons]; omega)).trans x2), by dsimp only; omega⟩
  dsimp only
  have i19 : imC nl ((19 : Int), ((b + c1.length + 1 + c2.length + 1 : Nat) : Int)) = (404, ((b + c1.length + nl + 1 + c2.length + 1 : Nat) : Int)) := by
    unfold imC
    rw [Prod.mk.injEq]
    refine ⟨rfl, ?_⟩
    dsimp only
    rw [if_neg (by decide), if_neg (by decide), if_pos (by decide)]
    omega
  have i20 : imC nl ((20 : Int), ((b + c1.length + 1 + c2.length + 1 + c3.length : Nat) : Int)) = (409, ((b + c1.length + nl + 1 + c2.length + 1 + c3.length : Nat) : Int)) := by
    unfold imC
    rw [Prod.mk.injEq]
    refine ⟨rfl, ?_⟩
    dsimp only
    rw [if_neg (by decide), if_neg (by decide), if_pos (by decide)]
    omega
  have e5 : X ++ imL nl (c1 ++ ((19, ((b + c1.length + 1 + c2.length + 1 : Nat) : Int)) :: (c2 ++ ((20, ((b + c1.length + 1 + c2.length + 1 + c3.length : Nat) : Int)) :: c3)))) = ((X ++ imL nl c1) ++ ((404, ((b + c1.length + nl + 1 + c2.length + 1 : Nat) : Int)) :: imL nl c2)) ++ ((409, ((b + c1.length + nl + 1 + c2.length + 1 + c3.length : Nat) : Int)) :: imL nl c3) := by
    rw [imL_app, imL_cons, i19, imL_app, imL_cons, i20]
    simp only [List.append_assoc, List.cons_append]
  rw [e5]
  exact x1
set_option maxRecDepth 8000 in
set_option maxHeartbeats 2000000 in
/-- the descent, as the reference does it -/
theorem R_desc {B : Nat → Int} {L m nl : Nat} {law : Int} (hend : ∀ i, m ≤ i → tK B L i = 40) (hm : m ≤ 300) (hnl : nl ≤ 30) (hlaw : 0 ≤ law ∧ law ≤ 3) : ∀ n, rdR B L m nl law n := by
  intro n
  induction n with
  | zero => intro t o i b r h; cases h
  | succ n ih =>
    intro t o i b r h o' M f fr P Wt X h3 hn3 hi hb
    have stop : 7 ≤ t → r = .inr (i, []) → t ≤ 10 → outRT B L t M i o' nl f fr P Wt X r := by
      intro h7 e h10
      subst e
      refine ⟨fun z => by omega, fun z => by omega, fun _ _ _ => ⟨0, M, P, X, rnS.rfl_, ?_, hb.st, ?_, hb.pO, hb.pL, hb.wB.left, frT.rfl_, Nat.zero_le _⟩⟩
      · have h4 : t = 7 ∨ t = 8 ∨ t = 9 ∨ t = 10 := by omega
        have := hb.s0
        rcases h4 with rfl | rfl | rfl | rfl <;> exact this
      · show X ++ pops P = X ++ pops P ++ []
        rw [List.append_nil]
    match t, h, h3, hn3, hb, stop with
    | 0, h, _, hn3, hb, _ =>
      cases hn3 (by omega)
      rw [zD_0] at h
      exact ⟨fun z => by omega, fun z => by omega, fun _ _ _ => rd_two hend ih (Or.inl ⟨rfl, rfl, rfl⟩) h hi hb⟩
    | 1, h, _, hn3, hb, _ =>
      cases hn3 (by omega)
      rw [zD_1] at h
      exact ⟨fun z => by omega, fun z => by omega, fun _ _ _ => rd_two hend ih (Or.inr (Or.inl ⟨rfl, rfl, rfl⟩)) h hi hb⟩
    | 4, h, _, hn3, hb, _ =>
      cases hn3 (by omega)
      rw [zD_4] at h
      exact ⟨fun z => by omega, fun z => by omega, fun _ _ _ => rd_two hend ih (Or.inr (Or.inr (Or.inl ⟨rfl, rfl, rfl⟩))) h hi hb⟩
    | 5, h, _, hn3, hb, _ =>
      cases hn3 (by omega)
      rw [zD_5] at h
      exact ⟨fun z => by omega, fun z => by omega, fun _ _ _ => rd_two hend ih (Or.inr (Or.inr (Or.inr ⟨rfl, rfl, rfl⟩))) h hi hb⟩
    | 2, h, _, hn3, hb, _ =>
      cases hn3 (by omega)
      exact ⟨fun _ => rd_one hend hm hnl hlaw ih h hi hb, fun z => by omega, fun z => absurd rfl z⟩
    | 3, h, h3, _, hb, _ =>
      obtain ⟨h31, h32⟩ := h3 rfl
      cases h31
      exact ⟨fun _ => rd_opened hend hm hnl ih h32 h hi hb, fun z => by omega, fun _ z => absurd rfl z⟩
    | 6, h, _, hn3, hb, _ =>
      cases hn3 (by omega)
      exact ⟨fun z => by omega, fun _ => rd_ask hend hm hnl ih h hi hb, fun _ _ z => absurd rfl z⟩
    | 7, h, _, hn3, hb, stop =>
      cases hn3 (by omega)
      rw [zD_7] at h
      by_cases hk : tK B L i = 32 ∨ tK B L i = 33
      · rw [if_pos hk] at h
        exact ⟨fun z => by omega, fun z => by omega, fun _ _ _ => rd_loop hend hm ih rfl (Or.inl ⟨rfl, rfl, hk⟩) h hi hb⟩
      · rw [if_neg hk] at h
        cases h
        exact stop (by omega) rfl (by omega)
    | 8, h, _, hn3, hb, stop =>
      cases hn3 (by omega)
      rw [zD_8] at h
      by_cases hk : tK B L i = 34 ∨ tK B L i = 35
      · rw [if_pos hk] at h
        exact ⟨fun z => by omega, fun z => by omega, fun _ _ _ => rd_loop hend hm ih rfl (Or.inr (Or.inl ⟨rfl, rfl, hk⟩)) h hi hb⟩
      · rw [if_neg hk] at h
        cases h
        exact stop (by omega) rfl (by omega)
    | 9, h, _, hn3, hb, stop =>
      cases hn3 (by omega)
      rw [zD_9] at h
      by_cases hk : tK B L i = 22
      · rw [if_pos hk] at h
        exact ⟨fun z => by omega, fun z => by omega, fun _ _ _ => rd_loop hend hm ih hk (Or.inr (Or.inr (Or.inl ⟨rfl, rfl, rfl⟩))) h hi hb⟩
      · rw [if_neg hk] at h
        cases h
        exact stop (by omega) rfl (by omega)
    | 10, h, _, hn3, hb, stop =>
      cases hn3 (by omega)
      rw [zD_10] at h
      by_cases hk : tK B L i = 23
      · rw [if_pos hk] at h
        exact ⟨fun z => by omega, fun z => by omega, fun _ _ _ => rd_loop hend hm ih hk (Or.inr (Or.inr (Or.inr ⟨rfl, rfl, rfl⟩))) h hi hb⟩
      · rw [if_neg hk] at h
        cases h
        exact stop (by omega) rfl (by omega)
    | t + 11, h, _, _, _, _ => cases h
