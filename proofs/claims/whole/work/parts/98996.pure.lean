/-! text: the reference's descent, an ask -/
set_option maxRecDepth 8000 in
set_option maxHeartbeats 2000000 in
theorem bgnR.room {B : Nat → Int} {L : Nat} {M : zM} {t i o b nl : Nat} {law f : Int} {fr : List Int} {P Wt : zWt} {X : zCd} (h : bgnR B L M t i o b nl law f fr P Wt X) {i' : Nat} {P' : zWt} (hP : P'.length ≤ 2) (hw : wtB (fr.length + 2) P') : wtB 40 (P' ++ Wt) ∧ (P' ++ Wt).length ≤ 80 := by
  have hn := h.nums
  refine ⟨(hw.le (by omega)).app (h.wB.right.le (by omega)), ?_⟩
  rw [List.length_append]
  omega
set_option maxRecDepth 8000 in
set_option maxHeartbeats 2000000 in
theorem rd_ask {B : Nat → Int} {L m nl n : Nat} {law : Int} (hend : ∀ i, m ≤ i → tK B L i = 40) (hm : m ≤ 300) (hnl : nl ≤ 30) (ih : rdR B L m nl law n) {o i b : Nat} {r : (Int × Nat) ⊕ (Nat × zCd)} (h : zD (tK B L) (tV B L) law (n + 1) 6 o i b = some r) {M : zM} {f : Int} {fr : List Int} {P Wt : zWt} {X : zCd} (hi : i ≤ m) (hb : bgnR B L M 6 i o b nl law f fr P Wt X) : outRA B L 6 M i o nl f fr Wt X r := by
  have hP : P = [] := hb.p0 (by omega)
  subst hP
  have lt : ∀ i, tK B L i ≠ 40 → i < m := fun i h => Nat.lt_of_not_le (fun z => h (hend i z))
  have hnum := hb.nums
  have hlim := hb.lim
  have hwL := hb.wL
  have ho8 := hb.o8
  have hle := hb.le
  have l6 : lmT 6 = 1 := rfl
  have l0 : lmT 0 = 2 := rfl
  have sl6 : slT 6 = 0 := rfl
  have sl0 : slT 0 = 2 := rfl
  have hlen := hb.len
  rw [List.length_nil] at hlen
  have hst : stR B L M i o (f :: fr) Wt X := hb.st
  have hwB : wtB (fr.length + 1) Wt := hb.wB
  rw [zD_6] at h
  by_cases k1 : tK B L i = 24
  · rw [if_pos k1] at h
    have hlt := lt i (by omega)
    by_cases k2 : o < 8
    · rw [if_pos k2] at h
      obtain ⟨M1, a1, a2, a3, a4⟩ := ask_not hst hb.s0 k1 k2 (by rw [List.length_cons]; omega)
      have g0 : rnS 1 M M1 := go_0 hst.ok hb.s0 a1
      have hb1 : bgnR B L M1 6 (i + 1) (o + 1) b nl law 3 (f :: fr) [] Wt X := ⟨a2, a3, by rw [(a4 0).1.2 31 (by omega) (by omega) (by omega) (by omega)]; exact hb.lw, ⟨by omega, fun z => by omega, fun z => by omega⟩, by rw [List.length_cons]; omega, by omega, hb.len, by omega, by rw [List.length_cons]; exact hwB.le (by omega), by rw [List.length_cons]; omega, Nat.zero_le _, okP_nil, fun _ _ z => absurd rfl z, fun _ => rfl⟩
      rcases pB_inv h with ⟨w, q, h1, rfl⟩ | ⟨i1, c1, h1, h2⟩
      · have g := (ih 6 (o + 1) (i + 1) b _ h1 (o + 1) M1 3 (f :: fr) [] Wt X (fun z => by omega) (fun _ => rfl) (by omega) hb1).2.1 rfl
        have g : outR B L M1 (i + 1) 3 (w, q) := g
        exact g.step (c := 3) g0 (a4 0).1 (by omega) (by omega)
      · cases h2
        have g := (ih 6 (o + 1) (i + 1) b _ h1 (o + 1) M1 3 (f :: fr) [] Wt X (fun z => by omega) (fun _ => rfl) (by omega) hb1).2.1 rfl
        obtain ⟨k, M2, b1, b2, b3, b4⟩ := g
        dsimp only at b2 b4
        obtain ⟨g1, g2, g3, g4⟩ := zD_bd hend n 6 (o + 1) (i + 1) b _ (by omega) h1
        dsimp only at g1 g2 g3 g4
        obtain ⟨M3, c1', c2, c3⟩ := av_up b2 (by rw [List.length_cons]; omega) (by rw [List.length_append, imL_len]; omega)
        refine ⟨1 + k, M3, fun F N hF hN => g0.trans (b1 (F + 1) N (by omega) (c3 F N hN)), ?_, (a4 _).trans ((b3.le (by rw [List.length_cons]; omega)).trans (c2 _)), by dsimp only; omega⟩
        dsimp only
        rw [imL_app, ← List.append_assoc]
        exact c1'
    · rw [if_neg k2] at h
      cases h
      obtain ⟨M1, a1, a2, a3⟩ := ask_notN hst k1 (by omega)
      exact outR.now (c := 3) a2 (go_0 hst.ok hb.s0 a1) a3 (Nat.le_refl _) (by omega)
  · rw [if_neg k1] at h
    obtain ⟨M1, a1, a2, a3, a4⟩ := ask_left hst k1 (by rw [List.length_cons]; omega)
    have g0 : rnS 1 M M1 := go_0 hst.ok hb.s0 a1
    have hb1 : bgnR B L M1 0 i o b nl law 4 (f :: fr) [] Wt X := ⟨a2, a3, by rw [(a4 0).1.2 31 (by omega) (by omega) (by omega) (by omega)]; exact hb.lw, ⟨by omega, fun z => by omega, fun z => by omega⟩, by rw [List.length_cons]; omega, by omega, hb.len, by omega, by rw [List.length_cons]; exact hwB.le (by omega), by rw [List.length_cons]; omega, Nat.zero_le _, okP_nil, fun _ _ _ => by rw [List.length_cons]; exact hwB.okW, fun _ => rfl⟩
    rcases pB_inv h with ⟨w, q, h1, rfl⟩ | ⟨i1, c1, h1, h2⟩
    · have g := (ih 0 o i b _ h1 o M1 4 (f :: fr) [] Wt X (fun z => by omega) (fun _ => rfl) hi hb1).2.2 (by omega) (by omega) (by omega)
      have g : outR B L M1 i 2 (w, q) := g
      exact g.step (c := 3) g0 (a4 0).1 (by omega) (by omega)
    · have g := (ih 0 o i b _ h1 o M1 4 (f :: fr) [] Wt X (fun z => by omega) (fun _ => rfl) hi hb1).2.2 (by omega) (by omega) (by omega)
      obtain ⟨k, M2, P2, X2, b1, b2, b3, b4, b5, b6, b7, b8, b9⟩ := g
      dsimp only at b3 b4 b9
      obtain ⟨g1, g2, g3, g4⟩ := zD_bd hend n 0 o i b _ hi h1
      dsimp only at g1 g2 g3 g4
      have g3 := g3 (by omega)
      have ne := (zD_end n 0 o i b i1 c1 h1).2.2.1 (Or.inl rfl)
      have b4' : X2 ++ pops P2 = X ++ imL nl c1 := by rw [b4]; show X ++ [] ++ _ = _; rw [List.append_nil]
      have hl2 : X2.length + P2.length = b + c1.length + nl := by
        have e := congrArg List.length b4'
        rw [List.length_append, List.length_append, pops_len, imL_len] at e
        omega
      rw [List.length_cons] at b5 b7
      obtain ⟨r1, r2⟩ := hb.room (i' := 0) (by omega) b7
      have e2 : f_X11_goesOn M2 = f_X11_goesOn_j65 4 M2 := goes_no b3 (by rw [List.length_cons]; omega) ne
      by_cases k4 : 26 ≤ tK B L i1 ∧ tK B L i1 ≤ 31
      · rw [if_pos k4] at h2
        have hlt1 := lt i1 (by omega)
        obtain ⟨M3, d1, d2, d3, d4, d5⟩ := g_ask b3 k4 (by rw [List.length_cons]; exact hwB.okW) (by rw [List.length_cons]; exact b5) (by rw [List.length_cons]; omega) r1 r2 (by omega)
        rw [b4'] at d2
        have g2s : rnS 1 M2 M3 := go_2 b3.ok b2 (by rw [e2]; exact d1)
        have hb3 : bgnR B L M3 0 (i1 + 1) o (b + c1.length) nl law 5 (f :: fr) [] Wt (X ++ imL nl c1) := ⟨d2, d4, by rw [d5.1.2 31 (by omega) (by omega) (by omega) (by omega), b8.1.2 31 (by omega) (by omega) (by omega) (by omega), (a4 0).1.2 31 (by omega) (by omega) (by omega) (by omega)]; exact hb.lw, ⟨by omega, fun z => by omega, fun z => by omega⟩, by rw [List.length_cons]; omega, by omega, by rw [List.length_append, imL_len, List.length_nil]; omega, by omega, by rw [List.length_cons]; exact hwB.le (by omega), by rw [List.length_cons]; omega, Nat.zero_le _, okP_nil, fun _ _ _ => by rw [List.length_cons]; exact hwB.okW, fun _ => rfl⟩
        have fr1 : frB M M3 := (a4 0).1.trans (b8.1.trans d5.1)
        rcases pB_inv h2 with ⟨w, q, h3, rfl⟩ | ⟨i2, c2, h3, h4⟩
        · have g := (ih 0 o (i1 + 1) _ _ h3 o M3 5 (f :: fr) [] Wt _ (fun z => by omega) (fun _ => rfl) (by omega) hb3).2.2 (by omega) (by omega) (by omega)
          have g : outR B L M3 (i1 + 1) 2 (w, q) := g
          exact g.step (c := 3) ((g0.trans b1).trans g2s) fr1 (by omega) (by omega)
        · cases h4
          have g := (ih 0 o (i1 + 1) _ _ h3 o M3 5 (f :: fr) [] Wt _ (fun z => by omega) (fun _ => rfl) (by omega) hb3).2.2 (by omega) (by omega) (by omega)
          obtain ⟨k2, M4, P4, X4, p1, p2, p3, p4, p5, p6, p7, p8, p9⟩ := g
          dsimp only at p3 p4 p9
          obtain ⟨q1, q2, q3, q4⟩ := zD_bd hend n 0 o (i1 + 1) _ _ (by omega) h3
          dsimp only at q1 q2 q3 q4
          have q3 := q3 (by omega)
          have ne2 := (zD_end n 0 o (i1 + 1) _ i2 c2 h3).2.2.1 (Or.inl rfl)
          have p4' : X4 ++ pops P4 = X ++ imL nl c1 ++ imL nl c2 := by rw [p4]; show X ++ imL nl c1 ++ [] ++ _ = _; rw [List.append_nil]
          have hl4 : X4.length + P4.length = b + c1.length + c2.length + nl := by
            have e := congrArg List.length p4'
            rw [List.length_append, List.length_append, List.length_append, pops_len, imL_len, imL_len] at e
            omega
          rw [List.length_cons] at p5 p7
          obtain ⟨r3, r4⟩ := hb.room (i' := 0) (by omega) p7
          have e4 : f_X11_goesOn M4 = f_X11_goesOn_j65 5 M4 := goes_no p3 (by rw [List.length_cons]; omega) ne2
          have q55 : M4 55 0 ((f :: fr).length + 1) = opR (tK B L i1) := by
            rw [(p8.2 _ (Nat.le_refl _)).1]
            exact d3
          obtain ⟨M5, t1, t2, t3⟩ := g_right p3 q55 (by rw [List.length_cons]; exact hwB.okW) (by rw [List.length_cons]; exact p5) (by rw [List.length_cons]; omega) r3 r4 (by omega)
          refine ⟨1 + k + 1 + k2 + 1, M5, fun F N hF hN => (((g0.trans b1).trans g2s).trans p1).trans (go_2 p3.ok p2 (by rw [e4]; exact t3 F N (by omega) hN)), ?_, (a4 _).trans ((b8.le (by rw [List.length_cons]; omega)).trans (d5.trans ((p8.le (by rw [List.length_cons]; omega)).trans (t2 _)))), by dsimp only; omega⟩
          rw [p4'] at t1
          dsimp only
          have e5 : X ++ imL nl (c1 ++ (c2 ++ [(tK B L i1, 0)])) = X ++ imL nl c1 ++ imL nl c2 ++ [(opR (tK B L i1), 0)] := by
            rw [imL_app, imL_app, imL_cons]
            have : imC nl (tK B L i1, 0) = (opR (tK B L i1), 0) := by
              unfold imC
              rw [if_neg (by omega), if_neg (by omega), if_neg (by omega)]
            rw [this]
            simp only [List.append_assoc]
            rfl
          rw [e5]
          exact t1
      · rw [if_neg k4] at h2
        cases h2
        obtain ⟨M3, d1, d2, d3⟩ := g_bad b3 (Or.inr (Or.inr (Or.inr (Or.inl ⟨rfl, k4⟩))))
        exact outR.now (c := 3) d2 ((g0.trans b1).trans (go_2 b3.ok b2 (by rw [e2]; exact d1))) ((a4 0).1.trans (b8.1.trans d3)) g1 (by omega)
