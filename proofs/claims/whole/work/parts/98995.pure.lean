/-! text: the reference's descent, part and loop -/
set_option maxRecDepth 8000 in
set_option maxHeartbeats 2000000 in
theorem slT_le (t : Nat) : slT t ≤ 2 := by
  unfold slT
  (repeat' split) <;> omega
set_option maxRecDepth 8000 in
set_option maxHeartbeats 2000000 in
theorem lmT_le (t : Nat) : lmT t ≤ 2 := by
  unfold lmT
  split <;> omega
set_option maxRecDepth 8000 in
set_option maxHeartbeats 2000000 in
theorem rkT_le (t : Nat) : 1 ≤ rkT t ∧ rkT t ≤ 4 := by
  unfold rkT
  (repeat' split) <;> omega
section ZTXT
variable {B : Nat → Int} {L : Nat} {M : zM} {t i o b nl : Nat} {law f : Int} {fr : List Int} {P Wt : zWt} {X : zCd}
set_option maxRecDepth 8000 in
set_option maxHeartbeats 2000000 in
theorem bgnR.nums (h : bgnR B L M t i o b nl law f fr P Wt X) : fr.length + 1 ≤ 18 ∧ Wt.length ≤ 36 ∧ P.length ≤ 2 ∧ (P ++ Wt).length ≤ 38 ∧ X.length + P.length ≤ i := by
  have h1 := h.lim
  have h2 := lmT_le t
  have h3 := h.o8
  have h4 := h.wL
  have h5 := h.pL
  have h6 := slT_le t
  have h7 := h.len
  have h8 := h.le
  rw [List.length_append]
  omega
set_option maxRecDepth 8000 in
set_option maxHeartbeats 2000000 in
theorem bgnR.wB40 (h : bgnR B L M t i o b nl law f fr P Wt X) : wtB 40 (P ++ Wt) := h.wB.le (by have := h.nums; omega)
end ZTXT
set_option maxRecDepth 8000 in
set_option maxHeartbeats 2000000 in
theorem toS {B : Nat → Int} {L s : Nat} {M : zM} {i o nl : Nat} {f : Int} {fr : List Int} {Wt : zWt} {X : zCd} {r : (Int × Nat) ⊕ (Nat × zCd)} (h : outRT B L s M i o nl f fr [] Wt X r) (hs : s = 1 ∨ s = 2 ∨ s = 5 ∨ s = 6) (h0 : 0 ≤ f ∧ f ≤ 20) (h2 : s = 2 → f ≠ 7 ∧ f ≠ 11 ∧ f ≠ 10) (h6 : s = 6 → f = 2) (hfr : fr.length < 40) : outRS B L s M i o nl f fr [] Wt X r := by
  rcases hs with rfl | rfl | rfl | rfl
  · exact h.2.2 (by omega) (by omega) (by omega)
  · have h := h.1 (Or.inl rfl)
    cases r with
    | inl q => exact h
    | inr q =>
      obtain ⟨k, M', a1, a2, a3, a4⟩ := h
      have g := h2 rfl
      refine ⟨k, zput M' 42 0 28 2, [], X ++ imL nl q.2, a1 1 _ (by omega) (ov_end a2 hfr ⟨h0.1, h0.2, g.1, g.2.1, g.2.2⟩ (by omega)), zput_eq _ _ _ _ _, a2.state, ?_, okP_nil, Nat.zero_le _, (fun p hp => by cases hp), a3.trans (frT.p42 (by omega)), a4⟩
      show X ++ imL nl q.2 ++ [] = X ++ [] ++ imL nl q.2
      rw [List.append_nil, List.append_nil]
  · exact h.2.2 (by omega) (by omega) (by omega)
  · have h := h.2.1 rfl
    cases r with
    | inl q => exact h
    | inr q =>
      obtain ⟨k, M', a1, a2, a3, a4⟩ := h
      have g := h6 rfl
      refine ⟨k, zput M' 42 0 28 3, [], X ++ imL nl q.2, a1 1 _ (by omega) (av_end a2 hfr ⟨h0.1, h0.2, by omega⟩ (by omega)), zput_eq _ _ _ _ _, a2.state, ?_, okP_nil, Nat.zero_le _, (fun p hp => by cases hp), a3.trans (frT.p42 (by omega)), a4⟩
      show X ++ imL nl q.2 ++ [] = X ++ [] ++ imL nl q.2
      rw [List.append_nil, List.append_nil]
/-- what the descent of n says, on the reference's side -/
def rdR (B : Nat → Int) (L m nl : Nat) (law : Int) (n : Nat) : Prop := ∀ (t o i b : Nat) (r : (Int × Nat) ⊕ (Nat × zCd)), zD (tK B L) (tV B L) law n t o i b = some r → ∀ (o' : Nat) (M : zM) (f : Int) (fr : List Int) (P Wt : zWt) (X : zCd), (t = 3 → o = o' + 1 ∧ o' < 8) → (t ≠ 3 → o = o') → i ≤ m → bgnR B L M t i o' b nl law f fr P Wt X → outRT B L t M i o' nl f fr P Wt X r
set_option maxRecDepth 8000 in
set_option maxHeartbeats 2000000 in
theorem pops_one {v : Int} {c : Nat} : pops [(v, c)] = [(v, 0)] := rfl
set_option maxRecDepth 8000 in
set_option maxHeartbeats 2000000 in
theorem rd_two {B : Nat → Int} {L m nl n : Nat} {law : Int} (hend : ∀ i, m ≤ i → tK B L i = 40) (ih : rdR B L m nl law n) {t s l o i b : Nat} {r : (Int × Nat) ⊕ (Nat × zCd)} (hts : (t = 0 ∧ s = 1 ∧ l = 7) ∨ (t = 1 ∧ s = 2 ∧ l = 8) ∨ (t = 4 ∧ s = 5 ∧ l = 9) ∨ (t = 5 ∧ s = 6 ∧ l = 10)) (h : (pB (zD (tK B L) (tV B L) law n s o i b) fun i1 c1 => pB (zD (tK B L) (tV B L) law n l o i1 (b + c1.length)) fun i2 c2 => pR i2 (c1 ++ c2)) = some r) {M : zM} {f : Int} {fr : List Int} {P Wt : zWt} {X : zCd} (hi : i ≤ m) (hb : bgnR B L M t i o b nl law f fr P Wt X) : outRS B L t M i o nl f fr P Wt X r := by
  have facts : slT l = slT t ∧ slT s ≤ slT t ∧ slT s ≤ slT l ∧ lmT s = lmT t ∧ lmT l = lmT t ∧ s0T s = s0T t ∧ s1T s = s0T l ∧ s1T l = s1T t ∧ cFT s = cFT t ∧ cFT l = cFT t ∧ rkT l = rkT t ∧ rkT t ≤ rkT s ∧ t < 7 ∧ s < 7 ∧ s ≠ 3 ∧ 7 ≤ l ∧ (s = 1 ∨ s = 2 ∨ s = 5 ∨ s = 6) := by
    rcases hts with ⟨rfl, rfl, rfl⟩ | ⟨rfl, rfl, rfl⟩ | ⟨rfl, rfl, rfl⟩ | ⟨rfl, rfl, rfl⟩ <;> decide
  obtain ⟨f1, f2, f3, f4, f5, f6, f7, f8, f9, f10, f11, f12, f13, f14, f15, f16, f17⟩ := facts
  have hP : P = [] := hb.p0 f13
  subst hP
  have hnum := hb.nums
  have htop := hb.top
  have tops : ffT s f := ⟨htop.1, fun z => htop.2.1 (by omega), fun z => htop.2.2 (by omega)⟩
  have topl : ffT l f := ⟨htop.1, fun z => htop.2.1 (by omega), fun z => htop.2.2 (by omega)⟩
  have hwL := hb.wL
  have hbs : bgnR B L M s i o b nl law f fr [] Wt X := ⟨hb.st, by rw [f6]; exact hb.s0, hb.lw, tops, by rw [f4]; exact hb.lim, hb.o8, hb.len, hb.le, hb.wB, by omega, Nat.zero_le _, okP_nil, fun _ _ _ => (hb.wO (by omega) (by omega) (by omega)).mono f12, fun _ => rfl⟩
  rcases pB_inv h with ⟨w, q, h1, rfl⟩ | ⟨i1, c1, h1, h2⟩
  · have g := toS (ih s o i b _ h1 o M f fr [] Wt X (fun z => absurd z f15) (fun _ => rfl) hi hbs) f17 htop.1 (fun z => htop.2.1 (by omega)) (fun z => htop.2.2 (by omega)) (by omega)
    show outR B L M i (cFT t) (w, q)
    rw [← f9]
    exact g
  · have g := toS (ih s o i b _ h1 o M f fr [] Wt X (fun z => absurd z f15) (fun _ => rfl) hi hbs) f17 htop.1 (fun z => htop.2.1 (by omega)) (fun z => htop.2.2 (by omega)) (by omega)
    obtain ⟨k1, M1, P1, X1, a1, a2, a3, a4, a5, a6, a7, a8, a9⟩ := g
    dsimp only at a3 a4 a9
    obtain ⟨g1, g2, g3, g4⟩ := zD_bd hend n s o i b _ hi h1
    dsimp only at g1 g2 g3 g4
    have a4' : X1 ++ pops P1 = X ++ imL nl c1 := by rw [a4]; show X ++ [] ++ _ = _; rw [List.append_nil]
    have hlen : X1.length + P1.length = b + c1.length + nl := by
      have e := congrArg List.length a4'
      rw [List.length_append, List.length_append, pops_len, imL_len] at e
      have := hb.len
      rw [List.length_nil] at this
      omega
    have hle := hb.le
    have hbl : bgnR B L M1 l i1 o (b + c1.length) nl law f fr P1 Wt X1 := ⟨a3, by rw [a2, f7], by rw [a8.1.2 31 (by omega) (by omega) (by omega) (by omega)]; exact hb.lw, topl, by rw [f5]; exact hb.lim, hb.o8, hlen, by omega, a7.app hb.wB.right, by omega, by omega, by rw [f11]; exact a5.mono f12, fun _ _ _ => by rw [f11]; exact hb.wO (by omega) (by omega) (by omega), fun z => by omega⟩
    rcases pB_inv h2 with ⟨w, q, h3, rfl⟩ | ⟨i2, c2, h3, h4⟩
    · have g := (ih l o i1 _ _ h3 o M1 f fr P1 Wt X1 (fun z => by omega) (fun _ => rfl) g4 hbl).2.2 (by omega) (by omega) (by omega)
      have g : outR B L M1 i1 (cFT l) (w, q) := g
      exact g.step a1 a8.1 g1 (by omega)
    · cases h4
      have g := (ih l o i1 _ _ h3 o M1 f fr P1 Wt X1 (fun z => by omega) (fun _ => rfl) g4 hbl).2.2 (by omega) (by omega) (by omega)
      obtain ⟨k2, M2, P2, X2, d1, d2, d3, d4, d5, d6, d7, d8, d9⟩ := g
      dsimp only at d3 d4 d9
      obtain ⟨e1, e2, e3, e4⟩ := zD_bd hend n l o i1 _ _ g4 h3
      dsimp only at e1 e2 e3 e4
      refine ⟨k1 + k2, M2, P2, X2, a1.trans d1, by rw [d2, f8], d3, ?_, by rw [← f11]; exact d5, by omega, d7, a8.trans d8, by dsimp only; omega⟩
      rw [d4, a4']
      show X ++ imL nl c1 ++ imL nl c2 = X ++ [] ++ imL nl (c1 ++ c2)
      rw [imL_app, List.append_nil, List.append_assoc]
set_option maxRecDepth 8000 in
set_option maxHeartbeats 2000000 in
theorem rd_loop {B : Nat → Int} {L m nl n : Nat} {law : Int} (hend : ∀ i, m ≤ i → tK B L i = 40) (hm : m ≤ 300) (ih : rdR B L m nl law n) {t s o i b : Nat} {op : Int} {r : (Int × Nat) ⊕ (Nat × zCd)} (hop : tK B L i = op) (hts : (t = 7 ∧ s = 1 ∧ (op = 32 ∨ op = 33)) ∨ (t = 8 ∧ s = 2 ∧ (op = 34 ∨ op = 35)) ∨ (t = 9 ∧ s = 5 ∧ op = 22) ∨ (t = 10 ∧ s = 6 ∧ op = 23)) (h : (pB (zD (tK B L) (tV B L) law n s o (i + 1) b) fun i1 c1 => pB (zD (tK B L) (tV B L) law n t o i1 (b + c1.length + 1)) fun i2 c2 => pR i2 (c1 ++ ((op, 0) :: c2))) = some r) {M : zM} {f : Int} {fr : List Int} {P Wt : zWt} {X : zCd} (hi : i ≤ m) (hb : bgnR B L M t i o b nl law f fr P Wt X) : outRS B L t M i o nl f fr P Wt X r := by
  have facts : slT s + 1 = slT t ∧ lmT s = lmT t ∧ s1T s = s0T t ∧ s1T t = s0T t ∧ cFT s = cFT t ∧ rkT t ≤ rkT s ∧ (s ≠ 2 → s ≠ 6 → rkT t < rkT s) ∧ 7 ≤ t ∧ t ≤ 10 ∧ s < 7 ∧ s ≠ 3 ∧ (s = 1 ∨ s = 2 ∨ s = 5 ∨ s = 6) := by
    rcases hts with ⟨rfl, rfl, -⟩ | ⟨rfl, rfl, -⟩ | ⟨rfl, rfl, -⟩ | ⟨rfl, rfl, -⟩ <;> decide
  obtain ⟨f2, f4, f7, f8, f9, f12, f18, f13, f16, f14, f15, f17⟩ := facts
  have hnum := hb.nums
  have htop := hb.top
  have tops : ffT s f := ⟨htop.1, fun z => htop.2.1 (by omega), fun z => htop.2.2 (by omega)⟩
  have hwL := hb.wL
  have hpL := hb.pL
  have hle := hb.le
  have hlen0 := hb.len
  have hlt : i < m := by
    refine Nat.lt_of_not_le (fun z => ?_)
    have := hend i z
    omega
  have hpC : imC nl (op, 0) = (opR op, 0) := by
    unfold imC
    rw [if_neg (by omega), if_neg (by omega), if_neg (by omega)]
  have hopb : 0 ≤ opR op ∧ opR op ≤ 500 := by
    rcases hts with ⟨-, -, e | e⟩ | ⟨-, -, e | e⟩ | ⟨-, -, e⟩ | ⟨-, -, e⟩ <;> rw [e] <;> decide
  -- the sign itself
  have hgo : ∃ M1, rnS 1 M M1 ∧ stR B L M1 (i + 1) o (f :: fr) ((opR op, (f :: fr).length) :: Wt) (X ++ pops P) ∧ M1 42 0 28 = s0T s ∧ rnk (opR op) = rkT t ∧ ∀ c, frT c M M1 := by
    have hP40 := hb.wB40
    have hW := hb.wO (by omega) (by omega) (by omega)
    have hs0 := hb.s0
    rcases hts with ⟨rfl, rfl, e⟩ | ⟨rfl, rfl, e⟩ | ⟨rfl, rfl, e⟩ | ⟨rfl, rfl, e⟩
    · obtain ⟨M1, a1, a2, a3, a4, a5⟩ := goes_wait (r := 3) hb.st hs0 (Or.inl ⟨rfl, by omega⟩) hW hb.pO (by omega) hP40 (by omega) (by omega) (by omega)
      rw [hop] at a2 a4
      exact ⟨M1, a1, a2, a3, a4, a5⟩
    · obtain ⟨M1, a1, a2, a3, a4, a5⟩ := goes_wait (r := 4) hb.st hs0 (Or.inr ⟨rfl, by omega⟩) hW hb.pO (by omega) hP40 (by omega) (by omega) (by omega)
      rw [hop] at a2 a4
      exact ⟨M1, a1, a2, a3, a4, a5⟩
    · obtain ⟨M1, a1, a2, a3, a4, a5⟩ := asksOn_wait (r := 1) hb.st hs0 (Or.inl ⟨rfl, by omega⟩) hW hb.pO (by omega) hP40 (by omega) (by omega) (by omega)
      rw [hop] at a2 a4
      exact ⟨M1, a1, a2, a3, a4, a5⟩
    · obtain ⟨M1, a1, a2, a3, a4, a5⟩ := asksOn_wait (r := 2) hb.st hs0 (Or.inr ⟨rfl, by omega⟩) hW hb.pO (by omega) hP40 (by omega) (by omega) (by omega)
      rw [hop] at a2 a4
      exact ⟨M1, a1, a2, a3, a4, a5⟩
  obtain ⟨M1, a1, a2, a3, a4, a5⟩ := hgo
  rw [List.length_cons] at a2
  have hw1 : wtB (fr.length + 1) ((opR op, fr.length + 1) :: Wt) := fun p hp => by
    rcases List.mem_cons.mp hp with rfl | hp
    · exact ⟨hopb, Nat.le_refl _⟩
    · exact hb.wB.right p hp
  have hbs : bgnR B L M1 s (i + 1) o b nl law f fr [] ((opR op, fr.length + 1) :: Wt) (X ++ pops P) := ⟨a2, a3, by rw [(a5 0).1.2 31 (by omega) (by omega) (by omega) (by omega)]; exact hb.lw, tops, by rw [f4]; exact hb.lim, hb.o8, by rw [List.length_append, pops_len]; exact hb.len, by omega, hw1, by rw [List.length_cons]; omega, Nat.zero_le _, okP_nil, fun z1 _ z3 => fun p l e => by
      cases e
      right
      have := f18 z1 z3
      dsimp only
      omega, fun _ => rfl⟩
  rcases pB_inv h with ⟨w, q, h1, rfl⟩ | ⟨i1, c1, h1, h2⟩
  · have g := toS (ih s o (i + 1) b _ h1 o M1 f fr [] _ _ (fun z => absurd z f15) (fun _ => rfl) (by omega) hbs) f17 htop.1 (fun z => htop.2.1 (by omega)) (fun z => htop.2.2 (by omega)) (by omega)
    have g : outR B L M1 (i + 1) (cFT s) (w, q) := g
    exact g.step a1 (a5 0).1 (by omega) (by omega)
  · have g := toS (ih s o (i + 1) b _ h1 o M1 f fr [] _ _ (fun z => absurd z f15) (fun _ => rfl) (by omega) hbs) f17 htop.1 (fun z => htop.2.1 (by omega)) (fun z => htop.2.2 (by omega)) (by omega)
    obtain ⟨k2, M2, P2, X2, b1, b2, b3, b4, b5, b6, b7, b8, b9⟩ := g
    dsimp only at b3 b4 b9
    obtain ⟨g1, g2, g3, g4⟩ := zD_bd hend n s o (i + 1) b _ (by omega) h1
    dsimp only at g1 g2 g3 g4
    have g3 := g3 f14
    have b4' : X2 ++ pops P2 = X ++ pops P ++ imL nl c1 := by rw [b4]; show X ++ pops P ++ [] ++ _ = _; rw [List.append_nil]
    have b4'' : X2 ++ pops (P2 ++ [(opR op, fr.length + 1)]) = X ++ pops P ++ imL nl c1 ++ [(opR op, 0)] := by rw [pops_app, ← List.append_assoc, b4', pops_one]
    have hlen : X2.length + (P2 ++ [(opR op, fr.length + 1)]).length = b + c1.length + 1 + nl := by
      have e := congrArg List.length b4''
      rw [List.length_append, List.length_append, List.length_append, List.length_append, pops_len, pops_len, imL_len, List.length_singleton] at e
      omega
    have hbt : bgnR B L M2 t i1 o (b + c1.length + 1) nl law f fr (P2 ++ [(opR op, fr.length + 1)]) Wt X2 := ⟨by rw [List.append_assoc]; exact b3, by rw [b2, f7], by rw [b8.1.2 31 (by omega) (by omega) (by omega) (by omega), (a5 0).1.2 31 (by omega) (by omega) (by omega) (by omega)]; exact hb.lw, htop, hb.lim, hb.o8, hlen, by omega, by
        rw [List.append_assoc]
        exact b7.app hw1, hwL, by rw [List.length_append, List.length_singleton]; omega, fun p hp => by
        rcases List.mem_append.mp hp with hp | hp
        · exact (b5.mono f12) p hp
        · rcases List.mem_singleton.mp hp with rfl
          exact ⟨rfl, by dsimp only; omega⟩, fun z1 z2 z3 => hb.wO z1 z2 z3, fun z => by omega⟩
    rcases pB_inv h2 with ⟨w, q, h3, rfl⟩ | ⟨i2, c2, h3, h4⟩
    · have g := (ih t o i1 _ _ h3 o M2 f fr _ Wt X2 (fun z => by omega) (fun _ => rfl) g4 hbt).2.2 (by omega) (by omega) (by omega)
      have g : outR B L M2 i1 (cFT t) (w, q) := g
      exact g.step (a1.trans b1) ((a5 0).1.trans b8.1) (by omega) (by omega)
    · cases h4
      have g := (ih t o i1 _ _ h3 o M2 f fr _ Wt X2 (fun z => by omega) (fun _ => rfl) g4 hbt).2.2 (by omega) (by omega) (by omega)
      obtain ⟨k3, M3, P3, X3, d1, d2, d3, d4, d5, d6, d7, d8, d9⟩ := g
      dsimp only at d3 d4 d9
      obtain ⟨e1, e2, e3, e4⟩ := zD_bd hend n t o i1 _ _ g4 h3
      dsimp only at e1 e2 e3 e4
      refine ⟨1 + k2 + k3, M3, P3, X3, (a1.trans b1).trans d1, d2, d3, ?_, d5, d6, d7, (a5 _).trans (b8.trans d8), by dsimp only; omega⟩
      rw [d4, b4'']
      dsimp only
      rw [imL_app, imL_cons, hpC]
      simp only [List.append_assoc, List.cons_append, List.nil_append]
