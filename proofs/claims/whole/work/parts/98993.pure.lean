/-! text: the reference goes on -/
set_option maxRecDepth 8000 in
set_option maxHeartbeats 2000000 in
theorem opR_sg {k : Int} (h : 26 ≤ k ∧ k ≤ 35) : sg k = opR k ∧ 0 ≤ opR k ∧ opR k ≤ 500 := by
  have h2 : k = 26 ∨ k = 27 ∨ k = 28 ∨ k = 29 ∨ k = 30 ∨ k = 31 ∨ k = 32 ∨ k = 33 ∨ k = 34 ∨ k = 35 := by omega
  rcases h2 with rfl | rfl | rfl | rfl | rfl | rfl | rfl | rfl | rfl | rfl <;> decide
section ZTXG
variable {B : Nat → Int} {L i o : Nat} {fr : List Int} {W Wt P : zWt} {X : zCd} {M : zM} {f r : Int}
set_option maxRecDepth 8000 in
set_option maxHeartbeats 2000000 in
theorem goes_op (h : stR B L M i o (f :: fr) W X) (hc : fr.length < 40) (hk : 32 ≤ tK B L i ∧ tK B L i ≤ 35) : f_X11_goesOn M = (f_X11_waitsFor (opR (tK B L i)) M).bind fun p48 => zlet (zput p48 42 0 28 1) fun M49 => some M49 := by
  obtain ⟨t1, t2⟩ := h.tok.2.1.is3 (by omega)
  unfold f_X11_goesOn f_X11_goesOn_j49
  rw [R_top h hc]
  simp only [zbs]
  rw [t1, if_neg (nn_ (by decide)), t2, (opR_sg (k := tK B L i) (by omega)).1]
  have h2 : tK B L i = 32 ∨ tK B L i = 33 ∨ tK B L i = 34 ∨ tK B L i = 35 := by omega
  rcases h2 with e | e | e | e <;> rw [e]
  · rw [if_pos (by decide)]
  · rw [if_neg (by decide), if_pos (by decide)]
  · rw [if_neg (by decide), if_neg (by decide), if_pos (by decide)]
  · rw [if_neg (by decide), if_neg (by decide), if_neg (by decide), if_neg (nn_ (by decide))]
set_option maxRecDepth 8000 in
set_option maxHeartbeats 2000000 in
theorem goes_no (h : stR B L M i o (f :: fr) W X) (hc : fr.length < 40) (hk : ¬ (32 ≤ tK B L i ∧ tK B L i ≤ 35)) : f_X11_goesOn M = f_X11_goesOn_j65 f M := by
  unfold f_X11_goesOn
  rw [R_top h hc]
  simp only [zbs]
  have hle := h.tok.2.1.sort_le
  by_cases hs : M 42 0 17 = 3
  · rw [hs, if_neg (nn_ (by decide))]
    have hv : M 42 0 18 ≠ 43 ∧ M 42 0 18 ≠ 45 ∧ M 42 0 18 ≠ 42 ∧ M 42 0 18 ≠ 47 ∧ 0 ≤ M 42 0 18 ∧ M 42 0 18 < 400 := by
      rcases h.tok.2.1.sort3 hs with ⟨a, b, c⟩ | ⟨a, b⟩
      · have h1 := sg_le ⟨a, b⟩
        have g : ∀ q : Int, 32 ≤ q ∧ q ≤ 35 → sg (tK B L i) ≠ sg q := fun q hq z => by
          have := (sg_iff ⟨a, b⟩ (kk := q) (by omega)).mp z
          omega
        have g1 : sg (tK B L i) ≠ 43 := g 32 (by omega)
        have g2 : sg (tK B L i) ≠ 45 := g 33 (by omega)
        have g3 : sg (tK B L i) ≠ 42 := g 34 (by omega)
        have g4 : sg (tK B L i) ≠ 47 := g 35 (by omega)
        omega
      · omega
    rw [zw_id (z := M 42 0 18) (by omega) (by omega), if_neg hv.1, if_neg hv.2.1, if_neg hv.2.2.1, if_pos hv.2.2.2.1]
  · rw [zw_id (z := M 42 0 17) (by omega) (by omega), if_pos hs]
set_option maxRecDepth 8000 in
set_option maxHeartbeats 2000000 in
/-- a sign between two: those that wait are written, it waits -/
theorem goes_wait (h : stR B L M i o (f :: fr) (P ++ Wt) X) (hs : M 42 0 28 = 2) (hk : (r = 3 ∧ (tK B L i = 32 ∨ tK B L i = 33)) ∨ (r = 4 ∧ (tK B L i = 34 ∨ tK B L i = 35))) (hW : okW r (f :: fr).length Wt) (hP : okP r (f :: fr).length P) (hc : fr.length < 40) (hB : wtB 40 (P ++ Wt)) (hl : (P ++ Wt).length ≤ 80) (hl2 : Wt.length < 80) (hX : X.length + P.length ≤ 400) : ∃ M', rnS 1 M M' ∧ stR B L M' (i + 1) o (f :: fr) ((opR (tK B L i), (f :: fr).length) :: Wt) (X ++ pops P) ∧ M' 42 0 28 = 1 ∧ rnk (opR (tK B L i)) = r ∧ ∀ c, frT c M M' := by
  have er : rnk (opR (tK B L i)) = r := by
    rcases hk with ⟨rfl, e | e⟩ | ⟨rfl, e | e⟩ <;> rw [e] <;> rfl
  have hop := opR_sg (k := tK B L i) (by omega)
  obtain ⟨M1, a1, b1, c1, d1⟩ := R_wait (v := opR (tK B L i)) (by omega) (by rw [er]; exact hW) (by rw [List.length_cons]; omega) h (by rw [er]; exact hP) hB hl hX hl2
  refine ⟨zput M1 42 0 28 1, go_2 h.ok hs ?_, b1.state, zput_eq _ _ _ _ _, er, fun c => (d1 c).trans (frT.p42 (by omega))⟩
  rw [goes_op h hc (by omega), a1]
  simp only [zbs, zlt_]
set_option maxRecDepth 8000 in
set_option maxHeartbeats 2000000 in
theorem asksOn_wait (h : stR B L M i o (f :: fr) (P ++ Wt) X) (hs : M 42 0 28 = 3) (hk : (r = 1 ∧ tK B L i = 22) ∨ (r = 2 ∧ tK B L i = 23)) (hW : okW r (f :: fr).length Wt) (hP : okP r (f :: fr).length P) (hc : fr.length < 40) (hB : wtB 40 (P ++ Wt)) (hl : (P ++ Wt).length ≤ 80) (hl2 : Wt.length < 80) (hX : X.length + P.length ≤ 400) : ∃ M', rnS 1 M M' ∧ stR B L M' (i + 1) o (f :: fr) ((opR (tK B L i), (f :: fr).length) :: Wt) (X ++ pops P) ∧ M' 42 0 28 = 0 ∧ rnk (opR (tK B L i)) = r ∧ ∀ c, frT c M M' := by
  have er : rnk (opR (tK B L i)) = r := by
    rcases hk with ⟨rfl, e⟩ | ⟨rfl, e⟩ <;> rw [e] <;> rfl
  have hop : 0 ≤ opR (tK B L i) ∧ opR (tK B L i) ≤ 500 := by
    rcases hk with ⟨-, e⟩ | ⟨-, e⟩ <;> rw [e] <;> decide
  have ht := h.tok.2.1
  obtain ⟨M1, a1, b1, c1, d1⟩ := R_wait (v := opR (tK B L i)) (by omega) (by rw [er]; exact hW) (by rw [List.length_cons]; omega) h (by rw [er]; exact hP) hB hl hX hl2
  refine ⟨zput M1 42 0 28 0, go_3 h.ok hs ?_, b1.state, zput_eq _ _ _ _ _, er, fun c => (d1 c).trans (frT.p42 (by omega))⟩
  unfold f_X11_asksOn f_X11_asksOn_j18 f_X11_asksOn_j37
  rw [R_isW (v := 18) (kk := 22) ht (by omega) rfl]
  simp only [zbs]
  rcases hk with ⟨-, e⟩ | ⟨-, e⟩
  · rw [e] at a1
    rw [if_pos e, if_pos zw_1n, R_isW (v := 18) (kk := 22) ht (by omega) rfl, if_pos e]
    simp only [zbs]
    rw [if_neg zw_1n, show (407 : Int) = opR 22 from rfl, a1]
    simp only [zbs, zlt_]
  · rw [e] at a1
    rw [if_neg (show ¬ tK B L i = 22 by omega), if_neg (nn_ zw_0), R_isW (v := 19) (kk := 23) ht (by omega) rfl, if_pos e]
    simp only [zbs]
    rw [if_neg zw_1n, R_isW (v := 18) (kk := 22) ht (by omega) rfl, if_neg (by omega)]
    simp only [zbs]
    rw [if_pos zw_0, show (406 : Int) = opR 23 from rfl, a1]
    simp only [zbs, zlt_]
set_option maxRecDepth 8000 in
set_option maxHeartbeats 2000000 in
theorem j346_fail (h : stR B L M i o fr W X) : ∃ M', f_X11_goesOn_j346 M = some M' ∧ failR B L M' 1 i ∧ frB M M' := by
  obtain ⟨M1, a1, b1, c1⟩ := R_err (w := 1) h (by omega)
  refine ⟨M1, ?_, b1, c1⟩
  unfold f_X11_goesOn_j346
  rw [a1]
  exact zbs _ _
set_option maxRecDepth 8000 in
set_option maxHeartbeats 2000000 in
theorem R_isAsk {v : Int} (h : 0 ≤ v ∧ v ≤ 500) : f_X11_isAsking v M = some (if v = 60 ∨ v = 62 ∨ v = 61 ∨ v = 35 ∨ v = 300 ∨ v = 301 then 1 else 0, M) := by
  unfold f_X11_isAsking
  rw [zw_id (z := v) (by omega) (by omega)]
  by_cases h1 : v = 60 ∨ v = 62 ∨ v = 61 ∨ v = 35 ∨ v = 300 ∨ v = 301
  · rw [if_pos h1]
    (repeat' split) <;> first | rfl | omega
  · rw [if_neg h1]
    (repeat' split) <;> first | rfl | omega
set_option maxRecDepth 8000 in
set_option maxHeartbeats 2000000 in
/-- what can't stand -/
theorem g_bad (h : stR B L M i o (f :: fr) W X) (hf : (f = 6 ∧ tK B L i ≠ 37) ∨ (f = 8 ∧ tK B L i ≠ 20) ∨ (f = 9 ∧ tK B L i ≠ 21) ∨ (f = 4 ∧ ¬ (26 ≤ tK B L i ∧ tK B L i ≤ 31)) ∨ (f = 1 ∧ tK B L i ≠ 38)) : ∃ M', f_X11_goesOn_j65 f M = some M' ∧ failR B L M' 1 i ∧ frB M M' := by
  have ht := h.tok.2.1
  have hle := ht.sort_le
  obtain ⟨M1, a1, b1, c1⟩ := j346_fail h
  refine ⟨M1, ?_, b1, c1⟩
  unfold f_X11_goesOn_j65 f_X11_goesOn_j116 f_X11_goesOn_j148 f_X11_goesOn_j217 f_X11_goesOn_j282
  rcases hf with ⟨rfl, hk⟩ | ⟨rfl, hk⟩ | ⟨rfl, hk⟩ | ⟨rfl, hk⟩ | ⟨rfl, hk⟩
  · rw [if_neg (nn_ (by decide)), R_isS (v := 41) (kk := 37) ht (by omega) rfl, if_neg hk]
    simp only [zbs]
    rw [if_pos zw_0, if_pos (by decide), if_pos (by decide), if_pos (by decide), if_pos (by decide), if_pos (by decide)]
    exact a1
  · rw [if_pos (by decide), if_neg (nn_ (by decide)), R_isW (v := 16) (kk := 20) ht (by omega) rfl, if_neg hk]
    simp only [zbs]
    rw [if_pos zw_0, if_pos (by decide), if_pos (by decide), if_pos (by decide), if_pos (by decide)]
    exact a1
  · rw [if_pos (by decide), if_pos (by decide), if_neg (nn_ (by decide)), R_isW (v := 17) (kk := 21) ht (by omega) rfl, if_neg hk]
    simp only [zbs]
    rw [if_pos zw_0, if_pos (by decide), if_pos (by decide), if_pos (by decide)]
    exact a1
  · rw [if_pos (by decide), if_pos (by decide), if_pos (by decide), if_neg (nn_ (by decide))]
    have hA : (if ¬ zw (M 42 0 17) = 3 then (if ¬ zw (4 : Int) = 5 then (if ¬ zw (4 : Int) = 1 then f_X11_goesOn_j346 M else (f_X11_isSign 59 M).bind fun p3 => if zw p3.1 = 0 then f_X11_goesOn_j346 p3.2 else (f_X11_clauseIsOver p3.2).bind fun p4 => some p4) else f_X11_goesOn_j346 M) else f_X11_goesOn_j346 M) = some M1 := by
      rw [if_pos (show ¬ zw (4 : Int) = 5 by decide), if_pos (show ¬ zw (4 : Int) = 1 by decide), ite_self]
      exact a1
    by_cases hs : M 42 0 17 = 3
    · rw [hs, if_neg (nn_ (by decide))]
      have hv : 0 ≤ M 42 0 18 ∧ M 42 0 18 ≤ 500 ∧ ¬ (M 42 0 18 = 60 ∨ M 42 0 18 = 62 ∨ M 42 0 18 = 61 ∨ M 42 0 18 = 35 ∨ M 42 0 18 = 300 ∨ M 42 0 18 = 301) := by
        rcases ht.sort3 hs with ⟨a, b, c⟩ | ⟨a, b⟩
        · have h1 := sg_le ⟨a, b⟩
          have g : ∀ q : Int, 26 ≤ q ∧ q ≤ 31 → sg (tK B L i) ≠ sg q := fun q hq z => by
            have := (sg_iff ⟨a, b⟩ (kk := q) (by omega)).mp z
            omega
          have g1 : sg (tK B L i) ≠ 60 := g 26 (by omega)
          have g2 : sg (tK B L i) ≠ 300 := g 27 (by omega)
          have g3 : sg (tK B L i) ≠ 62 := g 28 (by omega)
          have g4 : sg (tK B L i) ≠ 301 := g 29 (by omega)
          have g5 : sg (tK B L i) ≠ 61 := g 30 (by omega)
          have g6 : sg (tK B L i) ≠ 35 := g 31 (by omega)
          omega
        · omega
      rw [R_isAsk ⟨hv.1, hv.2.1⟩, if_neg hv.2.2]
      simp only [zbs]
      rw [if_pos zw_0, if_pos (by decide), if_pos (by decide)]
      exact a1
    · rw [zw_id (z := M 42 0 17) (by omega) (by omega), if_pos hs, if_pos (by decide), if_pos (by decide)]
      exact a1
  · rw [if_pos (by decide), if_pos (by decide), if_pos (by decide), if_pos (by decide), if_pos (by decide), if_neg (nn_ (by decide)), R_isS (v := 59) (kk := 38) ht (by omega) rfl, if_neg hk]
    simp only [zbs]
    rw [if_pos zw_0]
    exact a1
set_option maxRecDepth 8000 in
set_option maxHeartbeats 2000000 in
/-- CLOSE -/
theorem g_paren (h : stR B L M i (o + 1) (6 :: fr) (P ++ Wt) X) (hk : tK B L i = 37) (hW : okW 3 (fr.length + 1) Wt) (hP : okP 3 (fr.length + 1) P) (hc : fr.length < 40) (hB : wtB 40 (P ++ Wt)) (hl : (P ++ Wt).length ≤ 80) (hX : X.length + P.length ≤ 400) : ∃ M', stR B L M' (i + 1) o fr Wt (X ++ pops P) ∧ (∀ c, frT c M M') ∧ ∀ F N, F ≤ 1000 → OV F M' N → f_X11_goesOn_j65 6 M = some N := by
  have ht := h.tok.2.1
  obtain ⟨M1, a1, b1, c1, d1⟩ := R_works (r := 3) (fr := (6 : Int) :: fr) (Wt := Wt) (by omega) hW (by rw [List.length_cons]; omega) h hP hB hl hX
  have b2 := b1.pop.shut
  obtain ⟨M2, a2, b3, c2, d2⟩ := R_nxt b2
  refine ⟨M2, b3, fun c => (d1 c).trans ((frT.p42 (by omega)).trans ((frT.p42 (by omega)).trans (d2 c))), fun F N hF hN => ?_⟩
  unfold f_X11_goesOn_j65
  rw [if_neg (nn_ (by decide)), R_isS (v := 41) (kk := 37) ht (by omega) rfl, if_pos hk]
  simp only [zbs]
  rw [if_neg zw_1n, a1]
  simp only [zbs]
  rw [zlt_, zlt_, a2]
  simp only [zbs]
  rw [OV_is hN hF]
  exact zbs _ _
set_option maxRecDepth 8000 in
set_option maxHeartbeats 2000000 in
/-- an order's number is written later -/
theorem stR.patch {X1 X2 : zCd} {a b v : Int} (h : stR B L M i o fr W (X1 ++ ((a, b) :: X2))) : stR B L (zput M 65 0 X1.length v) i o fr W (X1 ++ ((a, v) :: X2)) := by
  have hco := h.code
  rw [cAt_app] at hco
  obtain ⟨c1, c2, c3⟩ := hco
  refine ⟨h.tape.putk (by omega) (by omega), h.tok.putk (by omega), ?_, ?_, ?_, ?_, ?_, ?_, ?_, ?_, ?_⟩
  · rw [zput_k (by omega)]; exact h.ok
  · rw [zput_k (by omega)]; exact h.wat
  · rw [zput_k (by omega)]; exact h.opn
  · rw [zput_k (by omega)]; exact h.frs
  · rw [zput_rowk (by omega)]; exact h.frm
  · rw [zput_k (by omega)]; exact h.wts
  · rw [zput_rowk (by omega), zput_rowk (by omega)]; exact h.wtm
  · rw [zput_k (by omega), h.ords, List.length_append, List.length_append, List.length_cons, List.length_cons]
  · rw [cAt_app]
    rw [Nat.zero_add] at c2 c3 ⊢
    refine ⟨cAt_congr _ _ c1 (fun j _ hj => ?_), ?_, cAt_congr _ _ c3 (fun j hj _ => ?_)⟩
    · unfold rcM
      rw [zput_k (by omega), zput_j (by omega)]
    · unfold rcM at c2 ⊢
      rw [zput_k (by omega), zput_eq]
      rw [Prod.mk.injEq] at c2
      rw [c2.1]
    · unfold rcM
      rw [zput_k (by omega), zput_j (by omega)]
set_option maxRecDepth 8000 in
set_option maxHeartbeats 2000000 in
theorem turn_46 (h : stR B L M i o (f :: fr) W X) (hc : fr.length < 40) {g : Int} : ∃ M', f_X11_turnsTo_j46 g M = some M' ∧ stR B L M' (i + 1) o (g :: fr) W X ∧ M' 42 0 28 = 1 ∧ ∀ c, frT c M M' := by
  have e : (M 42 0 22) - 1 = (fr.length : Int) := by rw [h.frs, List.length_cons]; omega
  obtain ⟨M2, a2, b2, c2, d2⟩ := R_nxt (h.turn (g := g))
  refine ⟨zput M2 42 0 28 1, ?_, b2.state, zput_eq _ _ _ _ _, fun c => (frT.pk (by omega)).trans ((d2 c).trans (frT.p42 (by omega)))⟩
  unfold f_X11_turnsTo_j46
  rw [e, zw_nat (by omega), if_pos (by omega), zlt_, zix_nat (by omega), a2]
  simp only [zbs, zlt_]
set_option maxRecDepth 8000 in
set_option maxHeartbeats 2000000 in
theorem turn_then (h : stR B L M i o (f :: fr) W X) (hc : fr.length < 39) (hX : X.length < 400) : ∃ M', f_X11_turnsTo 8 404 M = some M' ∧ stR B L M' (i + 1) o (8 :: fr) W (X ++ [(404, 0)]) ∧ M' 58 0 (fr.length + 1) = X.length ∧ M' 42 0 28 = 1 ∧ frT fr.length M M' := by
  have h1 := h.aside (k := 58) (j := fr.length + 1) (v := (X.length : Int)) (by omega)
  obtain ⟨M2, a2, b2, c2, d2⟩ := R_emit (v := 404) (u := 0) h1 hX
  obtain ⟨M3, a3, b3, c3, d3⟩ := turn_46 (g := 8) b2 (by omega)
  refine ⟨M3, ?_, b3, ?_, c3, (frT.px (by omega) (by omega)).trans ((d2 _).trans (d3 _))⟩
  · unfold f_X11_turnsTo
    rw [h.frs, List.length_cons, zw_nat (by omega), if_pos (by omega), if_pos (by omega), zlt_, zix_nat (by omega), h.ords, a2]
    simp only [zbs]
    rw [if_pos (by decide)]
    exact a3
  · rw [((d3 (fr.length + 1)).2 _ (Nat.le_refl _)).2, ((d2 (fr.length + 1)).2 _ (Nat.le_refl _)).2, zput_eq]
set_option maxRecDepth 8000 in
set_option maxHeartbeats 2000000 in
theorem turn_else {X1 X2 : zCd} {y : Int} (h : stR B L M i o (f :: fr) W (X1 ++ ((404, y) :: X2))) (hq : M 58 0 (fr.length + 1) = X1.length) (hc : fr.length < 39) (hX : X1.length + 1 + X2.length < 400) : ∃ M', f_X11_turnsTo 9 409 M = some M' ∧ stR B L M' (i + 1) o (9 :: fr) W (X1 ++ ((404, ((X1.length + 1 + X2.length + 1 : Nat) : Int)) :: (X2 ++ [(409, 0)]))) ∧ M' 58 0 (fr.length + 1) = ((X1.length + 1 + X2.length : Nat) : Int) ∧ M' 42 0 28 = 1 ∧ frT fr.length M M' := by
  have el : (X1 ++ (((404 : Int), y) :: X2)).length = X1.length + 1 + X2.length := by rw [List.length_append, List.length_cons]; omega
  have h1 := h.aside (k := 58) (j := fr.length + 1) (v := ((X1.length + 1 + X2.length : Nat) : Int)) (by omega)
  obtain ⟨M2, a2, b2, c2, d2⟩ := R_emit (v := 409) (u := 0) h1 (by omega)
  have e2 : X1 ++ (((404 : Int), y) :: X2) ++ [((409 : Int), (0 : Int))] = X1 ++ ((404, y) :: (X2 ++ [(409, 0)])) := by rw [List.append_assoc]; rfl
  rw [e2] at b2
  have b3 := b2.patch (v := ((X1.length + 1 + X2.length + 1 : Nat) : Int))
  obtain ⟨M3, a3, b4, c3, d3⟩ := turn_46 (g := 9) b3 (by omega)
  refine ⟨M3, ?_, b4, ?_, c3, (frT.px (by omega) (by omega)).trans ((d2 _).trans ((frT.pk (by omega)).trans (d3 _)))⟩
  · unfold f_X11_turnsTo
    rw [h.frs, List.length_cons, zw_nat (n := fr.length + 1) (by omega), if_pos (by omega), if_pos (by omega), zlt_, zix_nat (n := fr.length + 1) (by omega), h.ords, el, a2]
    simp only [zbs]
    rw [if_neg (nn_ (by decide)), hq, zw_nat (n := X1.length) (by omega), if_pos (by omega), zlt_, zix_nat (n := X1.length) (by omega), b2.ords]
    have el2 : (X1 ++ (((404 : Int), y) :: (X2 ++ [((409 : Int), (0 : Int))]))).length = X1.length + 1 + X2.length + 1 := by
      rw [List.length_append, List.length_cons, List.length_append, List.length_singleton]; omega
    rw [el2]
    exact a3
  · rw [((d3 (fr.length + 1)).2 _ (Nat.le_refl _)).2, zput_k (by omega), ((d2 (fr.length + 1)).2 _ (Nat.le_refl _)).2, zput_eq]
set_option maxRecDepth 8000 in
set_option maxHeartbeats 2000000 in
/-- ELSE -/
theorem g_else {X1 X2 : zCd} {y : Int} (h : stR B L M i o (8 :: fr) (P ++ Wt) X) (hk : tK B L i = 20) (hW : okW 3 (fr.length + 1) Wt) (hP : okP 3 (fr.length + 1) P) (hc : fr.length < 39) (hB : wtB 40 (P ++ Wt)) (hl : (P ++ Wt).length ≤ 80) (hX : X.length + P.length < 400) (hx : X ++ pops P = X1 ++ ((404, y) :: X2)) (hq : M 58 0 (fr.length + 1) = X1.length) : ∃ M', f_X11_goesOn_j65 8 M = some M' ∧ stR B L M' (i + 1) o (9 :: fr) Wt (X1 ++ ((404, ((X1.length + 1 + X2.length + 1 : Nat) : Int)) :: (X2 ++ [(409, 0)]))) ∧ M' 58 0 (fr.length + 1) = ((X1.length + 1 + X2.length : Nat) : Int) ∧ M' 42 0 28 = 1 ∧ frT fr.length M M' := by
  have ht := h.tok.2.1
  have hlen : X.length + P.length = X1.length + 1 + X2.length := by
    have := congrArg List.length hx
    rw [List.length_append, List.length_append, List.length_cons, pops_len] at this
    omega
  obtain ⟨M1, a1, b1, c1, d1⟩ := R_works (r := 3) (fr := (8 : Int) :: fr) (Wt := Wt) (by omega) hW (by rw [List.length_cons]; omega) h hP hB hl (by omega)
  rw [hx] at b1
  obtain ⟨M2, a2, b2, c2, c3, d2⟩ := turn_else b1 (by rw [((d1 (fr.length + 1)).2 _ (Nat.le_refl _)).2]; exact hq) hc (by omega)
  refine ⟨M2, ?_, b2, c2, c3, (d1 _).trans d2⟩
  unfold f_X11_goesOn_j65 f_X11_goesOn_j116
  rw [if_pos (by decide), if_neg (nn_ (by decide)), R_isW (v := 16) (kk := 20) ht (by omega) rfl, if_pos hk]
  simp only [zbs]
  rw [if_neg zw_1n, a1]
  simp only [zbs]
  rw [a2]
  exact zbs _ _
set_option maxRecDepth 8000 in
set_option maxHeartbeats 2000000 in
/-- END -/
theorem g_end {X1 X2 : zCd} {y : Int} (h : stR B L M i (o + 1) (9 :: fr) (P ++ Wt) X) (hk : tK B L i = 21) (hW : okW 3 (fr.length + 1) Wt) (hP : okP 3 (fr.length + 1) P) (hc : fr.length < 39) (hB : wtB 40 (P ++ Wt)) (hl : (P ++ Wt).length ≤ 80) (hX : X.length + P.length < 400) (hx : X ++ pops P = X1 ++ ((409, y) :: X2)) (hq : M 58 0 (fr.length + 1) = X1.length) : ∃ M', stR B L M' (i + 1) o fr Wt (X1 ++ ((409, ((X1.length + 1 + X2.length : Nat) : Int)) :: X2)) ∧ frT fr.length M M' ∧ ∀ F N, F ≤ 1000 → OV F M' N → f_X11_goesOn_j65 9 M = some N := by
  have ht := h.tok.2.1
  have hlen : X.length + P.length = X1.length + 1 + X2.length := by
    have := congrArg List.length hx
    rw [List.length_append, List.length_append, List.length_cons, pops_len] at this
    omega
  obtain ⟨M1, a1, b1, c1, d1⟩ := R_works (r := 3) (fr := (9 : Int) :: fr) (Wt := Wt) (by omega) hW (by rw [List.length_cons]; omega) h hP hB hl (by omega)
  rw [hx] at b1
  have el : (X1 ++ (((409 : Int), y) :: X2)).length = X1.length + 1 + X2.length := by rw [List.length_append, List.length_cons]; omega
  have e58 : M1 58 0 (fr.length + 1) = X1.length := by rw [((d1 (fr.length + 1)).2 _ (Nat.le_refl _)).2]; exact hq
  have b2 := (b1.patch (v := ((X1.length + 1 + X2.length : Nat) : Int))).pop.shut
  obtain ⟨M2, a2, b3, c2, d2⟩ := R_nxt b2
  refine ⟨M2, b3, (d1 _).trans ((frT.pk (by omega)).trans ((frT.p42 (by omega)).trans ((frT.p42 (by omega)).trans (d2 _)))), fun F N hF hN => ?_⟩
  unfold f_X11_goesOn_j65 f_X11_goesOn_j116 f_X11_goesOn_j148
  rw [if_pos (by decide), if_pos (by decide), if_neg (nn_ (by decide)), R_isW (v := 17) (kk := 21) ht (by omega) rfl, if_pos hk]
  simp only [zbs]
  rw [if_neg zw_1n, a1]
  simp only [zbs]
  rw [b1.frs, List.length_cons, zw_nat (n := fr.length + 1) (by omega), if_pos (by omega), zix_nat (n := fr.length + 1) (by omega), e58, zw_nat (n := X1.length) (by omega), if_pos (by omega), zlt_, zlt_, zlt_, zix_nat (n := X1.length) (by omega), b1.ords, el, a2]
  simp only [zbs]
  rw [OV_is hN hF]
  exact zbs _ _
set_option maxRecDepth 8000 in
set_option maxHeartbeats 2000000 in
/-- a sign that asks -/
theorem g_ask (h : stR B L M i o (4 :: fr) (P ++ Wt) X) (hk : 26 ≤ tK B L i ∧ tK B L i ≤ 31) (hW : okW 3 (fr.length + 1) Wt) (hP : okP 3 (fr.length + 1) P) (hc : fr.length < 39) (hB : wtB 40 (P ++ Wt)) (hl : (P ++ Wt).length ≤ 80) (hX : X.length + P.length ≤ 400) : ∃ M', f_X11_goesOn_j65 4 M = some M' ∧ stR B L M' (i + 1) o (5 :: fr) Wt (X ++ pops P) ∧ M' 55 0 (fr.length + 1) = opR (tK B L i) ∧ M' 42 0 28 = 1 ∧ frT fr.length M M' := by
  have ht := h.tok.2.1
  obtain ⟨t1, t2⟩ := ht.is3 (by omega)
  have hop := opR_sg (k := tK B L i) (by omega)
  rw [hop.1] at t2
  obtain ⟨M1, a1, b1, c1, d1⟩ := R_works (r := 3) (fr := (4 : Int) :: fr) (Wt := Wt) (by omega) hW (by rw [List.length_cons]; omega) h hP hB hl hX
  obtain ⟨u1, u2⟩ := b1.tok.2.1.is3 (by omega)
  rw [hop.1] at u2
  have b2 := b1.aside (k := 55) (j := fr.length + 1) (v := opR (tK B L i)) (by omega)
  have e : (zput M1 55 0 (fr.length + 1) (opR (tK B L i)) 42 0 22) - 1 = (fr.length : Int) := by rw [b2.frs, List.length_cons]; omega
  obtain ⟨M2, a2, b3, c2, d2⟩ := R_nxt (b2.turn (g := 5))
  refine ⟨zput M2 42 0 28 1, ?_, b3.state, ?_, zput_eq _ _ _ _ _, (d1 _).trans ((frT.px (by omega) (by omega)).trans ((frT.pk (by omega)).trans ((d2 _).trans (frT.p42 (by omega)))))⟩
  · unfold f_X11_goesOn_j65 f_X11_goesOn_j116 f_X11_goesOn_j148 f_X11_goesOn_j217
    rw [if_pos (by decide), if_pos (by decide), if_pos (by decide), if_neg (nn_ (by decide)), t1, if_neg (nn_ (by decide)), t2, R_isAsk (by omega), if_pos (by
      have h2 : tK B L i = 26 ∨ tK B L i = 27 ∨ tK B L i = 28 ∨ tK B L i = 29 ∨ tK B L i = 30 ∨ tK B L i = 31 := by omega
      rcases h2 with z | z | z | z | z | z <;> rw [z] <;> decide)]
    simp only [zbs]
    rw [if_neg zw_1n, a1]
    simp only [zbs]
    rw [b1.frs, List.length_cons, zw_nat (n := fr.length + 1) (by omega), if_pos (by omega), zlt_, u2, zix_nat (n := fr.length + 1) (by omega), e, zw_nat (n := fr.length) (by omega), if_pos (by omega), zlt_, zix_nat (n := fr.length) (by omega), a2]
    simp only [zbs, zlt_]
  · rw [zput_k (by omega), ((d2 (fr.length + 1)).2 _ (Nat.le_refl _)).1, zput_k (by omega), zput_eq]
set_option maxRecDepth 8000 in
set_option maxHeartbeats 2000000 in
/-- behind the second sum of an ask -/
theorem g_right {v : Int} (h : stR B L M i o (5 :: fr) (P ++ Wt) X) (hq : M 55 0 (fr.length + 1) = v) (hW : okW 3 (fr.length + 1) Wt) (hP : okP 3 (fr.length + 1) P) (hc : fr.length < 39) (hB : wtB 40 (P ++ Wt)) (hl : (P ++ Wt).length ≤ 80) (hX : X.length + P.length < 400) : ∃ M', stR B L M' i o fr Wt (X ++ pops P ++ [(v, 0)]) ∧ (∀ c, frT c M M') ∧ ∀ F N, F ≤ 1000 → AV F M' N → f_X11_goesOn_j65 5 M = some N := by
  obtain ⟨M1, a1, b1, c1, d1⟩ := R_works (r := 3) (fr := (5 : Int) :: fr) (Wt := Wt) (by omega) hW (by rw [List.length_cons]; omega) h hP hB hl (by omega)
  have e55 : M1 55 0 (fr.length + 1) = v := by rw [((d1 (fr.length + 1)).2 _ (Nat.le_refl _)).1]; exact hq
  obtain ⟨M2, a2, b2, c2, d2⟩ := R_emit (v := v) (u := 0) b1.pop (by rw [List.length_append, pops_len]; omega)
  refine ⟨M2, b2, fun c => (d1 c).trans ((frT.p42 (by omega)).trans (d2 c)), fun F N hF hN => ?_⟩
  unfold f_X11_goesOn_j65 f_X11_goesOn_j116 f_X11_goesOn_j148 f_X11_goesOn_j217 f_X11_goesOn_j282
  rw [if_pos (by decide), if_pos (by decide), if_pos (by decide), if_pos (by decide), if_neg (nn_ (by decide)), a1]
  simp only [zbs]
  have ef : M1 42 0 22 = ((fr.length + 1 : Nat) : Int) := by rw [b1.frs, List.length_cons]
  rw [ef] at a2
  rw [ef, zw_nat (n := fr.length + 1) (by omega), if_pos (by omega), zlt_, zix_nat (n := fr.length + 1) (by omega), e55, a2]
  simp only [zbs]
  rw [AV_is hN hF]
  exact zbs _ _
set_option maxRecDepth 8000 in
set_option maxHeartbeats 2000000 in
/-- THEN -/
theorem asks_then (h : stR B L M i o (2 :: fr) (P ++ Wt) X) (hk : tK B L i = 19) (hW : okW 1 (fr.length + 1) Wt) (hP : okP 1 (fr.length + 1) P) (hc : fr.length < 39) (hB : wtB 40 (P ++ Wt)) (hl : (P ++ Wt).length ≤ 80) (hX : X.length + P.length < 400) : ∃ M', f_X11_asksOn M = some M' ∧ stR B L M' (i + 1) o (8 :: fr) Wt (X ++ pops P ++ [(404, 0)]) ∧ M' 58 0 (fr.length + 1) = ((X.length + P.length : Nat) : Int) ∧ M' 42 0 28 = 1 ∧ frT fr.length M M' := by
  have ht := h.tok.2.1
  obtain ⟨M1, a1, b1, c1, d1⟩ := R_works (r := 1) (fr := (2 : Int) :: fr) (Wt := Wt) (by omega) hW (by rw [List.length_cons]; omega) h hP hB hl (by omega)
  obtain ⟨M2, a2, b2, c2, c3, d2⟩ := turn_then b1 hc (by rw [List.length_append, pops_len]; omega)
  rw [List.length_append, pops_len] at c2
  refine ⟨M2, ?_, b2, c2, c3, (d1 _).trans d2⟩
  unfold f_X11_asksOn
  rw [R_isW (v := 18) (kk := 22) ht (by omega) rfl, if_neg (by omega)]
  simp only [zbs]
  rw [if_neg (nn_ zw_0), R_isW (v := 19) (kk := 23) ht (by omega) rfl, if_neg (by omega)]
  simp only [zbs]
  rw [if_pos zw_0, R_top h (by omega)]
  simp only [zbs]
  rw [if_neg (nn_ (by decide)), R_isW (v := 15) (kk := 19) ht (by omega) rfl, if_pos hk]
  simp only [zbs]
  rw [if_neg zw_1n, a1]
  simp only [zbs]
  rw [a2]
  exact zbs _ _
set_option maxRecDepth 8000 in
set_option maxHeartbeats 2000000 in
theorem asks_bad (h : stR B L M i o (2 :: fr) W X) (hk : tK B L i ≠ 19 ∧ tK B L i ≠ 22 ∧ tK B L i ≠ 23) (hc : fr.length < 40) : ∃ M', f_X11_asksOn M = some M' ∧ failR B L M' 1 i ∧ frB M M' := by
  have ht := h.tok.2.1
  obtain ⟨M1, a1, b1, c1⟩ := R_err (w := 1) h (by omega)
  refine ⟨M1, ?_, b1, c1⟩
  unfold f_X11_asksOn f_X11_asksOn_j82
  rw [R_isW (v := 18) (kk := 22) ht (by omega) rfl, if_neg (by omega)]
  simp only [zbs]
  rw [if_neg (nn_ zw_0), R_isW (v := 19) (kk := 23) ht (by omega) rfl, if_neg (by omega)]
  simp only [zbs]
  rw [if_pos zw_0, R_top h hc]
  simp only [zbs]
  rw [if_neg (nn_ (by decide)), R_isW (v := 15) (kk := 19) ht (by omega) rfl, if_neg (by omega)]
  simp only [zbs]
  rw [if_pos zw_0, a1]
  exact zbs _ _
set_option maxRecDepth 8000 in
set_option maxHeartbeats 2000000 in
/-- an ask begins -/
theorem ask_not (h : stR B L M i o fr W X) (hs : M 42 0 28 = 0) (hk : tK B L i = 24) (ho : o < 8) (hc : fr.length < 40) : ∃ M', f_X11_asks M = some M' ∧ stR B L M' (i + 1) (o + 1) (3 :: fr) W X ∧ M' 42 0 28 = 0 ∧ ∀ c, frT c M M' := by
  obtain ⟨M1, a1, b1, c1, d1⟩ := R_open (f := 3) h ho hc
  refine ⟨M1, ?_, b1, by rw [c1, hs], d1⟩
  unfold f_X11_asks
  rw [R_isW (v := 20) (kk := 24) h.tok.2.1 (by omega) rfl, if_pos hk]
  simp only [zbs]
  rw [if_neg zw_1n, a1]
  exact zbs _ _
set_option maxRecDepth 8000 in
set_option maxHeartbeats 2000000 in
theorem ask_notN (h : stR B L M i o fr W X) (hk : tK B L i = 24) (ho : o = 8) : ∃ M', f_X11_asks M = some M' ∧ failR B L M' 3 i ∧ frB M M' := by
  obtain ⟨M1, a1, b1, c1⟩ := R_openN (f := 3) h ho
  refine ⟨M1, ?_, b1, c1⟩
  unfold f_X11_asks
  rw [R_isW (v := 20) (kk := 24) h.tok.2.1 (by omega) rfl, if_pos hk]
  simp only [zbs]
  rw [if_neg zw_1n, a1]
  exact zbs _ _
set_option maxRecDepth 8000 in
set_option maxHeartbeats 2000000 in
theorem ask_left (h : stR B L M i o fr W X) (hk : tK B L i ≠ 24) (hc : fr.length < 40) : ∃ M', f_X11_asks M = some M' ∧ stR B L M' i o (4 :: fr) W X ∧ M' 42 0 28 = 1 ∧ ∀ c, frT c M M' := by
  obtain ⟨M1, a1, b1, c1, d1⟩ := R_frame (f := 4) h hc
  refine ⟨zput M1 42 0 28 1, ?_, b1.state, zput_eq _ _ _ _ _, fun c => (d1 c).trans (frT.p42 (by omega))⟩
  unfold f_X11_asks
  rw [R_isW (v := 20) (kk := 24) h.tok.2.1 (by omega) rfl, if_neg hk]
  simp only [zbs]
  rw [if_pos zw_0, a1]
  simp only [zbs, zlt_]
end ZTXG
