/-! text: the class reads TOKENS: small steps -/
def tkOK (K V : Nat → Int) (Pl : Nat → Nat) (m : Nat) : Prop := m ≤ 300 ∧ (∀ i, 0 ≤ K i ∧ K i ≤ 40) ∧ (∀ i, m ≤ i → K i = 40) ∧ (∀ i, K i = 25 → 0 ≤ V i ∧ V i ≤ 10000) ∧ ∀ i, Pl i ≤ 300
set_option maxRecDepth 8000 in
set_option maxHeartbeats 2000000 in
theorem tkOK.lt {K V : Nat → Int} {Pl : Nat → Nat} {m i : Nat} (h : tkOK K V Pl m) (hk : K i ≠ 40) : i < m := Nat.lt_of_not_le (fun z => hk (h.2.2.1 i z))
def cM (M : zM) (x : Nat) : Nat → Int × Int := fun j => (M 9 x j, M 10 x j)
/-- the class is at TOKEN i, has no fault, and e is what it has written -/
def lvX (K V : Nat → Int) (Pl : Nat → Nat) (m x : Nat) (law : Int) (M : zM) (i : Nat) (e : zCd) : Prop := (∀ j, j ≤ m → M 39 0 j = K j ∧ M 41 0 j = Pl j ∧ (K j = 25 → M 40 0 j = V j)) ∧ M 37 0 1 = x ∧ M 37 0 2 = law ∧ M 37 0 4 = 0 ∧ M 38 0 4 = i ∧ M 38 0 5 = K i ∧ i ≤ m ∧ M 2 x 9 = e.length ∧ e.length ≤ 300 ∧ cAt (cM M x) 0 e
/-- the class has a fault -/
def ddX (Pl : Nat → Nat) (x : Nat) (M : zM) (w : Int) (f : Nat) : Prop := (M 37 0 4 = w ∧ 1 ≤ w ∧ w ≤ 6) ∧ M 37 0 5 = Pl f ∧ M 38 0 5 = 41 ∧ (0 ≤ M 38 0 4 ∧ M 38 0 4 ≤ 300) ∧ M 37 0 1 = x ∧ 0 ≤ M 2 x 9 ∧ M 2 x 9 ≤ 300
def frC (x : Nat) (M M' : zM) : Prop := (∀ k i, k ≠ 38 → k ≠ 37 → ¬ (k = 2 ∧ i = x) → ¬ (k = 9 ∧ i = x) → ¬ (k = 10 ∧ i = x) → M' k i = M k i) ∧ (∀ j, j ≠ 9 → M' 2 x j = M 2 x j) ∧ (∀ j, j ≠ 4 → j ≠ 5 → M' 37 0 j = M 37 0 j) ∧ (M' 37 0 4 = 0 → M' 37 0 5 = M 37 0 5 ∧ M 37 0 4 = 0)
set_option maxRecDepth 8000 in
set_option maxHeartbeats 2000000 in
theorem frC.rfl_ {x : Nat} {M : zM} : frC x M M := ⟨fun _ _ _ _ _ _ _ => rfl, fun _ _ => rfl, fun _ _ _ => rfl, fun z => ⟨rfl, z⟩⟩
set_option maxRecDepth 8000 in
set_option maxHeartbeats 2000000 in
theorem frC.trans {x : Nat} {M M' M2 : zM} (h : frC x M M') (h2 : frC x M' M2) : frC x M M2 := ⟨fun k i a b c d e => by rw [h2.1 k i a b c d e, h.1 k i a b c d e], fun j a => by rw [h2.2.1 j a, h.2.1 j a], fun j a b => by rw [h2.2.2.1 j a b, h.2.2.1 j a b], fun z => by
    obtain ⟨u1, u2⟩ := h2.2.2.2 z
    obtain ⟨u3, u4⟩ := h.2.2.2 u2
    exact ⟨by rw [u1, u3], u4⟩⟩
set_option maxRecDepth 8000 in
set_option maxHeartbeats 2000000 in
theorem frC.p38 {x j : Nat} {M : zM} {v : Int} : frC x M (zput M 38 0 j v) := ⟨fun k i a _ _ _ _ => zput_rowk (by omega), fun q _ => zput_k (by omega), fun q _ _ => zput_k (by omega), fun z => by rw [zput_k (by omega)] at z; rw [zput_k (by omega)]; exact ⟨rfl, z⟩⟩
set_option maxRecDepth 8000 in
set_option maxHeartbeats 2000000 in
theorem frC.p37 {x j : Nat} {M : zM} {v : Int} (hj : j = 4 ∨ j = 5) (h0 : zput M 37 0 j v 37 0 4 ≠ 0) : frC x M (zput M 37 0 j v) := ⟨fun k i _ a _ _ _ => zput_rowk (by omega), fun q _ => zput_k (by omega), fun q _ _ => zput_j (by omega), fun z => absurd z h0⟩
set_option maxRecDepth 8000 in
set_option maxHeartbeats 2000000 in
theorem frC.p9 {x j : Nat} {M : zM} {v : Int} : frC x M (zput M 9 x j v) := ⟨fun k i _ _ _ a _ => zput_rowk (by omega), fun q _ => zput_k (by omega), fun q _ _ => zput_k (by omega), fun z => by rw [zput_k (by omega)] at z; rw [zput_k (by omega)]; exact ⟨rfl, z⟩⟩
set_option maxRecDepth 8000 in
set_option maxHeartbeats 2000000 in
theorem frC.p10 {x j : Nat} {M : zM} {v : Int} : frC x M (zput M 10 x j v) := ⟨fun k i _ _ _ _ a => zput_rowk (by omega), fun q _ => zput_k (by omega), fun q _ _ => zput_k (by omega), fun z => by rw [zput_k (by omega)] at z; rw [zput_k (by omega)]; exact ⟨rfl, z⟩⟩
set_option maxRecDepth 8000 in
set_option maxHeartbeats 2000000 in
theorem frC.p2 {x : Nat} {M : zM} {v : Int} : frC x M (zput M 2 x 9 v) := ⟨fun k i _ _ a _ _ => zput_rowk (by omega), fun q _ => zput_j (by omega), fun q _ _ => zput_k (by omega), fun z => by rw [zput_k (by omega)] at z; rw [zput_k (by omega)]; exact ⟨rfl, z⟩⟩
section ZTXX
variable {K V : Nat → Int} {Pl : Nat → Nat} {m x : Nat} {law : Int} {M : zM} {i : Nat} {e : zCd} {w : Int} {f : Nat}
set_option maxRecDepth 8000 in
set_option maxHeartbeats 2000000 in
theorem X_adv (ht : tkOK K V Pl m) (h : lvX K V Pl m x law M i e) (hi : i < m) : ∃ M', f_X4_advance M = some M' ∧ lvX K V Pl m x law M' (i + 1) e ∧ frC x M M' := by
  obtain ⟨g1, g2, g3, g4, g5, g6, g7, g8, g9, g10⟩ := h
  have hm := ht.1
  unfold f_X4_advance
  rw [g5, zw_id (z := (i : Int) + 1) (by omega) (by omega), if_neg (by omega), zlt_, zput_eq, zw_id (z := (i : Int) + 1) (by omega) (by omega), if_pos (by omega), zlt_]
  have zi : zix ((i : Int) + 1) = i + 1 := zix_id (by omega) (by omega)
  have e39 : zput M 38 0 4 ((i : Int) + 1) 39 0 (zix ((i : Int) + 1)) = K (i + 1) := by
    rw [zput_k (by omega), zi]
    exact (g1 (i + 1) (by omega)).1
  rw [e39]
  refine ⟨_, rfl, ⟨fun j hj => ?_, ?_, ?_, ?_, ?_, ?_, by omega, ?_, g9, ?_⟩, frC.p38.trans frC.p38⟩
  · rw [zput_k (by omega), zput_k (by omega), zput_k (by omega), zput_k (by omega), zput_k (by omega), zput_k (by omega)]
    exact g1 j hj
  · rw [zput_k (by omega), zput_k (by omega)]; exact g2
  · rw [zput_k (by omega), zput_k (by omega)]; exact g3
  · rw [zput_k (by omega), zput_k (by omega)]; exact g4
  · rw [zput_j (by omega), zput_eq]; omega
  · rw [zput_eq]
  · rw [zput_k (by omega), zput_k (by omega)]; exact g8
  · refine cAt_congr _ _ g10 (fun j _ _ => ?_)
    unfold cM
    rw [zput_k (by omega), zput_k (by omega), zput_k (by omega), zput_k (by omega)]
set_option maxRecDepth 8000 in
set_option maxHeartbeats 2000000 in
theorem X_fail (ht : tkOK K V Pl m) (h : lvX K V Pl m x law M i e) (hw : 1 ≤ w ∧ w ≤ 6) : ∃ M', f_X2_fail w M = some M' ∧ ddX Pl x M' w i ∧ frC x M M' := by
  obtain ⟨g1, g2, g3, g4, g5, g6, g7, g8, g9, g10⟩ := h
  have hm := ht.1
  unfold f_X2_fail f_X2_fail_j31
  rw [g4, if_neg (nn_ zw_0), zlt_, zput_k (by omega), g5, zw_nat (by omega), if_pos (by omega), zlt_, zlt_, zix_nat (by omega), zput_k (by omega), (g1 i g7).2.1]
  refine ⟨_, rfl, ⟨⟨?_, hw⟩, ?_, ?_, ?_, ?_, ?_⟩, (frC.p37 (by omega) (by rw [zput_eq]; omega)).trans ((frC.p37 (by omega) (by rw [zput_j (by omega), zput_eq]; omega)).trans frC.p38)⟩
  · rw [zput_k (by omega), zput_j (by omega), zput_eq]
  · rw [zput_k (by omega), zput_eq]
  · rw [zput_eq]
  · rw [zput_j (by omega), zput_k (by omega), zput_k (by omega), g5]; omega
  · rw [zput_k (by omega), zput_j (by omega), zput_j (by omega)]; exact g2
  · rw [zput_k (by omega), zput_k (by omega), zput_k (by omega), g8]; omega
set_option maxRecDepth 8000 in
set_option maxHeartbeats 2000000 in
theorem X_failD {w2 : Int} (h : ddX Pl x M w f) : ∃ M', f_X2_fail w2 M = some M' ∧ ddX Pl x M' w f ∧ frC x M M' := by
  obtain ⟨⟨g1, g2, g3⟩, g4, g5, g6, g7, g8⟩ := h
  unfold f_X2_fail f_X2_fail_j31
  rw [g1, zw_id (by omega) (by omega), if_pos (by omega), zlt_]
  refine ⟨_, rfl, ⟨⟨?_, g2, g3⟩, ?_, ?_, ?_, ?_, ?_⟩, frC.p38⟩
  · rw [zput_k (by omega)]; exact g1
  · rw [zput_k (by omega)]; exact g4
  · rw [zput_eq]
  · rw [zput_j (by omega)]; exact g6
  · rw [zput_k (by omega)]; exact g7
  · rw [zput_k (by omega)]; exact g8
set_option maxRecDepth 8000 in
set_option maxHeartbeats 2000000 in
theorem X_expY {k : Int} (ht : tkOK K V Pl m) (h : lvX K V Pl m x law M i e) (hk : K i = k) (h40 : k ≠ 40) : ∃ M', f_X2_expect k M = some M' ∧ lvX K V Pl m x law M' (i + 1) e ∧ frC x M M' := by
  obtain ⟨M', a1, a2, a3⟩ := X_adv ht h (ht.lt (by omega))
  refine ⟨M', ?_, a2, a3⟩
  unfold f_X2_expect
  rw [h.2.2.2.2.2.1, hk, if_neg (nn_ rfl), a1]
  exact zbs _ _
set_option maxRecDepth 8000 in
set_option maxHeartbeats 2000000 in
theorem X_expN {k : Int} (ht : tkOK K V Pl m) (h : lvX K V Pl m x law M i e) (hk : K i ≠ k) (h40 : 0 ≤ k ∧ k ≤ 40) : ∃ M', f_X2_expect k M = some M' ∧ ddX Pl x M' 1 i ∧ frC x M M' := by
  obtain ⟨M', a1, a2, a3⟩ := X_fail ht h (w := 1) (by omega)
  have := ht.2.1 i
  refine ⟨M', ?_, a2, a3⟩
  unfold f_X2_expect
  rw [h.2.2.2.2.2.1, zw_id (z := K i) (by omega) (by omega), zw_id (z := k) (by omega) (by omega), if_pos hk, a1]
  exact zbs _ _
set_option maxRecDepth 8000 in
set_option maxHeartbeats 2000000 in
theorem X_expD {k : Int} (h : ddX Pl x M w f) (h40 : 0 ≤ k ∧ k ≤ 40) : ∃ M', f_X2_expect k M = some M' ∧ ddX Pl x M' w f ∧ frC x M M' := by
  obtain ⟨M', a1, a2, a3⟩ := X_failD (w2 := 1) h
  refine ⟨M', ?_, a2, a3⟩
  unfold f_X2_expect
  rw [h.2.2.1, zw_id (z := 41) (by omega) (by omega), zw_id (z := k) (by omega) (by omega), if_pos (by omega), a1]
  exact zbs _ _
set_option maxRecDepth 8000 in
set_option maxHeartbeats 2000000 in
theorem X_addO {o v : Int} (h : lvX K V Pl m x law M i e) (he : e.length < 300) : ∃ M', f_X7_add x o v M = some ((e.length : Int), M') ∧ lvX K V Pl m x law M' i (e ++ [(o, v)]) ∧ frC x M M' := by
  obtain ⟨g1, g2, g3, g4, g5, g6, g7, g8, g9, g10⟩ := h
  unfold f_X7_add
  rw [g8, zw_nat (by omega), if_pos (by omega), if_pos (by omega), zlt_, zput_k (by omega), g8, zw_nat (by omega), if_pos (by omega), zlt_, zlt_, zix_nat (by omega), zput_eq, zput_k (by omega), zput_k (by omega), g8, show (e.length : Int) + 1 - 1 = (e.length : Int) by omega]
  refine ⟨_, rfl, ⟨fun j hj => ?_, ?_, ?_, ?_, ?_, ?_, g7, ?_, ?_, ?_⟩, frC.p9.trans (frC.p10.trans frC.p2)⟩
  · rw [zput_k (by omega), zput_k (by omega), zput_k (by omega), zput_k (by omega), zput_k (by omega), zput_k (by omega), zput_k (by omega), zput_k (by omega), zput_k (by omega)]
    exact g1 j hj
  · rw [zput_k (by omega), zput_k (by omega), zput_k (by omega)]; exact g2
  · rw [zput_k (by omega), zput_k (by omega), zput_k (by omega)]; exact g3
  · rw [zput_k (by omega), zput_k (by omega), zput_k (by omega)]; exact g4
  · rw [zput_k (by omega), zput_k (by omega), zput_k (by omega)]; exact g5
  · rw [zput_k (by omega), zput_k (by omega), zput_k (by omega)]; exact g6
  · rw [zput_eq, List.length_append, List.length_singleton]; omega
  · rw [List.length_append, List.length_singleton]; omega
  · rw [cAt_app]
    refine ⟨cAt_congr _ _ g10 (fun j _ hj => ?_), ?_, trivial⟩
    · unfold cM
      rw [zput_k (by omega), zput_k (by omega), zput_j (by omega), zput_k (by omega), zput_j (by omega), zput_k (by omega)]
    · unfold cM
      rw [Nat.zero_add, zput_k (by omega), zput_k (by omega), zput_eq, zput_k (by omega), zput_eq]
set_option maxRecDepth 8000 in
set_option maxHeartbeats 2000000 in
theorem X_addD {o v : Int} (h : ddX Pl x M w f) : ∃ (u : Int) (M' : zM), f_X7_add x o v M = some (u, M') ∧ (-1 ≤ u ∧ u < 300) ∧ ddX Pl x M' w f ∧ frC x M M' := by
  obtain ⟨g1, g4, g5, g6, g7, g8⟩ := h
  obtain ⟨n, hn⟩ := Int.eq_ofNat_of_zero_le g8.1
  unfold f_X7_add
  rw [hn, zw_nat (by omega)]
  by_cases hl : (n : Int) < 300
  · rw [if_pos hl, if_pos (by omega), zlt_, zput_k (by omega), hn, zw_nat (by omega), if_pos (by omega), zlt_, zlt_, zput_eq, zput_k (by omega), zput_k (by omega), hn]
    refine ⟨_, _, rfl, by omega, ⟨?_, ?_, ?_, ?_, ?_, ?_⟩, frC.p9.trans (frC.p10.trans frC.p2)⟩
    · rw [zput_k (by omega), zput_k (by omega), zput_k (by omega)]; exact g1
    · rw [zput_k (by omega), zput_k (by omega), zput_k (by omega)]; exact g4
    · rw [zput_k (by omega), zput_k (by omega), zput_k (by omega)]; exact g5
    · rw [zput_k (by omega), zput_k (by omega), zput_k (by omega)]; exact g6
    · rw [zput_k (by omega), zput_k (by omega), zput_k (by omega)]; exact g7
    · rw [zput_eq]; omega
  · rw [if_neg hl]
    exact ⟨_, _, rfl, by omega, ⟨g1, g4, g5, g6, g7, g8⟩, frC.rfl_⟩
set_option maxRecDepth 8000 in
set_option maxHeartbeats 2000000 in
theorem X_lead {l1 l2 : zCd} {o v : Int} (h : lvX K V Pl m x law M i (l1 ++ ((o, v) :: l2))) : ∃ M', f_X7_leadHere x (l1.length : Int) M = some M' ∧ lvX K V Pl m x law M' i (l1 ++ ((o, ((l1.length + 1 + l2.length : Nat) : Int)) :: l2)) ∧ frC x M M' := by
  obtain ⟨g1, g2, g3, g4, g5, g6, g7, g8, g9, g10⟩ := h
  have el : (l1 ++ ((o, v) :: l2)).length = l1.length + 1 + l2.length := by rw [List.length_append, List.length_cons]; omega
  have el2 : (l1 ++ ((o, ((l1.length + 1 + l2.length : Nat) : Int)) :: l2)).length = l1.length + 1 + l2.length := by rw [List.length_append, List.length_cons]; omega
  rw [el] at g8 g9
  rw [cAt_app] at g10
  obtain ⟨c1, c2, c3⟩ := g10
  unfold f_X7_leadHere
  rw [g8, zw_nat (by omega), zw_nat (by omega), if_neg (by omega), if_neg (by omega), if_pos (by omega), zlt_, zix_nat (by omega)]
  unfold lvX
  rw [el2]
  refine ⟨_, rfl, ⟨fun j hj => ?_, ?_, ?_, ?_, ?_, ?_, g7, ?_, g9, ?_⟩, frC.p10⟩
  · rw [zput_k (by omega), zput_k (by omega), zput_k (by omega)]
    exact g1 j hj
  · rw [zput_k (by omega)]; exact g2
  · rw [zput_k (by omega)]; exact g3
  · rw [zput_k (by omega)]; exact g4
  · rw [zput_k (by omega)]; exact g5
  · rw [zput_k (by omega)]; exact g6
  · rw [zput_k (by omega)]; exact g8
  · rw [cAt_app]
    rw [Nat.zero_add] at c2 c3 ⊢
    refine ⟨cAt_congr _ _ c1 (fun j _ hj => ?_), ?_, cAt_congr _ _ c3 (fun j hj _ => ?_)⟩
    · unfold cM
      rw [zput_k (by omega), zput_j (by omega)]
    · unfold cM at c2 ⊢
      rw [zput_k (by omega), zput_eq]
      rw [Prod.mk.injEq] at c2
      rw [c2.1]
    · unfold cM
      rw [zput_k (by omega), zput_j (by omega)]
set_option maxRecDepth 8000 in
set_option maxHeartbeats 2000000 in
theorem X_leadD {u : Int} (h : ddX Pl x M w f) (hu : -1 ≤ u ∧ u < 300) : ∃ M', f_X7_leadHere x u M = some M' ∧ ddX Pl x M' w f ∧ frC x M M' := by
  have hc := h
  obtain ⟨g1, g4, g5, g6, g7, g8⟩ := h
  unfold f_X7_leadHere
  rw [zw_id (z := u) (by omega) (by omega)]
  by_cases h1 : u < 0
  · rw [if_pos h1]; exact ⟨_, rfl, hc, frC.rfl_⟩
  · rw [if_neg h1]
    by_cases h2 : zw (M 2 x 9) ≤ u
    · rw [if_pos h2]; exact ⟨_, rfl, hc, frC.rfl_⟩
    · rw [if_neg h2, if_pos (by omega), zlt_]
      refine ⟨_, rfl, ⟨?_, ?_, ?_, ?_, ?_, ?_⟩, frC.p10⟩
      · rw [zput_k (by omega)]; exact g1
      · rw [zput_k (by omega)]; exact g4
      · rw [zput_k (by omega)]; exact g5
      · rw [zput_k (by omega)]; exact g6
      · rw [zput_k (by omega)]; exact g7
      · rw [zput_k (by omega)]; exact g8
end ZTXX
