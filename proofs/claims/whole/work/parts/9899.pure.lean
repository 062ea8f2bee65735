/-! text: the descent, as the class does it -/
set_option maxRecDepth 8000 in
set_option maxHeartbeats 2000000 in
theorem X_desc {K V : Nat → Int} {Pl : Nat → Nat} {m x : Nat} {law : Int} (ht : tkOK K V Pl m) (hx : x < 4) (hlaw : 0 ≤ law ∧ law ≤ 3) : ∀ (n t o i b k : Nat) (e : zCd) (r : (Int × Nat) ⊕ (Nat × zCd)) (M : zM), zD K V law n t o i b = some r → o ≤ 8 → b = e.length → e.length ≤ i → dpX t o ≤ k → dsX K V Pl m x law k t o i e r M := by
  have zf := zF_pos
  have hm3 := ht.1
  have hend := ht.2.2.1
  have d0 : ∀ o, dpX 0 o = 3 + 8 * (8 - o) := fun _ => rfl
  have d1 : ∀ o, dpX 1 o = 2 + 8 * (8 - o) := fun _ => rfl
  have d2 : ∀ o, dpX 2 o = 1 + 8 * (8 - o) := fun _ => rfl
  have d3 : ∀ o, dpX 3 o = 7 + 8 * (8 - o) := fun _ => rfl
  have d4 : ∀ o, dpX 4 o = 6 + 8 * (8 - o) := fun _ => rfl
  have d5 : ∀ o, dpX 5 o = 5 + 8 * (8 - o) := fun _ => rfl
  have d6 : ∀ o, dpX 6 o = 4 + 8 * (8 - o) := fun _ => rfl
  have d7 : ∀ o, dpX 7 o = 2 + 8 * (8 - o) := fun _ => rfl
  have d8 : ∀ o, dpX 8 o = 1 + 8 * (8 - o) := fun _ => rfl
  have d9 : ∀ o, dpX 9 o = 5 + 8 * (8 - o) := fun _ => rfl
  have d10 : ∀ o, dpX 10 o = 4 + 8 * (8 - o) := fun _ => rfl
  have q0 : dpD 0 = 3 := rfl
  have q2 : dpD 2 = 1 := rfl
  intro n
  induction n with
  | zero => intro t o i b k e r M h; cases h
  | succ n ih =>
    have len : ∀ (e c : zCd), (e ++ c).length = e.length + c.length := fun e c => List.length_append
    -- a loop, at a sign that is its own
    have loop : ∀ (t s o i b k : Nat) (op : Int) (e : zCd) (r : (Int × Nat) ⊕ (Nat × zCd)) (M : zM), (t = 7 ∧ s = 1 ∧ (K i = 32 ∨ K i = 33)) ∨ (t = 8 ∧ s = 2 ∧ (K i = 34 ∨ K i = 35)) ∨ (t = 9 ∧ s = 5 ∧ K i = 22) ∨ (t = 10 ∧ s = 6 ∧ K i = 23) → K i = op → (pB (zD K V law n s o (i + 1) b) fun i1 c1 => pB (zD K V law n t o i1 (b + c1.length + 1)) fun i2 c2 => pR i2 (c1 ++ ((op, 0) :: c2))) = some r → o ≤ 8 → b = e.length → e.length ≤ i → dpX s o ≤ k → dpX t o ≤ k → dsX K V Pl m x law k t o i e r M := by
      intro t s o i b k op e r M hts hop h ho hb hei hks hkt
      refine ⟨fun z => by omega, fun z => by omega, fun h7 hl v fuel hv hfu => ?_⟩
      have hi : i < m := ht.lt (by omega)
      have hgo := lp_go (k := k) (a := (o : Int)) hl (show v < 300 by omega) hts
      obtain ⟨M1, a1, b1, c1⟩ := X_adv ht hl hi
      rcases pB_inv h with ⟨w, f, h1, rfl⟩ | ⟨i1, cs1, h1, h2⟩
      · obtain ⟨M2, a2, b2, c2⟩ := (ih s o (i + 1) b k e _ M1 h1 ho hb (by omega) hks).1 (by omega) (by omega) b1
        obtain ⟨u, M3, a3, -, b3, c3⟩ := X_addD (o := op) (v := 0) b2
        obtain ⟨j1, j2⟩ := dd_into hx b2
        refine ⟨M3, ?_, b3, c1.trans (c2.trans c3)⟩
        obtain ⟨fu, rfl⟩ : ∃ fu, fuel = fu + 2 := ⟨fuel - 2, by omega⟩
        refine zlp_inl (s' := ((v : Int) + 1, M3)) ?_ (zlp_inr (lpB_dd b3))
        rw [hgo, hop]
        unfold lpGo
        rw [a1]
        simp only [zbs]
        rw [a2]
        simp only [zbs]
        rw [if_pos j1, j2, a3]
        exact zbs _ _
      · obtain ⟨M2, a2, b2, c2⟩ := (ih s o (i + 1) b k e _ M1 h1 ho hb (by omega) hks).1 (by omega) (by omega) b1
        obtain ⟨g1, g2, g3, g4⟩ := zD_bd hend n s o (i + 1) b _ (by omega) h1
        dsimp only at g1 g2 g3 g4
        have g3 := g3 (by omega)
        have b2 : lvX K V Pl m x law M2 i1 (e ++ cs1) := b2
        obtain ⟨M3, a3, b3, c3⟩ := X_addO (o := op) (v := 0) b2 (by rw [len]; omega)
        obtain ⟨j1, j2⟩ := lv_into hx b2
        obtain ⟨fu, rfl⟩ : ∃ fu, fuel = fu + 1 := ⟨fuel - 1, by omega⟩
        have hstep : lpB t k o ((v : Int), M) = some (.inl (((v + 1 : Nat) : Int), M3)) := by
          rw [hgo, hop]
          unfold lpGo
          rw [a1]
          simp only [zbs]
          rw [a2]
          simp only [zbs]
          rw [if_pos j1, j2, a3]
          exact zbs _ _
        have hl3 : (e ++ cs1 ++ [(op, 0)]).length = b + cs1.length + 1 := by rw [len, len, hb]; rfl
        rcases pB_inv h2 with ⟨w, f, h3, rfl⟩ | ⟨i2, cs2, h3, h4⟩
        · obtain ⟨M4, a4, b4, c4⟩ := (ih t o i1 (b + cs1.length + 1) k (e ++ cs1 ++ [(op, 0)]) _ M3 h3 ho hl3.symm (by omega) hkt).2.2 h7 b3 (v + 1) fu (by omega) (by omega)
          exact ⟨M4, zlp_inl hstep a4, b4, c1.trans (c2.trans (c3.trans c4))⟩
        · cases h4
          obtain ⟨M4, a4, b4, c4⟩ := (ih t o i1 (b + cs1.length + 1) k (e ++ cs1 ++ [(op, 0)]) _ M3 h3 ho hl3.symm (by omega) hkt).2.2 h7 b3 (v + 1) fu (by omega) (by omega)
          refine ⟨M4, zlp_inl hstep a4, ?_, c1.trans (c2.trans (c3.trans c4))⟩
          have b4 : lvX K V Pl m x law M4 i2 (e ++ cs1 ++ [(op, 0)] ++ cs2) := b4
          rw [List.append_assoc, List.append_assoc] at b4
          exact b4
    -- no sign of its own
    have stop : ∀ (t o i b k : Nat) (e : zCd) (M : zM), 7 ≤ t → t ≤ 10 → ¬ (t = 7 ∧ (K i = 32 ∨ K i = 33)) ∧ ¬ (t = 8 ∧ (K i = 34 ∨ K i = 35)) ∧ ¬ (t = 9 ∧ K i = 22) ∧ ¬ (t = 10 ∧ K i = 23) → dsX K V Pl m x law k t o i e (.inr (i, [])) M := by
      intro t o i b k e M h7 h10 hn
      refine ⟨fun z => by omega, fun z => by omega, fun _ hl v fuel hv hfu => ⟨M, zlp_z (by omega) (lp_no ht hl h7 h10 hn), ?_, frC.rfl_⟩⟩
      show lvX K V Pl m x law M i (e ++ [])
      rw [List.append_nil]
      exact hl
    -- a part, and a loop
    have two : ∀ (s l o i b k : Nat) (e : zCd) (r : (Int × Nat) ⊕ (Nat × zCd)) (M : zM), s < 7 → s ≠ 3 → 7 ≤ l → (pB (zD K V law n s o i b) fun i1 c1 => pB (zD K V law n l o i1 (b + c1.length)) fun i2 c2 => pR i2 (c1 ++ c2)) = some r → o ≤ 8 → b = e.length → e.length ≤ i → dpX s o ≤ k → dpX l o ≤ k → lvX K V Pl m x law M i e → ∃ M', ((zfixP k s o 0 0 M).bind fun p1 => (zlp (lpB l k o) zF (0, p1)).bind fun y => some y) = some M' ∧ outX K V Pl m x law e r M' ∧ frC x M M' := by
      intro s l o i b k e r M hs hs3 h7 h ho hb hei hks hkl hl
      have him := hl.2.2.2.2.2.2.1
      rcases pB_inv h with ⟨w, f, h1, rfl⟩ | ⟨i1, cs1, h1, h2⟩
      · obtain ⟨M2, a2, b2, c2⟩ := (ih s o i b k e _ M h1 ho hb hei hks).1 (by omega) hs3 hl
        refine ⟨M2, ?_, b2, c2⟩
        rw [a2]
        simp only [zbs]
        rw [zlp_z zf (lpB_dd b2)]
        exact zbs _ _
      · obtain ⟨M2, a2, b2, c2⟩ := (ih s o i b k e _ M h1 ho hb hei hks).1 (by omega) hs3 hl
        obtain ⟨g1, g2, g3, g4⟩ := zD_bd hend n s o i b _ him h1
        dsimp only at g1 g2 g3 g4
        have b2 : lvX K V Pl m x law M2 i1 (e ++ cs1) := b2
        have hl3 : (e ++ cs1).length = b + cs1.length := by rw [len, hb]
        rcases pB_inv h2 with ⟨w, f, h3, rfl⟩ | ⟨i2, cs2, h3, h4⟩
        · obtain ⟨M4, a4, b4, c4⟩ := (ih l o i1 (b + cs1.length) k (e ++ cs1) _ M2 h3 ho hl3.symm (by omega) hkl).2.2 h7 b2 0 zF (by omega) (by unfold zF; omega)
          refine ⟨M4, ?_, b4, c2.trans c4⟩
          rw [a2]
          simp only [zbs]
          rw [show ((0 : Nat) : Int) = 0 from rfl] at a4
          rw [a4]
          exact zbs _ _
        · cases h4
          obtain ⟨M4, a4, b4, c4⟩ := (ih l o i1 (b + cs1.length) k (e ++ cs1) _ M2 h3 ho hl3.symm (by omega) hkl).2.2 h7 b2 0 zF (by omega) (by unfold zF; omega)
          refine ⟨M4, ?_, ?_, c2.trans c4⟩
          · rw [a2]
            simp only [zbs]
            rw [show ((0 : Nat) : Int) = 0 from rfl] at a4
            rw [a4]
            exact zbs _ _
          · have b4 : lvX K V Pl m x law M4 i2 (e ++ cs1 ++ cs2) := b4
            rw [List.append_assoc] at b4
            exact b4
    intro t o i b k e r M h ho hb hei hk
    match t, h, hk with
    | 0, h, hk =>
      rw [zD_0] at h
      refine ⟨fun _ _ hl => ?_, fun z => by omega, fun z => by omega⟩
      obtain ⟨k', rfl⟩ : ∃ k', k = k' + 1 := ⟨k - 1, by have := d0 o; omega⟩
      have := d0 o
      have := d1 o
      have := d7 o
      obtain ⟨M', a1, a2, a3⟩ := two 1 7 o i b k' e r M (by omega) (by omega) (by omega) h ho hb hei (by omega) (by omega) hl
      refine ⟨M', ?_, a2, a3⟩
      rw [zfixP_0]
      unfold f_X2_sum
      rw [lpB_7] at a1
      exact a1
    | 1, h, hk =>
      rw [zD_1] at h
      refine ⟨fun _ _ hl => ?_, fun z => by omega, fun z => by omega⟩
      obtain ⟨k', rfl⟩ : ∃ k', k = k' + 1 := ⟨k - 1, by have := d1 o; omega⟩
      have := d1 o
      have := d2 o
      have := d8 o
      obtain ⟨M', a1, a2, a3⟩ := two 2 8 o i b k' e r M (by omega) (by omega) (by omega) h ho hb hei (by omega) (by omega) hl
      refine ⟨M', ?_, a2, a3⟩
      rw [zfixP_1]
      unfold f_X2_product
      rw [lpB_8] at a1
      exact a1
    | 4, h, hk =>
      rw [zD_4] at h
      refine ⟨fun _ _ hl => ?_, fun z => by omega, fun z => by omega⟩
      obtain ⟨k', rfl⟩ : ∃ k', k = k' + 1 := ⟨k - 1, by have := d4 o; omega⟩
      have := d4 o
      have := d5 o
      have := d9 o
      obtain ⟨M', a1, a2, a3⟩ := two 5 9 o i b k' e r M (by omega) (by omega) (by omega) h ho hb hei (by omega) (by omega) hl
      refine ⟨M', ?_, a2, a3⟩
      rw [zfixP_4]
      unfold f_X2_either
      rw [lpB_9] at a1
      exact a1
    | 5, h, hk =>
      rw [zD_5] at h
      refine ⟨fun _ _ hl => ?_, fun z => by omega, fun z => by omega⟩
      obtain ⟨k', rfl⟩ : ∃ k', k = k' + 1 := ⟨k - 1, by have := d5 o; omega⟩
      have := d5 o
      have := d6 o
      have := d10 o
      obtain ⟨M', a1, a2, a3⟩ := two 6 10 o i b k' e r M (by omega) (by omega) (by omega) h ho hb hei (by omega) (by omega) hl
      refine ⟨M', ?_, a2, a3⟩
      rw [zfixP_5]
      unfold f_X2_both
      rw [lpB_10] at a1
      exact a1
    | 7, h, hk =>
      rw [zD_7] at h
      by_cases hk1 : K i = 32 ∨ K i = 33
      · rw [if_pos hk1] at h
        have := d7 o
        have := d1 o
        exact loop 7 1 o i b k (K i) e r M (Or.inl ⟨rfl, rfl, hk1⟩) rfl h ho hb hei (by omega) (by omega)
      · rw [if_neg hk1] at h
        cases h
        exact stop 7 o i b k e M (by omega) (by omega) (by omega)
    | 8, h, hk =>
      rw [zD_8] at h
      by_cases hk1 : K i = 34 ∨ K i = 35
      · rw [if_pos hk1] at h
        have := d8 o
        have := d2 o
        exact loop 8 2 o i b k (K i) e r M (Or.inr (Or.inl ⟨rfl, rfl, hk1⟩)) rfl h ho hb hei (by omega) (by omega)
      · rw [if_neg hk1] at h
        cases h
        exact stop 8 o i b k e M (by omega) (by omega) (by omega)
    | 9, h, hk =>
      rw [zD_9] at h
      by_cases hk1 : K i = 22
      · rw [if_pos hk1] at h
        have := d9 o
        have := d5 o
        exact loop 9 5 o i b k 22 e r M (Or.inr (Or.inr (Or.inl ⟨rfl, rfl, hk1⟩))) hk1 h ho hb hei (by omega) (by omega)
      · rw [if_neg hk1] at h
        cases h
        exact stop 9 o i b k e M (by omega) (by omega) (by omega)
    | 10, h, hk =>
      rw [zD_10] at h
      by_cases hk1 : K i = 23
      · rw [if_pos hk1] at h
        have := d10 o
        have := d6 o
        exact loop 10 6 o i b k 23 e r M (Or.inr (Or.inr (Or.inr ⟨rfl, rfl, hk1⟩))) hk1 h ho hb hei (by omega) (by omega)
      · rw [if_neg hk1] at h
        cases h
        exact stop 10 o i b k e M (by omega) (by omega) (by omega)
    | 2, h, hk =>
      rw [zD_2] at h
      refine ⟨fun _ _ hl => ?_, fun z => by omega, fun z => by omega⟩
      have hd2 := d2 o
      obtain ⟨k', rfl⟩ : ∃ k', k = k' + 1 := ⟨k - 1, by omega⟩
      have hK := ht.2.1 i
      obtain ⟨j1, j2⟩ := lv_into hx hl
      rw [zfixP_2]
      unfold f_X2_one
      rw [hl.2.2.2.2.2.1, zw_id (z := K i) (by omega) (by omega)]
      by_cases k1 : K i = 25
      · rw [if_neg (nn_ k1), if_pos j1, j2]
        rw [if_pos k1] at h
        have hV := ht.2.2.2.1 i k1
        have hlt := ht.lt (i := i) (by omega)
        by_cases k2 : V i ≤ 9999
        · rw [if_pos k2] at h
          cases h
          obtain ⟨M1, a1, b1, c1⟩ := X_numY (lo := 0) (hi := 9999) ht hl k1 ⟨hV.1, k2⟩ (by omega) (by omega)
          obtain ⟨M2, a2, b2, c2⟩ := X_addO (o := 25) (v := V i) b1 (by omega)
          refine ⟨M2, ?_, b2, c1.trans c2⟩
          rw [a1]
          simp only [zbs]
          rw [a2]
          exact zbs _ _
        · rw [if_neg k2] at h
          cases h
          obtain ⟨M1, a1, b1, c1⟩ := X_numB (lo := 0) (hi := 9999) ht hl k1 (by omega) (by omega) (by omega)
          obtain ⟨u, M2, a2, -, b2, c2⟩ := X_addD (o := 25) (v := 0) b1
          refine ⟨M2, ?_, b2, c1.trans c2⟩
          rw [a1]
          simp only [zbs]
          rw [a2]
          exact zbs _ _
      · rw [if_pos k1, X_isName (by omega)]
        simp only [zbs]
        rw [if_neg k1] at h
        by_cases k2 : isNm (K i) = true
        · rw [if_pos k2] at h
          rw [if_pos k2, if_neg zw_1n]
          by_cases k3 : mayNm law (K i) = true
          · rw [if_pos k3] at h
            cases h
            have hlt := ht.lt (i := i) (by
              unfold isNm at k2
              have := of_decide_eq_true k2
              omega)
            obtain ⟨M1, a1, b1, c1⟩ := X_nameY ht hx hlaw hl k2 k3 (by omega)
            refine ⟨M1, ?_, b1, c1⟩
            rw [a1]
            exact zbs _ _
          · rw [if_neg k3] at h
            cases h
            obtain ⟨M1, a1, b1, c1⟩ := X_nameN ht hlaw hl k2 k3
            refine ⟨M1, ?_, b1, c1⟩
            rw [a1]
            exact zbs _ _
        · rw [if_neg k2] at h
          rw [if_neg k2, if_pos zw_0]
          by_cases k3 : K i = 36 ∨ K i = 33 ∨ K i = 17 ∨ K i = 18
          · rw [if_pos k3] at h
            have hlt := ht.lt (i := i) (by omega)
            have key : (if K i = 36 then f_X2_one_j82 (zfixP k') o (K i) M else if K i = 33 then f_X2_one_j82 (zfixP k') o (K i) M else if K i = 17 then f_X2_one_j82 (zfixP k') o (K i) M else if K i = 18 then f_X2_one_j82 (zfixP k') o (K i) M else (f_X2_fail 1 M).bind fun p6 => some p6) = f_X2_one_j82 (zfixP k') o (K i) M := by
              rcases k3 with k3 | k3 | k3 | k3
              · rw [if_pos k3]
              · rw [if_neg (by omega), if_pos k3]
              · rw [if_neg (by omega), if_neg (by omega), if_pos k3]
              · rw [if_neg (by omega), if_neg (by omega), if_neg (by omega), if_pos k3]
            rw [key]
            unfold f_X2_one_j82
            rw [zw_nat (n := o) (by omega)]
            by_cases k4 : o < 8
            · rw [if_pos k4] at h
              rw [if_pos (show (o : Int) < 8 by omega)]
              have hd3 := d3 (o + 1)
              obtain ⟨M1, a1, b1, c1⟩ := X_adv ht hl hlt
              obtain ⟨M2, a2, b2, c2⟩ := (ih 3 (o + 1) i b k' e r M1 h (by omega) hb hei (by omega)).2.1 rfl b1
              refine ⟨M2, ?_, b2, c1.trans c2⟩
              rw [a1]
              simp only [zbs]
              rw [show ((o + 1 : Nat) : Int) = (o : Int) + 1 from rfl] at a2
              rw [a2]
              exact zbs _ _
            · rw [if_neg k4] at h
              cases h
              rw [if_neg (show ¬ (o : Int) < 8 by omega)]
              obtain ⟨M1, a1, b1, c1⟩ := X_fail ht hl (w := 3) (by omega)
              refine ⟨M1, ?_, b1, c1⟩
              rw [a1]
              exact zbs _ _
          · rw [if_neg k3] at h
            cases h
            obtain ⟨M1, a1, b1, c1⟩ := X_fail ht hl (w := 1) (by omega)
            refine ⟨M1, ?_, b1, c1⟩
            rw [if_neg (by omega), if_neg (by omega), if_neg (by omega), if_neg (by omega), a1]
            exact zbs _ _
    | 6, h, hk =>
      rw [zD_6] at h
      refine ⟨fun _ _ hl => ?_, fun z => by omega, fun z => by omega⟩
      have hd6 := d6 o
      obtain ⟨k', rfl⟩ : ∃ k', k = k' + 1 := ⟨k - 1, by omega⟩
      have hK := ht.2.1 i
      have him := hl.2.2.2.2.2.2.1
      rw [zfixP_6]
      unfold f_X2_ask f_X2_ask_j26
      rw [hl.2.2.2.2.2.1, zw_id (z := K i) (by omega) (by omega), zw_nat (n := o) (by omega)]
      by_cases k1 : K i = 24
      · rw [if_pos k1] at h
        rw [if_neg (nn_ k1)]
        have hlt := ht.lt (i := i) (by omega)
        by_cases k2 : o < 8
        · rw [if_pos k2] at h
          rw [if_pos (show (o : Int) < 8 by omega), if_neg (nn_ k1)]
          have hd6' := d6 (o + 1)
          obtain ⟨M1, a1, b1, c1⟩ := X_adv ht hl hlt
          rcases pB_inv h with ⟨w, f, h1, rfl⟩ | ⟨i1, cs1, h1, h2⟩
          · obtain ⟨M2, a2, b2, c2⟩ := (ih 6 (o + 1) (i + 1) b k' e _ M1 h1 (by omega) hb (by omega) (by omega)).1 (by omega) (by omega) b1
            obtain ⟨u, M3, a3, -, b3, c3⟩ := X_addD (o := 24) (v := 0) b2
            obtain ⟨j1, j2⟩ := dd_into hx b2
            refine ⟨M3, ?_, b3, c1.trans (c2.trans c3)⟩
            rw [a1]
            simp only [zbs]
            rw [show ((o + 1 : Nat) : Int) = (o : Int) + 1 from rfl] at a2
            rw [a2]
            simp only [zbs]
            rw [if_pos j1, j2, a3]
            exact zbs _ _
          · cases h2
            obtain ⟨M2, a2, b2, c2⟩ := (ih 6 (o + 1) (i + 1) b k' e _ M1 h1 (by omega) hb (by omega) (by omega)).1 (by omega) (by omega) b1
            obtain ⟨g1, g2, g3, g4⟩ := zD_bd hend n 6 (o + 1) (i + 1) b _ (by omega) h1
            dsimp only at g1 g2 g3 g4
            have b2 : lvX K V Pl m x law M2 i1 (e ++ cs1) := b2
            obtain ⟨M3, a3, b3, c3⟩ := X_addO (o := 24) (v := 0) b2 (by rw [len]; omega)
            obtain ⟨j1, j2⟩ := lv_into hx b2
            refine ⟨M3, ?_, ?_, c1.trans (c2.trans c3)⟩
            · rw [a1]
              simp only [zbs]
              rw [show ((o + 1 : Nat) : Int) = (o : Int) + 1 from rfl] at a2
              rw [a2]
              simp only [zbs]
              rw [if_pos j1, j2, a3]
              exact zbs _ _
            · rw [List.append_assoc] at b3
              exact b3
        · rw [if_neg k2] at h
          cases h
          rw [if_neg (show ¬ (o : Int) < 8 by omega)]
          obtain ⟨M1, a1, b1, c1⟩ := X_fail ht hl (w := 3) (by omega)
          refine ⟨M1, ?_, b1, c1⟩
          rw [a1]
          exact zbs _ _
      · rw [if_neg k1] at h
        rw [if_pos k1, if_pos k1]
        have hd0 := d0 o
        rcases pB_inv h with ⟨w, f, h1, rfl⟩ | ⟨i1, cs1, h1, h2⟩
        · obtain ⟨M2, a2, b2, c2⟩ := (ih 0 o i b k' e _ M h1 ho hb hei (by omega)).1 (by omega) (by omega) hl
          have b2 : ddX Pl x M2 w f := b2
          obtain ⟨M3, a3, b3, c3⟩ := X_failD (w2 := 1) b2
          refine ⟨M3, ?_, b3, c2.trans c3⟩
          rw [a2]
          simp only [zbs]
          rw [b2.2.2.1, zw_id (z := 41) (by omega) (by omega), if_neg (by omega), if_neg (by omega)]
          unfold f_X2_ask_j91
          rw [a3]
          exact zbs _ _
        · obtain ⟨M2, a2, b2, c2⟩ := (ih 0 o i b k' e _ M h1 ho hb hei (by omega)).1 (by omega) (by omega) hl
          obtain ⟨g1, g2, g3, g4⟩ := zD_bd hend n 0 o i b _ him h1
          dsimp only at g1 g2 g3 g4
          have g3 := g3 (by omega)
          have b2 : lvX K V Pl m x law M2 i1 (e ++ cs1) := b2
          have hK1 := ht.2.1 i1
          rw [a2]
          simp only [zbs]
          rw [b2.2.2.2.2.2.1, zw_id (z := K i1) (by omega) (by omega)]
          by_cases k4 : 26 ≤ K i1 ∧ K i1 ≤ 31
          · rw [if_pos k4] at h2
            rw [if_neg (by omega), if_pos k4.2]
            have hlt1 := ht.lt (i := i1) (by omega)
            obtain ⟨M3, a3, b3, c3⟩ := X_adv ht b2 hlt1
            have hl3 : (e ++ cs1).length = b + cs1.length := by rw [len, hb]
            rcases pB_inv h2 with ⟨w, f, h3, rfl⟩ | ⟨i2, cs2, h3, h4⟩
            · obtain ⟨M4, a4, b4, c4⟩ := (ih 0 o (i1 + 1) (b + cs1.length) k' (e ++ cs1) _ M3 h3 ho hl3.symm (by omega) (by omega)).1 (by omega) (by omega) b3
              obtain ⟨u, M5, a5, -, b5, c5⟩ := X_addD (o := K i1) (v := 0) b4
              obtain ⟨j1, j2⟩ := dd_into hx b4
              refine ⟨M5, ?_, b5, c2.trans (c3.trans (c4.trans c5))⟩
              rw [a3]
              simp only [zbs]
              rw [a4]
              simp only [zbs]
              rw [if_pos j1, j2, a5]
              exact zbs _ _
            · cases h4
              obtain ⟨M4, a4, b4, c4⟩ := (ih 0 o (i1 + 1) (b + cs1.length) k' (e ++ cs1) _ M3 h3 ho hl3.symm (by omega) (by omega)).1 (by omega) (by omega) b3
              obtain ⟨f1, f2, f3, f4⟩ := zD_bd hend n 0 o (i1 + 1) _ _ (by omega) h3
              dsimp only at f1 f2 f3 f4
              have b4 : lvX K V Pl m x law M4 i2 (e ++ cs1 ++ cs2) := b4
              obtain ⟨M5, a5, b5, c5⟩ := X_addO (o := K i1) (v := 0) b4 (by rw [len, len]; omega)
              obtain ⟨j1, j2⟩ := lv_into hx b4
              refine ⟨M5, ?_, ?_, c2.trans (c3.trans (c4.trans c5))⟩
              · rw [a3]
                simp only [zbs]
                rw [a4]
                simp only [zbs]
                rw [if_pos j1, j2, a5]
                exact zbs _ _
              · rw [List.append_assoc, List.append_assoc] at b5
                exact b5
          · rw [if_neg k4] at h2
            cases h2
            obtain ⟨M3, a3, b3, c3⟩ := X_fail ht b2 (w := 1) (by omega)
            refine ⟨M3, ?_, b3, c2.trans c3⟩
            unfold f_X2_ask_j91
            by_cases k5 : K i1 < 26
            · rw [if_pos k5, a3]
              exact zbs _ _
            · rw [if_neg k5, if_neg (by omega), a3]
              exact zbs _ _
    | 3, h, hk =>
      rw [zD_3] at h
      refine ⟨fun _ z => absurd rfl z, fun _ hl => ?_, fun z => by omega⟩
      have hd3 := d3 o
      have hd0 := d0 o
      have hd2 := d2 o
      have hd4 := d4 o
      obtain ⟨k', rfl⟩ : ∃ k', k = k' + 1 := ⟨k - 1, by omega⟩
      have hK := ht.2.1 i
      have him := hl.2.2.2.2.2.2.1
      rw [zfixP_3]
      unfold f_X2_opened
      rw [zw_id (z := K i) (by omega) (by omega)]
      by_cases k1 : K i = 36
      · rw [if_pos k1] at h
        rw [if_neg (nn_ k1)]
        rcases pB_inv h with ⟨w, f, h1, rfl⟩ | ⟨i1, cs1, h1, h2⟩
        · obtain ⟨M2, a2, b2, c2⟩ := (ih 0 o (i + 1) b k' e _ M h1 ho hb (by omega) (by omega)).1 (by omega) (by omega) hl
          obtain ⟨M3, a3, b3, c3⟩ := X_expD (k := 37) b2 (by omega)
          refine ⟨M3, ?_, b3, c2.trans c3⟩
          rw [a2]
          simp only [zbs]
          rw [a3]
          exact zbs _ _
        · obtain ⟨M2, a2, b2, c2⟩ := (ih 0 o (i + 1) b k' e _ M h1 ho hb (by omega) (by omega)).1 (by omega) (by omega) hl
          have b2 : lvX K V Pl m x law M2 i1 (e ++ cs1) := b2
          rw [a2]
          simp only [zbs]
          by_cases k2 : K i1 = 37
          · rw [if_pos k2] at h2
            cases h2
            obtain ⟨M3, a3, b3, c3⟩ := X_expY ht b2 k2 (by omega)
            refine ⟨M3, ?_, b3, c2.trans c3⟩
            rw [a3]
            exact zbs _ _
          · rw [if_neg k2] at h2
            cases h2
            obtain ⟨M3, a3, b3, c3⟩ := X_expN ht b2 k2 (by omega)
            refine ⟨M3, ?_, b3, c2.trans c3⟩
            rw [a3]
            exact zbs _ _
      · rw [if_neg k1] at h
        rw [if_pos k1]
        by_cases k2 : K i = 33
        · rw [if_pos k2] at h
          rw [if_neg (nn_ k2)]
          rcases pB_inv h with ⟨w, f, h1, rfl⟩ | ⟨i1, cs1, h1, h2⟩
          · obtain ⟨M2, a2, b2, c2⟩ := (ih 2 o (i + 1) b k' e _ M h1 ho hb (by omega) (by omega)).1 (by omega) (by omega) hl
            obtain ⟨u, M3, a3, -, b3, c3⟩ := X_addD (o := 51) (v := 0) b2
            obtain ⟨j1, j2⟩ := dd_into hx b2
            refine ⟨M3, ?_, b3, c2.trans c3⟩
            rw [a2]
            simp only [zbs]
            rw [if_pos j1, j2, a3]
            exact zbs _ _
          · cases h2
            obtain ⟨M2, a2, b2, c2⟩ := (ih 2 o (i + 1) b k' e _ M h1 ho hb (by omega) (by omega)).1 (by omega) (by omega) hl
            obtain ⟨g1, g2, g3, g4⟩ := zD_bd hend n 2 o (i + 1) b _ him h1
            dsimp only at g1 g2 g3 g4
            have b2 : lvX K V Pl m x law M2 i1 (e ++ cs1) := b2
            obtain ⟨M3, a3, b3, c3⟩ := X_addO (o := 51) (v := 0) b2 (by rw [len]; omega)
            obtain ⟨j1, j2⟩ := lv_into hx b2
            refine ⟨M3, ?_, ?_, c2.trans c3⟩
            · rw [a2]
              simp only [zbs]
              rw [if_pos j1, j2, a3]
              exact zbs _ _
            · rw [List.append_assoc] at b3
              exact b3
        · rw [if_neg k2] at h
          rw [if_pos k2]
          by_cases k3 : K i = 17
          · rw [if_pos k3] at h
            rw [if_neg (nn_ k3)]
            rcases pB_inv h with ⟨w, f, h1, rfl⟩ | ⟨i1, cs1, h1, h2⟩
            · obtain ⟨M2, a2, b2, c2⟩ := (ih 2 o (i + 1) b k' e _ M h1 ho hb (by omega) (by omega)).1 (by omega) (by omega) hl
              obtain ⟨M3, a3, b3, c3⟩ := X_expD (k := 16) b2 (by omega)
              obtain ⟨M4, a4, b4, c4⟩ := X_dead hx k' 2 o 0 0 M3 b3 (by omega) (by omega)
              obtain ⟨u, M5, a5, -, b5, c5⟩ := X_addD (o := 17) (v := 0) b4
              obtain ⟨j1, j2⟩ := dd_into hx b4
              refine ⟨M5, ?_, b5, c2.trans (c3.trans (c4.trans c5))⟩
              rw [a2]
              simp only [zbs]
              rw [a3]
              simp only [zbs]
              rw [a4]
              simp only [zbs]
              rw [if_pos j1, j2, a5]
              exact zbs _ _
            · obtain ⟨M2, a2, b2, c2⟩ := (ih 2 o (i + 1) b k' e _ M h1 ho hb (by omega) (by omega)).1 (by omega) (by omega) hl
              obtain ⟨g1, g2, g3, g4⟩ := zD_bd hend n 2 o (i + 1) b _ him h1
              dsimp only at g1 g2 g3 g4
              have g3 := g3 (by omega)
              have b2 : lvX K V Pl m x law M2 i1 (e ++ cs1) := b2
              have hl3 : (e ++ cs1).length = b + cs1.length := by rw [len, hb]
              rw [a2]
              simp only [zbs]
              by_cases k4 : K i1 = 16
              · rw [if_pos k4] at h2
                have hlt1 := ht.lt (i := i1) (by omega)
                obtain ⟨M3, a3, b3, c3⟩ := X_expY ht b2 k4 (by omega)
                rw [a3]
                simp only [zbs]
                rcases pB_inv h2 with ⟨w, f, h3, rfl⟩ | ⟨i2, cs2, h3, h4⟩
                · obtain ⟨M4, a4, b4, c4⟩ := (ih 2 o (i1 + 1) (b + cs1.length) k' (e ++ cs1) _ M3 h3 ho hl3.symm (by omega) (by omega)).1 (by omega) (by omega) b3
                  obtain ⟨u, M5, a5, -, b5, c5⟩ := X_addD (o := 17) (v := 0) b4
                  obtain ⟨j1, j2⟩ := dd_into hx b4
                  refine ⟨M5, ?_, b5, c2.trans (c3.trans (c4.trans c5))⟩
                  rw [a4]
                  simp only [zbs]
                  rw [if_pos j1, j2, a5]
                  exact zbs _ _
                · cases h4
                  obtain ⟨M4, a4, b4, c4⟩ := (ih 2 o (i1 + 1) (b + cs1.length) k' (e ++ cs1) _ M3 h3 ho hl3.symm (by omega) (by omega)).1 (by omega) (by omega) b3
                  obtain ⟨f1, f2, f3, f4⟩ := zD_bd hend n 2 o (i1 + 1) _ _ (by omega) h3
                  dsimp only at f1 f2 f3 f4
                  have b4 : lvX K V Pl m x law M4 i2 (e ++ cs1 ++ cs2) := b4
                  obtain ⟨M5, a5, b5, c5⟩ := X_addO (o := 17) (v := 0) b4 (by rw [len, len]; omega)
                  obtain ⟨j1, j2⟩ := lv_into hx b4
                  refine ⟨M5, ?_, ?_, c2.trans (c3.trans (c4.trans c5))⟩
                  · rw [a4]
                    simp only [zbs]
                    rw [if_pos j1, j2, a5]
                    exact zbs _ _
                  · rw [List.append_assoc, List.append_assoc] at b5
                    exact b5
              · rw [if_neg k4] at h2
                cases h2
                obtain ⟨M3, a3, b3, c3⟩ := X_expN ht b2 k4 (by omega)
                obtain ⟨M4, a4, b4, c4⟩ := X_dead hx k' 2 o 0 0 M3 b3 (by omega) (by omega)
                obtain ⟨u, M5, a5, -, b5, c5⟩ := X_addD (o := 17) (v := 0) b4
                obtain ⟨j1, j2⟩ := dd_into hx b4
                refine ⟨M5, ?_, b5, c2.trans (c3.trans (c4.trans c5))⟩
                rw [a3]
                simp only [zbs]
                rw [a4]
                simp only [zbs]
                rw [if_pos j1, j2, a5]
                exact zbs _ _
          · rw [if_neg k3] at h
            rw [if_pos k3]
            by_cases k18 : K i = 18
            · rw [if_pos k18] at h
              -- behind a fault, in all that is left
              have dead3 : ∀ (N : zM) (w : Int) (f : Nat) (u : Int), ddX Pl x N w f → -1 ≤ u ∧ u < 300 → ∃ N', ((zfixP k' 0 o 0 0 N).bind fun p8 => (f_X2_expect 21 p8).bind fun p9 => if 0 ≤ p9 37 0 1 ∧ p9 37 0 1 < 4 then (f_X7_leadHere ((p9 37 0 1).toNat) u p9).bind fun p10 => some p10 else none) = some N' ∧ ddX Pl x N' w f ∧ frC x N N' := by
                intro N w f u hd hu
                obtain ⟨M8, a8, b8, c8⟩ := X_dead hx k' 0 o 0 0 N hd (by omega) (by omega)
                obtain ⟨M9, a9, b9, c9⟩ := X_expD (k := 21) b8 (by omega)
                obtain ⟨j7, j8⟩ := dd_into hx b9
                obtain ⟨M10, a10, b10, c10⟩ := X_leadD b9 hu
                refine ⟨M10, ?_, b10, c8.trans (c9.trans c10)⟩
                rw [a8]
                simp only [zbs]
                rw [a9]
                simp only [zbs]
                rw [if_pos j7, j8, a10]
                exact zbs _ _
              have dead2 : ∀ (N : zM) (w : Int) (f : Nat) (u : Int), ddX Pl x N w f → -1 ≤ u ∧ u < 300 → ∃ N', ((f_X2_expect 20 N).bind fun p5 => if 0 ≤ p5 37 0 1 ∧ p5 37 0 1 < 4 then (f_X7_add ((p5 37 0 1).toNat) 20 0 p5).bind fun p6 => if 0 ≤ p6.2 37 0 1 ∧ p6.2 37 0 1 < 4 then (f_X7_leadHere ((p6.2 37 0 1).toNat) u p6.2).bind fun p7 => (zfixP k' 0 o 0 0 p7).bind fun p8 => (f_X2_expect 21 p8).bind fun p9 => if 0 ≤ p9 37 0 1 ∧ p9 37 0 1 < 4 then (f_X7_leadHere ((p9 37 0 1).toNat) p6.1 p9).bind fun p10 => some p10 else none else none else none) = some N' ∧ ddX Pl x N' w f ∧ frC x N N' := by
                intro N w f u hd hu
                obtain ⟨M5, a5, b5, c5⟩ := X_expD (k := 20) hd (by omega)
                obtain ⟨j3, j4⟩ := dd_into hx b5
                obtain ⟨u2, M6, a6, hu2, b6, c6⟩ := X_addD (o := 20) (v := 0) b5
                obtain ⟨j5, j6⟩ := dd_into hx b6
                obtain ⟨M7, a7, b7, c7⟩ := X_leadD b6 hu
                obtain ⟨M8, a8, b8, c8⟩ := dead3 M7 w f u2 b7 hu2
                refine ⟨M8, ?_, b8, c5.trans (c6.trans (c7.trans c8))⟩
                rw [a5]
                simp only [zbs]
                rw [if_pos j3, j4, a6]
                simp only [zbs]
                rw [if_pos j5, j6, a7]
                simp only [zbs]
                exact a8
              have dead1 : ∀ (N : zM) (w : Int) (f : Nat), ddX Pl x N w f → ∃ N', (if 0 ≤ N 37 0 1 ∧ N 37 0 1 < 4 then (f_X7_add ((N 37 0 1).toNat) 19 0 N).bind fun p3 => (zfixP k' 0 o 0 0 p3.2).bind fun p4 => (f_X2_expect 20 p4).bind fun p5 => if 0 ≤ p5 37 0 1 ∧ p5 37 0 1 < 4 then (f_X7_add ((p5 37 0 1).toNat) 20 0 p5).bind fun p6 => if 0 ≤ p6.2 37 0 1 ∧ p6.2 37 0 1 < 4 then (f_X7_leadHere ((p6.2 37 0 1).toNat) p3.1 p6.2).bind fun p7 => (zfixP k' 0 o 0 0 p7).bind fun p8 => (f_X2_expect 21 p8).bind fun p9 => if 0 ≤ p9 37 0 1 ∧ p9 37 0 1 < 4 then (f_X7_leadHere ((p9 37 0 1).toNat) p6.1 p9).bind fun p10 => some p10 else none else none else none else none) = some N' ∧ ddX Pl x N' w f ∧ frC x N N' := by
                intro N w f hd
                obtain ⟨j1, j2⟩ := dd_into hx hd
                obtain ⟨u, M3, a3, hu, b3, c3⟩ := X_addD (o := 19) (v := 0) hd
                obtain ⟨M4, a4, b4, c4⟩ := X_dead hx k' 0 o 0 0 M3 b3 (by omega) (by omega)
                obtain ⟨M8, a8, b8, c8⟩ := dead2 M4 w f u b4 hu
                refine ⟨M8, ?_, b8, c3.trans (c4.trans c8)⟩
                rw [if_pos j1, j2, a3]
                simp only [zbs]
                rw [a4]
                simp only [zbs]
                exact a8
              rcases pB_inv h with ⟨w, f, h1, rfl⟩ | ⟨i1, cs1, h1, h2⟩
              · obtain ⟨M1, a1, b1, c1⟩ := (ih 4 o (i + 1) b k' e _ M h1 ho hb (by omega) (by omega)).1 (by omega) (by omega) hl
                obtain ⟨M2, a2, b2, c2⟩ := X_expD (k := 19) b1 (by omega)
                obtain ⟨M3, a3, b3, c3⟩ := dead1 M2 _ _ b2
                refine ⟨M3, ?_, b3, c1.trans (c2.trans c3)⟩
                rw [a1]
                simp only [zbs]
                rw [a2]
                simp only [zbs]
                exact a3
              · obtain ⟨M1, a1, b1, c1⟩ := (ih 4 o (i + 1) b k' e _ M h1 ho hb (by omega) (by omega)).1 (by omega) (by omega) hl
                obtain ⟨g1, g2, g3, g4⟩ := zD_bd hend n 4 o (i + 1) b _ him h1
                dsimp only at g1 g2 g3 g4
                have g3 := g3 (by omega)
                have b1 : lvX K V Pl m x law M1 i1 (e ++ cs1) := b1
                rw [a1]
                simp only [zbs]
                by_cases k4 : K i1 = 19
                · rw [if_pos k4] at h2
                  have hlt1 := ht.lt (i := i1) (by omega)
                  obtain ⟨M2, a2, b2, c2⟩ := X_expY ht b1 k4 (by omega)
                  obtain ⟨M3, a3, b3, c3⟩ := X_addO (o := 19) (v := 0) b2 (by rw [len]; omega)
                  obtain ⟨j1, j2⟩ := lv_into hx b2
                  have hl3 : (e ++ cs1 ++ [((19 : Int), (0 : Int))]).length = b + cs1.length + 1 := by rw [len, len, hb]; rfl
                  rw [a2]
                  simp only [zbs]
                  rw [if_pos j1, j2, a3]
                  simp only [zbs]
                  rcases pB_inv h2 with ⟨w, f, h3, rfl⟩ | ⟨i2, cs2, h3, h4⟩
                  · obtain ⟨M4, a4, b4, c4⟩ := (ih 0 o (i1 + 1) (b + cs1.length + 1) k' (e ++ cs1 ++ [(19, 0)]) _ M3 h3 ho hl3.symm (by omega) (by omega)).1 (by omega) (by omega) b3
                    obtain ⟨M5, a5, b5, c5⟩ := dead2 M4 _ _ ((e ++ cs1).length : Int) b4 (by rw [len]; omega)
                    refine ⟨M5, ?_, b5, c1.trans (c2.trans (c3.trans (c4.trans c5)))⟩
                    rw [a4]
                    simp only [zbs]
                    exact a5
                  · obtain ⟨M4, a4, b4, c4⟩ := (ih 0 o (i1 + 1) (b + cs1.length + 1) k' (e ++ cs1 ++ [(19, 0)]) _ M3 h3 ho hl3.symm (by omega) (by omega)).1 (by omega) (by omega) b3
                    obtain ⟨f1, f2, f3, f4⟩ := zD_bd hend n 0 o (i1 + 1) _ _ (by omega) h3
                    dsimp only at f1 f2 f3 f4
                    have f3 := f3 (by omega)
                    have b4 : lvX K V Pl m x law M4 i2 (e ++ cs1 ++ [(19, 0)] ++ cs2) := b4
                    rw [a4]
                    simp only [zbs]
                    by_cases k5 : K i2 = 20
                    · rw [if_pos k5] at h4
                      have hlt2 := ht.lt (i := i2) (by omega)
                      obtain ⟨M5, a5, b5, c5⟩ := X_expY ht b4 k5 (by omega)
                      obtain ⟨M6, a6, b6, c6⟩ := X_addO (o := 20) (v := 0) b5 (by rw [len, hl3]; omega)
                      obtain ⟨j3, j4⟩ := lv_into hx b5
                      obtain ⟨j5, j6⟩ := lv_into hx b6
                      have hre : e ++ cs1 ++ [((19 : Int), (0 : Int))] ++ cs2 ++ [((20 : Int), (0 : Int))] = (e ++ cs1) ++ ((19, 0) :: (cs2 ++ [(20, 0)])) := by
                        rw [List.append_assoc, List.append_assoc]; rfl
                      rw [hre] at b6
                      obtain ⟨M7, a7, b7, c7⟩ := X_lead b6
                      have hA : (e ++ cs1).length + 1 + (cs2 ++ [((20 : Int), (0 : Int))]).length = b + cs1.length + 1 + cs2.length + 1 := by rw [len, len, hb]; rfl
                      rw [hA] at b7
                      have hl7 : (e ++ cs1 ++ ((19, ((b + cs1.length + 1 + cs2.length + 1 : Nat) : Int)) :: (cs2 ++ [(20, 0)]))).length = b + cs1.length + 1 + cs2.length + 1 := by
                        rw [len, List.length_cons, ← hA]; omega
                      rw [a5]
                      simp only [zbs]
                      rw [if_pos j3, j4, a6]
                      simp only [zbs]
                      rw [if_pos j5, j6, a7]
                      simp only [zbs]
                      have hu2 : (e ++ cs1 ++ [((19 : Int), (0 : Int))] ++ cs2).length = b + cs1.length + 1 + cs2.length := by rw [len, hl3]
                      rw [hu2]
                      rcases pB_inv h4 with ⟨w, f, h5, rfl⟩ | ⟨i3, cs3, h5, h6⟩
                      · obtain ⟨M8, a8, b8, c8⟩ := (ih 0 o (i2 + 1) (b + cs1.length + 1 + cs2.length + 1) k' _ _ M7 h5 ho hl7.symm (by omega) (by omega)).1 (by omega) (by omega) b7
                        obtain ⟨M9, a9, b9, c9⟩ := X_expD (k := 21) b8 (by omega)
                        obtain ⟨j7, j8⟩ := dd_into hx b9
                        obtain ⟨M10, a10, b10, c10⟩ := X_leadD (u := ((b + cs1.length + 1 + cs2.length : Nat) : Int)) b9 (by omega)
                        refine ⟨M10, ?_, b10, c1.trans (c2.trans (c3.trans (c4.trans (c5.trans (c6.trans (c7.trans (c8.trans (c9.trans c10))))))))⟩
                        rw [a8]
                        simp only [zbs]
                        rw [a9]
                        simp only [zbs]
                        rw [if_pos j7, j8, a10]
                        exact zbs _ _
                      · obtain ⟨M8, a8, b8, c8⟩ := (ih 0 o (i2 + 1) (b + cs1.length + 1 + cs2.length + 1) k' _ _ M7 h5 ho hl7.symm (by omega) (by omega)).1 (by omega) (by omega) b7
                        have b8 : lvX K V Pl m x law M8 i3 (e ++ cs1 ++ ((19, ((b + cs1.length + 1 + cs2.length + 1 : Nat) : Int)) :: (cs2 ++ [(20, 0)])) ++ cs3) := b8
                        rw [a8]
                        simp only [zbs]
                        by_cases k6 : K i3 = 21
                        · rw [if_pos k6] at h6
                          cases h6
                          obtain ⟨M9, a9, b9, c9⟩ := X_expY ht b8 k6 (by omega)
                          obtain ⟨j7, j8⟩ := lv_into hx b9
                          have hre2 : e ++ cs1 ++ ((19, ((b + cs1.length + 1 + cs2.length + 1 : Nat) : Int)) :: (cs2 ++ [(20, 0)])) ++ cs3 = (e ++ cs1 ++ ((19, ((b + cs1.length + 1 + cs2.length + 1 : Nat) : Int)) :: cs2)) ++ ((20, 0) :: cs3) := by
                            simp only [List.append_assoc, List.cons_append, List.nil_append]
                          rw [hre2] at b9
                          obtain ⟨M10, a10, b10, c10⟩ := X_lead b9
                          have hB : (e ++ cs1 ++ ((19, ((b + cs1.length + 1 + cs2.length + 1 : Nat) : Int)) :: cs2)).length = b + cs1.length + 1 + cs2.length := by rw [len, len, List.length_cons, hb]; omega
                          rw [hB] at a10 b10
                          refine ⟨M10, ?_, ?_, c1.trans (c2.trans (c3.trans (c4.trans (c5.trans (c6.trans (c7.trans (c8.trans (c9.trans c10))))))))⟩
                          · rw [a9]
                            simp only [zbs]
                            rw [if_pos j7, j8, a10]
                            exact zbs _ _
                          · have hre3 : (e ++ cs1 ++ ((19, ((b + cs1.length + 1 + cs2.length + 1 : Nat) : Int)) :: cs2)) ++ ((20, ((b + cs1.length + 1 + cs2.length + 1 + cs3.length : Nat) : Int)) :: cs3) = e ++ (cs1 ++ ((19, ((b + cs1.length + 1 + cs2.length + 1 : Nat) : Int)) :: (cs2 ++ ((20, ((b + cs1.length + 1 + cs2.length + 1 + cs3.length : Nat) : Int)) :: cs3)))) := by
                              rw [List.append_assoc, List.append_assoc, List.cons_append]
                            rw [hre3] at b10
                            exact b10
                        · rw [if_neg k6] at h6
                          cases h6
                          obtain ⟨M9, a9, b9, c9⟩ := X_expN ht b8 k6 (by omega)
                          obtain ⟨j7, j8⟩ := dd_into hx b9
                          obtain ⟨M10, a10, b10, c10⟩ := X_leadD (u := ((b + cs1.length + 1 + cs2.length : Nat) : Int)) b9 (by omega)
                          refine ⟨M10, ?_, b10, c1.trans (c2.trans (c3.trans (c4.trans (c5.trans (c6.trans (c7.trans (c8.trans (c9.trans c10))))))))⟩
                          rw [a9]
                          simp only [zbs]
                          rw [if_pos j7, j8, a10]
                          exact zbs _ _
                    · rw [if_neg k5] at h4
                      cases h4
                      -- no 'else'
                      obtain ⟨M5, a5, b5, c5⟩ := X_expN ht b4 k5 (by omega)
                      obtain ⟨j3, j4⟩ := dd_into hx b5
                      obtain ⟨u2, M6, a6, hu2, b6, c6⟩ := X_addD (o := 20) (v := 0) b5
                      obtain ⟨j5, j6⟩ := dd_into hx b6
                      obtain ⟨M7, a7, b7, c7⟩ := X_leadD (u := ((e ++ cs1).length : Int)) b6 (by rw [len]; omega)
                      obtain ⟨M8, a8, b8, c8⟩ := dead3 M7 _ _ u2 b7 hu2
                      refine ⟨M8, ?_, b8, c1.trans (c2.trans (c3.trans (c4.trans (c5.trans (c6.trans (c7.trans c8))))))⟩
                      rw [a5]
                      simp only [zbs]
                      rw [if_pos j3, j4, a6]
                      simp only [zbs]
                      rw [if_pos j5, j6, a7]
                      simp only [zbs]
                      exact a8
                · rw [if_neg k4] at h2
                  cases h2
                  obtain ⟨M2, a2, b2, c2⟩ := X_expN ht b1 k4 (by omega)
                  obtain ⟨M3, a3, b3, c3⟩ := dead1 M2 _ _ b2
                  refine ⟨M3, ?_, b3, c1.trans (c2.trans c3)⟩
                  rw [a2]
                  simp only [zbs]
                  exact a3
            · rw [if_neg k18] at h
              cases h
    | t + 11, h, hk => cases h
