/-! text: the class reads on behind a fault -/
set_option maxRecDepth 8000 in
set_option maxHeartbeats 2000000 in
theorem zlp_z {S E : Type} {body : S → Option (S ⊕ E)} {n : Nat} {s : S} {e : E} (hn : 0 < n) (h : body s = some (.inr e)) : zlp body n s = some e := by
  obtain ⟨m, rfl⟩ : ∃ m, n = m + 1 := ⟨n - 1, by omega⟩
  exact zlp_inr h
set_option maxRecDepth 8000 in
set_option maxHeartbeats 2000000 in
theorem zF_pos : 0 < zF := by unfold zF; omega
set_option maxRecDepth 8000 in
set_option maxHeartbeats 2000000 in
theorem zfixP_0 {k : Nat} {a b c : Int} {M : zM} : zfixP (k + 1) 0 a b c M = f_X2_sum (zfixP k) a M := rfl
set_option maxRecDepth 8000 in
set_option maxHeartbeats 2000000 in
theorem zfixP_1 {k : Nat} {a b c : Int} {M : zM} : zfixP (k + 1) 1 a b c M = f_X2_product (zfixP k) a M := rfl
set_option maxRecDepth 8000 in
set_option maxHeartbeats 2000000 in
theorem zfixP_2 {k : Nat} {a b c : Int} {M : zM} : zfixP (k + 1) 2 a b c M = f_X2_one (zfixP k) a M := rfl
set_option maxRecDepth 8000 in
set_option maxHeartbeats 2000000 in
theorem zfixP_3 {k : Nat} {a b c : Int} {M : zM} : zfixP (k + 1) 3 a b c M = f_X2_opened (zfixP k) a b M := rfl
set_option maxRecDepth 8000 in
set_option maxHeartbeats 2000000 in
theorem zfixP_4 {k : Nat} {a b c : Int} {M : zM} : zfixP (k + 1) 4 a b c M = f_X2_either (zfixP k) a M := rfl
set_option maxRecDepth 8000 in
set_option maxHeartbeats 2000000 in
theorem zfixP_5 {k : Nat} {a b c : Int} {M : zM} : zfixP (k + 1) 5 a b c M = f_X2_both (zfixP k) a M := rfl
set_option maxRecDepth 8000 in
set_option maxHeartbeats 2000000 in
theorem zfixP_6 {k : Nat} {a b c : Int} {M : zM} : zfixP (k + 1) 6 a b c M = f_X2_ask (zfixP k) a M := rfl
set_option maxRecDepth 8000 in
set_option maxHeartbeats 2000000 in
theorem X_isName {v : Int} {M : zM} (h : -1 ≤ v ∧ v ≤ 255) : f_X2_isName v M = some (if isNm v = true then 1 else 0, M) := by
  unfold f_X2_isName f_X2_isName_j12 isNm
  rw [zw_id (by omega) (by omega)]
  by_cases h1 : (10 ≤ v ∧ v ≤ 15) ∨ v = 4 ∨ v = 5
  · rw [if_pos (decide_eq_true h1)]
    (repeat' split) <;> first | rfl | omega
  · rw [if_neg (show ¬ decide _ = true from fun z => h1 (of_decide_eq_true z))]
    (repeat' split) <;> first | rfl | omega
section ZTXE
variable {Pl : Nat → Nat} {x : Nat} {M : zM} {w : Int} {f : Nat}
set_option maxRecDepth 8000 in
set_option maxHeartbeats 2000000 in
theorem dd_into (hx : x < 4) (h : ddX Pl x M w f) : (0 ≤ M 37 0 1 ∧ M 37 0 1 < 4) ∧ (M 37 0 1).toNat = x := by
  rw [h.2.2.2.2.1, Int.toNat_natCast]
  exact ⟨by omega, rfl⟩
set_option maxRecDepth 8000 in
set_option maxHeartbeats 2000000 in
theorem X_sum7D {rec : Nat → Int → Int → Int → zM → Option zM} {a v : Int} (h : ddX Pl x M w f) : f_X2_sum_L7 rec a v M = some (.inr M) := by
  unfold f_X2_sum_L7
  rw [h.2.2.1]
  by_cases h3 : 300 ≤ zw v
  · rw [if_pos h3]
  · rw [if_neg h3, zw_id (z := 41) (by omega) (by omega), if_neg (by omega), if_pos (by omega)]
set_option maxRecDepth 8000 in
set_option maxHeartbeats 2000000 in
theorem X_prod7D {rec : Nat → Int → Int → Int → zM → Option zM} {a v : Int} (h : ddX Pl x M w f) : f_X2_product_L7 rec a v M = some (.inr M) := by
  unfold f_X2_product_L7
  rw [h.2.2.1]
  by_cases h3 : 300 ≤ zw v
  · rw [if_pos h3]
  · rw [if_neg h3, zw_id (z := 41) (by omega) (by omega), if_neg (by omega), if_pos (by omega)]
set_option maxRecDepth 8000 in
set_option maxHeartbeats 2000000 in
theorem X_eith7D {rec : Nat → Int → Int → Int → zM → Option zM} {a v : Int} (h : ddX Pl x M w f) : f_X2_either_L7 rec a v M = some (.inr M) := by
  unfold f_X2_either_L7
  rw [h.2.2.1]
  by_cases h3 : 300 ≤ zw v
  · rw [if_pos h3]
  · rw [if_neg h3, zw_id (z := 41) (by omega) (by omega), if_pos (by omega)]
set_option maxRecDepth 8000 in
set_option maxHeartbeats 2000000 in
theorem X_both7D {rec : Nat → Int → Int → Int → zM → Option zM} {a v : Int} (h : ddX Pl x M w f) : f_X2_both_L7 rec a v M = some (.inr M) := by
  unfold f_X2_both_L7
  rw [h.2.2.1]
  by_cases h3 : 300 ≤ zw v
  · rw [if_pos h3]
  · rw [if_neg h3, zw_id (z := 41) (by omega) (by omega), if_pos (by omega)]
end ZTXE
def dpD (t : Nat) : Nat := if t = 0 then 3 else if t = 1 then 2 else if t = 2 then 1 else if t = 3 then 7 else if t = 4 then 6 else if t = 5 then 5 else 4
set_option maxRecDepth 8000 in
set_option maxHeartbeats 2000000 in
theorem X_dead {Pl : Nat → Nat} {x : Nat} {w : Int} {f : Nat} (hx : x < 4) : ∀ (k t : Nat) (a b c : Int) (M : zM), ddX Pl x M w f → t ≤ 6 → dpD t ≤ k → ∃ M', zfixP k t a b c M = some M' ∧ ddX Pl x M' w f ∧ frC x M M' := by
  have d0 : dpD 0 = 3 := rfl
  have d1 : dpD 1 = 2 := rfl
  have d2 : dpD 2 = 1 := rfl
  have d3 : dpD 3 = 7 := rfl
  have d4 : dpD 4 = 6 := rfl
  have d5 : dpD 5 = 5 := rfl
  have d6 : dpD 6 = 4 := rfl
  have zf := zF_pos
  intro k
  induction k with
  | zero =>
    intro t a b c M h ht hk
    unfold dpD at hk
    (repeat' split at hk) <;> omega
  | succ k ih =>
    intro t a b c M h ht hk
    match t, ht, hk with
    | 0, _, hk =>
      obtain ⟨M1, a1, a2, a3⟩ := ih 1 a 0 0 M h (by omega) (by omega)
      refine ⟨M1, ?_, a2, a3⟩
      rw [zfixP_0]
      unfold f_X2_sum
      rw [a1]
      simp only [zbs]
      rw [zlp_z (e := M1) zf (X_sum7D a2)]
      exact zbs _ _
    | 1, _, hk =>
      obtain ⟨M1, a1, a2, a3⟩ := ih 2 a 0 0 M h (by omega) (by omega)
      refine ⟨M1, ?_, a2, a3⟩
      rw [zfixP_1]
      unfold f_X2_product
      rw [a1]
      simp only [zbs]
      rw [zlp_z (e := M1) zf (X_prod7D a2)]
      exact zbs _ _
    | 4, _, hk =>
      obtain ⟨M1, a1, a2, a3⟩ := ih 5 a 0 0 M h (by omega) (by omega)
      refine ⟨M1, ?_, a2, a3⟩
      rw [zfixP_4]
      unfold f_X2_either
      rw [a1]
      simp only [zbs]
      rw [zlp_z (e := M1) zf (X_eith7D a2)]
      exact zbs _ _
    | 5, _, hk =>
      obtain ⟨M1, a1, a2, a3⟩ := ih 6 a 0 0 M h (by omega) (by omega)
      refine ⟨M1, ?_, a2, a3⟩
      rw [zfixP_5]
      unfold f_X2_both
      rw [a1]
      simp only [zbs]
      rw [zlp_z (e := M1) zf (X_both7D a2)]
      exact zbs _ _
    | 2, _, hk =>
      obtain ⟨M1, a1, a2, a3⟩ := X_failD (w2 := 1) h
      refine ⟨M1, ?_, a2, a3⟩
      rw [zfixP_2]
      unfold f_X2_one
      rw [h.2.2.1, zw_id (z := 41) (by omega) (by omega), if_pos (by omega), X_isName (by omega)]
      simp only [zbs]
      rw [if_neg (show ¬ isNm 41 = true by decide), if_pos zw_0, if_neg (by omega), if_neg (by omega), if_neg (by omega), if_neg (by omega), a1]
      exact zbs _ _
    | 6, _, hk =>
      obtain ⟨M1, a1, b1, c1⟩ := ih 0 a 0 0 M h (by omega) (by omega)
      obtain ⟨M2, a2, b2, c2⟩ := X_failD (w2 := 1) b1
      refine ⟨M2, ?_, b2, c1.trans c2⟩
      rw [zfixP_6]
      unfold f_X2_ask f_X2_ask_j26
      rw [h.2.2.1, zw_id (z := 41) (by omega) (by omega), if_pos (by omega), if_pos (by omega), a1]
      simp only [zbs]
      rw [b1.2.2.1, zw_id (z := 41) (by omega) (by omega), if_neg (by omega), if_neg (by omega)]
      unfold f_X2_ask_j91
      rw [a2]
      exact zbs _ _
    | 3, _, hk =>
      rw [zfixP_3]
      unfold f_X2_opened
      by_cases h36 : zw a = 36
      · rw [if_neg (nn_ h36)]
        obtain ⟨M1, a1, b1, c1⟩ := ih 0 b 0 0 M h (by omega) (by omega)
        obtain ⟨M2, a2, b2, c2⟩ := X_expD (k := 37) b1 (by omega)
        refine ⟨M2, ?_, b2, c1.trans c2⟩
        rw [a1]
        simp only [zbs]
        rw [a2]
        exact zbs _ _
      · rw [if_pos h36]
        by_cases h33 : zw a = 33
        · rw [if_neg (nn_ h33)]
          obtain ⟨M1, a1, b1, c1⟩ := ih 2 b 0 0 M h (by omega) (by omega)
          obtain ⟨u, M2, a2, -, b2, c2⟩ := X_addD (o := 51) (v := 0) b1
          obtain ⟨j1, j2⟩ := dd_into hx b1
          refine ⟨M2, ?_, b2, c1.trans c2⟩
          rw [a1]
          simp only [zbs]
          rw [if_pos j1, j2, a2]
          exact zbs _ _
        · rw [if_pos h33]
          by_cases h17 : zw a = 17
          · rw [if_neg (nn_ h17)]
            obtain ⟨M1, a1, b1, c1⟩ := ih 2 b 0 0 M h (by omega) (by omega)
            obtain ⟨M2, a2, b2, c2⟩ := X_expD (k := 16) b1 (by omega)
            obtain ⟨M3, a3, b3, c3⟩ := ih 2 b 0 0 M2 b2 (by omega) (by omega)
            obtain ⟨u, M4, a4, -, b4, c4⟩ := X_addD (o := 17) (v := 0) b3
            obtain ⟨j1, j2⟩ := dd_into hx b3
            refine ⟨M4, ?_, b4, c1.trans (c2.trans (c3.trans c4))⟩
            rw [a1]
            simp only [zbs]
            rw [a2]
            simp only [zbs]
            rw [a3]
            simp only [zbs]
            rw [if_pos j1, j2, a4]
            exact zbs _ _
          · rw [if_pos h17]
            obtain ⟨M1, a1, b1, c1⟩ := ih 4 b 0 0 M h (by omega) (by omega)
            obtain ⟨M2, a2, b2, c2⟩ := X_expD (k := 19) b1 (by omega)
            obtain ⟨j1, j2⟩ := dd_into hx b2
            obtain ⟨u, M3, a3, hu, b3, c3⟩ := X_addD (o := 19) (v := 0) b2
            obtain ⟨M4, a4, b4, c4⟩ := ih 0 b 0 0 M3 b3 (by omega) (by omega)
            obtain ⟨M5, a5, b5, c5⟩ := X_expD (k := 20) b4 (by omega)
            obtain ⟨j3, j4⟩ := dd_into hx b5
            obtain ⟨u2, M6, a6, hu2, b6, c6⟩ := X_addD (o := 20) (v := 0) b5
            obtain ⟨j5, j6⟩ := dd_into hx b6
            obtain ⟨M7, a7, b7, c7⟩ := X_leadD b6 hu
            obtain ⟨M8, a8, b8, c8⟩ := ih 0 b 0 0 M7 b7 (by omega) (by omega)
            obtain ⟨M9, a9, b9, c9⟩ := X_expD (k := 21) b8 (by omega)
            obtain ⟨j7, j8⟩ := dd_into hx b9
            obtain ⟨M10, a10, b10, c10⟩ := X_leadD b9 hu2
            refine ⟨M10, ?_, b10, c1.trans (c2.trans (c3.trans (c4.trans (c5.trans (c6.trans (c7.trans (c8.trans (c9.trans c10))))))))⟩
            rw [a1]
            simp only [zbs]
            rw [a2]
            simp only [zbs]
            rw [if_pos j1, j2, a3]
            simp only [zbs]
            rw [a4]
            simp only [zbs]
            rw [a5]
            simp only [zbs]
            rw [if_pos j3, j4, a6]
            simp only [zbs]
            rw [if_pos j5, j6, a7]
            simp only [zbs]
            rw [a8]
            simp only [zbs]
            rw [a9]
            simp only [zbs]
            rw [if_pos j7, j8, a10]
            exact zbs _ _
