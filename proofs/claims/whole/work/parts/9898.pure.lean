/-! text: the class reads numbers and names -/
section ZTXF
variable {K V : Nat → Int} {Pl : Nat → Nat} {m x : Nat} {law : Int} {M : zM} {i : Nat} {e : zCd} {w : Int} {f : Nat} {lo hi : Int}
set_option maxRecDepth 8000 in
set_option maxHeartbeats 2000000 in
theorem lv_into (hx : x < 4) (h : lvX K V Pl m x law M i e) : (0 ≤ M 37 0 1 ∧ M 37 0 1 < 4) ∧ (M 37 0 1).toNat = x := by
  rw [h.2.1, Int.toNat_natCast]
  exact ⟨by omega, rfl⟩
set_option maxRecDepth 8000 in
set_option maxHeartbeats 2000000 in
theorem X_numY (ht : tkOK K V Pl m) (h : lvX K V Pl m x law M i e) (hk : K i = 25) (hv : lo ≤ V i ∧ V i ≤ hi) (hlo : 0 ≤ lo ∧ lo ≤ 100) (hhi : 0 ≤ hi ∧ hi ≤ 10000) : ∃ M', f_X2_number lo hi M = some (V i, M') ∧ lvX K V Pl m x law M' (i + 1) e ∧ frC x M M' := by
  obtain ⟨M', a1, a2, a3⟩ := X_adv ht h (ht.lt (by omega))
  have hVb := ht.2.2.2.1 i hk
  have hm := ht.1
  have him := h.2.2.2.2.2.2.1
  have e40 : M 40 0 i = V i := (h.1 i him).2.2 hk
  refine ⟨M', ?_, a2, a3⟩
  unfold f_X2_number
  rw [h.2.2.2.2.1, zw_nat (by omega), zix_nat (by omega), e40, h.2.2.2.2.2.1, hk, zw_id (z := 25) (by omega) (by omega), if_pos (by omega), if_pos rfl, wth_yes hv.1 hv.2 (by omega) (by omega) (by omega)]
  simp only [zbs]
  rw [if_pos zw_1n, a1]
  exact zbs _ _
set_option maxRecDepth 8000 in
set_option maxHeartbeats 2000000 in
theorem X_numB (ht : tkOK K V Pl m) (h : lvX K V Pl m x law M i e) (hk : K i = 25) (hv : ¬ (lo ≤ V i ∧ V i ≤ hi)) (hlo : 0 ≤ lo ∧ lo ≤ 100) (hhi : 0 ≤ hi ∧ hi ≤ 10000) : ∃ M', f_X2_number lo hi M = some (0, M') ∧ ddX Pl x M' 2 i ∧ frC x M M' := by
  obtain ⟨M', a1, a2, a3⟩ := X_fail ht h (w := 2) (by omega)
  have hVb := ht.2.2.2.1 i hk
  have hm := ht.1
  have him := h.2.2.2.2.2.2.1
  have e40 : M 40 0 i = V i := (h.1 i him).2.2 hk
  refine ⟨M', ?_, a2, a3⟩
  unfold f_X2_number
  rw [h.2.2.2.2.1, zw_nat (by omega), zix_nat (by omega), e40, h.2.2.2.2.2.1, hk, zw_id (z := 25) (by omega) (by omega), if_pos (by omega), if_pos rfl, wth_no (by omega) (by omega) (by omega) (by omega)]
  simp only [zbs]
  rw [if_neg (nn_ zw_0), a1]
  exact zbs _ _
set_option maxRecDepth 8000 in
set_option maxHeartbeats 2000000 in
theorem X_numN (ht : tkOK K V Pl m) (h : lvX K V Pl m x law M i e) (hk : K i ≠ 25) : ∃ M', f_X2_number lo hi M = some (0, M') ∧ ddX Pl x M' 1 i ∧ frC x M M' := by
  obtain ⟨M', a1, a2, a3⟩ := X_fail ht h (w := 1) (by omega)
  have hm := ht.1
  have him := h.2.2.2.2.2.2.1
  have hK := ht.2.1 i
  refine ⟨M', ?_, a2, a3⟩
  unfold f_X2_number
  rw [h.2.2.2.2.1, zw_nat (by omega), h.2.2.2.2.2.1, zw_id (z := K i) (by omega) (by omega), if_pos (by omega), if_neg hk, a1]
  exact zbs _ _
set_option maxRecDepth 8000 in
set_option maxHeartbeats 2000000 in
theorem X_numD (h : ddX Pl x M w f) : ∃ M', f_X2_number lo hi M = some (0, M') ∧ ddX Pl x M' w f ∧ frC x M M' := by
  obtain ⟨M', a1, a2, a3⟩ := X_failD (w2 := 1) h
  have h4 := h.2.2.2.1
  refine ⟨M', ?_, a2, a3⟩
  unfold f_X2_number
  rw [zw_id (z := M 38 0 4) (by omega) (by omega), h.2.2.1, if_pos (by omega), zw_id (z := 41) (by omega) (by omega), if_neg (by omega), a1]
  exact zbs _ _
set_option maxRecDepth 8000 in
set_option maxHeartbeats 2000000 in
theorem X_nameY (ht : tkOK K V Pl m) (hx : x < 4) (hlaw : 0 ≤ law ∧ law ≤ 3) (h : lvX K V Pl m x law M i e) (hn : isNm (K i) = true) (hm : mayNm law (K i) = true) (he : e.length < 300) : ∃ M', f_X2_name (K i) M = some M' ∧ lvX K V Pl m x law M' (i + 1) (e ++ [(50, K i)]) ∧ frC x M M' := by
  unfold isNm at hn
  unfold mayNm at hm
  have hn := of_decide_eq_true hn
  have hm := of_decide_eq_true hm
  obtain ⟨M1, a1, b1, c1⟩ := X_addO (o := 50) (v := K i) h he
  obtain ⟨M2, a2, b2, c2⟩ := X_adv ht b1 (ht.lt (by omega))
  obtain ⟨j1, j2⟩ := lv_into hx h
  have key : f_X2_name_j45 (K i) M = some M2 := by
    unfold f_X2_name_j45
    rw [if_pos j1, j2, a1]
    simp only [zbs]
    rw [a2]
    exact zbs _ _
  refine ⟨M2, ?_, b2, c1.trans c2⟩
  unfold f_X2_name f_X2_name_j19 f_X2_name_j23 f_X2_name_j24
  rw [h.2.2.1, zw_id (z := K i) (by omega) (by omega), zw_id (z := law) (by omega) (by omega)]
  by_cases h15 : K i = 15
  · rw [if_pos h15, if_neg zw_1n, if_pos (show law = 3 by omega)]; exact key
  · rw [if_neg h15]
    by_cases h5 : K i = 5
    · rw [if_neg (nn_ h5)]
      by_cases h2 : law = 2
      · rw [if_pos h2, if_pos zw_0]; exact key
      · rw [if_neg h2, if_neg zw_1n, if_pos (show law = 3 by omega)]; exact key
    · rw [if_pos h5, if_pos zw_0]; exact key
set_option maxRecDepth 8000 in
set_option maxHeartbeats 2000000 in
theorem X_nameN (ht : tkOK K V Pl m) (hlaw : 0 ≤ law ∧ law ≤ 3) (h : lvX K V Pl m x law M i e) (hn : isNm (K i) = true) (hm : ¬ mayNm law (K i) = true) : ∃ M', f_X2_name (K i) M = some M' ∧ ddX Pl x M' 5 i ∧ frC x M M' := by
  unfold isNm at hn
  unfold mayNm at hm
  rw [decide_eq_true_eq] at hm
  have hn := of_decide_eq_true hn
  obtain ⟨M1, a1, b1, c1⟩ := X_fail ht h (w := 5) (by omega)
  refine ⟨M1, ?_, b1, c1⟩
  unfold f_X2_name f_X2_name_j19 f_X2_name_j23 f_X2_name_j24
  rw [h.2.2.1, zw_id (z := K i) (by omega) (by omega), zw_id (z := law) (by omega) (by omega)]
  by_cases h15 : K i = 15
  · rw [if_pos h15, if_neg zw_1n, if_neg (show ¬ law = 3 by omega), a1]; exact zbs _ _
  · rw [if_neg h15, if_neg (nn_ (show K i = 5 by omega)), if_neg (show ¬ law = 2 by omega), if_neg zw_1n, if_neg (show ¬ law = 3 by omega), a1]
    exact zbs _ _
end ZTXF
/-! the descent, as the class does it -/
def dpX (t o : Nat) : Nat := (if t = 0 then 3 else if t = 1 ∨ t = 7 then 2 else if t = 2 ∨ t = 8 then 1 else if t = 3 then 7 else if t = 4 then 6 else if t = 5 ∨ t = 9 then 5 else 4) + 8 * (8 - o)
def lpB (t k : Nat) (a : Int) : Int × zM → Option ((Int × zM) ⊕ zM) := if t = 7 then (fun s : Int × zM => f_X2_sum_L7 (zfixP k) a s.1 s.2) else if t = 8 then (fun s : Int × zM => f_X2_product_L7 (zfixP k) a s.1 s.2) else if t = 9 then (fun s : Int × zM => f_X2_either_L7 (zfixP k) a s.1 s.2) else (fun s : Int × zM => f_X2_both_L7 (zfixP k) a s.1 s.2)
set_option maxRecDepth 8000 in
set_option maxHeartbeats 2000000 in
theorem lpB_7 {k : Nat} {a : Int} : lpB 7 k a = (fun s : Int × zM => f_X2_sum_L7 (zfixP k) a s.1 s.2) := if_pos rfl
set_option maxRecDepth 8000 in
set_option maxHeartbeats 2000000 in
theorem lpB_8 {k : Nat} {a : Int} : lpB 8 k a = (fun s : Int × zM => f_X2_product_L7 (zfixP k) a s.1 s.2) := by
  unfold lpB
  rw [if_neg (by decide), if_pos rfl]
set_option maxRecDepth 8000 in
set_option maxHeartbeats 2000000 in
theorem lpB_9 {k : Nat} {a : Int} : lpB 9 k a = (fun s : Int × zM => f_X2_either_L7 (zfixP k) a s.1 s.2) := by
  unfold lpB
  rw [if_neg (by decide), if_neg (by decide), if_pos rfl]
set_option maxRecDepth 8000 in
set_option maxHeartbeats 2000000 in
theorem lpB_10 {k : Nat} {a : Int} : lpB 10 k a = (fun s : Int × zM => f_X2_both_L7 (zfixP k) a s.1 s.2) := by
  unfold lpB
  rw [if_neg (by decide), if_neg (by decide), if_neg (by decide)]
set_option maxRecDepth 8000 in
set_option maxHeartbeats 2000000 in
theorem lpB_dd {t k : Nat} {a : Int} {Pl : Nat → Nat} {x : Nat} {M : zM} {w : Int} {f : Nat} {v : Int} (h : ddX Pl x M w f) : lpB t k a (v, M) = some (.inr M) := by
  unfold lpB
  (repeat' split)
  · exact X_sum7D h
  · exact X_prod7D h
  · exact X_eith7D h
  · exact X_both7D h
/-- a turn of a loop -/
def lpGo (rec : Nat → Int → Int → Int → zM → Option zM) (s : Nat) (a op v : Int) (M : zM) : Option ((Int × zM) ⊕ zM) := (f_X4_advance M).bind fun p2 => (rec s a 0 0 p2).bind fun p3 => if 0 ≤ p3 37 0 1 ∧ p3 37 0 1 < 4 then (f_X7_add ((p3 37 0 1).toNat) op 0 p3).bind fun p4 => some (.inl ((v + 1), p4.2)) else none
def outX (K V : Nat → Int) (Pl : Nat → Nat) (m x : Nat) (law : Int) (e : zCd) (r : (Int × Nat) ⊕ (Nat × zCd)) (M : zM) : Prop := match r with
  | .inl q => ddX Pl x M q.1 q.2
  | .inr q => lvX K V Pl m x law M q.1 (e ++ q.2)
def dsX (K V : Nat → Int) (Pl : Nat → Nat) (m x : Nat) (law : Int) (k t o i : Nat) (e : zCd) (r : (Int × Nat) ⊕ (Nat × zCd)) (M : zM) : Prop :=
  (t ≤ 6 → t ≠ 3 → lvX K V Pl m x law M i e → ∃ M', zfixP k t o 0 0 M = some M' ∧ outX K V Pl m x law e r M' ∧ frC x M M') ∧
  (t = 3 → lvX K V Pl m x law M (i + 1) e → ∃ M', zfixP k 3 (K i) o 0 M = some M' ∧ outX K V Pl m x law e r M' ∧ frC x M M') ∧
  (7 ≤ t → lvX K V Pl m x law M i e → ∀ v fuel : Nat, v ≤ i → m - i < fuel → ∃ M', zlp (lpB t k o) fuel ((v : Int), M) = some M' ∧ outX K V Pl m x law e r M' ∧ frC x M M')
set_option maxRecDepth 8000 in
set_option maxHeartbeats 2000000 in
theorem lp_no {K V : Nat → Int} {Pl : Nat → Nat} {m x : Nat} {law : Int} {M : zM} {i : Nat} {e : zCd} {t k : Nat} {a : Int} {v : Nat} (ht : tkOK K V Pl m) (h : lvX K V Pl m x law M i e) (h7 : 7 ≤ t) (h10 : t ≤ 10) (hn : ¬ (t = 7 ∧ (K i = 32 ∨ K i = 33)) ∧ ¬ (t = 8 ∧ (K i = 34 ∨ K i = 35)) ∧ ¬ (t = 9 ∧ K i = 22) ∧ ¬ (t = 10 ∧ K i = 23)) : lpB t k a ((v : Int), M) = some (.inr M) := by
  have hK := ht.2.1 i
  have h4 : t = 7 ∨ t = 8 ∨ t = 9 ∨ t = 10 := by omega
  rcases h4 with rfl | rfl | rfl | rfl
  · rw [lpB_7]
    dsimp only
    unfold f_X2_sum_L7
    rw [h.2.2.2.2.2.1, zw_id (z := K i) (by omega) (by omega)]
    by_cases h3 : 300 ≤ zw (v : Int)
    · rw [if_pos h3]
    · rw [if_neg h3, if_neg (by omega), if_pos (by omega)]
  · rw [lpB_8]
    dsimp only
    unfold f_X2_product_L7
    rw [h.2.2.2.2.2.1, zw_id (z := K i) (by omega) (by omega)]
    by_cases h3 : 300 ≤ zw (v : Int)
    · rw [if_pos h3]
    · rw [if_neg h3, if_neg (by omega), if_pos (by omega)]
  · rw [lpB_9]
    dsimp only
    unfold f_X2_either_L7
    rw [h.2.2.2.2.2.1, zw_id (z := K i) (by omega) (by omega)]
    by_cases h3 : 300 ≤ zw (v : Int)
    · rw [if_pos h3]
    · rw [if_neg h3, if_pos (by omega)]
  · rw [lpB_10]
    dsimp only
    unfold f_X2_both_L7
    rw [h.2.2.2.2.2.1, zw_id (z := K i) (by omega) (by omega)]
    by_cases h3 : 300 ≤ zw (v : Int)
    · rw [if_pos h3]
    · rw [if_neg h3, if_pos (by omega)]
set_option maxRecDepth 8000 in
set_option maxHeartbeats 2000000 in
theorem lp_go {K V : Nat → Int} {Pl : Nat → Nat} {m x : Nat} {law : Int} {M : zM} {i : Nat} {e : zCd} {t s k : Nat} {a : Int} {v : Nat} (h : lvX K V Pl m x law M i e) (hv : v < 300) (hn : (t = 7 ∧ s = 1 ∧ (K i = 32 ∨ K i = 33)) ∨ (t = 8 ∧ s = 2 ∧ (K i = 34 ∨ K i = 35)) ∨ (t = 9 ∧ s = 5 ∧ K i = 22) ∨ (t = 10 ∧ s = 6 ∧ K i = 23)) : lpB t k a ((v : Int), M) = lpGo (zfixP k) s a (K i) v M := by
  rcases hn with ⟨rfl, rfl, hk⟩ | ⟨rfl, rfl, hk⟩ | ⟨rfl, rfl, hk⟩ | ⟨rfl, rfl, hk⟩
  · rw [lpB_7]
    dsimp only
    unfold f_X2_sum_L7 f_X2_sum_j38 lpGo
    rw [h.2.2.2.2.2.1, zw_nat (by omega), zw_id (z := K i) (by omega) (by omega), if_neg (by omega)]
    rcases hk with hk | hk
    · rw [if_pos hk]
    · rw [if_neg (by omega), if_neg (nn_ hk)]
  · rw [lpB_8]
    dsimp only
    unfold f_X2_product_L7 f_X2_product_j38 lpGo
    rw [h.2.2.2.2.2.1, zw_nat (by omega), zw_id (z := K i) (by omega) (by omega), if_neg (by omega)]
    rcases hk with hk | hk
    · rw [if_pos hk]
    · rw [if_neg (by omega), if_neg (nn_ hk)]
  · rw [lpB_9]
    dsimp only
    unfold f_X2_either_L7 lpGo
    rw [h.2.2.2.2.2.1, zw_nat (by omega), hk, if_neg (by omega), if_neg (nn_ (by decide))]
  · rw [lpB_10]
    dsimp only
    unfold f_X2_both_L7 lpGo
    rw [h.2.2.2.2.2.1, zw_nat (by omega), hk, if_neg (by omega), if_neg (nn_ (by decide))]
