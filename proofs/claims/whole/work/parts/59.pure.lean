/-! laws: the reference's side -/
set_option maxRecDepth 8000 in
set_option maxHeartbeats 300000 in
theorem sLaw_no {T : Nat → Nat → Option zLw} {A w : Nat → Int} {t k : Nat} {pe : Int} (h : sRaw T A w t k pe = none) : sLaw T A w t k pe = if k = 0 then 1 else if k = 1 then 9 else if k = 2 then w (30 + t) else w (6 + t) := by
  unfold sLaw
  rw [h]
set_option maxRecDepth 8000 in
set_option maxHeartbeats 300000 in
theorem sLaw_yes {T : Nat → Nat → Option zLw} {A w : Nat → Int} {t k : Nat} {pe v : Int} (h : sRaw T A w t k pe = some v) : sLaw T A w t k pe = if k = 0 then clp v (-99) 99 else if k = 1 then clp v 0 9999 else if k = 2 then clp v 0 (A 0 - 1) else clp v (-9999) 9999 := by
  unfold sLaw
  rw [h]
set_option maxRecDepth 8000 in
set_option maxHeartbeats 300000 in
theorem R_orders_no {M : zM} {A : Nat → Int} {k : Nat} (hM : M 43 0 = A) (hA : headOK A) (h : A 4 < 0) : f_X11_ordersOf k M = some (-1, M) := by
  have a1 := hA.txt
  have a2 := hA.txs
  unfold f_X11_ordersOf
  have key : zlp (fun s : Int × Int => f_X11_ordersOf_L4 k s.1 s.2 M) zF ((-1), 0) = some (-1) := by
    refine zlp_fun (body := fun s : Int × Int => f_X11_ordersOf_L4 k s.1 s.2 M) (fun _ => ((-1 : Int), (0 : Int))) 0 (-1) (fun i hi => by omega) ?_ (by unfold zF; omega)
    unfold f_X11_ordersOf_L4
    dsimp only
    simp only [hM]
    rw [zw_id (z := A 4) (by omega) (by omega), if_pos (by omega)]
  rw [key]
  rfl
set_option maxRecDepth 8000 in
set_option maxHeartbeats 300000 in
theorem R_orders {M : zM} {A : Nat → Int} {k x : Nat} {a_ : Int} (hM : M 43 0 = A) (hA : headOK A) (hx : A 4 = x) (hcl : 0 ≤ M 46 0 x ∧ M 46 0 x ≤ 24) (hwd : ∀ cl : Nat, (cl : Int) < M 46 0 x → 0 ≤ M 47 0 (24 * x + cl) ∧ M 47 0 (24 * x + cl) ≤ 10) (hk : k < 4) (g : Nat → Int) (g0 : g 0 = -1) (gs : ∀ cl : Nat, (cl : Int) < M 46 0 x → g (cl + 1) = if M 47 0 (24 * x + cl) = k then M 48 0 (24 * x + cl) else g cl) (ge : g (M 46 0 x).toNat = a_) : f_X11_ordersOf k M = some (a_, M) := by
  have a1 := hA.txt
  have a2 := hA.txs
  unfold f_X11_ordersOf
  have ex : zix (x : Int) = x := zix_nat (by omega)
  have key : zlp (fun s : Int × Int => f_X11_ordersOf_L4 k s.1 s.2 M) zF ((-1), 0) = some a_ := by
    rw [← g0]
    refine zlp_fun (body := fun s : Int × Int => f_X11_ordersOf_L4 k s.1 s.2 M) (fun i => (g i, (i : Int))) (M 46 0 x).toNat a_ (fun i hi => ?_) ?_ (by unfold zF; omega)
    · have h1 := hwd i (by omega)
      have ey : zix (24 * (x : Int) + (i : Int)) = 24 * x + i := zix_id (by omega) (by omega)
      unfold f_X11_ordersOf_L4 f_X11_ordersOf_j64
      dsimp only
      simp only [hM, hx]
      simp (disch := omega) only [if_true, if_false, true_or, or_true, true_and, and_true, not_true_eq_false, not_false_eq_true, zw_id, if_neg, if_pos, ex, ey]
      rw [gs i (by omega)]
      by_cases hq : M 47 0 (24 * x + i) = k
      · rw [if_neg (fun z => z hq), if_pos hq]; rfl
      · rw [if_pos hq, if_neg hq]; rfl
    · unfold f_X11_ordersOf_L4
      dsimp only
      simp only [hM, hx]
      simp (disch := omega) only [if_true, if_false, true_or, or_true, true_and, and_true, not_true_eq_false, not_false_eq_true, zw_id, if_neg, if_pos, ex, ge]
  rw [key]
  rfl
set_option maxRecDepth 8000 in
set_option maxHeartbeats 300000 in
theorem R_orders_none {M : zM} {A : Nat → Int} {k x : Nat} (hM : M 43 0 = A) (hA : headOK A) (hx : A 4 = x) {T : Nat → Option zLw} (hT : textOK M x T) (hk : k < 4) (h : lawNo M x k) : f_X11_ordersOf k M = some (-1, M) := by
  have hc := hT.cls
  refine R_orders hM hA hx hc (fun cl hcl => ?_) hk (fun _ => -1) rfl (fun cl hcl => ?_) rfl
  · have := hT.word cl hcl
    omega
  · rw [if_neg (h.2 cl hcl)]
set_option maxRecDepth 8000 in
set_option maxHeartbeats 300000 in
theorem R_orders_some {M : zM} {A : Nat → Int} {k x : Nat} (hM : M 43 0 = A) (hA : headOK A) (hx : A 4 = x) {T : Nat → Option zLw} (hT : textOK M x T) (hk : k < 4) {cl : Nat} (h1 : (cl : Int) < M 46 0 x) (h2 : M 47 0 (24 * x + cl) = k) (h3 : ∀ cl' : Nat, (cl' : Int) < M 46 0 x → M 47 0 (24 * x + cl') = k → cl' = cl) : f_X11_ordersOf k M = some (M 48 0 (24 * x + cl), M) := by
  have hc := hT.cls
  refine R_orders hM hA hx hc (fun cl hcl => ?_) hk (fun i => if cl < i then M 48 0 (24 * x + cl) else -1) (if_neg (by omega)) (fun cl' hcl => ?_) (if_pos (by omega))
  · have := hT.word cl hcl
    omega
  · by_cases hq : M 47 0 (24 * x + cl') = k
    · have := h3 cl' hcl hq
      subst this
      rw [if_pos hq, if_pos (by omega)]
    · rw [if_neg hq]
      have : cl' ≠ cl := fun z => hq (by rw [z]; exact h2)
      by_cases h4 : cl < cl'
      · rw [if_pos h4, if_pos (by omega)]
      · rw [if_neg h4, if_neg (by omega)]
set_option maxRecDepth 8000 in
set_option maxHeartbeats 300000 in
/-- the names of a thing -/
theorem R_names {M : zM} {A w : Nat → Int} {t : Nat} (hM : M 43 0 = A) (hW : M 68 0 = w) (ht : t < 8) : ∃ M', f_X11_names t M = some M' ∧ (∀ k i, k ≠ 66 → M' k i = M k i) ∧ M' 66 0 0 = w 38 ∧ M' 66 0 1 = w 38 - w (22 + t) ∧ M' 66 0 2 = w (6 + t) ∧ M' 66 0 3 = A (24 + t) ∧ M' 66 0 4 = A (16 + t) ∧ M' 66 0 5 = w (30 + t) ∧ M' 66 0 6 = t := by
  unfold f_X11_names
  simp (disch := omega) only [if_true, if_false, true_or, or_true, true_and, and_true, not_true_eq_false, not_false_eq_true, zlt_, zw_id, if_pos, zi22, zi6, zi24, zi16, zi30, zput_k, hM, hW]
  refine ⟨_, rfl, fun k i hk => ?_, ?_, ?_, ?_, ?_, ?_, ?_, ?_⟩
  · simp (disch := omega) only [if_true, if_false, true_or, or_true, true_and, and_true, not_true_eq_false, not_false_eq_true, zput_rowk]
  all_goals simp (disch := omega) only [if_true, if_false, true_or, or_true, true_and, and_true, not_true_eq_false, not_false_eq_true, zput_j, zput_eq]
set_option maxRecDepth 8000 in
set_option maxHeartbeats 300000 in
/-- a law out of the reference's orders, its names being laid -/
theorem RR_law {M : zM} {T : Nat → Nat → Option zLw} {A w : Nat → Int} {t k : Nat} {pe : Int} (hM : M 43 0 = A) (hW : M 68 0 = w) (hA : headOK A) (hw : rowOK A w) (hT : textsOK M (A 3) T) (ht : (t : Int) < A 1) (hkp : w (14 + t) = -1) (hk : k < 4) (hpe : -1000000 ≤ pe ∧ pe ≤ 1000000) : (sRaw T A w t k pe = none ∧ f_X11_ordersOf k M = some (-1, M)) ∨ ∃ (v a_ : Int), sRaw T A w t k pe = some v ∧ (-1000000 ≤ v ∧ v ≤ 1000000) ∧ f_X11_ordersOf k M = some (a_, M) ∧ 0 ≤ a_ ∧ a_ < 1600 ∧ ∀ N : zM, (∀ k i, k ≠ 66 → N k i = M k i) → (N 66 0 0 = w 38 ∧ N 66 0 1 = w 38 - w (22 + t) ∧ N 66 0 2 = w (6 + t) ∧ N 66 0 3 = A (24 + t) ∧ N 66 0 4 = A (16 + t) ∧ N 66 0 5 = w (30 + t) ∧ N 66 0 6 = t) → (k = 3 → N 66 0 7 = pe) → ∃ M', f_X11_saysOf a_ N = some (v, M') ∧ ∀ k i, k ≠ 66 → k ≠ 67 → M' k i = M k i := by
  have a1 := hA.txt
  have a2 := hA.txs
  by_cases h4 : A 4 < 0
  · exact Or.inl ⟨by unfold sRaw; rw [if_pos h4], R_orders_no hM hA h4⟩
  · obtain ⟨x, hx⟩ := Int.eq_ofNat_of_zero_le (show 0 ≤ A 4 by omega)
    have hxt := hT x (by omega)
    cases hTk : T x k with
    | none => exact Or.inl ⟨by unfold sRaw; rw [if_neg h4, hx, Int.toNat_natCast, hTk]; rfl, R_orders_none hM hA hx hxt hk (hxt.no k hk hTk)⟩
    | some f =>
      have hl := hxt.has k f hk hTk
      have hge := sEnv_good hA hw ht hkp hpe
      have hl2 := hl
      obtain ⟨c, p, q, at_, cl, ⟨g1, g2, g3, g4, g5⟩, g6, g7, g8, g9⟩ := hl2
      refine Or.inr ⟨f (sEnv A w t pe), at_, by unfold sRaw; rw [if_neg h4, hx, Int.toNat_natCast, hTk]; rfl, hl.bd hge, ?_, by omega, by omega, fun N hN hn h7 => ?_⟩
      · rw [R_orders_some hM hA hx hxt hk g7.1 g7.2.1 g8, g7.2.2]
      · have hNT := hT.frame (M' := N) (fun k i hk => hN k i (by unfold txK at hk; omega))
        have hlN := (hNT x (by omega)).has k f hk hTk
        obtain ⟨M', e1, e2⟩ := R_saysOf (M := N) (a_ := at_) hlN ⟨by rw [hN 46 0 (by omega)]; exact g7.1, by rw [hN 47 0 (by omega)]; exact g7.2.1⟩ (by rw [hN 48 0 (by omega)]; exact g7.2.2.symm) hge (fun v hv => by
          unfold okName at hv
          rw [Bool.or_eq_true, Bool.and_eq_true, decide_eq_true_eq, decide_eq_true_eq, decide_eq_true_eq] at hv
          have hv6 : v = 4 ∨ v = 5 ∨ v = 10 ∨ v = 11 ∨ v = 12 ∨ v = 13 ∨ v = 14 ∨ (v = 15 ∧ k = 3) := by omega
          obtain ⟨n0, n1, n2, n3, n4, n5, n6⟩ := hn
          rcases hv6 with rfl | rfl | rfl | rfl | rfl | rfl | rfl | ⟨rfl, hk3⟩
          · exact n4
          · exact n6
          · exact n0
          · exact n1
          · exact n2
          · exact n3
          · exact n5
          · exact h7 hk3)
        exact ⟨M', e1, fun k i h66 h67 => by rw [e2 k i h67]; exact hN k i h66⟩
set_option maxRecDepth 8000 in
set_option maxHeartbeats 300000 in
theorem R_dears {M : zM} {T : Nat → Nat → Option zLw} {A w : Nat → Int} {t : Nat} (hM : M 43 0 = A) (hW : M 68 0 = w) (hA : headOK A) (hw : rowOK A w) (hT : textsOK M (A 3) T) (ht : (t : Int) < A 1) (hkp : w (14 + t) = -1) : ∃ M', f_X11_dearsOf t M = some (sLaw T A w t 0 0, M') ∧ ∀ k i, k ≠ 66 → k ≠ 67 → M' k i = M k i := by
  have h0 := hA.thg
  obtain ⟨N, n1, n2, n3⟩ := R_names hM hW (t := t) (by omega)
  unfold f_X11_dearsOf
  rcases RR_law hM hW hA hw hT ht hkp (k := 0) (pe := 0) (by omega) (by omega) with ⟨r1, r2⟩ | ⟨v, a_, r1, r2, r3, r4, r5, r6⟩
  · rw [sLaw_no r1, if_pos rfl, show f_X11_ordersOf 0 M = some (-1, M) from r2]
    simp (disch := omega) only [if_true, if_false, true_or, or_true, true_and, and_true, not_true_eq_false, not_false_eq_true, zbs, n1, zw_id, not_true_eq_false, if_false]
    exact ⟨N, rfl, fun k i h66 _ => n2 k i h66⟩
  · obtain ⟨M', e1, e2⟩ := r6 N n2 n3 (fun h => by omega)
    rw [sLaw_yes r1, if_pos rfl, show f_X11_ordersOf 0 M = some (a_, M) from r3]
    simp (disch := omega) only [if_true, if_false, true_or, or_true, true_and, and_true, not_true_eq_false, not_false_eq_true, zbs, n1, zw_id, if_pos, e1, R_held]
    exact ⟨M', rfl, e2⟩
set_option maxRecDepth 8000 in
set_option maxHeartbeats 300000 in
theorem R_after {M : zM} {T : Nat → Nat → Option zLw} {A w : Nat → Int} {t : Nat} (hM : M 43 0 = A) (hW : M 68 0 = w) (hA : headOK A) (hw : rowOK A w) (hT : textsOK M (A 3) T) (ht : (t : Int) < A 1) (hkp : w (14 + t) = -1) : ∃ M', f_X11_afterOf t M = some (sLaw T A w t 1 0, M') ∧ ∀ k i, k ≠ 66 → k ≠ 67 → M' k i = M k i := by
  have h0 := hA.thg
  obtain ⟨N, n1, n2, n3⟩ := R_names hM hW (t := t) (by omega)
  unfold f_X11_afterOf
  rcases RR_law hM hW hA hw hT ht hkp (k := 1) (pe := 0) (by omega) (by omega) with ⟨r1, r2⟩ | ⟨v, a_, r1, r2, r3, r4, r5, r6⟩
  · rw [sLaw_no r1, if_neg (by decide), if_pos rfl, show f_X11_ordersOf 1 M = some (-1, M) from r2]
    simp (disch := omega) only [if_true, if_false, true_or, or_true, true_and, and_true, not_true_eq_false, not_false_eq_true, zbs, n1, zw_id, not_true_eq_false, if_false]
    exact ⟨N, rfl, fun k i h66 _ => n2 k i h66⟩
  · obtain ⟨M', e1, e2⟩ := r6 N n2 n3 (fun h => by omega)
    rw [sLaw_yes r1, if_neg (by decide), if_pos rfl, show f_X11_ordersOf 1 M = some (a_, M) from r3]
    simp (disch := omega) only [if_true, if_false, true_or, or_true, true_and, and_true, not_true_eq_false, not_false_eq_true, zbs, n1, zw_id, if_pos, e1, R_held]
    exact ⟨M', rfl, e2⟩
set_option maxRecDepth 8000 in
set_option maxHeartbeats 300000 in
theorem R_to {M : zM} {T : Nat → Nat → Option zLw} {A w : Nat → Int} {t : Nat} (hM : M 43 0 = A) (hW : M 68 0 = w) (hA : headOK A) (hw : rowOK A w) (hT : textsOK M (A 3) T) (ht : (t : Int) < A 1) (hkp : w (14 + t) = -1) : ∃ M', f_X11_toOf t M = some (sLaw T A w t 2 0, M') ∧ ∀ k i, k ≠ 66 → k ≠ 67 → M' k i = M k i := by
  have h0 := hA.thg
  have h1 := hA.own
  have hs := hA.some_
  obtain ⟨N, n1, n2, n3⟩ := R_names hM hW (t := t) (by omega)
  unfold f_X11_toOf
  rcases RR_law hM hW hA hw hT ht hkp (k := 2) (pe := 0) (by omega) (by omega) with ⟨r1, r2⟩ | ⟨v, a_, r1, r2, r3, r4, r5, r6⟩
  · rw [sLaw_no r1, if_neg (by decide), if_neg (by decide), if_pos rfl, show f_X11_ordersOf 2 M = some (-1, M) from r2]
    simp (disch := omega) only [if_true, if_false, true_or, or_true, true_and, and_true, not_true_eq_false, not_false_eq_true, zbs, n1, zw_id, not_true_eq_false, if_false, if_pos, zi30, n2, hW]
    exact ⟨N, rfl, fun k i h66 _ => n2 k i h66⟩
  · obtain ⟨M', e1, e2⟩ := r6 N n2 n3 (fun h => by omega)
    have e3 : M' 43 0 = A := by rw [e2 43 0 (by omega) (by omega)]; exact hM
    rw [sLaw_yes r1, if_neg (by decide), if_neg (by decide), if_pos rfl, show f_X11_ordersOf 2 M = some (a_, M) from r3]
    simp (disch := omega) only [if_true, if_false, true_or, or_true, true_and, and_true, not_true_eq_false, not_false_eq_true, zbs, n1, zw_id, if_pos, e1, e3, R_held]
    exact ⟨M', rfl, e2⟩
set_option maxRecDepth 8000 in
set_option maxHeartbeats 300000 in
theorem sTo_le {T : Nat → Nat → Option zLw} {A w : Nat → Int} {t : Nat} {pe : Int} (hA : headOK A) (hw : rowOK A w) (ht : (t : Int) < A 1) (hkp : w (14 + t) = -1) : 0 ≤ sLaw T A w t 2 pe ∧ sLaw T A w t 2 pe < A 0 := by
  have h0 := hA.thg
  have hs := hA.some_
  have h3 := hw.kept t ht hkp
  unfold sLaw
  cases sRaw T A w t 2 pe with
  | none => simp (decide := true) only [if_true, if_false]; omega
  | some v =>
    simp (decide := true) only [if_true, if_false]
    have := clp_le (v := v) (lo := 0) (hi := A 0 - 1) (by omega)
    omega
set_option maxRecDepth 8000 in
set_option maxHeartbeats 300000 in
theorem R_brings {M : zM} {T : Nat → Nat → Option zLw} {A w : Nat → Int} {t : Nat} (hM : M 43 0 = A) (hW : M 68 0 = w) (hA : headOK A) (hw : rowOK A w) (hT : textsOK M (A 3) T) (ht : (t : Int) < A 1) (hkp : w (14 + t) = -1) : ∃ M', f_X11_bringsOf t M = some (sLaw T A w t 3 (w (sLaw T A w t 2 0).toNat), M') ∧ ∀ k i, k ≠ 66 → k ≠ 67 → M' k i = M k i := by
  have h0 := hA.thg
  have h1 := hA.own
  have hto := sTo_le (T := T) (pe := 0) hA hw ht hkp
  obtain ⟨M1, b1, b2⟩ := R_to hM hW hA hw hT ht hkp
  generalize sLaw T A w t 2 0 = to at hto b1 ⊢
  obtain ⟨o, rfl⟩ := Int.eq_ofNat_of_zero_le hto.1
  have hM1 : M1 43 0 = A := by rw [b2 43 0 (by omega) (by omega)]; exact hM
  have hW1 : M1 68 0 = w := by rw [b2 68 0 (by omega) (by omega)]; exact hW
  have hT1 := hT.frame (M' := M1) (fun k i hk => b2 k i (by unfold txK at hk; omega) (by unfold txK at hk; omega))
  obtain ⟨N, n1, n2, n3⟩ := R_names hM1 hW1 (t := t) (by omega)
  have hpe := hw.pence o (by omega)
  rw [Int.toNat_natCast]
  unfold f_X11_bringsOf
  rw [b1]
  have n68 : N 68 0 = w := by rw [n2 68 0 (by omega)]; exact hW1
  rcases RR_law hM1 hW1 hA hw hT1 ht hkp (k := 3) (pe := w o) (by omega) hpe with ⟨r1, r2⟩ | ⟨v, a_, r1, r2, r3, r4, r5, r6⟩
  · rw [sLaw_no r1, if_neg (by decide), if_neg (by decide), if_neg (by decide)]
    simp only [zbs, show f_X11_ordersOf 3 M1 = some (-1, M1) from r2]
    simp (disch := omega) only [if_true, if_false, true_or, or_true, true_and, and_true, not_true_eq_false, not_false_eq_true, zbs, n1, zw_id, not_true_eq_false, if_false, if_pos, zi0, zi6, zlt_, zput_k, n68]
    refine ⟨_, rfl, fun k i h66 h67 => ?_⟩
    rw [zput_rowk (by omega), n2 k i h66, b2 k i h66 h67]
  · obtain ⟨M', e1, e2⟩ := r6 (zput N 66 0 7 (w o)) (fun k i hk => by rw [zput_rowk (by omega)]; exact n2 k i hk) (by simp (disch := omega) only [if_true, if_false, true_or, or_true, true_and, and_true, not_true_eq_false, not_false_eq_true, zput_j]; exact n3) (fun _ => by rw [zput_eq])
    rw [sLaw_yes r1, if_neg (by decide), if_neg (by decide), if_neg (by decide)]
    simp only [zbs, show f_X11_ordersOf 3 M1 = some (a_, M1) from r3]
    simp (disch := omega) only [if_true, if_false, true_or, or_true, true_and, and_true, not_true_eq_false, not_false_eq_true, zbs, n1, zw_id, if_pos, zi0, zi6, zlt_, n68, e1, R_held]
    exact ⟨M', rfl, fun k i h66 h67 => by rw [e2 k i h66 h67, b2 k i h66 h67]⟩
