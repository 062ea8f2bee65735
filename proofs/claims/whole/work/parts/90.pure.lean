/-! call: since (the reference keeps a THING where it is) -/
set_option maxRecDepth 8000 in
set_option maxHeartbeats 2000000 in
/-- a law out of the reference's orders, its names being laid -/
theorem RR_lawE {M : zM} {T : Nat → Nat → Option zLw} {A w : Nat → Int} {t k : Nat} {pe : Int} (hM : M 43 0 = A) (hW : M 68 0 = w) (hA : headOK A) (hT : textsOK M (A 3) T) (hge : goodEnv (sEnv A w t pe)) (hk : k < 4) : (sRaw T A w t k pe = none ∧ f_X11_ordersOf k M = some (-1, M)) ∨ ∃ (v a_ : Int), sRaw T A w t k pe = some v ∧ (-1000000 ≤ v ∧ v ≤ 1000000) ∧ f_X11_ordersOf k M = some (a_, M) ∧ 0 ≤ a_ ∧ a_ < 1600 ∧ ∀ N : zM, (∀ k i, k ≠ 66 → N k i = M k i) → (N 66 0 0 = w 38 ∧ N 66 0 1 = w 38 - w (22 + t) ∧ N 66 0 2 = w (6 + t) ∧ N 66 0 3 = A (24 + t) ∧ N 66 0 4 = A (16 + t) ∧ N 66 0 5 = w (30 + t) ∧ N 66 0 6 = t) → (k = 3 → N 66 0 7 = pe) → ∃ M', f_X11_saysOf a_ N = some (v, M') ∧ ∀ k i, k ≠ 66 → k ≠ 67 → M' k i = M k i := by
  have a1 := hA.txt
  have a2 := hA.txs
  by_cases h4 : A 4 < 0
  · exact Or.inl ⟨by unfold sRaw; rw [if_pos h4], R_orders_no hM hA h4⟩
  · obtain ⟨x, hx⟩ := Int.eq_ofNat_of_zero_le (show 0 ≤ A 4 by omega)
    have hxt := hT x (by omega)
    cases hTk : T x k with
    | none => exact Or.inl ⟨by unfold sRaw; rw [if_neg h4, hx, Int.toNat_natCast, hTk]; rfl, R_orders_none hM hA hx hxt hk (hxt.no k hk hTk)⟩
    | some f =>
      have hl := hxt.has k f hk hTk
      have hl2 := hl
      obtain ⟨c, p, q, at_, cl, ⟨g1, g2, g3, g4, g5⟩, g6, g7, g8, g9⟩ := hl2
      refine Or.inr ⟨f (sEnv A w t pe), at_, by unfold sRaw; rw [if_neg h4, hx, Int.toNat_natCast, hTk]; rfl, hl.bd hge, ?_, by omega, by omega, fun N hN hn h7 => ?_⟩
      · rw [R_orders_some hM hA hx hxt hk g7.1 g7.2.1 g8, g7.2.2]
      · have hNT := hT.frame (M' := N) (fun k i hk => hN k i (by unfold txK at hk; omega))
        have hlN := (hNT x (by omega)).has k f hk hTk
        obtain ⟨M', e1, e2⟩ := R_saysOf (M := N) (a_ := at_) hlN ⟨by rw [hN 46 0 (by omega)]; exact g7.1, by rw [hN 47 0 (by omega)]; exact g7.2.1⟩ (by rw [hN 48 0 (by omega)]; exact g7.2.2.symm) hge (fun v hv => by
          unfold okName at hv
          rw [Bool.or_eq_true, Bool.and_eq_true, decide_eq_true_eq, decide_eq_true_eq, decide_eq_true_eq] at hv
          have hv6 : v = 4 ∨ v = 5 ∨ v = 10 ∨ v = 11 ∨ v = 12 ∨ v = 13 ∨ v = 14 ∨ (v = 15 ∧ k = 3) := by omega
          obtain ⟨n0, n1, n2, n3, n4, n5, n6⟩ := hn
          rcases hv6 with rfl | rfl | rfl | rfl | rfl | rfl | rfl | ⟨rfl, hk3⟩
          · exact n4
          · exact n6
          · exact n0
          · exact n1
          · exact n2
          · exact n3
          · exact n5
          · exact h7 hk3)
        exact ⟨M', e1, fun k i h66 h67 => by rw [e2 k i h67]; exact hN k i h66⟩
set_option maxRecDepth 8000 in
set_option maxHeartbeats 2000000 in
theorem R_dearsE {M : zM} {T : Nat → Nat → Option zLw} {A w : Nat → Int} {t : Nat} (hM : M 43 0 = A) (hW : M 68 0 = w) (hA : headOK A) (hT : textsOK M (A 3) T) (ht : t < 8) (hge : goodEnv (sEnv A w t 0)) : ∃ M', f_X11_dearsOf t M = some (sLaw T A w t 0 0, M') ∧ ∀ k i, k ≠ 66 → k ≠ 67 → M' k i = M k i := by
  have h0 := hA.thg
  obtain ⟨N, n1, n2, n3⟩ := R_names hM hW (t := t) (by omega)
  unfold f_X11_dearsOf
  rcases RR_lawE hM hW hA hT hge (k := 0) (by omega) with ⟨r1, r2⟩ | ⟨v, a_, r1, r2, r3, r4, r5, r6⟩
  · rw [sLaw_no r1, if_pos rfl, show f_X11_ordersOf 0 M = some (-1, M) from r2]
    simp (disch := omega) only [if_true, if_false, true_or, or_true, true_and, and_true, not_true_eq_false, not_false_eq_true, zbs, n1, zw_id, not_true_eq_false, if_false]
    exact ⟨N, rfl, fun k i h66 _ => n2 k i h66⟩
  · obtain ⟨M', e1, e2⟩ := r6 N n2 n3 (fun h => by omega)
    rw [sLaw_yes r1, if_pos rfl, show f_X11_ordersOf 0 M = some (a_, M) from r3]
    simp (disch := omega) only [if_true, if_false, true_or, or_true, true_and, and_true, not_true_eq_false, not_false_eq_true, zbs, n1, zw_id, if_pos, e1, R_held]
    exact ⟨M', rfl, e2⟩
def sinU (w : Nat → Int) (t : Nat) (d0 : Int) : Nat → Int := wup (wup (wup (wup w (30 + t) (if w (14 + t) = -1 then w (30 + t) else w (14 + t))) (22 + t) (w 38)) (14 + t) (-1)) (6 + t) d0
def sinR (T : Nat → Nat → Option zLw) (A w : Nat → Int) (t : Nat) (d0 : Int) : Nat → (Nat → Int)
  | 0 => sinU w t d0
  | k + 1 => sGrow T A (wup (sinR T A w t d0 k) 38 (sinR T A w t d0 k 38 + 1)) t
def sFo (T : Nat → Nat → Option zLw) (A w : Nat → Int) (t : Nat) (d0 d1 y : Int) : Nat → Int
  | 0 => -1
  | k + 1 => if sinR T A w t d0 k (6 + t) = d1 ∧ (y ≠ 0 ∨ sFo T A w t d0 d1 y k = -1) then (k : Int) else sFo T A w t d0 d1 y k
set_option maxRecDepth 8000 in
set_option maxHeartbeats 2000000 in
theorem sinR_ok {T : Nat → Nat → Option zLw} {A w : Nat → Int} {t : Nat} {d0 : Int} (hA : headOK A) (hw : rowOK A w) (hd : w 38 ≤ 9999) (ht : (t : Int) < A 1) (h0 : 0 ≤ d0 ∧ d0 ≤ 99) : ∀ k, k ≤ 61 → rowOK A (sinR T A w t d0 k) ∧ sinR T A w t d0 k 38 = w 38 + k ∧ sinR T A w t d0 k (14 + t) = -1 := by
  have h1 := hA.thg
  have hs := hA.some_
  have hat := hw.at_ t ht
  have hday := hw.day
  have hkp := hw.kept t ht
  intro k
  induction k with
  | zero =>
    intro _
    refine ⟨?_, ?_, ?_⟩
    · show rowOK A (sinU w t d0)
      unfold sinU
      refine hw.setThing h1.2 (by omega) (t := t) (fun q a b c d => ?_) ?_ ?_ ?_ ?_
      · simp (disch := omega) only [if_true, if_false, true_or, or_true, true_and, and_true, not_true_eq_false, not_false_eq_true, wup_ne]
      · rw [wup_eq]; exact h0
      · simp (disch := omega) only [if_true, if_false, true_or, or_true, true_and, and_true, not_true_eq_false, not_false_eq_true, wup_ne, wup_eq]; omega
      · intro _
        simp (disch := omega) only [if_true, if_false, true_or, or_true, true_and, and_true, not_true_eq_false, not_false_eq_true, wup_ne, wup_eq]
        split <;> omega
      · simp (disch := omega) only [if_true, if_false, true_or, or_true, true_and, and_true, not_true_eq_false, not_false_eq_true, wup_ne, wup_eq]
        intro h; omega
    · show sinU w t d0 38 = _
      unfold sinU
      simp (disch := omega) only [if_true, if_false, true_or, or_true, true_and, and_true, not_true_eq_false, not_false_eq_true, wup_ne]
      omega
    · show sinU w t d0 (14 + t) = _
      unfold sinU
      simp (disch := omega) only [if_true, if_false, true_or, or_true, true_and, and_true, not_true_eq_false, not_false_eq_true, wup_ne, wup_eq]
  | succ k ih =>
    intro hk
    obtain ⟨i1, i2, i3⟩ := ih (by omega)
    have p1 := i1.pass1 hA (by omega)
    refine ⟨p1.grow hA ht, ?_, ?_⟩
    · show sGrow T A _ t 38 = _
      unfold sGrow
      rw [wup_ne (by omega), wup_eq, i2]; omega
    · show sGrow T A _ t (14 + t) = _
      unfold sGrow
      rw [wup_ne (by omega), wup_ne (by omega), i3]
set_option maxRecDepth 8000 in
set_option maxHeartbeats 2000000 in
theorem wup_comm {w : Nat → Int} {a b : Nat} {x y : Int} (h : a ≠ b) : wup (wup w a x) b y = wup (wup w b y) a x := by
  funext q
  unfold wup
  by_cases h1 : q = a
  · rw [if_neg (by omega), if_pos h1, if_pos h1]
  · rw [if_neg h1, if_neg h1]
set_option maxRecDepth 8000 in
set_option maxHeartbeats 2000000 in
theorem sEnv_at {A w : Nat → Int} {t : Nat} {c pe : Int} (ht : t < 8) : sEnv A (wup w (14 + t) c) t pe = sEnv A w t pe := by
  funext v
  unfold sEnv
  rw [wup_ne (show 38 ≠ 14 + t by omega), wup_ne (show 22 + t ≠ 14 + t by omega), wup_ne (show 6 + t ≠ 14 + t by omega), wup_ne (show 30 + t ≠ 14 + t by omega)]
set_option maxRecDepth 8000 in
set_option maxHeartbeats 2000000 in
theorem sLaw0_at {T : Nat → Nat → Option zLw} {A w : Nat → Int} {t : Nat} {c : Int} (ht : t < 8) : sLaw T A (wup w (14 + t) c) t 0 0 = sLaw T A w t 0 0 := by
  unfold sLaw sRaw
  rw [sEnv_at ht, wup_ne (show 30 + t ≠ 14 + t by omega), wup_ne (show 6 + t ≠ 14 + t by omega)]
