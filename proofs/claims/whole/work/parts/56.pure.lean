/-! laws: a checked machine for their orders, and both machines beside it -/
def cl6 (v : Int) : Int := if 1000000 < v then 1000000 else if v < -1000000 then -1000000 else v
set_option maxRecDepth 8000 in
set_option maxHeartbeats 300000 in
theorem cl6_le (v : Int) : -1000000 ≤ cl6 v ∧ cl6 v ≤ 1000000 := by
  unfold cl6
  split
  · omega
  · split <;> omega
/-- two are worked together -/
def binA (o x y : Int) : Option Int :=
  if o = 32 then some (cl6 (x + y)) else if o = 33 then some (cl6 (x - y)) else if o = 34 then some (cl6 (x * y))
  else if o = 35 then some (if y = 0 then 0 else x.tdiv y) else if o = 17 then some (if y = 0 then 0 else x % y)
  else if o = 26 then some (if x < y then 1 else 0) else if o = 27 then some (if x ≤ y then 1 else 0)
  else if o = 28 then some (if y < x then 1 else 0) else if o = 29 then some (if y ≤ x then 1 else 0)
  else if o = 30 then some (if x = y then 1 else 0) else if o = 31 then some (if x = y then 0 else 1)
  else if o = 23 then (if (x = 0 ∨ x = 1) ∧ (y = 0 ∨ y = 1) then some (x * y) else none)
  else if o = 22 then (if (x = 0 ∨ x = 1) ∧ (y = 0 ∨ y = 1) then some (if 0 < x + y then 1 else 0) else none) else none
def okName (b : Bool) (v : Int) : Bool := decide (v = 4 ∨ v = 5 ∨ (10 ≤ v ∧ v ≤ 14)) || (decide (v = 15) && b)
def stepA (b : Bool) (c : Nat → Int × Int) (q : Nat) (env : Nat → Int) (s : Nat × List Int) : Option (Nat × List Int) :=
  if s.1 < q then
    if (c s.1).1 = 25 then (if 0 ≤ (c s.1).2 ∧ (c s.1).2 ≤ 9999 ∧ s.2.length < 150 then some (s.1 + 1, (c s.1).2 :: s.2) else none)
    else if (c s.1).1 = 50 then (if okName b (c s.1).2 = true ∧ s.2.length < 150 then some (s.1 + 1, env (c s.1).2.toNat :: s.2) else none)
    else if (c s.1).1 = 20 then (if (s.1 : Int) < (c s.1).2 ∧ (c s.1).2 ≤ q then some ((c s.1).2.toNat, s.2) else none)
    else match s.2 with
    | [] => none
    | y :: r =>
      if (c s.1).1 = 19 then (if (s.1 : Int) < (c s.1).2 ∧ (c s.1).2 ≤ q then some (if y = 0 then (c s.1).2.toNat else s.1 + 1, r) else none)
      else if (c s.1).1 = 51 then some (s.1 + 1, (-y) :: r)
      else if (c s.1).1 = 24 then (if y = 0 ∨ y = 1 then some (s.1 + 1, (1 - y) :: r) else none)
      else match r with
      | [] => none
      | x :: r2 => (binA (c s.1).1 x y).map (fun z => (s.1 + 1, z :: r2))
  else none
set_option maxRecDepth 8000 in
set_option maxHeartbeats 300000 in
theorem okName_le {b : Bool} {v : Int} (h : okName b v = true) : 4 ≤ v ∧ v ≤ 15 := by
  unfold okName at h
  rw [Bool.or_eq_true, Bool.and_eq_true, decide_eq_true_eq, decide_eq_true_eq] at h
  omega
set_option maxRecDepth 8000 in
set_option maxHeartbeats 300000 in
theorem binA_rng {o x y z : Int} (h : binA o x y = some z) : o = 32 ∨ o = 33 ∨ o = 34 ∨ o = 35 ∨ o = 17 ∨ o = 26 ∨ o = 27 ∨ o = 28 ∨ o = 29 ∨ o = 30 ∨ o = 31 ∨ o = 23 ∨ o = 22 := by
  refine Decidable.byContradiction fun hn => ?_
  unfold binA at h
  rw [if_neg (by omega), if_neg (by omega), if_neg (by omega), if_neg (by omega), if_neg (by omega), if_neg (by omega), if_neg (by omega), if_neg (by omega), if_neg (by omega), if_neg (by omega), if_neg (by omega), if_neg (by omega), if_neg (by omega)] at h
  cases h
def goodEnv (env : Nat → Int) : Prop := ∀ n, -1000000 ≤ env n ∧ env n ≤ 1000000
def goodSt (st : List Int) : Prop := ∀ x, x ∈ st → -1000000 ≤ x ∧ x ≤ 1000000
set_option maxRecDepth 8000 in
set_option maxHeartbeats 300000 in
theorem mul_bd {x y : Int} (hx : -1000000 ≤ x ∧ x ≤ 1000000) (hy : -1000000 ≤ y ∧ y ≤ 1000000) : -1000000000000 ≤ x * y ∧ x * y ≤ 1000000000000 := by
  have h1 : (x * y).natAbs ≤ 1000000 * 1000000 := by rw [Int.natAbs_mul]; exact Nat.mul_le_mul (by omega) (by omega)
  omega
set_option maxRecDepth 8000 in
set_option maxHeartbeats 300000 in
theorem tdiv_bd {x y : Int} (hx : -1000000 ≤ x ∧ x ≤ 1000000) : -1000000 ≤ x.tdiv y ∧ x.tdiv y ≤ 1000000 := by
  have h := Int.natAbs_tdiv_le_natAbs x y
  omega
set_option maxRecDepth 8000 in
set_option maxHeartbeats 300000 in
theorem emod_bd {x y : Int} (hy : -1000000 ≤ y ∧ y ≤ 1000000) (h0 : y ≠ 0) : 0 ≤ x % y ∧ x % y ≤ 1000000 := by
  have h1 := Int.emod_nonneg x h0
  have h2 := Int.emod_lt x h0
  omega
set_option maxRecDepth 8000 in
set_option maxHeartbeats 300000 in
theorem binA_bd {o x y z : Int} (hx : -1000000 ≤ x ∧ x ≤ 1000000) (hy : -1000000 ≤ y ∧ y ≤ 1000000) (h : binA o x y = some z) : -1000000 ≤ z ∧ z ≤ 1000000 := by
  have c1 := cl6_le (x + y)
  have c2 := cl6_le (x - y)
  have c3 := cl6_le (x * y)
  have c4 := tdiv_bd (y := y) hx
  have c5 := fun h0 => emod_bd (x := x) hy h0
  rcases binA_rng h with rfl | rfl | rfl | rfl | rfl | rfl | rfl | rfl | rfl | rfl | rfl | rfl | rfl <;> simp (decide := true) only [binA, if_true, if_false] at h
  · cases h; omega
  · cases h; omega
  · cases h; omega
  · cases h; split <;> omega
  · cases h
    split
    · omega
    · rename_i h0; have := c5 h0; omega
  · cases h; split <;> omega
  · cases h; split <;> omega
  · cases h; split <;> omega
  · cases h; split <;> omega
  · cases h; split <;> omega
  · cases h; split <;> omega
  · split at h
    · rename_i h0
      cases h
      rcases h0 with ⟨rfl | rfl, rfl | rfl⟩ <;> decide
    · cases h
  · split at h
    · cases h; split <;> omega
    · cases h
set_option maxRecDepth 8000 in
set_option maxHeartbeats 300000 in
theorem goodSt_cons {x : Int} {r : List Int} : goodSt (x :: r) ↔ (-1000000 ≤ x ∧ x ≤ 1000000) ∧ goodSt r := by
  unfold goodSt
  constructor
  · intro h
    exact ⟨h x List.mem_cons_self, fun y hy => h y (List.mem_cons_of_mem _ hy)⟩
  · intro h y hy
    rcases List.mem_cons.mp hy with rfl | hy
    · exact h.1
    · exact h.2 y hy
set_option maxRecDepth 8000 in
set_option maxHeartbeats 300000 in
theorem stepA_good {b : Bool} {c : Nat → Int × Int} {q : Nat} {env : Nat → Int} {pc pc' : Nat} {st st' : List Int} (hge : goodEnv env) (hg : goodSt st) (hl : st.length ≤ 150) (h : stepA b c q env (pc, st) = some (pc', st')) : goodSt st' ∧ st'.length ≤ 150 ∧ pc < pc' ∧ pc' ≤ q ∧ pc < q := by
  unfold stepA at h
  dsimp only at h
  split at h
  case isFalse => cases h
  split at h
  · split at h
    · cases h
      exact ⟨goodSt_cons.mpr ⟨by omega, hg⟩, by rw [List.length_cons]; omega, by omega, by omega, by omega⟩
    · cases h
  split at h
  · split at h
    · cases h
      exact ⟨goodSt_cons.mpr ⟨hge _, hg⟩, by rw [List.length_cons]; omega, by omega, by omega, by omega⟩
    · cases h
  split at h
  · split at h
    · cases h
      exact ⟨hg, hl, by omega, by omega, by omega⟩
    · cases h
  cases st with
  | nil => cases h
  | cons y r =>
    have hg2 := goodSt_cons.mp hg
    rw [List.length_cons] at hl
    dsimp only at h
    split at h
    · split at h
      · cases h
        refine ⟨hg2.2, by omega, ?_, ?_, by omega⟩
        · split <;> omega
        · split <;> omega
      · cases h
    split at h
    · cases h
      exact ⟨goodSt_cons.mpr ⟨by omega, hg2.2⟩, by rw [List.length_cons]; omega, by omega, by omega, by omega⟩
    split at h
    · split at h
      · cases h
        exact ⟨goodSt_cons.mpr ⟨by omega, hg2.2⟩, by rw [List.length_cons]; omega, by omega, by omega, by omega⟩
      · cases h
    cases r with
    | nil => cases h
    | cons x r2 =>
      have hg3 := goodSt_cons.mp hg2.2
      rw [List.length_cons] at hl
      dsimp only at h
      cases hb : binA (c pc).1 x y with
      | none => rw [hb] at h; cases h
      | some z =>
        rw [hb] at h
        cases h
        exact ⟨goodSt_cons.mpr ⟨binA_bd hg3.1 hg2.1 hb, hg3.2⟩, by rw [List.length_cons]; omega, by omega, by omega, by omega⟩
def iterA (b : Bool) (c : Nat → Int × Int) (q : Nat) (env : Nat → Int) : Nat → Nat × List Int → Option (Nat × List Int)
  | 0, s => some s
  | n + 1, s => (stepA b c q env s).bind (iterA b c q env n)
/-- a pile of numbers, as an array has it -/
def pileR (P : Nat → Int) : List Int → Prop
  | [] => True
  | x :: r => P r.length = x ∧ pileR P r
set_option maxRecDepth 8000 in
set_option maxHeartbeats 300000 in
theorem pileR_put {P P' : Nat → Int} {st : List Int} (h : pileR P st) (e : ∀ k, k < st.length → P' k = P k) : pileR P' st := by
  induction st with
  | nil => trivial
  | cons x r ih =>
    rw [List.length_cons] at e
    exact ⟨by rw [e _ (by omega)]; exact h.1, ih h.2 (fun k hk => e k (by omega))⟩
set_option maxRecDepth 8000 in
set_option maxHeartbeats 300000 in
theorem in3 {E : Type} {a a' b b' : Int} {M M' : zM} (h1 : a = a') (h2 : b = b') (h3 : M = M') : (Sum.inl (a, b, M) : (Int × Int × zM) ⊕ E) = Sum.inl (a', b', M') := by
  subst h1; subst h2; subst h3; rfl
set_option maxRecDepth 8000 in
set_option maxHeartbeats 300000 in
theorem zlc_le {a b : Int} : zw (zlcmp a b) ≤ 0 ↔ a ≤ b := by
  unfold zlcmp
  split
  · rw [zw_id (by omega) (by omega)]; omega
  · split
    · rw [zw_id (by omega) (by omega)]; omega
    · rw [zw_id (by omega) (by omega)]; omega
set_option maxRecDepth 8000 in
set_option maxHeartbeats 300000 in
theorem zlc_ge {a b : Int} : 0 ≤ zw (zlcmp a b) ↔ b ≤ a := by
  unfold zlcmp
  split
  · rw [zw_id (by omega) (by omega)]; omega
  · split
    · rw [zw_id (by omega) (by omega)]; omega
    · rw [zw_id (by omega) (by omega)]; omega
set_option maxRecDepth 8000 in
set_option maxHeartbeats 300000 in
theorem zlc_lt {a b : Int} : zw (zlcmp a b) < 0 ↔ a < b := by
  unfold zlcmp
  split
  · rw [zw_id (by omega) (by omega)]; omega
  · split
    · rw [zw_id (by omega) (by omega)]; omega
    · rw [zw_id (by omega) (by omega)]; omega
set_option maxRecDepth 8000 in
set_option maxHeartbeats 300000 in
theorem zlc_gt {a b : Int} : 0 < zw (zlcmp a b) ↔ b < a := by
  unfold zlcmp
  split
  · rw [zw_id (by omega) (by omega)]; omega
  · split
    · rw [zw_id (by omega) (by omega)]; omega
    · rw [zw_id (by omega) (by omega)]; omega
set_option maxRecDepth 8000 in
set_option maxHeartbeats 300000 in
theorem zlc_eq {a b : Int} : zw (zlcmp a b) = 0 ↔ a = b := by
  unfold zlcmp
  split
  · rw [zw_id (by omega) (by omega)]; omega
  · split
    · rw [zw_id (by omega) (by omega)]; omega
    · rw [zw_id (by omega) (by omega)]; omega
set_option maxRecDepth 8000 in
set_option maxHeartbeats 300000 in
theorem zrem_tmod (a b : Int) : zrem a b = Int.tmod a b := by
  unfold zrem
  rw [Int.tmod_def, Int.mul_comm]
set_option maxRecDepth 8000 in
set_option maxHeartbeats 300000 in
theorem left_eq {x y : Int} (h0 : y ≠ 0) : x % y = if 0 ≤ Int.tmod x y then Int.tmod x y else Int.tmod x y + (if y < 0 then -y else y) := by
  have h1 := Int.emod_nonneg x h0
  have h2 := Int.emod_lt x h0
  have h3 : Int.tmod x y = x % y - (if 0 ≤ x ∨ y ∣ x then 0 else (y.natAbs : Int)) := by
    have := Int.tmod_eq_emod (a := x) (b := y)
    rw [this]
    congr 1
    split <;> rfl
  by_cases hc : 0 ≤ x ∨ y ∣ x
  · rw [if_pos hc] at h3
    rw [if_pos (by omega)]
    omega
  · rw [if_neg hc] at h3
    rw [if_neg (by omega)]
    split <;> omega
set_option maxRecDepth 8000 in
set_option maxHeartbeats 300000 in
theorem X_bounded {v : Int} {M : zM} (h : -1000000000000 ≤ v ∧ v ≤ 1000000000000) : f_X1_bounded v M = some (cl6 v, M) := by
  unfold f_X1_bounded f_X1_bounded_j29 cl6
  simp only [zlc_le, zlc_ge]
  rw [zwl_id (by omega) (by omega)]
  all_goals (repeat' split) <;> first | rfl | omega | (simp only [Option.some.injEq, Prod.mk.injEq, and_true, true_and] <;> omega) | (exfalso; omega)
set_option maxRecDepth 8000 in
set_option maxHeartbeats 300000 in
theorem R_bound {v : Int} {M : zM} (h : -1000000000000 ≤ v ∧ v ≤ 1000000000000) : f_X11_bound v M = some (cl6 v, M) := by
  unfold f_X11_bound cl6
  simp only [zlc_le, zlc_ge]
  rw [zwl_id (by omega) (by omega)]
  all_goals (repeat' split) <;> first | rfl | omega | (simp only [Option.some.injEq, Prod.mk.injEq, and_true, true_and] <;> omega) | (exfalso; omega)
set_option maxRecDepth 8000 in
set_option maxHeartbeats 300000 in
theorem cl6_id {v : Int} (h : -1000000 ≤ v ∧ v ≤ 1000000) : cl6 v = v := by
  unfold cl6
  rw [if_neg (by omega), if_neg (by omega)]
set_option maxRecDepth 8000 in
set_option maxHeartbeats 300000 in
theorem X_bin {o x y z : Int} {M : zM} (hx : -1000000 ≤ x ∧ x ≤ 1000000) (hy : -1000000 ≤ y ∧ y ≤ 1000000) (h : binA o x y = some z) : ∃ u, f_X1_joined o x y M = some (u, M) ∧ f_X1_bounded u M = some (z, M) := by
  have hb := binA_bd hx hy h
  have hm := mul_bd hx hy
  have hd := tdiv_bd (y := y) hx
  rcases binA_rng h with rfl | rfl | rfl | rfl | rfl | rfl | rfl | rfl | rfl | rfl | rfl | rfl | rfl
  · simp only [binA, if_true] at h
    cases h
    refine ⟨x + y, ?_, X_bounded (by omega)⟩
    unfold f_X1_joined
    simp (disch := omega) only [if_true, if_false, true_or, or_true, true_and, and_true, not_true_eq_false, not_false_eq_true, zw_id, if_neg, if_pos, Int.reduceEq, if_true, if_false]
  · simp (decide := true) only [binA, if_true, if_false] at h
    cases h
    refine ⟨x - y, ?_, X_bounded (by omega)⟩
    unfold f_X1_joined
    simp (disch := omega) only [if_true, if_false, true_or, or_true, true_and, and_true, not_true_eq_false, not_false_eq_true, zw_id, if_neg, if_pos, Int.reduceEq, if_true, if_false]
  · simp (decide := true) only [binA, if_true, if_false] at h
    cases h
    refine ⟨x * y, ?_, X_bounded (by omega)⟩
    unfold f_X1_joined
    simp (disch := omega) only [if_true, if_false, true_or, or_true, true_and, and_true, not_true_eq_false, not_false_eq_true, zw_id, if_neg, if_pos, Int.reduceEq, if_true, if_false]
  · simp (decide := true) only [binA, if_true, if_false] at h
    cases h
    by_cases h0 : y = 0
    · subst h0
      rw [if_pos rfl]
      refine ⟨0, ?_, X_bounded (by omega)⟩
      unfold f_X1_joined
      simp (disch := omega) only [if_true, if_false, true_or, or_true, true_and, and_true, not_true_eq_false, not_false_eq_true, zw_id, if_neg, if_pos, Int.reduceEq, if_true, if_false]
    · rw [if_neg h0]
      refine ⟨x.tdiv y, ?_, by rw [X_bounded (by omega), cl6_id (by omega)]⟩
      unfold f_X1_joined
      simp (disch := omega) only [if_true, if_false, true_or, or_true, true_and, and_true, not_true_eq_false, not_false_eq_true, zw_id, if_neg, if_pos, Int.reduceEq, if_true, if_false]
  · simp (decide := true) only [binA, if_true, if_false] at h
    cases h
    by_cases h0 : y = 0
    · subst h0
      rw [if_pos rfl]
      refine ⟨0, ?_, X_bounded (by omega)⟩
      unfold f_X1_joined f_X1_joined_j134 f_X1_joined_j145
      simp (disch := omega) only [if_true, if_false, true_or, or_true, true_and, and_true, not_true_eq_false, not_false_eq_true, zw_id, if_neg, if_pos, Int.reduceEq, if_true, if_false]
    · have hl := left_eq (x := x) h0
      have he := emod_bd (x := x) hy h0
      rw [if_neg h0]
      refine ⟨x % y, ?_, by rw [X_bounded (by omega), cl6_id (by omega)]⟩
      have ht : -1000000 ≤ Int.tmod x y ∧ Int.tmod x y ≤ 1000000 := by
        have h3 : Int.tmod x y = x % y - (if 0 ≤ x ∨ y ∣ x then 0 else (y.natAbs : Int)) := by
          have := Int.tmod_eq_emod (a := x) (b := y)
          rw [this]
          congr 1
          split <;> rfl
        split at h3 <;> omega
      unfold f_X1_joined f_X1_joined_j134 f_X1_joined_j145
      simp (disch := omega) only [if_true, if_false, true_or, or_true, true_and, and_true, not_true_eq_false, not_false_eq_true, zw_id, if_neg, if_pos, Int.reduceEq, if_true, if_false, zrem_tmod]
      rw [hl]
      generalize Int.tmod x y = r at *
      by_cases hy0 : y < 0
      · simp (disch := omega) only [if_true, if_false, true_or, or_true, true_and, and_true, not_true_eq_false, not_false_eq_true, if_pos hy0, if_neg]
        all_goals (repeat' split) <;> first | rfl | omega | (simp only [Option.some.injEq, Prod.mk.injEq, and_true, true_and] <;> omega) | (exfalso; omega)
      · simp (disch := omega) only [if_true, if_false, true_or, or_true, true_and, and_true, not_true_eq_false, not_false_eq_true, if_neg hy0, if_pos]
        all_goals (repeat' split) <;> first | rfl | omega | (simp only [Option.some.injEq, Prod.mk.injEq, and_true, true_and] <;> omega) | (exfalso; omega)
  · simp (decide := true) only [binA, if_true, if_false] at h
    refine ⟨z, ?_, by rw [X_bounded (by omega), cl6_id (by omega)]⟩
    cases h
    unfold f_X1_joined
    simp (disch := omega) only [if_true, if_false, true_or, or_true, true_and, and_true, not_true_eq_false, not_false_eq_true, zw_id, if_neg, if_pos, Int.reduceEq, if_true, if_false]
    all_goals (repeat' split) <;> first | rfl | omega | (simp only [Option.some.injEq, Prod.mk.injEq, and_true, true_and] <;> omega) | (exfalso; omega)
  · simp (decide := true) only [binA, if_true, if_false] at h
    refine ⟨z, ?_, by rw [X_bounded (by omega), cl6_id (by omega)]⟩
    cases h
    unfold f_X1_joined
    simp (disch := omega) only [if_true, if_false, true_or, or_true, true_and, and_true, not_true_eq_false, not_false_eq_true, zw_id, if_neg, if_pos, Int.reduceEq, if_true, if_false]
    all_goals (repeat' split) <;> first | rfl | omega | (simp only [Option.some.injEq, Prod.mk.injEq, and_true, true_and] <;> omega) | (exfalso; omega)
  · simp (decide := true) only [binA, if_true, if_false] at h
    refine ⟨z, ?_, by rw [X_bounded (by omega), cl6_id (by omega)]⟩
    cases h
    unfold f_X1_joined
    simp (disch := omega) only [if_true, if_false, true_or, or_true, true_and, and_true, not_true_eq_false, not_false_eq_true, zw_id, if_neg, if_pos, Int.reduceEq, if_true, if_false]
    all_goals (repeat' split) <;> first | rfl | omega | (simp only [Option.some.injEq, Prod.mk.injEq, and_true, true_and] <;> omega) | (exfalso; omega)
  · simp (decide := true) only [binA, if_true, if_false] at h
    refine ⟨z, ?_, by rw [X_bounded (by omega), cl6_id (by omega)]⟩
    cases h
    unfold f_X1_joined
    simp (disch := omega) only [if_true, if_false, true_or, or_true, true_and, and_true, not_true_eq_false, not_false_eq_true, zw_id, if_neg, if_pos, Int.reduceEq, if_true, if_false]
    all_goals (repeat' split) <;> first | rfl | omega | (simp only [Option.some.injEq, Prod.mk.injEq, and_true, true_and] <;> omega) | (exfalso; omega)
  · simp (decide := true) only [binA, if_true, if_false] at h
    refine ⟨z, ?_, by rw [X_bounded (by omega), cl6_id (by omega)]⟩
    cases h
    unfold f_X1_joined
    simp (disch := omega) only [if_true, if_false, true_or, or_true, true_and, and_true, not_true_eq_false, not_false_eq_true, zw_id, if_neg, if_pos, Int.reduceEq, if_true, if_false]
    all_goals (repeat' split) <;> first | rfl | omega | (simp only [Option.some.injEq, Prod.mk.injEq, and_true, true_and] <;> omega) | (exfalso; omega)
  · simp (decide := true) only [binA, if_true, if_false] at h
    refine ⟨z, ?_, by rw [X_bounded (by omega), cl6_id (by omega)]⟩
    cases h
    unfold f_X1_joined
    simp (disch := omega) only [if_true, if_false, true_or, or_true, true_and, and_true, not_true_eq_false, not_false_eq_true, zw_id, if_neg, if_pos, Int.reduceEq, if_true, if_false]
    all_goals (repeat' split) <;> first | rfl | omega | (simp only [Option.some.injEq, Prod.mk.injEq, and_true, true_and] <;> omega) | (exfalso; omega)
  · simp (decide := true) only [binA, if_true, if_false] at h
    split at h
    · rename_i h0
      refine ⟨z, ?_, by rw [X_bounded (by omega), cl6_id (by omega)]⟩
      cases h
      unfold f_X1_joined
      simp (disch := omega) only [if_true, if_false, true_or, or_true, true_and, and_true, not_true_eq_false, not_false_eq_true, zw_id, if_neg, if_pos, Int.reduceEq, if_true, if_false]
      rcases h0 with ⟨rfl | rfl, rfl | rfl⟩ <;> rfl
    · cases h
  · simp (decide := true) only [binA, if_true, if_false] at h
    split at h
    · rename_i h0
      refine ⟨z, ?_, by rw [X_bounded (by omega), cl6_id (by omega)]⟩
      cases h
      unfold f_X1_joined
      simp (disch := omega) only [if_true, if_false, true_or, or_true, true_and, and_true, not_true_eq_false, not_false_eq_true, zw_id, if_neg, if_pos, Int.reduceEq, if_true, if_false]
      rcases h0 with ⟨rfl | rfl, rfl | rfl⟩ <;> rfl
    · cases h
/-- the reference's number for an order -/
def opR (o : Int) : Int := if o = 25 then 400 else if o = 50 then 401 else if o = 51 then 402 else if o = 17 then 403 else if o = 19 then 404 else if o = 24 then 405 else if o = 23 then 406 else if o = 22 then 407 else if o = 20 then 409 else if o = 32 then 43 else if o = 33 then 45 else if o = 34 then 42 else if o = 35 then 47 else if o = 26 then 60 else if o = 27 then 300 else if o = 28 then 62 else if o = 29 then 301 else if o = 30 then 61 else 35
/-- the reference's number for a name -/
def nmR (v : Int) : Int := if v = 10 then 0 else if v = 11 then 1 else if v = 12 then 2 else if v = 13 then 3 else if v = 4 then 4 else if v = 14 then 5 else if v = 5 then 6 else 7
set_option maxRecDepth 8000 in
set_option maxHeartbeats 300000 in
theorem R_bin {o x y z : Int} {M : zM} (hx : -1000000 ≤ x ∧ x ≤ 1000000) (hy : -1000000 ≤ y ∧ y ≤ 1000000) (h : binA o x y = some z) : f_X11_worked (opR o) x y M = some (z, M) := by
  have hb := binA_bd hx hy h
  have hm := mul_bd hx hy
  have hd := tdiv_bd (y := y) hx
  rcases binA_rng h with rfl | rfl | rfl | rfl | rfl | rfl | rfl | rfl | rfl | rfl | rfl | rfl | rfl
  · simp only [binA, if_true] at h
    cases h
    simp (decide := true) only [opR, if_true, if_false]
    unfold f_X11_worked
    simp (disch := omega) only [if_true, if_false, true_or, or_true, true_and, and_true, not_true_eq_false, not_false_eq_true, zw_id, if_neg, if_pos, R_bound, zbs]
  · simp (decide := true) only [binA, if_true, if_false] at h
    cases h
    simp (decide := true) only [opR, if_true, if_false]
    unfold f_X11_worked
    simp (disch := omega) only [if_true, if_false, true_or, or_true, true_and, and_true, not_true_eq_false, not_false_eq_true, zw_id, if_neg, if_pos, R_bound, zbs]
  · simp (decide := true) only [binA, if_true, if_false] at h
    cases h
    simp (decide := true) only [opR, if_true, if_false]
    unfold f_X11_worked
    simp (disch := omega) only [if_true, if_false, true_or, or_true, true_and, and_true, not_true_eq_false, not_false_eq_true, zw_id, if_neg, if_pos, R_bound, zbs]
  · simp (decide := true) only [binA, if_true, if_false] at h
    cases h
    simp (decide := true) only [opR, if_true, if_false]
    unfold f_X11_worked
    simp (disch := omega) only [if_true, if_false, true_or, or_true, true_and, and_true, not_true_eq_false, not_false_eq_true, zw_id, if_neg, if_pos, zlc_eq, zwl_id]
    all_goals (repeat' split) <;> first | rfl | omega | (simp only [Option.some.injEq, Prod.mk.injEq, and_true, true_and] <;> omega) | (exfalso; omega)
  · simp (decide := true) only [binA, if_true, if_false] at h
    cases h
    simp (decide := true) only [opR, if_true, if_false]
    unfold f_X11_worked f_X11_leftOf f_X11_leftOf_j20
    by_cases h0 : y = 0
    · subst h0
      simp (disch := omega) only [if_true, if_false, true_or, or_true, true_and, and_true, not_true_eq_false, not_false_eq_true, zw_id, if_neg, if_pos, zlc_eq, zlc_ge, zwl_id, zbs, if_true]
    · have hl := left_eq (x := x) h0
      have he := emod_bd (x := x) hy h0
      have ht : -1000000 ≤ Int.tmod x y ∧ Int.tmod x y ≤ 1000000 := by
        have h3 : Int.tmod x y = x % y - (if 0 ≤ x ∨ y ∣ x then 0 else (y.natAbs : Int)) := by
          have := Int.tmod_eq_emod (a := x) (b := y)
          rw [this]
          congr 1
          split <;> rfl
        split at h3 <;> omega
      rw [if_neg h0, hl]
      simp (disch := omega) only [if_true, if_false, true_or, or_true, true_and, and_true, not_true_eq_false, not_false_eq_true, zw_id, if_neg, if_pos, zlc_eq, zlc_ge, zwl_id, zrem_tmod, Int.tmod_neg]
      generalize Int.tmod x y = r at *
      by_cases hy0 : y < 0
      · simp (disch := omega) only [if_true, if_false, true_or, or_true, true_and, and_true, not_true_eq_false, not_false_eq_true, if_pos hy0, if_neg, zwl_id]
        by_cases hr : 0 ≤ r
        · simp (disch := omega) only [if_true, if_false, true_or, or_true, true_and, and_true, not_true_eq_false, not_false_eq_true, if_pos, if_neg, zwl_id, zbs]
        · simp (disch := omega) only [if_true, if_false, true_or, or_true, true_and, and_true, not_true_eq_false, not_false_eq_true, if_pos, if_neg, zwl_id, zbs]
      · simp (disch := omega) only [if_true, if_false, true_or, or_true, true_and, and_true, not_true_eq_false, not_false_eq_true, if_neg hy0, if_pos, zwl_id]
        by_cases hr : 0 ≤ r
        · simp (disch := omega) only [if_true, if_false, true_or, or_true, true_and, and_true, not_true_eq_false, not_false_eq_true, if_pos, if_neg, zwl_id, zbs]
        · simp (disch := omega) only [if_true, if_false, true_or, or_true, true_and, and_true, not_true_eq_false, not_false_eq_true, if_pos, if_neg, zwl_id, zbs]
  · simp (decide := true) only [binA, if_true, if_false] at h
    cases h
    simp (decide := true) only [opR, if_true, if_false]
    unfold f_X11_worked
    simp (disch := omega) only [if_true, if_false, true_or, or_true, true_and, and_true, not_true_eq_false, not_false_eq_true, zw_id, if_neg, if_pos, zlc_eq, zlc_le, zlc_lt, zlc_ge, zlc_gt, zwl_id]
    all_goals (repeat' split) <;> first | rfl | omega | (simp only [Option.some.injEq, Prod.mk.injEq, and_true, true_and] <;> omega) | (exfalso; omega)
  · simp (decide := true) only [binA, if_true, if_false] at h
    cases h
    simp (decide := true) only [opR, if_true, if_false]
    unfold f_X11_worked
    simp (disch := omega) only [if_true, if_false, true_or, or_true, true_and, and_true, not_true_eq_false, not_false_eq_true, zw_id, if_neg, if_pos, zlc_eq, zlc_le, zlc_lt, zlc_ge, zlc_gt, zwl_id]
    all_goals (repeat' split) <;> first | rfl | omega | (simp only [Option.some.injEq, Prod.mk.injEq, and_true, true_and] <;> omega) | (exfalso; omega)
  · simp (decide := true) only [binA, if_true, if_false] at h
    cases h
    simp (decide := true) only [opR, if_true, if_false]
    unfold f_X11_worked
    simp (disch := omega) only [if_true, if_false, true_or, or_true, true_and, and_true, not_true_eq_false, not_false_eq_true, zw_id, if_neg, if_pos, zlc_eq, zlc_le, zlc_lt, zlc_ge, zlc_gt, zwl_id]
    all_goals (repeat' split) <;> first | rfl | omega | (simp only [Option.some.injEq, Prod.mk.injEq, and_true, true_and] <;> omega) | (exfalso; omega)
  · simp (decide := true) only [binA, if_true, if_false] at h
    cases h
    simp (decide := true) only [opR, if_true, if_false]
    unfold f_X11_worked
    simp (disch := omega) only [if_true, if_false, true_or, or_true, true_and, and_true, not_true_eq_false, not_false_eq_true, zw_id, if_neg, if_pos, zlc_eq, zlc_le, zlc_lt, zlc_ge, zlc_gt, zwl_id]
    all_goals (repeat' split) <;> first | rfl | omega | (simp only [Option.some.injEq, Prod.mk.injEq, and_true, true_and] <;> omega) | (exfalso; omega)
  · simp (decide := true) only [binA, if_true, if_false] at h
    cases h
    simp (decide := true) only [opR, if_true, if_false]
    unfold f_X11_worked
    simp (disch := omega) only [if_true, if_false, true_or, or_true, true_and, and_true, not_true_eq_false, not_false_eq_true, zw_id, if_neg, if_pos, zlc_eq, zlc_le, zlc_lt, zlc_ge, zlc_gt, zwl_id]
    all_goals (repeat' split) <;> first | rfl | omega | (simp only [Option.some.injEq, Prod.mk.injEq, and_true, true_and] <;> omega) | (exfalso; omega)
  · simp (decide := true) only [binA, if_true, if_false] at h
    cases h
    simp (decide := true) only [opR, if_true, if_false]
    unfold f_X11_worked
    simp (disch := omega) only [if_true, if_false, true_or, or_true, true_and, and_true, not_true_eq_false, not_false_eq_true, zw_id, if_neg, if_pos, zlc_eq, zlc_le, zlc_lt, zlc_ge, zlc_gt, zwl_id]
    all_goals (repeat' split) <;> first | rfl | omega | (simp only [Option.some.injEq, Prod.mk.injEq, and_true, true_and] <;> omega) | (exfalso; omega)
  · simp (decide := true) only [binA, if_true, if_false] at h
    split at h
    · rename_i h0
      cases h
      simp (decide := true) only [opR, if_true, if_false]
      unfold f_X11_worked
      simp (disch := omega) only [if_true, if_false, true_or, or_true, true_and, and_true, not_true_eq_false, not_false_eq_true, zw_id, if_neg, if_pos]
    · cases h
  · simp (decide := true) only [binA, if_true, if_false] at h
    split at h
    · rename_i h0
      cases h
      simp (decide := true) only [opR, if_true, if_false]
      unfold f_X11_worked
      simp (disch := omega) only [if_true, if_false, true_or, or_true, true_and, and_true, not_true_eq_false, not_false_eq_true, zw_id, if_neg, if_pos, zlc_le, zwl_id]
      all_goals (repeat' split) <;> first | rfl | omega | (simp only [Option.some.injEq, Prod.mk.injEq, and_true, true_and] <;> omega) | (exfalso; omega)
    · cases h
