/-! text: the descent ends; what its code does -/
set_option maxRecDepth 8000 in
set_option maxHeartbeats 2000000 in
theorem pB_tot {x : zP} {k : Nat → zCd → zP} (h : ∃ r, x = some r) (hk : ∀ i c, x = pR i c → ∃ r, k i c = some r) : ∃ r, pB x k = some r := by
  obtain ⟨r, rfl⟩ := h
  cases r with
  | inl f => exact ⟨_, rfl⟩
  | inr q => exact hk q.1 q.2 rfl
def cT (t : Nat) : Nat := if t = 0 then 4 else if t = 1 then 3 else if t = 2 then 2 else if t = 4 then 7 else if t = 5 then 6 else if t = 6 then 5 else 1
set_option maxRecDepth 8000 in
set_option maxHeartbeats 2000000 in
theorem zD_tot {K V : Nat → Int} {law : Int} {m : Nat} (hm : ∀ i, m ≤ i → K i = 40) : ∀ (n t o i b : Nat), i ≤ m → t ≤ 10 → (t = 3 → K i = 36 ∨ K i = 33 ∨ K i = 17 ∨ K i = 18) → 10 * (m + 1 - i) + cT t ≤ n → ∃ r, zD K V law n t o i b = some r := by
  have lt : ∀ i, K i ≠ 40 → i < m := fun i h => Nat.lt_of_not_le (fun z => h (hm i z))
  intro n
  induction n with
  | zero =>
    intro t o i b hi ht h3 hn
    unfold cT at hn
    (repeat' split at hn) <;> omega
  | succ n ih =>
    -- what a part leaves
    have gt : ∀ (s o i b i1 : Nat) (c1 : zCd), s < 7 → i ≤ m → zD K V law n s o i b = pR i1 c1 → i < i1 ∧ i1 ≤ m := fun s o i b i1 c1 hs hi h => by
      obtain ⟨a1, a2, a3, a4⟩ := zD_bd hm n s o i b _ hi h
      exact ⟨(a3 hs).1, a4⟩
    have c0 : cT 0 = 4 := rfl
    have c1 : cT 1 = 3 := rfl
    have c2 : cT 2 = 2 := rfl
    have c3 : cT 3 = 1 := rfl
    have c4 : cT 4 = 7 := rfl
    have c5 : cT 5 = 6 := rfl
    have c6 : cT 6 = 5 := rfl
    have c7 : cT 7 = 1 := rfl
    have c8 : cT 8 = 1 := rfl
    have c9 : cT 9 = 1 := rfl
    have c10 : cT 10 = 1 := rfl
    have two : ∀ (s l o i b : Nat), s < 7 → s ≠ 3 → 7 ≤ l ∧ l ≤ 10 → i ≤ m → 10 * (m + 1 - i) + cT s ≤ n → cT l = 1 → ∃ r, (pB (zD K V law n s o i b) fun i1 c1 => pB (zD K V law n l o i1 (b + c1.length)) fun i2 c2 => pR i2 (c1 ++ c2)) = some r := by
      intro s l o i b hs hs3 hl hi hn hcl
      refine pB_tot (ih s o i b hi (by omega) (fun z => absurd z hs3) hn) (fun i1 c1 h1 => ?_)
      have := gt s o i b i1 c1 hs hi h1
      exact pB_tot (ih l o i1 _ this.2 (by omega) (fun z => by omega) (by omega)) (fun i2 c2 _ => ⟨_, rfl⟩)
    have loop : ∀ (t s o i b : Nat) (op : Int), s < 7 → s ≠ 3 → 7 ≤ t ∧ t ≤ 10 → i < m → 10 * (m + 1 - i) ≤ n → cT s ≤ 9 → cT t = 1 → ∃ r, (pB (zD K V law n s o (i + 1) b) fun i1 c1 => pB (zD K V law n t o i1 (b + c1.length + 1)) fun i2 c2 => pR i2 (c1 ++ ((op, 0) :: c2))) = some r := by
      intro t s o i b op hs hs3 ht hi hn hcs hct
      refine pB_tot (ih s o (i + 1) b (by omega) (by omega) (fun z => absurd z hs3) (by omega)) (fun i1 c1 h1 => ?_)
      have := gt s o (i + 1) b i1 c1 hs (by omega) h1
      exact pB_tot (ih t o i1 _ this.2 (by omega) (fun z => by omega) (by omega)) (fun i2 c2 _ => ⟨_, rfl⟩)
    intro t o i b hi ht h3 hn
    match t, ht, h3, hn with
    | 0, _, _, hn => exact two 1 7 o i b (by omega) (by omega) (by omega) hi (by omega) rfl
    | 1, _, _, hn => exact two 2 8 o i b (by omega) (by omega) (by omega) hi (by omega) rfl
    | 4, _, _, hn => exact two 5 9 o i b (by omega) (by omega) (by omega) hi (by omega) rfl
    | 5, _, _, hn => exact two 6 10 o i b (by omega) (by omega) (by omega) hi (by omega) rfl
    | 7, _, _, hn =>
      rw [zD_7]
      by_cases hk : K i = 32 ∨ K i = 33
      · rw [if_pos hk]; exact loop 7 1 o i b _ (by omega) (by omega) (by omega) (lt i (by omega)) (by omega) (by omega) rfl
      · rw [if_neg hk]; exact ⟨_, rfl⟩
    | 8, _, _, hn =>
      rw [zD_8]
      by_cases hk : K i = 34 ∨ K i = 35
      · rw [if_pos hk]; exact loop 8 2 o i b _ (by omega) (by omega) (by omega) (lt i (by omega)) (by omega) (by omega) rfl
      · rw [if_neg hk]; exact ⟨_, rfl⟩
    | 9, _, _, hn =>
      rw [zD_9]
      by_cases hk : K i = 22
      · rw [if_pos hk]; exact loop 9 5 o i b _ (by omega) (by omega) (by omega) (lt i (by omega)) (by omega) (by omega) rfl
      · rw [if_neg hk]; exact ⟨_, rfl⟩
    | 10, _, _, hn =>
      rw [zD_10]
      by_cases hk : K i = 23
      · rw [if_pos hk]; exact loop 10 6 o i b _ (by omega) (by omega) (by omega) (lt i (by omega)) (by omega) (by omega) rfl
      · rw [if_neg hk]; exact ⟨_, rfl⟩
    | 2, _, _, hn =>
      rw [zD_2]
      by_cases k1 : K i = 25
      · rw [if_pos k1]; split <;> exact ⟨_, rfl⟩
      · rw [if_neg k1]
        by_cases k2 : isNm (K i) = true
        · rw [if_pos k2]; split <;> exact ⟨_, rfl⟩
        · rw [if_neg k2]
          by_cases k3 : K i = 36 ∨ K i = 33 ∨ K i = 17 ∨ K i = 18
          · rw [if_pos k3]
            by_cases k4 : o < 8
            · rw [if_pos k4]; exact ih 3 (o + 1) i b hi (by omega) (fun _ => k3) (by omega)
            · rw [if_neg k4]; exact ⟨_, rfl⟩
          · rw [if_neg k3]; exact ⟨_, rfl⟩
    | 3, _, h3, hn =>
      have hlt := lt i (by have := h3 rfl; omega)
      rw [zD_3]
      by_cases k1 : K i = 36
      · rw [if_pos k1]
        refine pB_tot (ih 0 o (i + 1) b (by omega) (by omega) (fun z => by omega) (by omega)) (fun i1 c1 _ => ?_)
        split <;> exact ⟨_, rfl⟩
      · rw [if_neg k1]
        by_cases k2 : K i = 33
        · rw [if_pos k2]
          exact pB_tot (ih 2 o (i + 1) b (by omega) (by omega) (fun z => by omega) (by omega)) (fun i1 c1 _ => ⟨_, rfl⟩)
        · rw [if_neg k2]
          by_cases k3 : K i = 17
          · rw [if_pos k3]
            refine pB_tot (ih 2 o (i + 1) b (by omega) (by omega) (fun z => by omega) (by omega)) (fun i1 c1 h1 => ?_)
            have g1 := gt 2 o (i + 1) b i1 c1 (by omega) (by omega) h1
            by_cases k4 : K i1 = 16
            · have := lt i1 (by omega)
              rw [if_pos k4]
              exact pB_tot (ih 2 o (i1 + 1) _ (by omega) (by omega) (fun z => by omega) (by omega)) (fun i2 c2 _ => ⟨_, rfl⟩)
            · rw [if_neg k4]; exact ⟨_, rfl⟩
          · have k18 : K i = 18 := by have := h3 rfl; omega
            rw [if_neg k3, if_pos k18]
            refine pB_tot (ih 4 o (i + 1) b (by omega) (by omega) (fun z => by omega) (by omega)) (fun i1 c1 h1 => ?_)
            have g1 := gt 4 o (i + 1) b i1 c1 (by omega) (by omega) h1
            by_cases k4 : K i1 = 19
            · have := lt i1 (by omega)
              rw [if_pos k4]
              refine pB_tot (ih 0 o (i1 + 1) _ (by omega) (by omega) (fun z => by omega) (by omega)) (fun i2 c2 h2 => ?_)
              have g2 := gt 0 o (i1 + 1) _ i2 c2 (by omega) (by omega) h2
              by_cases k5 : K i2 = 20
              · have := lt i2 (by omega)
                rw [if_pos k5]
                refine pB_tot (ih 0 o (i2 + 1) _ (by omega) (by omega) (fun z => by omega) (by omega)) (fun i3 c3 h3 => ?_)
                split <;> exact ⟨_, rfl⟩
              · rw [if_neg k5]; exact ⟨_, rfl⟩
            · rw [if_neg k4]; exact ⟨_, rfl⟩
    | 6, _, _, hn =>
      rw [zD_6]
      by_cases k1 : K i = 24
      · have := lt i (by omega)
        rw [if_pos k1]
        by_cases k2 : o < 8
        · rw [if_pos k2]
          exact pB_tot (ih 6 (o + 1) (i + 1) b (by omega) (by omega) (fun z => by omega) (by omega)) (fun i1 c1 _ => ⟨_, rfl⟩)
        · rw [if_neg k2]; exact ⟨_, rfl⟩
      · rw [if_neg k1]
        refine pB_tot (ih 0 o i b hi (by omega) (fun z => by omega) (by omega)) (fun i1 c1 h1 => ?_)
        have g1 := gt 0 o i b i1 c1 (by omega) hi h1
        by_cases k4 : 26 ≤ K i1 ∧ K i1 ≤ 31
        · have := lt i1 (by omega)
          rw [if_pos k4]
          exact pB_tot (ih 0 o (i1 + 1) _ (by omega) (by omega) (fun z => by omega) (by omega)) (fun i2 c2 _ => ⟨_, rfl⟩)
        · rw [if_neg k4]; exact ⟨_, rfl⟩
    | t + 11, ht, _, _ => omega
/-! code at a place, and its run -/
def cAt (c : Nat → Int × Int) : Nat → zCd → Prop
  | _, [] => True
  | b, x :: l => c b = x ∧ cAt c (b + 1) l
set_option maxRecDepth 8000 in
set_option maxHeartbeats 2000000 in
theorem cAt_app {c : Nat → Int × Int} : ∀ (l1 l2 : zCd) (b : Nat), cAt c b (l1 ++ l2) ↔ cAt c b l1 ∧ cAt c (b + l1.length) l2 := by
  intro l1
  induction l1 with
  | nil => intro l2 b; exact ⟨fun h => ⟨trivial, h⟩, fun h => h.2⟩
  | cons x l1 ih =>
    intro l2 b
    rw [List.cons_append, List.length_cons]
    show c b = x ∧ cAt c (b + 1) (l1 ++ l2) ↔ (c b = x ∧ cAt c (b + 1) l1) ∧ _
    rw [ih, show b + 1 + l1.length = b + (l1.length + 1) by omega, and_assoc]
set_option maxRecDepth 8000 in
set_option maxHeartbeats 2000000 in
theorem cAt_congr {c c' : Nat → Int × Int} : ∀ (l : zCd) (b : Nat), cAt c b l → (∀ j, b ≤ j → j < b + l.length → c' j = c j) → cAt c' b l := by
  intro l
  induction l with
  | nil => intro b _ _; trivial
  | cons x l ih =>
    intro b h e
    rw [List.length_cons] at e
    exact ⟨by rw [e b (Nat.le_refl _) (by omega)]; exact h.1, ih (b + 1) h.2 (fun j h1 h2 => e j (by omega) (by omega))⟩
def rn (f : Bool) (c : Nat → Int × Int) (q : Nat) (env : Nat → Int) (s s' : Nat × List Int) : Prop := ∃ n, iterA f c q env n s = some s'
set_option maxRecDepth 8000 in
set_option maxHeartbeats 2000000 in
theorem iterA_add {f : Bool} {c : Nat → Int × Int} {q : Nat} {env : Nat → Int} : ∀ (n m : Nat) (s s1 s2 : Nat × List Int), iterA f c q env n s = some s1 → iterA f c q env m s1 = some s2 → iterA f c q env (n + m) s = some s2 := by
  intro n
  induction n with
  | zero =>
    intro m s s1 s2 h1 h2
    cases h1
    rw [Nat.zero_add]
    exact h2
  | succ n ih =>
    intro m s s1 s2 h1 h2
    rw [Nat.succ_add]
    unfold iterA at h1 ⊢
    cases hs : stepA f c q env s with
    | none => rw [hs] at h1; cases h1
    | some s3 =>
      rw [hs] at h1
      exact ih m s3 s1 s2 h1 h2
set_option maxRecDepth 8000 in
set_option maxHeartbeats 2000000 in
theorem rn.trans {f : Bool} {c : Nat → Int × Int} {q : Nat} {env : Nat → Int} {s s1 s2 : Nat × List Int} (h1 : rn f c q env s s1) (h2 : rn f c q env s1 s2) : rn f c q env s s2 := by
  obtain ⟨n, h1⟩ := h1
  obtain ⟨m, h2⟩ := h2
  exact ⟨n + m, iterA_add n m s s1 s2 h1 h2⟩
set_option maxRecDepth 8000 in
set_option maxHeartbeats 2000000 in
theorem rn.rfl_ {f : Bool} {c : Nat → Int × Int} {q : Nat} {env : Nat → Int} {s : Nat × List Int} : rn f c q env s s := ⟨0, rfl⟩
set_option maxRecDepth 8000 in
set_option maxHeartbeats 2000000 in
theorem rn.one {f : Bool} {c : Nat → Int × Int} {q : Nat} {env : Nat → Int} {s s' : Nat × List Int} (h : stepA f c q env s = some s') : rn f c q env s s' := ⟨1, by unfold iterA; rw [h]; rfl⟩
section ZTXS
variable {f : Bool} {c : Nat → Int × Int} {q : Nat} {env : Nat → Int}
set_option maxRecDepth 8000 in
set_option maxHeartbeats 2000000 in
theorem rn_num {pc : Nat} {v : Int} {st : List Int} (h : c pc = (25, v)) (hp : pc < q) (hv : 0 ≤ v ∧ v ≤ 9999) (hl : st.length < 150) : rn f c q env (pc, st) (pc + 1, v :: st) := by
  refine rn.one ?_
  unfold stepA
  dsimp only
  rw [h]
  dsimp only
  rw [if_pos hp, if_pos rfl, if_pos ⟨hv.1, hv.2, hl⟩]
set_option maxRecDepth 8000 in
set_option maxHeartbeats 2000000 in
theorem rn_name {pc : Nat} {v : Int} {st : List Int} (h : c pc = (50, v)) (hp : pc < q) (hv : okName f v = true) (hl : st.length < 150) : rn f c q env (pc, st) (pc + 1, env v.toNat :: st) := by
  refine rn.one ?_
  unfold stepA
  dsimp only
  rw [h]
  dsimp only
  rw [if_pos hp, if_neg (by decide), if_pos rfl, if_pos ⟨hv, hl⟩]
set_option maxRecDepth 8000 in
set_option maxHeartbeats 2000000 in
theorem rn_over {pc : Nat} {v : Nat} {st : List Int} (h : c pc = (20, (v : Int))) (hp : pc < q) (hv : pc < v ∧ v ≤ q) : rn f c q env (pc, st) (v, st) := by
  refine rn.one ?_
  unfold stepA
  dsimp only
  rw [h]
  dsimp only
  rw [if_pos hp, if_neg (by decide), if_neg (by decide), if_pos rfl, if_pos ⟨by omega, by omega⟩, Int.toNat_natCast]
set_option maxRecDepth 8000 in
set_option maxHeartbeats 2000000 in
theorem rn_then {pc : Nat} {v : Nat} {y : Int} {st : List Int} (h : c pc = (19, (v : Int))) (hp : pc < q) (hv : pc < v ∧ v ≤ q) : rn f c q env (pc, y :: st) (if y = 0 then v else pc + 1, st) := by
  refine rn.one ?_
  unfold stepA
  dsimp only
  rw [h]
  dsimp only
  rw [if_pos hp, if_neg (by decide), if_neg (by decide), if_neg (by decide), if_pos rfl, if_pos ⟨by omega, by omega⟩, Int.toNat_natCast]
set_option maxRecDepth 8000 in
set_option maxHeartbeats 2000000 in
theorem rn_neg {pc : Nat} {v y : Int} {st : List Int} (h : c pc = (51, v)) (hp : pc < q) : rn f c q env (pc, y :: st) (pc + 1, (-y) :: st) := by
  refine rn.one ?_
  unfold stepA
  dsimp only
  rw [h]
  dsimp only
  rw [if_pos hp, if_neg (by decide), if_neg (by decide), if_neg (by decide), if_neg (by decide), if_pos rfl]
set_option maxRecDepth 8000 in
set_option maxHeartbeats 2000000 in
theorem rn_not {pc : Nat} {v y : Int} {st : List Int} (h : c pc = (24, v)) (hp : pc < q) (hy : y = 0 ∨ y = 1) : rn f c q env (pc, y :: st) (pc + 1, (1 - y) :: st) := by
  refine rn.one ?_
  unfold stepA
  dsimp only
  rw [h]
  dsimp only
  rw [if_pos hp, if_neg (by decide), if_neg (by decide), if_neg (by decide), if_neg (by decide), if_neg (by decide), if_pos rfl, if_pos hy]
set_option maxRecDepth 8000 in
set_option maxHeartbeats 2000000 in
theorem rn_bin {pc : Nat} {o v x y z : Int} {st : List Int} (h : c pc = (o, v)) (hp : pc < q) (hb : binA o x y = some z) : rn f c q env (pc, y :: x :: st) (pc + 1, z :: st) := by
  have hr := binA_rng hb
  refine rn.one ?_
  unfold stepA
  dsimp only
  rw [h]
  dsimp only
  rw [if_pos hp, if_neg (by omega), if_neg (by omega), if_neg (by omega), if_neg (by omega), if_neg (by omega), if_neg (by omega), hb]
  rfl
end ZTXS
set_option maxRecDepth 8000 in
set_option maxHeartbeats 2000000 in
theorem binA_tot {o x y : Int} (h : o = 17 ∨ (26 ≤ o ∧ o ≤ 35)) : ∃ z, binA o x y = some z ∧ (26 ≤ o ∧ o ≤ 31 → z = 0 ∨ z = 1) := by
  have h2 : o = 17 ∨ o = 26 ∨ o = 27 ∨ o = 28 ∨ o = 29 ∨ o = 30 ∨ o = 31 ∨ o = 32 ∨ o = 33 ∨ o = 34 ∨ o = 35 := by omega
  rcases h2 with rfl | rfl | rfl | rfl | rfl | rfl | rfl | rfl | rfl | rfl | rfl <;> refine ⟨_, rfl, fun hh => ?_⟩ <;> first | omega | (split <;> omega)
set_option maxRecDepth 8000 in
set_option maxHeartbeats 2000000 in
theorem binA_and {o x y : Int} (h : o = 22 ∨ o = 23) (hx : x = 0 ∨ x = 1) (hy : y = 0 ∨ y = 1) : ∃ z, binA o x y = some z ∧ (z = 0 ∨ z = 1) := by
  rcases h with rfl | rfl
  · refine ⟨if 0 < x + y then 1 else 0, ?_, by split <;> omega⟩
    unfold binA
    simp (decide := true) only [if_false, if_true]
    rw [if_pos ⟨hx, hy⟩]
  · refine ⟨x * y, ?_, ?_⟩
    · unfold binA
      simp (decide := true) only [if_false, if_true]
      rw [if_pos ⟨hx, hy⟩]
    · rcases hx with rfl | rfl <;> rcases hy with rfl | rfl <;> decide
