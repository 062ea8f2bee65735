/-! fewest: the reference's numbers, one by one -/
set_option maxRecDepth 8000 in
set_option maxHeartbeats 2000000 in
theorem lays_step {M : zM} {W x k : Nat} {c v : Int} (hW : 1 ≤ W ∧ W ≤ 17) (hx : x < 5000) (hk : k < 3) (hv : v = k) : f_X11_laysActs_L22 (W : Int) (x : Int) c v M = some (.inl (((x / W : Nat) : Int), (if x % W = 0 then c else c + 1), v + (-1), zput M 69 0 k ((x % W : Nat) : Int))) := by
  have hm : x % W < W := Nat.mod_lt _ (by omega)
  have e1 : zrem (zw (x : Int)) (zw (W : Int)) = ((x % W : Nat) : Int) := by
    rw [zw_nat (by omega), zw_nat (by omega), zrem_pos (by omega)]
    rfl
  have e2 : Int.tdiv (zw (x : Int)) (zw (W : Int)) = ((x / W : Nat) : Int) := by
    rw [zw_nat (by omega), zw_nat (by omega)]
    rfl
  subst hv
  unfold f_X11_laysActs_L22 f_X11_laysActs_j60
  rw [e1, e2, zw_nat (n := k) (by omega), zw_nat (n := W) (by omega), zix_nat (by omega), if_neg (by omega), if_neg (by omega), if_pos (by omega), zlt_, if_neg (by omega), if_pos (by omega), zput_eq, zw_nat (by omega)]
  by_cases h : x % W = 0
  · rw [if_pos (by omega), if_pos h, Int.add_zero]
  · rw [if_neg (by omega), if_neg h]
set_option maxRecDepth 8000 in
set_option maxHeartbeats 2000000 in
theorem lays_end {M : zM} {W x c v : Int} (hv : v = -1) : f_X11_laysActs_L22 W x c v M = some (.inr (c, M)) := by
  subst hv
  unfold f_X11_laysActs_L22
  rw [if_pos (by decide)]
set_option maxRecDepth 8000 in
set_option maxHeartbeats 2000000 in
theorem R_laysActs {M : zM} {A : Nat → Int} {n W x : Nat} (hM : M 43 0 = A) (hA : headOK A) (hW : W = 1 + 2 * (A 1).toNat) (hx : x < 5000) (hn : n = 1 ∨ n = 2 ∨ n = 3) : ∃ M', f_X11_laysActs x n M = some (cntF (dg W n x) n, M') ∧ (∀ k, k < n → M' 69 0 k = dg W n x k) ∧ ∀ k i, k ≠ 69 → M' k i = M k i := by
  have h0 := hA.thg
  have hWi : (1 + 2 * M 43 0 1 : Int) = (W : Int) := by rw [hM, hW]; omega
  have hW17 : 1 ≤ W ∧ W ≤ 17 := by omega
  have hx1 : x / W < 5000 := Nat.lt_of_le_of_lt (Nat.div_le_self _ _) hx
  have hx2 : x / W / W < 5000 := Nat.lt_of_le_of_lt (Nat.div_le_self _ _) hx1
  have zF4 : zF = 999996 + 1 + 1 + 1 + 1 := rfl
  unfold f_X11_laysActs
  rw [hWi]
  generalize hb : (fun s : Int × Int × Int × zM => f_X11_laysActs_L22 (W : Int) s.1 s.2.1 s.2.2.1 s.2.2.2) = body
  have st : ∀ (M : zM) (x k : Nat) (c v : Int), x < 5000 → k < 3 → v = k → body ((x : Int), c, v, M) = some (.inl (((x / W : Nat) : Int), (if x % W = 0 then c else c + 1), v + (-1), zput M 69 0 k ((x % W : Nat) : Int))) := fun M x k c v h1 h2 h3 => by rw [← hb]; exact lays_step hW17 h1 h2 h3
  have en : ∀ (M : zM) (x c v : Int), v = -1 → body (x, c, v, M) = some (.inr (c, M)) := fun M x c v h => by rw [← hb]; exact lays_end h
  rcases hn with rfl | rfl | rfl
  · have r : zlp body zF ((x : Int), 0, (((1 : Nat) : Int) - 1), M) = some (if x % W = 0 then 0 else 0 + 1, zput M 69 0 0 ((x % W : Nat) : Int)) := by
      rw [zF4, zlq_inl (st M x 0 0 _ hx (by omega) (by omega)), zlq_inr (en _ _ _ _ (by omega))]
    rw [r]
    refine ⟨zput M 69 0 0 ((x % W : Nat) : Int), zbs _ _, fun k hk => ?_, fun k i hk => zput_rowk (by omega)⟩
    have : k = 0 := by omega
    subst this
    exact zput_eq _ _ _ _ _
  · have r : zlp body zF ((x : Int), 0, (((2 : Nat) : Int) - 1), M) = some (if x / W % W = 0 then (if x % W = 0 then 0 else 0 + 1) else (if x % W = 0 then 0 else 0 + 1) + 1, zput (zput M 69 0 1 ((x % W : Nat) : Int)) 69 0 0 ((x / W % W : Nat) : Int)) := by
      rw [zF4, zlq_inl (st M x 1 0 _ hx (by omega) (by omega)), zlq_inl (st _ (x / W) 0 _ _ hx1 (by omega) (by omega)), zlq_inr (en _ _ _ _ (by omega))]
    rw [r]
    refine ⟨zput (zput M 69 0 1 ((x % W : Nat) : Int)) 69 0 0 ((x / W % W : Nat) : Int), ?_, fun k hk => ?_, fun k i hk => by rw [zput_rowk (by omega), zput_rowk (by omega)]⟩
    · rw [zbs]
      have e : cntF (dg W 2 x) 2 = if x % W = 0 then (if x / W % W = 0 then 0 else 0 + 1) else (if x / W % W = 0 then 0 else 0 + 1) + 1 := rfl
      rw [e]
      refine congrArg some (Prod.ext ?_ rfl)
      dsimp only
      (repeat' split) <;> rfl
    · have : k = 0 ∨ k = 1 := by omega
      rcases this with rfl | rfl
      · exact zput_eq _ _ _ _ _
      · rw [zput_j (by omega)]; exact zput_eq _ _ _ _ _
  · have r : zlp body zF ((x : Int), 0, (((3 : Nat) : Int) - 1), M) = some (if x / W / W % W = 0 then (if x / W % W = 0 then (if x % W = 0 then 0 else 0 + 1) else (if x % W = 0 then 0 else 0 + 1) + 1) else (if x / W % W = 0 then (if x % W = 0 then 0 else 0 + 1) else (if x % W = 0 then 0 else 0 + 1) + 1) + 1, zput (zput (zput M 69 0 2 ((x % W : Nat) : Int)) 69 0 1 ((x / W % W : Nat) : Int)) 69 0 0 ((x / W / W % W : Nat) : Int)) := by
      rw [zF4, zlq_inl (st M x 2 0 _ hx (by omega) (by omega)), zlq_inl (st _ (x / W) 1 _ _ hx1 (by omega) (by omega)), zlq_inl (st _ (x / W / W) 0 _ _ hx2 (by omega) (by omega)), zlq_inr (en _ _ _ _ (by omega))]
    rw [r]
    refine ⟨zput (zput (zput M 69 0 2 ((x % W : Nat) : Int)) 69 0 1 ((x / W % W : Nat) : Int)) 69 0 0 ((x / W / W % W : Nat) : Int), ?_, fun k hk => ?_, fun k i hk => by rw [zput_rowk (by omega), zput_rowk (by omega), zput_rowk (by omega)]⟩
    · rw [zbs]
      have e : cntF (dg W 3 x) 3 = if x % W = 0 then (if x / W % W = 0 then (if x / W / W % W = 0 then 0 else 0 + 1) else (if x / W / W % W = 0 then 0 else 0 + 1) + 1) else (if x / W % W = 0 then (if x / W / W % W = 0 then 0 else 0 + 1) else (if x / W / W % W = 0 then 0 else 0 + 1) + 1) + 1 := rfl
      rw [e]
      refine congrArg some (Prod.ext ?_ rfl)
      dsimp only
      (repeat' split) <;> rfl
    · have : k = 0 ∨ k = 1 ∨ k = 2 := by omega
      rcases this with rfl | rfl | rfl
      · exact zput_eq _ _ _ _ _
      · rw [zput_j (by omega)]; exact zput_eq _ _ _ _ _
      · rw [zput_j (by omega), zput_j (by omega)]; exact zput_eq _ _ _ _ _
set_option maxRecDepth 8000 in
set_option maxHeartbeats 2000000 in
theorem dg_lt {W n x k : Nat} (hW : 1 ≤ W) : dg W n x k < W := by
  unfold dg
  have h := fun y : Nat => Nat.mod_lt y (show 0 < W by omega)
  split
  · omega
  · split
    · exact h _
    · split
      · exact h _
      · exact h _
set_option maxRecDepth 8000 in
set_option maxHeartbeats 2000000 in
theorem cntF_le {ac : Nat → Nat} : ∀ k, 0 ≤ cntF ac k ∧ cntF ac k ≤ k := by
  intro k
  induction k with
  | zero => exact ⟨Int.le_refl _, Int.le_refl _⟩
  | succ k ih =>
    unfold cntF
    split <;> omega
/-- what the reference has of the fewest yet -/
def refS (n : Nat) (v : Int) (N : zM) (s : zBS) : Prop := (s.1 = n + 1 ∧ v = -1) ∨ ((0 ≤ s.1 ∧ s.1 ≤ n) ∧ v = s.1 ∧ ∀ k, k < n → N 70 0 k = s.2 k ∧ s.2 k < 17)
set_option maxRecDepth 8000 in
set_option maxHeartbeats 2000000 in
theorem R_copyActs {M : zM} {th ow p f e : Int} {n x : Nat} {i : Int} {ac : Nat → Nat} (hn : n ≤ 3) (h69 : ∀ k, k < n → M 69 0 k = ac k) : ∃ M', zlp (fun s : Int × zM => f_X11_fewest_L124 th ow n i p f x s.1 s.2) zF (0, M) = some M' ∧ (∀ k, k < n → M' 70 0 k = ac k) ∧ ∀ k i, k ≠ 70 → M' k i = M k i := by
  refine zT_cnt0 (body := fun s : Int × zM => f_X11_fewest_L124 th ow n i p f x s.1 s.2) (fun j N => (∀ k, k < j → N 70 0 k = ac k) ∧ ∀ k i, k ≠ 70 → N k i = M k i) n (Q := fun M' => (∀ k, k < n → M' 70 0 k = ac k) ∧ ∀ k i, k ≠ 70 → M' k i = M k i) ?_ ?_ (by unfold zF; omega) ⟨fun k hk => by omega, fun _ _ _ => rfl⟩
  · rintro j N hj ⟨g1, g2⟩
    dsimp only
    unfold f_X11_fewest_L124
    rw [zw_nat (by omega), zw_nat (by omega), if_neg (by omega), if_pos (by omega), if_pos (by omega), zix_nat (by omega), zlt_]
    refine zT_some (Or.inl ⟨_, rfl, fun k hk => ?_, fun k i hk => by rw [zput_rowk (by omega)]; exact g2 k i hk⟩)
    by_cases h : k = j
    · subst h
      rw [zput_eq, g2 69 0 (by omega)]; exact h69 k hj
    · rw [zput_j h]; exact g1 k (by omega)
  · rintro N ⟨g1, g2⟩
    dsimp only
    unfold f_X11_fewest_L124
    rw [zw_nat (by omega), if_pos (Int.le_refl _)]
    exact zT_some ⟨N, rfl, g1, g2⟩
set_option maxRecDepth 8000 in
set_option maxHeartbeats 2000000 in
theorem R_numbers {M : zM} {T : Nat → Nat → Option zLw} {A W : Nat → Int} {th n P : Nat} {ow i : Int} (hM : M 43 0 = A) (hA : headOK A) (hl : rowOK A (sLay A W)) (hd : sLay A W 38 ≤ 9999) (hW : M 68 0 = W) (hT : textsOK M (A 3) T) (h1 : 0 < A 1) (hth : (th : Int) < A 1) (how : 0 ≤ ow ∧ ow < 6) (hn : n = 1 ∨ n = 2 ∨ n = 3) (hP : P < 5000) : ∃ (v : Int) (M' : zM), zlp (fun s : Int × Int × zM => f_X11_fewest_L78 th ow n i P s.1 s.2.1 s.2.2) zF (-1, 0, M) = some (v, M') ∧ refS n v M' (fN (numU T A (sLay A W) th ow n) P ((n : Int) + 1, fun _ => 0)) ∧ M' 43 0 = A ∧ frV M M' := by
  have h0 := hA.thg
  generalize hWW : 1 + 2 * (A 1).toNat = Wy
  have hWy : 1 ≤ Wy ∧ Wy ≤ 17 := by omega
  generalize hF : (fun x => fN (numU T A (sLay A W) th ow n) x ((n : Int) + 1, fun _ => 0)) = F
  have hF0 : F 0 = ((n : Int) + 1, fun _ => 0) := by rw [← hF]; rfl
  have hFs : ∀ x, F (x + 1) = numU T A (sLay A W) th ow n x (F x) := fun x => by rw [← hF]; rfl
  have hFP : fN (numU T A (sLay A W) th ow n) P ((n : Int) + 1, fun _ => 0) = F P := by rw [← hF]
  rw [hFP]
  have key := zT_for (body := fun s : Int × Int × zM => f_X11_fewest_L78 th ow n i P s.1 s.2.1 s.2.2) (fun x s => s.2.1 = (x : Int) ∧ refS n s.1 s.2.2 (F x) ∧ s.2.2 43 0 = A ∧ (∀ q, 161 ≤ q → s.2.2 68 0 q = W q) ∧ frV M s.2.2) P (Q := fun e : Int × zM => refS n e.1 e.2 (F P) ∧ e.2 43 0 = A ∧ frV M e.2) ?_ (m := zF) (by unfold zF; omega) (s := (-1, 0, M)) ⟨rfl, Or.inl ⟨by rw [hF0], rfl⟩, hM, fun q _ => by dsimp only; rw [hW], frV.rfl_⟩
  · obtain ⟨⟨v, M'⟩, k1, k2, k3, k4⟩ := key
    exact ⟨v, M', k1, k2, k3, k4⟩
  · rintro x ⟨v, y, N⟩ hx ⟨g1, g2, g3, g4, g5⟩
    dsimp only at g1 g2 g3 g4 g5 ⊢
    subst g1
    unfold f_X11_fewest_L78
    rw [zw_nat (n := P) (by omega), zw_nat (n := x) (by omega)]
    by_cases hxP : x = P
    · subst hxP
      rw [if_pos (Int.le_refl _)]
      exact zT_some (Or.inr ⟨_, rfl, g2, g3, g5⟩)
    · rw [if_neg (by omega)]
      obtain ⟨N1, a1, a2, a3⟩ := R_laysActs (x := x) (n := n) g3 hA hWW.symm (by omega) hn
      generalize hac : dg Wy n x = ac at a1 a2
      have haclt : ∀ k, ac k < Wy := fun k => by rw [← hac]; exact dg_lt (by omega)
      have hc := cntF_le (ac := ac) n
      have hnum : F (x + 1) = leafU th ow (sRunF T A (sLay A W) ac n) ac (cntF ac n) (F x) := by rw [hFs]; unfold numU; rw [hWW, hac]
      have f1 : frV N N1 := fun k i a b => a3 k i (by omega)
      rw [a1]
      simp only [zbs]
      have hv : -1 ≤ v ∧ v ≤ 3 := by rcases g2 with ⟨q1, q2⟩ | ⟨q1, q2, q3⟩ <;> omega
      have hF1 : -1 ≤ (F x).1 ∧ (F x).1 ≤ 4 := by rcases g2 with ⟨q1, q2⟩ | ⟨q1, q2, q3⟩ <;> omega
      -- nothing new
      have same : ∀ N2, frV N1 N2 → (∀ q, 161 ≤ q → N2 68 0 q = W q) → N2 43 0 = A → N2 70 0 = N 70 0 → F (x + 1) = F x → zT (f_X11_fewest_j150 th ow n i P v x N2) (fun r => (∃ s', r = .inl s' ∧ x < P ∧ (s'.2.1 = ((x + 1 : Nat) : Int) ∧ refS n s'.1 s'.2.2 (F (x + 1)) ∧ s'.2.2 43 0 = A ∧ (∀ q, 161 ≤ q → s'.2.2 68 0 q = W q) ∧ frV M s'.2.2)) ∨ ∃ e, r = .inr e ∧ (refS n e.1 e.2 (F P) ∧ e.2 43 0 = A ∧ frV M e.2)) := by
        intro N2 e1 e2 e3 e4 e5
        unfold f_X11_fewest_j150
        refine zT_some (Or.inl ⟨_, rfl, by omega, by dsimp only; omega, ?_, e3, e2, g5.trans (f1.trans e1)⟩)
        dsimp only
        rw [e5]
        unfold refS at g2 ⊢
        rw [e4]
        exact g2
      -- it is tried
      have tried : (cntF ac n < (F x).1) → zT (f_X11_fewest_j107 th ow n i P v x (cntF ac n) N1) (fun r => (∃ s', r = .inl s' ∧ x < P ∧ (s'.2.1 = ((x + 1 : Nat) : Int) ∧ refS n s'.1 s'.2.2 (F (x + 1)) ∧ s'.2.2 43 0 = A ∧ (∀ q, 161 ≤ q → s'.2.2 68 0 q = W q) ∧ frV M s'.2.2)) ∨ ∃ e, r = .inr e ∧ (refS n e.1 e.2 (F P) ∧ e.2 43 0 = A ∧ frV M e.2)) := by
        intro hlt
        obtain ⟨N2, b1, b2, b3⟩ := R_isWithBy (T := T) (M := N1) (ac := ac) (n := n) (th := th) (ow := ow) (W := W) (by rw [a3 43 0 (by omega)]; exact g3) hA hl hd (fun q hq => by rw [a3 68 0 (by omega)]; exact g4 q hq) (f1.txt (g5.txt hT)) h1 hth how (by omega) (fun k => by have := haclt k; omega) a2
        have c43 : N2 43 0 = A := by rw [b3 43 0 (by omega) (by omega) (by omega), a3 43 0 (by omega)]; exact g3
        have c70 : N2 70 0 = N 70 0 := by rw [b3 70 0 (by omega) (by omega) (by omega), a3 70 0 (by omega)]
        unfold f_X11_fewest_j107
        rw [b1]
        simp only [zbs]
        by_cases hq : sRunF T A (sLay A W) ac n (14 + th) = ow
        · rw [if_pos hq, if_neg (by rw [zw01.2.1]; omega)]
          obtain ⟨N3, d1, d2, d3⟩ := R_copyActs (M := N2) (th := th) (ow := ow) (p := P) (f := cntF ac n) (e := 0) (n := n) (x := x) (i := i) (ac := ac) (by omega) (fun k hk => by rw [b3 69 0 (by omega) (by omega) (by omega)]; exact a2 k hk)
          rw [d1]
          simp only [zbs]
          unfold f_X11_fewest_j150
          refine zT_some (Or.inl ⟨_, rfl, by omega, by dsimp only; omega, ?_, ?_, fun q hq => ?_, ?_⟩)
          · dsimp only
            rw [hnum]
            unfold leafU
            rw [if_pos ⟨hlt, hq⟩]
            exact Or.inr ⟨hc, rfl, fun k hk => ⟨d2 k hk, by have := haclt k; dsimp only; omega⟩⟩
          · dsimp only; rw [d3 43 0 (by omega)]; exact c43
          · dsimp only; rw [d3 68 0 (by omega)]; exact b2 q hq
          · exact g5.trans (f1.trans (b3.v.trans (fun k i a b => d3 k i (by omega))))
        · rw [if_neg hq, if_pos zw_0]
          exact same N2 b3.v b2 c43 c70 (by rw [hnum]; unfold leafU; rw [if_neg (fun z => hq z.2)])
      rw [zw_id (z := v) (by omega) (by omega), zw_id (z := cntF ac n) (by omega) (by omega)]
      by_cases hv1 : v = -1
      · rw [if_pos hv1]
        refine tried ?_
        rcases g2 with ⟨q1, q2⟩ | ⟨q1, q2, q3⟩ <;> omega
      · rw [if_neg hv1]
        have hvF : v = (F x).1 := by rcases g2 with ⟨q1, q2⟩ | ⟨q1, q2, q3⟩ <;> omega
        by_cases hle : v ≤ cntF ac n
        · rw [if_pos hle]
          exact same N1 frV.rfl_ (fun q hq => by rw [a3 68 0 (by omega)]; exact g4 q hq) (by rw [a3 43 0 (by omega)]; exact g3) (a3 70 0 (by omega)) (by rw [hnum]; unfold leafU; rw [if_neg (fun z => by omega)])
        · rw [if_neg hle]
          exact tried (by omega)
