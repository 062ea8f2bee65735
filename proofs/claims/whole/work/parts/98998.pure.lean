/-! text: clauses said; deeds, as the class reads them -/
def sB {α β : Type} (x : (Int × Nat) ⊕ α) (f : α → (Int × Nat) ⊕ β) : (Int × Nat) ⊕ β := match x with
  | .inl q => .inl q
  | .inr a => f a
def numI (K V : Nat → Int) (lo hi : Int) (i : Nat) : (Int × Nat) ⊕ Nat := if K i = 25 then (if lo ≤ V i ∧ V i ≤ hi then .inr (i + 1) else .inl (2, i)) else .inl (1, i)
def expI (K : Nat → Int) (k : Int) (i : Nat) : (Int × Nat) ⊕ Nat := if K i = k then .inr (i + 1) else .inl (1, i)
def loT (k : Int) : Int := if k = 10 then 1 else 0
def hiT (k : Int) : Int := if k = 4 then 10 else if k = 6 then 99 else if k = 10 then 60 else 7
def dI (K V : Nat → Int) (k : Int) (i : Nat) : (Int × Nat) ⊕ Nat := if k = 5 then sB (sB (sB (sB (numI K V 0 99 i) (expI K 16)) (numI K V 0 5)) (expI K 13)) (numI K V 1 9) else if k = 9 then sB (sB (numI K V 0 7 i) (expI K 2)) (numI K V 0 5) else numI K V (loT k) (hiT k) i
set_option maxRecDepth 8000 in
set_option maxHeartbeats 2000000 in
theorem numI_ok {K V : Nat → Int} {lo hi : Int} {i j : Nat} (h : numI K V lo hi i = .inr j) : j = i + 1 ∧ K i = 25 ∧ lo ≤ V i ∧ V i ≤ hi := by
  unfold numI at h
  by_cases h1 : K i = 25
  · rw [if_pos h1] at h
    by_cases h2 : lo ≤ V i ∧ V i ≤ hi
    · rw [if_pos h2] at h; cases h; exact ⟨rfl, h1, h2⟩
    · rw [if_neg h2] at h; cases h
  · rw [if_neg h1] at h; cases h
set_option maxRecDepth 8000 in
set_option maxHeartbeats 2000000 in
theorem expI_ok {K : Nat → Int} {k : Int} {i j : Nat} (h : expI K k i = .inr j) : j = i + 1 ∧ K i = k := by
  unfold expI at h
  by_cases h1 : K i = k
  · rw [if_pos h1] at h; cases h; exact ⟨rfl, h1⟩
  · rw [if_neg h1] at h; cases h
set_option maxRecDepth 8000 in
set_option maxHeartbeats 2000000 in
theorem sB_ok {α β : Type} {x : (Int × Nat) ⊕ α} {f : α → (Int × Nat) ⊕ β} {b : β} (h : sB x f = .inr b) : ∃ a, x = .inr a ∧ f a = .inr b := by
  cases x with
  | inl q => cases h
  | inr a => exact ⟨a, rfl, h⟩
set_option maxRecDepth 8000 in
set_option maxHeartbeats 2000000 in
/-- what a deed's numbers are when it can be read -/
theorem dI_ok {K V : Nat → Int} {k : Int} {i j : Nat} (h : dI K V k i = .inr j) : i < j ∧ (k = 5 → (0 ≤ V i ∧ V i ≤ 99) ∧ (0 ≤ V (i + 2) ∧ V (i + 2) ≤ 5) ∧ 1 ≤ V (i + 4) ∧ V (i + 4) ≤ 9) ∧ (k = 9 → (0 ≤ V i ∧ V i ≤ 7) ∧ 0 ≤ V (i + 2) ∧ V (i + 2) ≤ 5) ∧ (k ≠ 5 → k ≠ 9 → loT k ≤ V i ∧ V i ≤ hiT k) := by
  unfold dI at h
  by_cases h5 : k = 5
  · rw [if_pos h5] at h
    obtain ⟨a4, h4, g4⟩ := sB_ok h
    obtain ⟨a3, h3, g3⟩ := sB_ok h4
    obtain ⟨a2, h2, g2⟩ := sB_ok h3
    obtain ⟨a1, h1, g1⟩ := sB_ok h2
    obtain ⟨e1, -, b1⟩ := numI_ok h1
    obtain ⟨e2, -⟩ := expI_ok g1
    obtain ⟨e3, -, b3⟩ := numI_ok g2
    obtain ⟨e4, -⟩ := expI_ok g3
    obtain ⟨e5, -, b5⟩ := numI_ok g4
    subst e1 e2 e3 e4 e5
    exact ⟨by omega, fun _ => ⟨b1, b3, b5⟩, fun z => by omega, fun z => absurd h5 z⟩
  · rw [if_neg h5] at h
    by_cases h9 : k = 9
    · rw [if_pos h9] at h
      obtain ⟨a3, h3, g3⟩ := sB_ok h
      obtain ⟨a2, h2, g2⟩ := sB_ok h3
      obtain ⟨e1, -, b1⟩ := numI_ok h2
      obtain ⟨e2, -⟩ := expI_ok g2
      obtain ⟨e3, -, b3⟩ := numI_ok g3
      subst e1 e2 e3
      exact ⟨by omega, fun z => by omega, fun _ => ⟨b1, b3⟩, fun _ z => absurd h9 z⟩
    · rw [if_neg h9] at h
      obtain ⟨e1, -, b1⟩ := numI_ok h
      subst e1
      exact ⟨by omega, fun z => by omega, fun z => by omega, fun _ _ => b1⟩
/-- a clause: word, numbers, and where a law's orders lie (class: p to q; reference: at) -/
abbrev zCl : Type := Int × Int × Int × Int × Nat × Nat × Nat
def toldB (Cs : List zCl) (k : Int) : Bool := Cs.any (fun R => decide (R.1 = k))
def clS (K V : Nat → Int) (n i : Nat) (Cs : List zCl) (e X : zCd) : Option ((Int × Nat) ⊕ (Nat × zCl × zCd)) :=
  if ¬ K i ≤ 10 then some (.inl (1, i))
  else if K i < 4 ∧ toldB Cs (K i) = true then some (.inl (4, i))
  else if ¬ Cs.length < 24 then some (.inl (6, i))
  else if K i < 4 then (match zD K V (K i) n 0 0 (i + 1) e.length with
    | none => none
    | some (.inl q) => some (.inl q)
    | some (.inr q) => if K q.1 = 38 then some (.inr (q.1 + 1, (K i, 0, 0, 0, e.length, e.length + q.2.length, X.length), q.2)) else some (.inl (1, q.1)))
  else (match sB (dI K V (K i) (i + 1)) (expI K 38) with
    | .inl q => some (.inl q)
    | .inr j => some (.inr (j, (K i, V (i + 1), V (i + 3), V (i + 5), 0, 0, 0), [])))
def xN (X : zCd) (nl : Nat) (c : zCd) : zCd := X ++ imL nl c ++ [(408, 0)]
def txS (K V : Nat → Int) (d : Nat) : Nat → Nat → List zCl → zCd → zCd → Option ((Int × Nat) ⊕ (List zCl × zCd × zCd))
  | 0, _, _, _, _ => none
  | n + 1, i, Cs, e, X => if K i = 40 then some (.inr (Cs, e, X)) else match clS K V d i Cs e X with
    | none => none
    | some (.inl q) => some (.inl q)
    | some (.inr q) => txS K V d n q.1 (Cs ++ [q.2.1]) (e ++ q.2.2) (xN X Cs.length q.2.2)
set_option maxRecDepth 8000 in
set_option maxHeartbeats 2000000 in
theorem clS_tot {K V : Nat → Int} {m i : Nat} {Cs : List zCl} {e X : zCd} (hK : ∀ i, 0 ≤ K i) (hend : ∀ i, m ≤ i → K i = 40) (hm : m ≤ 300) (hi : i ≤ m) : ∃ r, clS K V 4000 i Cs e X = some r := by
  unfold clS
  by_cases h1 : K i ≤ 10
  · rw [if_neg (nn_ h1)]
    have hlt : i < m := Nat.lt_of_not_le (fun z => by have := hend i z; omega)
    by_cases h2 : K i < 4 ∧ toldB Cs (K i) = true
    · rw [if_pos h2]; exact ⟨_, rfl⟩
    · rw [if_neg h2]
      by_cases h3 : Cs.length < 24
      · rw [if_neg (nn_ h3)]
        by_cases h4 : K i < 4
        · rw [if_pos h4]
          obtain ⟨r, hr⟩ := zD_tot (V := V) (law := K i) hend 4000 0 0 (i + 1) e.length (by omega) (by omega) (fun z => by omega) (by
            have : cT 0 = 4 := rfl
            omega)
          rw [hr]
          cases r with
          | inl q => exact ⟨_, rfl⟩
          | inr q =>
            dsimp only
            split <;> exact ⟨_, rfl⟩
        · rw [if_neg h4]
          split <;> exact ⟨_, rfl⟩
      · rw [if_pos h3]; exact ⟨_, rfl⟩
  · rw [if_pos h1]; exact ⟨_, rfl⟩
section ZTXL
variable {K V : Nat → Int} {Pl : Nat → Nat} {m x : Nat} {law : Int} {M : zM} {i : Nat} {e : zCd} {w : Int} {f : Nat}
set_option maxRecDepth 8000 in
set_option maxHeartbeats 2000000 in
/-- the class's cells of a text that tell nothing of the reading -/
theorem lvX.put {k j : Nat} {v : Int} (h : lvX K V Pl m x law M i e) (hk : 3 ≤ k ∧ k ≤ 8) : lvX K V Pl m x law (zput M k x j v) i e := by
  obtain ⟨g1, g2, g3, g4, g5, g6, g7, g8, g9, g10⟩ := h
  refine ⟨fun j' hj => ?_, ?_, ?_, ?_, ?_, ?_, g7, ?_, g9, ?_⟩
  · rw [zput_k (by omega), zput_k (by omega), zput_k (by omega)]; exact g1 j' hj
  · rw [zput_k (by omega)]; exact g2
  · rw [zput_k (by omega)]; exact g3
  · rw [zput_k (by omega)]; exact g4
  · rw [zput_k (by omega)]; exact g5
  · rw [zput_k (by omega)]; exact g6
  · rw [zput_k (by omega)]; exact g8
  · unfold cM; rw [zput_rowk (by omega), zput_rowk (by omega)]; exact g10
set_option maxRecDepth 8000 in
set_option maxHeartbeats 2000000 in
theorem lvX.put8 {v : Int} (h : lvX K V Pl m x law M i e) : lvX K V Pl m x law (zput M 2 x 8 v) i e := by
  obtain ⟨g1, g2, g3, g4, g5, g6, g7, g8, g9, g10⟩ := h
  refine ⟨fun j' hj => ?_, ?_, ?_, ?_, ?_, ?_, g7, ?_, g9, ?_⟩
  · rw [zput_k (by omega), zput_k (by omega), zput_k (by omega)]; exact g1 j' hj
  · rw [zput_k (by omega)]; exact g2
  · rw [zput_k (by omega)]; exact g3
  · rw [zput_k (by omega)]; exact g4
  · rw [zput_k (by omega)]; exact g5
  · rw [zput_k (by omega)]; exact g6
  · rw [zput_j (by omega)]; exact g8
  · unfold cM; rw [zput_rowk (by omega), zput_rowk (by omega)]; exact g10
set_option maxRecDepth 8000 in
set_option maxHeartbeats 2000000 in
theorem lvX.setLaw {v : Int} (h : lvX K V Pl m x law M i e) : lvX K V Pl m x v (zput M 37 0 2 v) i e := by
  obtain ⟨g1, g2, g3, g4, g5, g6, g7, g8, g9, g10⟩ := h
  refine ⟨fun j' hj => ?_, ?_, ?_, ?_, ?_, ?_, g7, ?_, g9, ?_⟩
  · rw [zput_k (by omega), zput_k (by omega), zput_k (by omega)]; exact g1 j' hj
  · rw [zput_j (by omega)]; exact g2
  · rw [zput_eq]
  · rw [zput_j (by omega)]; exact g4
  · rw [zput_k (by omega)]; exact g5
  · rw [zput_k (by omega)]; exact g6
  · rw [zput_k (by omega)]; exact g8
  · unfold cM; rw [zput_rowk (by omega), zput_rowk (by omega)]; exact g10
set_option maxRecDepth 8000 in
set_option maxHeartbeats 2000000 in
theorem ddX.put {k j : Nat} {v : Int} (h : ddX Pl x M w f) (hk : 3 ≤ k ∧ k ≤ 8) : ddX Pl x (zput M k x j v) w f := by
  obtain ⟨⟨g1, g2, g3⟩, g4, g5, g6, g7, g8⟩ := h
  refine ⟨⟨?_, g2, g3⟩, ?_, ?_, ?_, ?_, ?_⟩
  · rw [zput_k (by omega)]; exact g1
  · rw [zput_k (by omega)]; exact g4
  · rw [zput_k (by omega)]; exact g5
  · rw [zput_k (by omega)]; exact g6
  · rw [zput_k (by omega)]; exact g7
  · rw [zput_k (by omega)]; exact g8
set_option maxRecDepth 8000 in
set_option maxHeartbeats 2000000 in
theorem ddX.put8 {v : Int} (h : ddX Pl x M w f) : ddX Pl x (zput M 2 x 8 v) w f := by
  obtain ⟨⟨g1, g2, g3⟩, g4, g5, g6, g7, g8⟩ := h
  refine ⟨⟨?_, g2, g3⟩, ?_, ?_, ?_, ?_, ?_⟩
  · rw [zput_k (by omega)]; exact g1
  · rw [zput_k (by omega)]; exact g4
  · rw [zput_k (by omega)]; exact g5
  · rw [zput_k (by omega)]; exact g6
  · rw [zput_k (by omega)]; exact g7
  · rw [zput_j (by omega)]; exact g8
def lvd (K V : Nat → Int) (Pl : Nat → Nat) (m x : Nat) (law : Int) (e : zCd) (M : zM) (r : (Int × Nat) ⊕ Nat) : Prop := match r with
  | .inl q => ddX Pl x M q.1 q.2
  | .inr i => lvX K V Pl m x law M i e
set_option maxRecDepth 8000 in
set_option maxHeartbeats 2000000 in
theorem lvd.put {k j : Nat} {v : Int} {r : (Int × Nat) ⊕ Nat} (h : lvd K V Pl m x law e M r) (hk : 3 ≤ k ∧ k ≤ 8) : lvd K V Pl m x law e (zput M k x j v) r := by
  cases r with
  | inl q => exact ddX.put h hk
  | inr i => exact lvX.put h hk
set_option maxRecDepth 8000 in
set_option maxHeartbeats 2000000 in
theorem lvd.into {r : (Int × Nat) ⊕ Nat} (hx : x < 4) (h : lvd K V Pl m x law e M r) : (0 ≤ M 37 0 1 ∧ M 37 0 1 < 4) ∧ (M 37 0 1).toNat = x := by
  cases r with
  | inl q => exact dd_into hx h
  | inr i => exact lv_into hx h
set_option maxRecDepth 8000 in
set_option maxHeartbeats 2000000 in
theorem X_numAny {lo hi : Int} {r : (Int × Nat) ⊕ Nat} (ht : tkOK K V Pl m) (h : lvd K V Pl m x law e M r) (hlo : 0 ≤ lo ∧ lo ≤ 100) (hhi : 0 ≤ hi ∧ hi ≤ 10000) : ∃ (v : Int) (M' : zM), f_X2_number lo hi M = some (v, M') ∧ lvd K V Pl m x law e M' (sB r (numI K V lo hi)) ∧ (∀ i j, r = .inr i → numI K V lo hi i = .inr j → v = V i) ∧ frC x M M' := by
  cases r with
  | inl q =>
    obtain ⟨M1, a1, a2, a3⟩ := X_numD (lo := lo) (hi := hi) h
    exact ⟨0, M1, a1, a2, (fun i j z => by cases z), a3⟩
  | inr i =>
    by_cases h1 : K i = 25
    · by_cases h2 : lo ≤ V i ∧ V i ≤ hi
      · obtain ⟨M1, a1, a2, a3⟩ := X_numY ht h h1 h2 hlo hhi
        refine ⟨V i, M1, a1, ?_, (fun i' j z _ => by cases z; rfl), a3⟩
        show lvd K V Pl m x law e M1 (numI K V lo hi i)
        unfold numI
        rw [if_pos h1, if_pos h2]
        exact a2
      · obtain ⟨M1, a1, a2, a3⟩ := X_numB ht h h1 h2 hlo hhi
        have e1 : numI K V lo hi i = .inl (2, i) := by unfold numI; rw [if_pos h1, if_neg h2]
        refine ⟨0, M1, a1, ?_, (fun i' j z z2 => by cases z; rw [e1] at z2; cases z2), a3⟩
        show lvd K V Pl m x law e M1 (numI K V lo hi i)
        rw [e1]
        exact a2
    · obtain ⟨M1, a1, a2, a3⟩ := X_numN (lo := lo) (hi := hi) ht h h1
      have e1 : numI K V lo hi i = .inl (1, i) := by unfold numI; rw [if_neg h1]
      refine ⟨0, M1, a1, ?_, (fun i' j z z2 => by cases z; rw [e1] at z2; cases z2), a3⟩
      show lvd K V Pl m x law e M1 (numI K V lo hi i)
      rw [e1]
      exact a2
set_option maxRecDepth 8000 in
set_option maxHeartbeats 2000000 in
theorem X_expAny {k : Int} {r : (Int × Nat) ⊕ Nat} (ht : tkOK K V Pl m) (h : lvd K V Pl m x law e M r) (hk : 0 ≤ k ∧ k < 40) : ∃ M', f_X2_expect k M = some M' ∧ lvd K V Pl m x law e M' (sB r (expI K k)) ∧ frC x M M' := by
  cases r with
  | inl q =>
    obtain ⟨M1, a1, a2, a3⟩ := X_expD (k := k) h (by omega)
    exact ⟨M1, a1, a2, a3⟩
  | inr i =>
    by_cases h1 : K i = k
    · obtain ⟨M1, a1, a2, a3⟩ := X_expY ht h h1 (by omega)
      refine ⟨M1, a1, ?_, a3⟩
      show lvd K V Pl m x law e M1 (expI K k i)
      unfold expI
      rw [if_pos h1]
      exact a2
    · obtain ⟨M1, a1, a2, a3⟩ := X_expN ht h h1 (by omega)
      refine ⟨M1, a1, ?_, a3⟩
      show lvd K V Pl m x law e M1 (expI K k i)
      unfold expI
      rw [if_neg h1]
      exact a2
/-- cells that a deed's clause changes -/
def frD (x : Nat) (M M' : zM) : Prop := (∀ k i, k ≠ 38 → k ≠ 37 → ¬ (2 ≤ k ∧ k ≤ 10 ∧ i = x) → M' k i = M k i) ∧ (∀ j, j ≠ 2 → j ≠ 4 → j ≠ 5 → M' 37 0 j = M 37 0 j) ∧ (M' 37 0 4 = 0 → M' 37 0 5 = M 37 0 5 ∧ M 37 0 4 = 0)
set_option maxRecDepth 8000 in
set_option maxHeartbeats 2000000 in
theorem frD.rfl_ : frD x M M := ⟨fun _ _ _ _ _ => rfl, fun _ _ _ _ => rfl, fun z => ⟨rfl, z⟩⟩
set_option maxRecDepth 8000 in
set_option maxHeartbeats 2000000 in
theorem frD.trans {M' M2 : zM} (h : frD x M M') (h2 : frD x M' M2) : frD x M M2 := ⟨fun k i a b c => by rw [h2.1 k i a b c, h.1 k i a b c], fun j a b c => by rw [h2.2.1 j a b c, h.2.1 j a b c], fun z => by
    obtain ⟨u1, u2⟩ := h2.2.2 z
    obtain ⟨u3, u4⟩ := h.2.2 u2
    exact ⟨by rw [u1, u3], u4⟩⟩
set_option maxRecDepth 8000 in
set_option maxHeartbeats 2000000 in
theorem frC.d {M' : zM} (h : frC x M M') : frD x M M' := ⟨fun k i a b c => h.1 k i a b (by omega) (by omega) (by omega), fun j _ a b => h.2.2.1 j a b, h.2.2.2⟩
set_option maxRecDepth 8000 in
set_option maxHeartbeats 2000000 in
theorem frD.put {k j : Nat} {v : Int} (hk : 2 ≤ k ∧ k ≤ 10) : frD x M (zput M k x j v) := ⟨fun k' i a b c => zput_rowk (by omega), fun q _ _ _ => zput_k (by omega), fun z => by rw [zput_k (by omega)] at z; rw [zput_k (by omega)]; exact ⟨rfl, z⟩⟩
/-- cells of the clauses that a part leaves -/
def frK (x : Nat) (M M' : zM) : Prop := (∀ k, 3 ≤ k → k ≤ 8 → M' k x = M k x) ∧ M' 2 x 8 = M 2 x 8
set_option maxRecDepth 8000 in
set_option maxHeartbeats 2000000 in
theorem frC.k {M' : zM} (h : frC x M M') : frK x M M' := ⟨fun k a b => h.1 k x (by omega) (by omega) (by omega) (by omega) (by omega), h.2.1 8 (by omega)⟩
set_option maxRecDepth 8000 in
set_option maxHeartbeats 2000000 in
theorem X_deed {k : Int} {n : Nat} (ht : tkOK K V Pl m) (hx : x < 4) (hn : n < 24) (hk : 4 ≤ k ∧ k ≤ 10) (h : lvX K V Pl m x law M i e) : ∃ M', f_X2_readDeed k n M = some M' ∧ lvd K V Pl m x law e M' (dI K V k i) ∧ frD x M M' ∧ (∀ q, 3 ≤ q → q ≤ 8 → ∀ j, j ≠ n → M' q x j = M q x j) ∧ (M' 3 x = M 3 x ∧ M' 7 x = M 7 x ∧ M' 8 x = M 8 x ∧ M' 2 x 8 = M 2 x 8) ∧ ∀ j, dI K V k i = .inr j → M' 4 x n = V i ∧ (k = 5 ∨ k = 9 → M' 5 x n = V (i + 2)) ∧ (k = 5 → M' 6 x n = V (i + 4)) := by
  have h0 : lvd K V Pl m x law e M (.inr i) := h
  obtain ⟨j1, j2⟩ := h0.into hx
  have zn : 0 ≤ zw (n : Int) ∧ zw (n : Int) < 24 := by rw [zw_nat (by omega)]; omega
  have zx : zix (n : Int) = n := zix_nat (by omega)
  unfold f_X2_readDeed
  rw [zw_id (z := k) (by omega) (by omega), if_pos j1, j2, if_pos j1, if_pos j1, if_pos j1, if_pos j1, if_pos j1]
  -- one number
  have one : ∀ lo hi : Int, 0 ≤ lo ∧ lo ≤ 100 → 0 ≤ hi ∧ hi ≤ 10000 → k ≠ 5 → k ≠ 9 → lo = loT k → hi = hiT k → ∃ M', ((f_X2_number lo hi M).bind fun p2 => if 0 ≤ zw (n : Int) ∧ zw (n : Int) < 24 then zlet (zput p2.2 4 x (zix (n : Int)) p2.1) fun M3 => some M3 else none) = some M' ∧ lvd K V Pl m x law e M' (dI K V k i) ∧ frD x M M' ∧ (∀ q, 3 ≤ q → q ≤ 8 → ∀ j, j ≠ n → M' q x j = M q x j) ∧ (M' 3 x = M 3 x ∧ M' 7 x = M 7 x ∧ M' 8 x = M 8 x ∧ M' 2 x 8 = M 2 x 8) ∧ ∀ j, dI K V k i = .inr j → M' 4 x n = V i ∧ (k = 5 ∨ k = 9 → M' 5 x n = V (i + 2)) ∧ (k = 5 → M' 6 x n = V (i + 4)) := by
    intro lo hi b1 b2 n5 n9 e1 e2
    have hd : dI K V k i = numI K V lo hi i := by unfold dI; rw [if_neg n5, if_neg n9, e1, e2]
    rw [hd]
    obtain ⟨v, M1, a1, a2, a3, a4⟩ := X_numAny (lo := lo) (hi := hi) ht h0 b1 b2
    refine ⟨zput M1 4 x n v, ?_, a2.put (by omega), a4.d.trans (frD.put (by omega)), fun q h3 h8 j hj => ?_, ⟨?_, ?_, ?_, ?_⟩, fun j hj => ⟨?_, fun z => by omega, fun z => by omega⟩⟩
    · rw [a1]
      simp only [zbs]
      rw [if_pos zn, zlt_, zx]
    · rw [zput_j hj, a4.k.1 q h3 h8]
    · rw [zput_rowk (by omega), a4.k.1 3 (by omega) (by omega)]
    · rw [zput_rowk (by omega), a4.k.1 7 (by omega) (by omega)]
    · rw [zput_rowk (by omega), a4.k.1 8 (by omega) (by omega)]
    · rw [zput_k (by omega), a4.k.2]
    · rw [zput_eq]; exact a3 i j rfl hj
  by_cases h4 : k = 4
  · rw [if_pos h4]
    exact one 0 10 (by omega) (by omega) (by omega) (by omega) (by rw [h4]; rfl) (by rw [h4]; rfl)
  rw [if_neg h4]
  by_cases h5 : k = 5
  · rw [if_pos h5]
    obtain ⟨v1, M1, a1, a2, a3, a4⟩ := X_numAny (lo := 0) (hi := 99) ht h0 (by omega) (by omega)
    have b1 := a2.put (k := 4) (j := n) (v := v1) (by omega)
    obtain ⟨M2, c1, c2, c3⟩ := X_expAny (k := 16) ht b1 (by omega)
    obtain ⟨y1, y2⟩ := c2.into hx
    obtain ⟨v2, M3, d1, d2, d3, d4⟩ := X_numAny (lo := 0) (hi := 5) ht c2 (by omega) (by omega)
    have b2 := d2.put (k := 5) (j := n) (v := v2) (by omega)
    obtain ⟨M4, e1, e2, e3⟩ := X_expAny (k := 13) ht b2 (by omega)
    obtain ⟨y3, y4⟩ := e2.into hx
    obtain ⟨v3, M5, g1, g2, g3, g4⟩ := X_numAny (lo := 1) (hi := 9) ht e2 (by omega) (by omega)
    have hd : dI K V k i = sB (sB (sB (sB (numI K V 0 99 i) (expI K 16)) (numI K V 0 5)) (expI K 13)) (numI K V 1 9) := by unfold dI; rw [if_pos h5]
    have r : ∀ q, 3 ≤ q → q ≤ 8 → ∀ j, (j ≠ n ∨ (q ≠ 4 ∧ q ≠ 5 ∧ q ≠ 6)) → zput M5 6 x n v3 q x j = M q x j := by
      intro q q1 q2 j hj
      have w1 : ∀ (N : zM) (kk : Nat) (v : Int), (kk = 4 ∨ kk = 5 ∨ kk = 6) → zput N kk x n v q x j = N q x j := fun N kk v hkk => by
        by_cases hj2 : j = n
        · rw [zput_k (by omega)]
        · rw [zput_j hj2]
      rw [w1 _ _ _ (by omega), g4.k.1 q q1 q2, e3.k.1 q q1 q2, w1 _ _ _ (by omega), d4.k.1 q q1 q2, c3.k.1 q q1 q2, w1 _ _ _ (by omega), a4.k.1 q q1 q2]
    rw [hd]
    refine ⟨zput M5 6 x n v3, ?_, g2.put (by omega), a4.d.trans ((frD.put (by omega)).trans (c3.d.trans (d4.d.trans ((frD.put (by omega)).trans (e3.d.trans (g4.d.trans (frD.put (by omega)))))))), fun q q1 q2 j hj => r q q1 q2 j (Or.inl hj), ⟨?_, ?_, ?_, ?_⟩, fun j hj => ?_⟩
    · rw [a1]
      simp only [zbs]
      rw [if_pos zn, zlt_, zx, c1]
      simp only [zbs]
      rw [if_pos y1, y2, d1]
      simp only [zbs]
      rw [if_pos zn, zlt_, e1]
      simp only [zbs]
      rw [if_pos y3, y4, g1]
      simp only [zbs]
      rw [if_pos zn, zlt_]
    · funext j; exact r 3 (by omega) (by omega) j (Or.inr (by omega))
    · funext j; exact r 7 (by omega) (by omega) j (Or.inr (by omega))
    · funext j; exact r 8 (by omega) (by omega) j (Or.inr (by omega))
    · rw [zput_k (by omega), g4.k.2, e3.k.2, zput_k (by omega), d4.k.2, c3.k.2, zput_k (by omega), a4.k.2]
    · obtain ⟨q4, o4, p4⟩ := sB_ok hj
      obtain ⟨q3, o3, p3⟩ := sB_ok o4
      obtain ⟨q2, o2, p2⟩ := sB_ok o3
      obtain ⟨q1, o1, p1⟩ := sB_ok o2
      obtain ⟨t1, -⟩ := numI_ok o1
      obtain ⟨t2, -⟩ := expI_ok p1
      obtain ⟨t3, -⟩ := numI_ok p2
      obtain ⟨t4, -⟩ := expI_ok p3
      have u1 := a3 i q1 rfl o1
      have u2 := d3 q2 q3 o2 p2
      have u3 := g3 q4 j o4 p4
      subst t1 t2 t3 t4
      refine ⟨?_, fun _ => ?_, fun _ => ?_⟩
      · rw [zput_k (by omega), g4.k.1 4 (by omega) (by omega), e3.k.1 4 (by omega) (by omega), zput_k (by omega), d4.k.1 4 (by omega) (by omega), c3.k.1 4 (by omega) (by omega), zput_eq]; exact u1
      · rw [zput_k (by omega), g4.k.1 5 (by omega) (by omega), e3.k.1 5 (by omega) (by omega), zput_eq]; exact u2
      · rw [zput_eq]; exact u3
  rw [if_neg h5]
  by_cases h6 : k = 6
  · rw [if_pos h6]
    exact one 0 99 (by omega) (by omega) (by omega) (by omega) (by rw [h6]; rfl) (by rw [h6]; rfl)
  rw [if_neg h6]
  by_cases h7 : k = 7
  · rw [if_pos h7]
    exact one 0 7 (by omega) (by omega) (by omega) (by omega) (by rw [h7]; rfl) (by rw [h7]; rfl)
  rw [if_neg h7]
  by_cases h8 : k = 8
  · rw [if_pos h8]
    exact one 0 7 (by omega) (by omega) (by omega) (by omega) (by rw [h8]; rfl) (by rw [h8]; rfl)
  rw [if_neg h8]
  by_cases h9 : k = 9
  · rw [if_pos h9]
    obtain ⟨v1, M1, a1, a2, a3, a4⟩ := X_numAny (lo := 0) (hi := 7) ht h0 (by omega) (by omega)
    have b1 := a2.put (k := 4) (j := n) (v := v1) (by omega)
    obtain ⟨M2, c1, c2, c3⟩ := X_expAny (k := 2) ht b1 (by omega)
    obtain ⟨y1, y2⟩ := c2.into hx
    obtain ⟨v2, M3, d1, d2, d3, d4⟩ := X_numAny (lo := 0) (hi := 5) ht c2 (by omega) (by omega)
    have hd : dI K V k i = sB (sB (numI K V 0 7 i) (expI K 2)) (numI K V 0 5) := by unfold dI; rw [if_neg h5, if_pos h9]
    have r : ∀ q, 3 ≤ q → q ≤ 8 → ∀ j, (j ≠ n ∨ (q ≠ 4 ∧ q ≠ 5 ∧ q ≠ 6)) → zput M3 5 x n v2 q x j = M q x j := by
      intro q q1 q2 j hj
      have w1 : ∀ (N : zM) (kk : Nat) (v : Int), (kk = 4 ∨ kk = 5 ∨ kk = 6) → zput N kk x n v q x j = N q x j := fun N kk v hkk => by
        by_cases hj2 : j = n
        · rw [zput_k (by omega)]
        · rw [zput_j hj2]
      rw [w1 _ _ _ (by omega), d4.k.1 q q1 q2, c3.k.1 q q1 q2, w1 _ _ _ (by omega), a4.k.1 q q1 q2]
    rw [hd]
    refine ⟨zput M3 5 x n v2, ?_, d2.put (by omega), a4.d.trans ((frD.put (by omega)).trans (c3.d.trans (d4.d.trans (frD.put (by omega))))), fun q q1 q2 j hj => r q q1 q2 j (Or.inl hj), ⟨?_, ?_, ?_, ?_⟩, fun j hj => ?_⟩
    · rw [a1]
      simp only [zbs]
      rw [if_pos zn, zlt_, zx, c1]
      simp only [zbs]
      rw [if_pos y1, y2, d1]
      simp only [zbs]
      rw [if_pos zn, zlt_]
    · funext j; exact r 3 (by omega) (by omega) j (Or.inr (by omega))
    · funext j; exact r 7 (by omega) (by omega) j (Or.inr (by omega))
    · funext j; exact r 8 (by omega) (by omega) j (Or.inr (by omega))
    · rw [zput_k (by omega), d4.k.2, c3.k.2, zput_k (by omega), a4.k.2]
    · obtain ⟨q2, o2, p2⟩ := sB_ok hj
      obtain ⟨q1, o1, p1⟩ := sB_ok o2
      obtain ⟨t1, -⟩ := numI_ok o1
      obtain ⟨t2, -⟩ := expI_ok p1
      have u1 := a3 i q1 rfl o1
      have u2 := d3 q2 j o2 p2
      subst t1 t2
      refine ⟨?_, fun _ => ?_, fun z => by omega⟩
      · rw [zput_k (by omega), d4.k.1 4 (by omega) (by omega), c3.k.1 4 (by omega) (by omega), zput_eq]; exact u1
      · rw [zput_eq]; exact u2
  rw [if_neg h9, if_pos (show k = 10 by omega)]
  exact one 1 60 (by omega) (by omega) (by omega) (by omega) (by rw [show k = 10 by omega]; rfl) (by rw [show k = 10 by omega]; rfl)
end ZTXL
