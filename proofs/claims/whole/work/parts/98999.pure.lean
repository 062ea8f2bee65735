/-! text: the class reads clauses -/
abbrev zCs : Type := List zCl
set_option maxRecDepth 8000 in
set_option maxHeartbeats 2000000 in
theorem get_app {Cs : zCs} {R S : zCl} {j : Nat} (h : (Cs ++ [R])[j]? = some S) : (j < Cs.length ∧ Cs[j]? = some S) ∨ (j = Cs.length ∧ S = R) := by
  by_cases hj : j < Cs.length
  · rw [List.getElem?_append_left hj] at h
    exact Or.inl ⟨hj, h⟩
  · rw [List.getElem?_append_right (by omega)] at h
    by_cases h0 : j - Cs.length = 0
    · rw [h0] at h
      cases h
      exact Or.inr ⟨by omega, rfl⟩
    · obtain ⟨d, hd⟩ : ∃ d, j - Cs.length = d + 1 := ⟨j - Cs.length - 1, by omega⟩
      rw [hd] at h
      cases h
set_option maxRecDepth 8000 in
set_option maxHeartbeats 2000000 in
theorem toldB_iff {Cs : zCs} {k : Int} : toldB Cs k = true ↔ ∃ (j : Nat) (R : zCl), Cs[j]? = some R ∧ R.1 = k := by
  unfold toldB
  rw [List.any_eq_true]
  constructor
  · rintro ⟨R, h1, h2⟩
    obtain ⟨j, hj⟩ := List.getElem?_of_mem h1
    exact ⟨j, R, hj, of_decide_eq_true h2⟩
  · rintro ⟨j, R, h1, h2⟩
    exact ⟨R, List.mem_of_getElem? h1, decide_eq_true h2⟩
set_option maxRecDepth 8000 in
set_option maxHeartbeats 2000000 in
theorem toldB_app {Cs : zCs} {R : zCl} {k : Int} (h : toldB (Cs ++ [R]) k = false) : toldB Cs k = false ∧ R.1 ≠ k := by
  unfold toldB at h ⊢
  rw [List.any_append, Bool.or_eq_false_iff] at h
  refine ⟨h.1, fun z => ?_⟩
  have h2 := h.2
  rw [List.any_cons, Bool.or_eq_false_iff] at h2
  exact absurd (decide_eq_true z) (by rw [h2.1]; decide)
/-- clauses that are read, as the class has them -/
def clsX (K : Nat → Int) (V : Nat → Int) (Pl : Nat → Nat) (m : Nat) (x : Nat) (law : Int) (M : zM) (i : Nat) (Cs : zCs) (e : zCd) : Prop :=
  (lvX K V Pl m x law M i e) ∧
  (M 2 x 8 = Cs.length) ∧
  (∀ (j : Nat) (R : zCl), Cs[j]? = some R → M 3 x j = R.1 ∧ (4 ≤ R.1 → M 4 x j = R.2.1) ∧ (R.1 = 5 ∨ R.1 = 9 → M 5 x j = R.2.2.1) ∧ (R.1 = 5 → M 6 x j = R.2.2.2.1)) ∧
  (∀ (j : Nat) (R : zCl), Cs[j]? = some R → R.1 < 4 → M 7 x R.1.toNat = R.2.2.2.2.1 ∧ M 8 x R.1.toNat = R.2.2.2.2.2.1) ∧
  (∀ k : Nat, k < 4 → toldB Cs k = false → M 7 x k = -1) ∧
  (∀ (j : Nat) (R : zCl), Cs[j]? = some R → 0 ≤ R.1 ∧ R.1 ≤ 10) ∧
  (e.length ≤ i) ∧
  (Cs.length ≤ 24) ∧
  (∀ (j : Nat) (R : zCl), Cs[j]? = some R → R.2.2.2.2.1 ≤ 300)
set_option maxRecDepth 8000 in
set_option maxHeartbeats 2000000 in
theorem clsX.lv {K : Nat → Int} {V : Nat → Int} {Pl : Nat → Nat} {m : Nat} {x : Nat} {law : Int} {M : zM} {i : Nat} {Cs : zCs} {e : zCd} (h : clsX K V Pl m x law M i Cs e) : lvX K V Pl m x law M i e := h.1
set_option maxRecDepth 8000 in
set_option maxHeartbeats 2000000 in
theorem clsX.num {K : Nat → Int} {V : Nat → Int} {Pl : Nat → Nat} {m : Nat} {x : Nat} {law : Int} {M : zM} {i : Nat} {Cs : zCs} {e : zCd} (h : clsX K V Pl m x law M i Cs e) : M 2 x 8 = Cs.length := h.2.1
set_option maxRecDepth 8000 in
set_option maxHeartbeats 2000000 in
theorem clsX.cls {K : Nat → Int} {V : Nat → Int} {Pl : Nat → Nat} {m : Nat} {x : Nat} {law : Int} {M : zM} {i : Nat} {Cs : zCs} {e : zCd} (h : clsX K V Pl m x law M i Cs e) : ∀ (j : Nat) (R : zCl), Cs[j]? = some R → M 3 x j = R.1 ∧ (4 ≤ R.1 → M 4 x j = R.2.1) ∧ (R.1 = 5 ∨ R.1 = 9 → M 5 x j = R.2.2.1) ∧ (R.1 = 5 → M 6 x j = R.2.2.2.1) := h.2.2.1
set_option maxRecDepth 8000 in
set_option maxHeartbeats 2000000 in
theorem clsX.laws {K : Nat → Int} {V : Nat → Int} {Pl : Nat → Nat} {m : Nat} {x : Nat} {law : Int} {M : zM} {i : Nat} {Cs : zCs} {e : zCd} (h : clsX K V Pl m x law M i Cs e) : ∀ (j : Nat) (R : zCl), Cs[j]? = some R → R.1 < 4 → M 7 x R.1.toNat = R.2.2.2.2.1 ∧ M 8 x R.1.toNat = R.2.2.2.2.2.1 := h.2.2.2.1
set_option maxRecDepth 8000 in
set_option maxHeartbeats 2000000 in
theorem clsX.none_ {K : Nat → Int} {V : Nat → Int} {Pl : Nat → Nat} {m : Nat} {x : Nat} {law : Int} {M : zM} {i : Nat} {Cs : zCs} {e : zCd} (h : clsX K V Pl m x law M i Cs e) : ∀ k : Nat, k < 4 → toldB Cs k = false → M 7 x k = -1 := h.2.2.2.2.1
set_option maxRecDepth 8000 in
set_option maxHeartbeats 2000000 in
theorem clsX.rng {K : Nat → Int} {V : Nat → Int} {Pl : Nat → Nat} {m : Nat} {x : Nat} {law : Int} {M : zM} {i : Nat} {Cs : zCs} {e : zCd} (h : clsX K V Pl m x law M i Cs e) : ∀ (j : Nat) (R : zCl), Cs[j]? = some R → 0 ≤ R.1 ∧ R.1 ≤ 10 := h.2.2.2.2.2.1
set_option maxRecDepth 8000 in
set_option maxHeartbeats 2000000 in
theorem clsX.le {K : Nat → Int} {V : Nat → Int} {Pl : Nat → Nat} {m : Nat} {x : Nat} {law : Int} {M : zM} {i : Nat} {Cs : zCs} {e : zCd} (h : clsX K V Pl m x law M i Cs e) : e.length ≤ i := h.2.2.2.2.2.2.1
set_option maxRecDepth 8000 in
set_option maxHeartbeats 2000000 in
theorem clsX.c24 {K : Nat → Int} {V : Nat → Int} {Pl : Nat → Nat} {m : Nat} {x : Nat} {law : Int} {M : zM} {i : Nat} {Cs : zCs} {e : zCd} (h : clsX K V Pl m x law M i Cs e) : Cs.length ≤ 24 := h.2.2.2.2.2.2.2.1
set_option maxRecDepth 8000 in
set_option maxHeartbeats 2000000 in
theorem clsX.pos {K : Nat → Int} {V : Nat → Int} {Pl : Nat → Nat} {m : Nat} {x : Nat} {law : Int} {M : zM} {i : Nat} {Cs : zCs} {e : zCd} (h : clsX K V Pl m x law M i Cs e) : ∀ (j : Nat) (R : zCl), Cs[j]? = some R → R.2.2.2.2.1 ≤ 300 := h.2.2.2.2.2.2.2.2
section ZTXC
variable {K V : Nat → Int} {Pl : Nat → Nat} {m x : Nat} {law : Int} {M : zM} {i : Nat} {e X : zCd} {Cs : zCs}
set_option maxRecDepth 8000 in
set_option maxHeartbeats 2000000 in
theorem X_j160 {r : (Int × Nat) ⊕ Nat} (ht : tkOK K V Pl m) (hx : x < 4) (h : lvd K V Pl m x law e M r) : ∃ M', f_X2_clause_j160 M = some M' ∧ lvd K V Pl m x law e M' (sB r (expI K 38)) ∧ frD x M M' ∧ (∀ q, 3 ≤ q → q ≤ 8 → M' q x = M q x) ∧ M' 2 x 8 = M 2 x 8 + 1 := by
  obtain ⟨M1, a1, a2, a3⟩ := X_expAny (k := 38) ht h (by omega)
  obtain ⟨j1, j2⟩ := a2.into hx
  refine ⟨zput M1 2 x 8 (M1 2 x 8 + 1), ?_, ?_, a3.d.trans (frD.put (by omega)), fun q h3 h8 => ?_, ?_⟩
  · unfold f_X2_clause_j160
    rw [a1]
    simp only [zbs]
    rw [if_pos j1, j2, zlt_]
  · cases hr : sB r (expI K 38) with
    | inl q => rw [hr] at a2; exact ddX.put8 a2
    | inr j => rw [hr] at a2; exact lvX.put8 a2
  · rw [zput_rowk (by omega), a3.k.1 q h3 h8]
  · rw [zput_eq, a3.k.2]
/-- what one clause leaves -/
def outC (K V : Nat → Int) (Pl : Nat → Nat) (m x : Nat) (Cs : zCs) (e : zCd) (M : zM) (r : (Int × Nat) ⊕ (Nat × zCl × zCd)) : Prop := match r with
  | .inl q => ddX Pl x M q.1 q.2
  | .inr q => ∃ law', clsX K V Pl m x law' M q.1 (Cs ++ [q.2.1]) (e ++ q.2.2)
set_option maxRecDepth 8000 in
set_option maxHeartbeats 2000000 in
theorem X_clause (ht : tkOK K V Pl m) (hx : x < 4) (h : clsX K V Pl m x law M i Cs e) {n : Nat} {r : (Int × Nat) ⊕ (Nat × zCl × zCd)} (hr : clS K V n i Cs e X = some r) : ∃ M', f_X2_clause M = some M' ∧ outC K V Pl m x Cs e M' r ∧ frD x M M' := by
  have hl := h.lv
  have hK := ht.2.1 i
  have him := hl.2.2.2.2.2.2.1
  obtain ⟨j1, j2⟩ := lv_into hx hl
  have hm := ht.1
  have hle := h.le
  have fail : ∀ w : Int, 1 ≤ w ∧ w ≤ 6 → r = .inl (w, i) → ∃ M', ((f_X2_fail w M).bind fun p => some p) = some M' ∧ outC K V Pl m x Cs e M' r ∧ frD x M M' := by
    intro w hw e1
    obtain ⟨M1, a1, a2, a3⟩ := X_fail ht hl hw
    subst e1
    refine ⟨M1, ?_, a2, a3.d⟩
    rw [a1]
    exact zbs _ _
  unfold clS at hr
  unfold f_X2_clause
  rw [hl.2.2.2.2.2.1, zw_id (z := K i) (by omega) (by omega)]
  by_cases h1 : K i ≤ 10
  case neg =>
    rw [if_pos h1] at hr
    cases hr
    rw [if_neg (by omega), if_neg (by omega)]
    exact fail 1 (by omega) rfl
  rw [if_neg (nn_ h1)] at hr
  have e28 : (if K i ≤ 9 then f_X2_clause_j28 (K i) M else if K i = 10 then f_X2_clause_j28 (K i) M else (f_X2_fail 1 M).bind fun p30 => some p30) = f_X2_clause_j28 (K i) M := by
    by_cases h9 : K i ≤ 9
    · rw [if_pos h9]
    · rw [if_neg h9, if_pos (by omega)]
  rw [e28]
  have hlt : i < m := ht.lt (by omega)
  have hc24 := h.c24
  have z8 : zw (M 2 x 8) = Cs.length := by rw [h.num, zw_nat (by omega)]
  have zx8 : zix (M 2 x 8) = Cs.length := by rw [h.num, zix_nat (by omega)]
  have zk : K i < 4 → zix (K i) = (K i).toNat := fun h4 => zix_of (by omega) (by omega)
  unfold f_X2_clause_j28
  rw [zw_id (z := K i) (by omega) (by omega)]
  -- where all is well so far
  have good : (¬ (K i < 4 ∧ toldB Cs (K i) = true)) → ∃ M', f_X2_clause_j54 (K i) M = some M' ∧ outC K V Pl m x Cs e M' r ∧ frD x M M' := by
    intro h2
    rw [if_neg h2] at hr
    unfold f_X2_clause_j54
    rw [if_pos j1, j2, z8, zx8, zw_id (z := K i) (by omega) (by omega)]
    by_cases h3 : Cs.length < 24
    case neg =>
      rw [if_pos h3] at hr
      cases hr
      rw [if_neg (by omega)]
      exact fail 6 (by omega) rfl
    rw [if_neg (nn_ h3)] at hr
    rw [if_pos (show (Cs.length : Int) < 24 by omega), if_pos j1, if_pos j1, if_pos (by omega), zlt_]
    have hl1 := hl.put (k := 3) (j := Cs.length) (v := K i) (by omega)
    obtain ⟨M2, a2, b2, c2⟩ := X_adv ht hl1 hlt
    obtain ⟨y1, y2⟩ := lv_into hx b2
    have f2 : frD x M M2 := (frD.put (by omega)).trans c2.d
    have r3 : M2 3 x = zput M 3 x Cs.length (K i) 3 x := c2.k.1 3 (by omega) (by omega)
    have rq : ∀ q, 4 ≤ q → q ≤ 8 → M2 q x = M q x := fun q h4 h8 => by rw [c2.k.1 q (by omega) h8, zput_rowk (by omega)]
    have r8 : M2 2 x 8 = Cs.length := by rw [c2.k.2, zput_k (by omega)]; exact h.num
    rw [a2]
    simp only [zbs]
    by_cases h4 : K i < 4
    · rw [if_pos h4] at hr
      rw [if_neg (by omega), zlt_]
      have hl3 := b2.setLaw (v := K i)
      have zk4 := zk h4
      have hkk : 0 ≤ K i ∧ K i < 4 := by omega
      have e37 : zput M2 37 0 2 (K i) 37 0 1 = M2 37 0 1 := zput_j (by omega)
      have e9 : zput M2 37 0 2 (K i) 2 x 9 = e.length := by rw [zput_k (by omega)]; exact b2.2.2.2.2.2.2.2.1
      rw [e37, if_pos y1, if_pos y1, if_pos hkk, y2, e9, zk4, zlt_]
      have hl4 := hl3.put (k := 7) (j := (K i).toNat) (v := (e.length : Int)) (by omega)
      cases hz : zD K V (K i) n 0 0 (i + 1) e.length with
      | none => rw [hz] at hr; cases hr
      | some rz =>
        rw [hz] at hr
        have hd := (X_desc (law := K i) ht hx (by omega) n 0 0 (i + 1) e.length zR e rz (zput (zput M2 37 0 2 (K i)) 7 x (K i).toNat (e.length : Int)) hz (by omega) rfl (by omega) (by
          have d0 : dpX 0 0 = 67 := rfl
          unfold zR
          omega)).1 (by omega) (by omega) hl4
        obtain ⟨M5, a5, b5, c5⟩ := hd
        have fL : frD x M2 (zput M2 37 0 2 (K i)) := ⟨fun k' i' p q s => zput_rowk (by omega), fun j p q s => zput_j (by omega), fun z => by rw [zput_j (by omega)] at z; rw [zput_j (by omega)]; exact ⟨rfl, z⟩⟩
        have f5 : frD x M M5 := f2.trans (fL.trans ((frD.put (by omega)).trans c5.d))
        rw [show ((0 : Nat) : Int) = 0 from rfl] at a5
        have q8 : M5 2 x 8 = Cs.length := by rw [c5.k.2, zput_k (by omega), zput_k (by omega)]; exact r8
        have q3 : ∀ j, M5 3 x j = if j = Cs.length then K i else M 3 x j := fun j => by
          rw [c5.k.1 3 (by omega) (by omega), zput_k (by omega), zput_k (by omega), r3]
          by_cases hj : j = Cs.length
          · rw [if_pos hj, hj, zput_eq]
          · rw [if_neg hj, zput_j hj]
        have q7 : ∀ j, M5 7 x j = if j = (K i).toNat then (e.length : Int) else M 7 x j := fun j => by
          rw [c5.k.1 7 (by omega) (by omega)]
          by_cases hj : j = (K i).toNat
          · rw [if_pos hj, hj, zput_eq]
          · rw [if_neg hj, zput_j hj, zput_k (by omega), rq 7 (by omega) (by omega)]
        have qq : ∀ q, q = 4 ∨ q = 5 ∨ q = 6 ∨ q = 8 → ∀ j, M5 q x j = M q x j := fun q hq j => by
          rw [c5.k.1 q (by omega) (by omega), zput_k (by omega), zput_k (by omega), rq q (by omega) (by omega)]
        rw [a5]
        simp only [zbs]
        have tail : ∀ (rr : (Int × Nat) ⊕ Nat) (e1 : zCd), lvd K V Pl m x (K i) e1 M5 rr → (∀ i1, rr = .inr i1 → M5 2 x 9 = (e1.length : Int)) → ∃ M', (if 0 ≤ M5 37 0 1 ∧ M5 37 0 1 < 4 then if 0 ≤ M5 37 0 1 ∧ M5 37 0 1 < 4 then if 0 ≤ K i ∧ K i < 4 then zlet (zput M5 8 ((M5 37 0 1).toNat) (K i).toNat (M5 2 (M5 37 0 1).toNat 9)) fun M11 => f_X2_clause_j160 M11 else none else none else none) = some M' ∧ lvd K V Pl m x (K i) e1 M' (sB rr (expI K 38)) ∧ frD x M5 M' ∧ (∀ q, 3 ≤ q → q ≤ 7 → M' q x = M5 q x) ∧ (∀ j, j ≠ (K i).toNat → M' 8 x j = M5 8 x j) ∧ M' 8 x (K i).toNat = M5 2 x 9 ∧ M' 2 x 8 = M5 2 x 8 + 1 := by
          intro rr e1 hrr _
          obtain ⟨u1, u2⟩ := hrr.into hx
          rw [if_pos u1, if_pos u1, if_pos hkk, u2, zlt_]
          obtain ⟨M6, a6, b6, c6, d6, e6⟩ := X_j160 ht hx (hrr.put (k := 8) (j := (K i).toNat) (v := M5 2 x 9) (by omega))
          refine ⟨M6, a6, b6, (frD.put (by omega)).trans c6, fun q h3 h7 => by rw [d6 q h3 (by omega), zput_rowk (by omega)], fun j hj => by rw [d6 8 (by omega) (by omega), zput_j hj], by rw [d6 8 (by omega) (by omega), zput_eq], by rw [e6, zput_k (by omega)]⟩
        cases rz with
        | inl q =>
          cases hr
          obtain ⟨M6, a6, b6, c6, -⟩ := tail (.inl q) e b5 (fun i1 z => by cases z)
          exact ⟨M6, a6, b6, f5.trans c6⟩
        | inr q =>
          obtain ⟨i1, c1⟩ := q
          dsimp only at hr
          have b5 : lvX K V Pl m x (K i) M5 i1 (e ++ c1) := b5
          obtain ⟨g1, g2, g3, g4⟩ := zD_bd ht.2.2.1 n 0 0 (i + 1) e.length _ (by omega) hz
          dsimp only at g1 g2 g3 g4
          have hl9 : M5 2 x 9 = ((e ++ c1).length : Int) := b5.2.2.2.2.2.2.2.1
          obtain ⟨M6, a6, b6, c6, d6, e6, g6, n6⟩ := tail (.inr i1) (e ++ c1) b5 (fun i2 z => hl9)
          refine ⟨M6, a6, ?_, f5.trans c6⟩
          have b6 : lvd K V Pl m x (K i) (e ++ c1) M6 (expI K 38 i1) := b6
          by_cases k38 : K i1 = 38
          · rw [if_pos k38] at hr
            cases hr
            have ee : expI K 38 i1 = .inr (i1 + 1) := if_pos k38
            rw [ee] at b6
            have hlen : (e ++ c1).length = e.length + c1.length := List.length_append
            refine ⟨K i, b6, ?_, fun j R hj => ?_, fun j R hj hR => ?_, fun k hk hkt => ?_, fun j R hj => ?_, ?_, ?_, fun j R hj => ?_⟩
            · rw [n6, q8, List.length_append, List.length_singleton]; omega
            · rw [d6 3 (by omega) (by omega), d6 4 (by omega) (by omega), d6 5 (by omega) (by omega), d6 6 (by omega) (by omega), q3, qq 4 (by omega), qq 5 (by omega), qq 6 (by omega)]
              rcases get_app hj with ⟨hj1, hj2⟩ | ⟨hj1, rfl⟩
              · rw [if_neg (by omega)]
                exact h.cls j R hj2
              · rw [if_pos hj1]
                exact ⟨rfl, fun z => by dsimp only at z; omega, fun z => by dsimp only at z; omega, fun z => by dsimp only at z; omega⟩
            · rcases get_app hj with ⟨hj1, hj2⟩ | ⟨hj1, rfl⟩
              · have hne : R.1.toNat ≠ (K i).toNat := fun z => by
                  have hrg := h.rng j R hj2
                  exact h2 ⟨h4, toldB_iff.mpr ⟨j, R, hj2, by omega⟩⟩
                obtain ⟨w1, w2⟩ := h.laws j R hj2 hR
                rw [d6 7 (by omega) (by omega), q7, if_neg hne, e6 _ hne, qq 8 (by omega)]
                exact ⟨w1, w2⟩
              · dsimp only
                rw [d6 7 (by omega) (by omega), q7, if_pos rfl, g6, hl9, hlen]
                exact ⟨rfl, rfl⟩
            · obtain ⟨w1, w2⟩ := toldB_app hkt
              dsimp only at w2
              rw [d6 7 (by omega) (by omega), q7, if_neg (by omega)]
              exact h.none_ k hk w1
            · rcases get_app hj with ⟨hj1, hj2⟩ | ⟨hj1, rfl⟩
              · exact h.rng j R hj2
              · exact ⟨by dsimp only; omega, by dsimp only; omega⟩
            · dsimp only; omega
            · rw [List.length_append, List.length_singleton]; omega
            · rcases get_app hj with ⟨hj1, hj2⟩ | ⟨hj1, rfl⟩
              · exact h.pos j R hj2
              · dsimp only; omega
          · rw [if_neg k38] at hr
            cases hr
            have ee : expI K 38 i1 = .inl (1, i1) := if_neg k38
            rw [ee] at b6
            exact b6
    · rw [if_neg h4] at hr
      rw [if_pos (by omega), if_pos y1, y2, r8]
      obtain ⟨M3, a3, b3, c3, d3, e3, g3⟩ := X_deed (k := K i) (n := Cs.length) ht hx h3 (by omega) b2
      rw [a3]
      simp only [zbs]
      obtain ⟨M4, a4, b4, c4, d4, e4⟩ := X_j160 ht hx b3
      refine ⟨M4, a4, ?_, f2.trans (c3.trans c4)⟩
      cases hq : sB (dI K V (K i) (i + 1)) (expI K 38) with
      | inl q =>
        rw [hq] at hr b4
        cases hr
        exact b4
      | inr j0 =>
        rw [hq] at hr b4
        cases hr
        obtain ⟨j1', o1, o2⟩ := sB_ok hq
        obtain ⟨v1, v2, v3⟩ := g3 j1' o1
        have hj0 := (dI_ok o1).1
        obtain ⟨ej, -⟩ := expI_ok o2
        refine ⟨law, ?_, ?_, fun j R hj => ?_, fun j R hj hR => ?_, fun k hk hkt => ?_, fun j R hj => ?_, ?_, ?_, fun j R hj => ?_⟩
        · show lvX K V Pl m x law M4 j0 (e ++ [])
          rw [List.append_nil]
          exact b4
        · rw [e4, e3.2.2.2, r8, List.length_append, List.length_singleton]; omega
        · rw [d4 3 (by omega) (by omega), d4 4 (by omega) (by omega), d4 5 (by omega) (by omega), d4 6 (by omega) (by omega), e3.1, r3]
          rcases get_app hj with ⟨hj1, hj2⟩ | ⟨hj1, rfl⟩
          · rw [zput_j (by omega), d3 4 (by omega) (by omega) j (by omega), d3 5 (by omega) (by omega) j (by omega), d3 6 (by omega) (by omega) j (by omega), rq 4 (by omega) (by omega), rq 5 (by omega) (by omega), rq 6 (by omega) (by omega)]
            exact h.cls j R hj2
          · rw [hj1, zput_eq]
            exact ⟨rfl, fun _ => v1, fun z => v2 z, fun z => v3 z⟩
        · rcases get_app hj with ⟨hj1, hj2⟩ | ⟨hj1, rfl⟩
          · rw [d4 7 (by omega) (by omega), d4 8 (by omega) (by omega), e3.2.1, e3.2.2.1, rq 7 (by omega) (by omega), rq 8 (by omega) (by omega)]
            exact h.laws j R hj2 hR
          · dsimp only at hR
            omega
        · obtain ⟨w1, w2⟩ := toldB_app hkt
          rw [d4 7 (by omega) (by omega), e3.2.1, rq 7 (by omega) (by omega)]
          exact h.none_ k hk w1
        · rcases get_app hj with ⟨hj1, hj2⟩ | ⟨hj1, rfl⟩
          · exact h.rng j R hj2
          · exact ⟨by dsimp only; omega, by dsimp only; omega⟩
        · rw [List.append_nil]; dsimp only; omega
        · rw [List.length_append, List.length_singleton]; omega
        · rcases get_app hj with ⟨hj1, hj2⟩ | ⟨hj1, rfl⟩
          · exact h.pos j R hj2
          · exact Nat.zero_le _
  by_cases h4 : K i < 4
  · rw [if_neg (by omega), if_pos j1, if_pos (by omega), j2, zk h4]
    by_cases h5 : toldB Cs (K i) = true
    · obtain ⟨j, R, hj1, hj2⟩ := toldB_iff.mp h5
      have hR := (h.laws j R hj1 (by omega)).1
      rw [hj2] at hR
      rw [if_pos ⟨h4, h5⟩] at hr
      cases hr
      have hp := h.pos j R hj1
      rw [hR, if_neg (by rw [zw_nat (by omega)]; omega)]
      exact fail 4 (by omega) rfl
    · have hN := h.none_ (K i).toNat (by omega) (by rw [Int.toNat_of_nonneg (by omega)]; exact Bool.not_eq_true _ ▸ h5)
      rw [hN, if_pos (by decide)]
      exact good (fun z => h5 z.2)
  · rw [if_pos (by omega)]
    exact good (fun z => h4 z.1)
end ZTXC
