/-! text: what is true of clauses that could be read -/
def lst (l : zCd) : Nat → Int × Int := fun j => l.getD j (0, 0)
set_option maxRecDepth 8000 in
set_option maxHeartbeats 2000000 in
theorem lst_lo {l d : zCd} {j : Nat} (h : j < l.length) : lst (l ++ d) j = lst l j := by
  unfold lst
  rw [List.getD_eq_getElem?_getD, List.getD_eq_getElem?_getD, List.getElem?_append_left h]
set_option maxRecDepth 8000 in
set_option maxHeartbeats 2000000 in
theorem cAt_self : ∀ (l d : zCd), cAt (lst (d ++ l)) d.length l := by
  intro l
  induction l with
  | nil => intro d; trivial
  | cons x l ih =>
    intro d
    refine ⟨?_, ?_⟩
    · unfold lst
      rw [List.getD_eq_getElem?_getD, List.getElem?_append_right (Nat.le_refl _), Nat.sub_self]
      rfl
    · have h := ih (d ++ [x])
      rw [List.append_assoc, List.length_append, List.length_singleton] at h
      exact h
set_option maxRecDepth 8000 in
set_option maxHeartbeats 2000000 in
theorem cAt_at {c : Nat → Int × Int} : ∀ (l : zCd) (b : Nat), cAt c b l → ∀ j, j < l.length → c (b + j) = lst l j := by
  intro l
  induction l with
  | nil => intro b _ j hj; cases hj
  | cons x l ih =>
    intro b h j hj
    rw [List.length_cons] at hj
    cases j with
    | zero => exact h.1
    | succ j =>
      have := ih (b + 1) h.2 j (by omega)
      rw [show b + (j + 1) = b + 1 + j by omega, this]
      rfl
set_option maxRecDepth 8000 in
set_option maxHeartbeats 2000000 in
theorem lst_imL {nl : Nat} {c d : zCd} {j : Nat} (h : j < c.length) : lst (imL nl c ++ d) j = imC nl (lst c j) := by
  rw [lst_lo (by rw [imL_len]; exact h)]
  unfold lst imL
  rw [List.getD_eq_getElem?_getD, List.getD_eq_getElem?_getD, List.getElem?_map, List.getElem?_eq_getElem h]
  rfl
set_option maxRecDepth 8000 in
set_option maxHeartbeats 2000000 in
theorem lst_mid {c d : zCd} {x : Int × Int} {j : Nat} (h : j = c.length) : lst (c ++ (x :: d)) j = x := by
  subst h
  unfold lst
  rw [List.getD_eq_getElem?_getD, List.getElem?_append_right (Nat.le_refl _), Nat.sub_self]
  rfl
def lawRec (e X : zCd) (R : zCl) : Prop := ∃ (c1 : zCd) (nl : Nat), R.2.2.2.2.1 + c1.length = R.2.2.2.2.2.1 ∧ cAt (lst e) R.2.2.2.2.1 c1 ∧ R.2.2.2.2.2.1 ≤ e.length ∧ cAt (lst X) R.2.2.2.2.2.2 (imL nl c1 ++ [(408, 0)]) ∧ R.2.2.2.2.2.2 + c1.length < X.length ∧ R.2.2.2.2.2.2 = R.2.2.2.2.1 + nl ∧ ∀ (kk : Nat) (c : Nat → Int × Int) (q : Nat) (env : Nat → Int), R.1 = kk → cAt c R.2.2.2.2.1 c1 → R.2.2.2.2.2.1 ≤ q → runP (decide (kk = 3)) c q env 0 0 R.2.2.2.2.1 c1
def recOK (e : zCd) (X : zCd) (R : zCl) : Prop :=
  (0 ≤ R.1 ∧ R.1 ≤ 10) ∧
  (R.1 < 4 → lawRec e X R) ∧
  (4 ≤ R.1 → 0 ≤ R.2.1 ∧ R.2.1 ≤ 99) ∧
  (R.1 = 5 ∨ R.1 = 9 → 0 ≤ R.2.2.1 ∧ R.2.2.1 ≤ 5) ∧
  (R.1 = 5 → 1 ≤ R.2.2.2.1 ∧ R.2.2.2.1 ≤ 9) ∧
  (R.1 = 10 → 1 ≤ R.2.1 ∧ R.2.1 ≤ 60)
set_option maxRecDepth 8000 in
set_option maxHeartbeats 2000000 in
theorem recOK.rng {e : zCd} {X : zCd} {R : zCl} (h : recOK e X R) : 0 ≤ R.1 ∧ R.1 ≤ 10 := h.1
set_option maxRecDepth 8000 in
set_option maxHeartbeats 2000000 in
theorem recOK.law {e : zCd} {X : zCd} {R : zCl} (h : recOK e X R) : R.1 < 4 → lawRec e X R := h.2.1
set_option maxRecDepth 8000 in
set_option maxHeartbeats 2000000 in
theorem recOK.one {e : zCd} {X : zCd} {R : zCl} (h : recOK e X R) : 4 ≤ R.1 → 0 ≤ R.2.1 ∧ R.2.1 ≤ 99 := h.2.2.1
set_option maxRecDepth 8000 in
set_option maxHeartbeats 2000000 in
theorem recOK.two {e : zCd} {X : zCd} {R : zCl} (h : recOK e X R) : R.1 = 5 ∨ R.1 = 9 → 0 ≤ R.2.2.1 ∧ R.2.2.1 ≤ 5 := h.2.2.2.1
set_option maxRecDepth 8000 in
set_option maxHeartbeats 2000000 in
theorem recOK.three {e : zCd} {X : zCd} {R : zCl} (h : recOK e X R) : R.1 = 5 → 1 ≤ R.2.2.2.1 ∧ R.2.2.2.1 ≤ 9 := h.2.2.2.2.1
set_option maxRecDepth 8000 in
set_option maxHeartbeats 2000000 in
theorem recOK.days {e : zCd} {X : zCd} {R : zCl} (h : recOK e X R) : R.1 = 10 → 1 ≤ R.2.1 ∧ R.2.1 ≤ 60 := h.2.2.2.2.2
set_option maxRecDepth 8000 in
set_option maxHeartbeats 2000000 in
theorem recOK.more {e X c d : zCd} {R : zCl} (h : recOK e X R) : recOK (e ++ c) (X ++ d) R := by
  refine ⟨h.rng, fun h4 => ?_, h.one, h.two, h.three, h.days⟩
  obtain ⟨c1, nl, g1, g2, g3, g4, g5, g6, g7⟩ := h.law h4
  refine ⟨c1, nl, g1, cAt_congr _ _ g2 (fun j _ hj => lst_lo (by omega)), by rw [List.length_append]; omega, cAt_congr _ _ g4 (fun j _ hj => lst_lo ?_), by rw [List.length_append]; omega, g6, g7⟩
  rw [List.length_append, imL_len, List.length_singleton] at hj
  omega
def sOK (Cs : zCs) (e : zCd) (X : zCd) : Prop :=
  (∀ (j : Nat) (R : zCl), Cs[j]? = some R → recOK e X R) ∧
  (∀ (j1 : Nat) (j2 : Nat) (R1 : zCl) (R2 : zCl), Cs[j1]? = some R1 → Cs[j2]? = some R2 → R1.1 = R2.1 → R1.1 < 4 → j1 = j2) ∧
  (X.length = e.length + Cs.length) ∧
  (∀ a, a ∈ X → 0 ≤ a.1 ∧ a.1 ≤ 500)
set_option maxRecDepth 8000 in
set_option maxHeartbeats 2000000 in
theorem sOK.recs {Cs : zCs} {e : zCd} {X : zCd} (h : sOK Cs e X) : ∀ (j : Nat) (R : zCl), Cs[j]? = some R → recOK e X R := h.1
set_option maxRecDepth 8000 in
set_option maxHeartbeats 2000000 in
theorem sOK.uniq {Cs : zCs} {e : zCd} {X : zCd} (h : sOK Cs e X) : ∀ (j1 : Nat) (j2 : Nat) (R1 : zCl) (R2 : zCl), Cs[j1]? = some R1 → Cs[j2]? = some R2 → R1.1 = R2.1 → R1.1 < 4 → j1 = j2 := h.2.1
set_option maxRecDepth 8000 in
set_option maxHeartbeats 2000000 in
theorem sOK.len {Cs : zCs} {e : zCd} {X : zCd} (h : sOK Cs e X) : X.length = e.length + Cs.length := h.2.2.1
set_option maxRecDepth 8000 in
set_option maxHeartbeats 2000000 in
theorem sOK.ops {Cs : zCs} {e : zCd} {X : zCd} (h : sOK Cs e X) : ∀ a, a ∈ X → 0 ≤ a.1 ∧ a.1 ≤ 500 := h.2.2.2
set_option maxRecDepth 8000 in
set_option maxHeartbeats 2000000 in
theorem opR_le (o : Int) : 0 ≤ opR o ∧ opR o ≤ 500 := by
  unfold opR
  (repeat' split) <;> omega
set_option maxRecDepth 8000 in
set_option maxHeartbeats 2000000 in
theorem xN_eq {X : zCd} {nl : Nat} {c : zCd} : xN X nl c = X ++ (imL nl c ++ [(408, 0)]) := List.append_assoc _ _ _
set_option maxRecDepth 8000 in
set_option maxHeartbeats 2000000 in
theorem clS_rec {K V : Nat → Int} {n i : Nat} {Cs : zCs} {e X : zCd} {q : Nat × zCl × zCd} (hK : ∀ i, 0 ≤ K i) (hV : ∀ i, K i = 25 → 0 ≤ V i) (hlen : X.length = e.length + Cs.length) (h : clS K V n i Cs e X = some (.inr q)) : recOK (e ++ q.2.2) (xN X Cs.length q.2.2) q.2.1 := by
  have hKi := hK i
  unfold clS at h
  by_cases h1 : K i ≤ 10
  case neg => rw [if_pos h1] at h; cases h
  rw [if_neg (nn_ h1)] at h
  by_cases h2 : K i < 4 ∧ toldB Cs (K i) = true
  · rw [if_pos h2] at h; cases h
  rw [if_neg h2] at h
  by_cases h3 : Cs.length < 24
  case neg => rw [if_pos h3] at h; cases h
  rw [if_neg (nn_ h3)] at h
  by_cases h4 : K i < 4
  · rw [if_pos h4] at h
    cases hz : zD K V (K i) n 0 0 (i + 1) e.length with
    | none => rw [hz] at h; cases h
    | some rz =>
      rw [hz] at h
      cases rz with
      | inl q => cases h
      | inr q =>
        obtain ⟨i1, c1⟩ := q
        dsimp only at h
        by_cases h5 : K i1 = 38
        · rw [if_pos h5] at h
          cases h
          refine ⟨⟨hKi, h1⟩, fun _ => ⟨c1, Cs.length, rfl, cAt_self c1 e, by rw [List.length_append]; exact Nat.le_refl _, ?_, ?_, hlen, fun kk c q env hkk hc hq => ?_⟩, fun z => ?_, fun z => ?_, fun z => ?_, fun z => ?_⟩
          · dsimp only
            rw [xN_eq]
            exact cAt_self _ _
          · dsimp only
            rw [xN_eq, List.length_append, List.length_append, imL_len, List.length_singleton]
            omega
          · exact zD_run hkk hV n 0 0 (i + 1) e.length i1 c1 hz (by omega) hc hq
          · dsimp only at z; omega
          · dsimp only at z; omega
          · dsimp only at z; omega
          · dsimp only at z; omega
        · rw [if_neg h5] at h; cases h
  · rw [if_neg h4] at h
    cases hq : sB (dI K V (K i) (i + 1)) (expI K 38) with
    | inl q => rw [hq] at h; cases h
    | inr j =>
      rw [hq] at h
      cases h
      obtain ⟨j1, o1, -⟩ := sB_ok hq
      obtain ⟨-, d5, d9, dd⟩ := dI_ok o1
      have e3 : i + 1 + 2 = i + 3 := by omega
      have e5 : i + 1 + 4 = i + 5 := by omega
      rw [e3, e5] at d5
      rw [e3] at d9
      have hlo : K i ≠ 5 → K i ≠ 9 → 0 ≤ V (i + 1) ∧ V (i + 1) ≤ 99 ∧ (K i = 10 → 1 ≤ V (i + 1) ∧ V (i + 1) ≤ 60) := fun n5 n9 => by
        have := dd n5 n9
        unfold loT hiT at this
        (repeat' split at this) <;> omega
      refine ⟨⟨hKi, h1⟩, fun z => ?_, fun z => ?_, fun z => ?_, fun z => ?_, fun z => ?_⟩ <;> dsimp only at z ⊢
      · omega
      · by_cases k5 : K i = 5
        · exact (d5 k5).1
        · by_cases k9 : K i = 9
          · have := (d9 k9).1; omega
          · have := hlo k5 k9; omega
      · rcases z with z | z
        · exact (d5 z).2.1
        · exact (d9 z).2
      · exact (d5 z).2.2
      · exact (hlo (by omega) (by omega)).2.2 z
set_option maxRecDepth 8000 in
set_option maxHeartbeats 2000000 in
theorem txS_ok {K V : Nat → Int} {m d : Nat} (hK : ∀ i, 0 ≤ K i) (hV : ∀ i, K i = 25 → 0 ≤ V i) (hend : ∀ i, m ≤ i → K i = 40) : ∀ (n i : Nat) (Cs : zCs) (e X : zCd) (q : zCs × zCd × zCd), txS K V d n i Cs e X = some (.inr q) → i ≤ m → sOK Cs e X → sOK q.1 q.2.1 q.2.2 := by
  intro n
  induction n with
  | zero => intro i Cs e X q h; cases h
  | succ n ih =>
    intro i Cs e X q h hi hs
    unfold txS at h
    by_cases h40 : K i = 40
    · rw [if_pos h40] at h
      cases h
      exact hs
    · rw [if_neg h40] at h
      cases hr : clS K V d i Cs e X with
      | none => rw [hr] at h; cases h
      | some rc =>
        rw [hr] at h
        cases rc with
        | inl q => cases h
        | inr p =>
          obtain ⟨g1, g2, g3, g4, g5, g6⟩ := clS_next hend hi hr
          have hrec := clS_rec hK hV hs.len hr
          refine ih p.1 _ _ _ q h g2 ⟨fun j R hj => ?_, fun j1 j2 R1 R2 q1 q2 q3 q4 => ?_, ?_, fun a ha => ?_⟩
          · rcases get_app hj with ⟨hj1, hj2⟩ | ⟨hj1, rfl⟩
            · rw [xN_eq]
              exact (hs.recs j R hj2).more
            · exact hrec
          · have nt : ∀ (j : Nat) (R : zCl), Cs[j]? = some R → R.1 = K i → R.1 < 4 → False := fun j R w1 w2 w3 => g5 ⟨by omega, toldB_iff.mpr ⟨j, R, w1, w2⟩⟩
            rcases get_app q1 with ⟨a1, a2⟩ | ⟨a1, rfl⟩
            · rcases get_app q2 with ⟨b1, b2⟩ | ⟨b1, rfl⟩
              · exact hs.uniq j1 j2 R1 R2 a2 b2 q3 q4
              · exact (nt j1 R1 a2 (by rw [q3, g6]) q4).elim
            · rcases get_app q2 with ⟨b1, b2⟩ | ⟨b1, rfl⟩
              · exact (nt j2 R2 b2 (by rw [← q3, g6]) (by rw [← q3]; exact q4)).elim
              · rw [a1, b1]
          · rw [xN_eq, List.length_append, List.length_append, List.length_append, List.length_append, imL_len, List.length_singleton, List.length_singleton, hs.len]
            omega
          · rw [xN_eq] at ha
            rcases List.mem_append.mp ha with ha | ha
            · exact hs.ops a ha
            · rcases List.mem_append.mp ha with ha | ha
              · obtain ⟨b, -, rfl⟩ := List.mem_map.mp ha
                exact opR_le _
              · rcases List.mem_singleton.mp ha with rfl
                exact ⟨by decide, by decide⟩
