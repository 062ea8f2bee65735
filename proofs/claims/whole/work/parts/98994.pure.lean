/-! text: what stands behind a part; the reference's descent said -/
set_option maxRecDepth 8000 in
set_option maxHeartbeats 2000000 in
theorem zD_end {K V : Nat → Int} {law : Int} : ∀ (n t o i b i' : Nat) (cs : zCd), zD K V law n t o i b = pR i' cs → ((t = 1 ∨ t = 8 → K i' ≠ 34 ∧ K i' ≠ 35) ∧ (t = 5 ∨ t = 10 → K i' ≠ 23) ∧ (t = 0 ∨ (t = 7 ∧ K i ≠ 34 ∧ K i ≠ 35) → ¬ (32 ≤ K i' ∧ K i' ≤ 35)) ∧ (t = 4 ∨ (t = 9 ∧ K i ≠ 23) → K i' ≠ 22 ∧ K i' ≠ 23)) := by
  intro n
  induction n with
  | zero => intro t o i b i' cs h; cases h
  | succ n ih =>
    intro t o i b i' cs h
    match t, h with
    | 0, h =>
      rw [zD_0] at h
      rcases pB_inv h with ⟨w, f, h1, h2⟩ | ⟨i1, c1, h1, h2⟩
      · cases h2
      rcases pB_inv h2 with ⟨w, f, h3, h4⟩ | ⟨i2, c2, h3, h4⟩
      · cases h4
      cases h4
      have a := (ih 1 o i b i1 c1 h1).1 (Or.inl rfl)
      have b := (ih 7 o i1 _ _ c2 h3).2.2.1 (Or.inr ⟨rfl, a⟩)
      exact ⟨fun z => by omega, fun z => by omega, fun _ => b, fun z => by omega⟩
    | 1, h =>
      rw [zD_1] at h
      rcases pB_inv h with ⟨w, f, h1, h2⟩ | ⟨i1, c1, h1, h2⟩
      · cases h2
      rcases pB_inv h2 with ⟨w, f, h3, h4⟩ | ⟨i2, c2, h3, h4⟩
      · cases h4
      cases h4
      have b := (ih 8 o i1 _ _ c2 h3).1 (Or.inr rfl)
      exact ⟨fun _ => b, fun z => by omega, fun z => by omega, fun z => by omega⟩
    | 4, h =>
      rw [zD_4] at h
      rcases pB_inv h with ⟨w, f, h1, h2⟩ | ⟨i1, c1, h1, h2⟩
      · cases h2
      rcases pB_inv h2 with ⟨w, f, h3, h4⟩ | ⟨i2, c2, h3, h4⟩
      · cases h4
      cases h4
      have a := (ih 5 o i b i1 c1 h1).2.1 (Or.inl rfl)
      have b := (ih 9 o i1 _ _ c2 h3).2.2.2 (Or.inr ⟨rfl, a⟩)
      exact ⟨fun z => by omega, fun z => by omega, fun z => by omega, fun _ => b⟩
    | 5, h =>
      rw [zD_5] at h
      rcases pB_inv h with ⟨w, f, h1, h2⟩ | ⟨i1, c1, h1, h2⟩
      · cases h2
      rcases pB_inv h2 with ⟨w, f, h3, h4⟩ | ⟨i2, c2, h3, h4⟩
      · cases h4
      cases h4
      have b := (ih 10 o i1 _ _ c2 h3).2.1 (Or.inr rfl)
      exact ⟨fun z => by omega, fun _ => b, fun z => by omega, fun z => by omega⟩
    | 7, h =>
      rw [zD_7] at h
      by_cases hk : K i = 32 ∨ K i = 33
      · rw [if_pos hk] at h
        rcases pB_inv h with ⟨w, f, h1, h2⟩ | ⟨i1, c1, h1, h2⟩
        · cases h2
        rcases pB_inv h2 with ⟨w, f, h3, h4⟩ | ⟨i2, c2, h3, h4⟩
        · cases h4
        cases h4
        have a := (ih 1 o (i + 1) b i1 c1 h1).1 (Or.inl rfl)
        have b := (ih 7 o i1 _ _ c2 h3).2.2.1 (Or.inr ⟨rfl, a⟩)
        exact ⟨fun z => by omega, fun z => by omega, fun _ => b, fun z => by omega⟩
      · rw [if_neg hk] at h
        cases h
        exact ⟨fun z => by omega, fun z => by omega, fun z => by omega, fun z => by omega⟩
    | 8, h =>
      rw [zD_8] at h
      by_cases hk : K i = 34 ∨ K i = 35
      · rw [if_pos hk] at h
        rcases pB_inv h with ⟨w, f, h1, h2⟩ | ⟨i1, c1, h1, h2⟩
        · cases h2
        rcases pB_inv h2 with ⟨w, f, h3, h4⟩ | ⟨i2, c2, h3, h4⟩
        · cases h4
        cases h4
        have b := (ih 8 o i1 _ _ c2 h3).1 (Or.inr rfl)
        exact ⟨fun _ => b, fun z => by omega, fun z => by omega, fun z => by omega⟩
      · rw [if_neg hk] at h
        cases h
        exact ⟨fun z => by omega, fun z => by omega, fun z => by omega, fun z => by omega⟩
    | 9, h =>
      rw [zD_9] at h
      by_cases hk : K i = 22
      · rw [if_pos hk] at h
        rcases pB_inv h with ⟨w, f, h1, h2⟩ | ⟨i1, c1, h1, h2⟩
        · cases h2
        rcases pB_inv h2 with ⟨w, f, h3, h4⟩ | ⟨i2, c2, h3, h4⟩
        · cases h4
        cases h4
        have a := (ih 5 o (i + 1) b i1 c1 h1).2.1 (Or.inl rfl)
        have b := (ih 9 o i1 _ _ c2 h3).2.2.2 (Or.inr ⟨rfl, a⟩)
        exact ⟨fun z => by omega, fun z => by omega, fun z => by omega, fun _ => b⟩
      · rw [if_neg hk] at h
        cases h
        exact ⟨fun z => by omega, fun z => by omega, fun z => by omega, fun z => by omega⟩
    | 10, h =>
      rw [zD_10] at h
      by_cases hk : K i = 23
      · rw [if_pos hk] at h
        rcases pB_inv h with ⟨w, f, h1, h2⟩ | ⟨i1, c1, h1, h2⟩
        · cases h2
        rcases pB_inv h2 with ⟨w, f, h3, h4⟩ | ⟨i2, c2, h3, h4⟩
        · cases h4
        cases h4
        have b := (ih 10 o i1 _ _ c2 h3).2.1 (Or.inr rfl)
        exact ⟨fun z => by omega, fun _ => b, fun z => by omega, fun z => by omega⟩
      · rw [if_neg hk] at h
        cases h
        exact ⟨fun z => by omega, fun z => by omega, fun z => by omega, fun z => by omega⟩
    | 2, h => exact ⟨fun z => by omega, fun z => by omega, fun z => by omega, fun z => by omega⟩
    | 3, h => exact ⟨fun z => by omega, fun z => by omega, fun z => by omega, fun z => by omega⟩
    | 6, h => exact ⟨fun z => by omega, fun z => by omega, fun z => by omega, fun z => by omega⟩
    | t + 11, h => cases h
def rkT (t : Nat) : Int := if t = 0 ∨ t = 7 then 3 else if t = 1 ∨ t = 8 ∨ t = 2 ∨ t = 3 then 4 else if t = 4 ∨ t = 9 then 1 else 2
def slT (t : Nat) : Nat := if t = 0 ∨ t = 7 ∨ t = 4 ∨ t = 9 then 2 else if t = 1 ∨ t = 8 ∨ t = 5 ∨ t = 10 then 1 else 0
def ffT (t : Nat) (f : Int) : Prop := (0 ≤ f ∧ f ≤ 20) ∧ (t = 0 ∨ t = 1 ∨ t = 7 ∨ t = 8 → f ≠ 7 ∧ f ≠ 11 ∧ f ≠ 10) ∧ (t = 4 ∨ t = 5 ∨ t = 9 ∨ t = 10 → f = 2)
def lmT (t : Nat) : Nat := if t = 4 ∨ t = 5 ∨ t = 6 ∨ t = 9 ∨ t = 10 then 1 else 2
def s0T (t : Nat) : Int := if t ≤ 3 then 1 else if t ≤ 6 then 0 else if t ≤ 8 then 2 else 3
def s1T (t : Nat) : Int := if t = 0 ∨ t = 1 ∨ t = 2 ∨ t = 3 ∨ t = 7 ∨ t = 8 then 2 else 3
def cFT (t : Nat) : Nat := if t = 4 ∨ t = 5 ∨ t = 6 ∨ t = 9 ∨ t = 10 then 3 else 2
def imC (nl : Nat) (a : Int × Int) : Int × Int := (opR a.1, if a.1 = 25 then a.2 else if a.1 = 50 then nmR a.2 else if a.1 = 19 ∨ a.1 = 20 then a.2 + nl else 0)
def imL (nl : Nat) (c : zCd) : zCd := c.map (imC nl)
set_option maxRecDepth 8000 in
set_option maxHeartbeats 2000000 in
theorem imL_app {nl : Nat} {c d : zCd} : imL nl (c ++ d) = imL nl c ++ imL nl d := List.map_append
set_option maxRecDepth 8000 in
set_option maxHeartbeats 2000000 in
theorem imL_len {nl : Nat} {c : zCd} : (imL nl c).length = c.length := List.length_map _
set_option maxRecDepth 8000 in
set_option maxHeartbeats 2000000 in
theorem imL_cons {nl : Nat} {a : Int × Int} {c : zCd} : imL nl (a :: c) = imC nl a :: imL nl c := rfl
/-- where a part begins, on the reference's side -/
def bgnR (B : Nat → Int) (L : Nat) (M : zM) (t : Nat) (i : Nat) (o : Nat) (b : Nat) (nl : Nat) (law : Int) (f : Int) (fr : List Int) (P : zWt) (Wt : zWt) (X : zCd) : Prop :=
  (stR B L M i o (f :: fr) (P ++ Wt) X) ∧
  (M 42 0 28 = s0T t) ∧
  (M 42 0 31 = law) ∧
  (ffT t f) ∧
  (fr.length + 1 ≤ 2 * o + lmT t) ∧
  (o ≤ 8) ∧
  (X.length + P.length = b + nl) ∧
  (b + nl ≤ i) ∧
  (wtB (fr.length + 1) (P ++ Wt)) ∧
  (Wt.length + slT t ≤ 2 * (fr.length + 1)) ∧
  (P.length ≤ slT t) ∧
  (okP (rkT t) (fr.length + 1) P) ∧
  (t ≠ 2 → t ≠ 3 → t ≠ 6 → okW (rkT t) (fr.length + 1) Wt) ∧
  (t < 7 → P = [])
set_option maxRecDepth 8000 in
set_option maxHeartbeats 2000000 in
theorem bgnR.st {B : Nat → Int} {L : Nat} {M : zM} {t : Nat} {i : Nat} {o : Nat} {b : Nat} {nl : Nat} {law : Int} {f : Int} {fr : List Int} {P : zWt} {Wt : zWt} {X : zCd} (h : bgnR B L M t i o b nl law f fr P Wt X) : stR B L M i o (f :: fr) (P ++ Wt) X := h.1
set_option maxRecDepth 8000 in
set_option maxHeartbeats 2000000 in
theorem bgnR.s0 {B : Nat → Int} {L : Nat} {M : zM} {t : Nat} {i : Nat} {o : Nat} {b : Nat} {nl : Nat} {law : Int} {f : Int} {fr : List Int} {P : zWt} {Wt : zWt} {X : zCd} (h : bgnR B L M t i o b nl law f fr P Wt X) : M 42 0 28 = s0T t := h.2.1
set_option maxRecDepth 8000 in
set_option maxHeartbeats 2000000 in
theorem bgnR.lw {B : Nat → Int} {L : Nat} {M : zM} {t : Nat} {i : Nat} {o : Nat} {b : Nat} {nl : Nat} {law : Int} {f : Int} {fr : List Int} {P : zWt} {Wt : zWt} {X : zCd} (h : bgnR B L M t i o b nl law f fr P Wt X) : M 42 0 31 = law := h.2.2.1
set_option maxRecDepth 8000 in
set_option maxHeartbeats 2000000 in
theorem bgnR.top {B : Nat → Int} {L : Nat} {M : zM} {t : Nat} {i : Nat} {o : Nat} {b : Nat} {nl : Nat} {law : Int} {f : Int} {fr : List Int} {P : zWt} {Wt : zWt} {X : zCd} (h : bgnR B L M t i o b nl law f fr P Wt X) : ffT t f := h.2.2.2.1
set_option maxRecDepth 8000 in
set_option maxHeartbeats 2000000 in
theorem bgnR.lim {B : Nat → Int} {L : Nat} {M : zM} {t : Nat} {i : Nat} {o : Nat} {b : Nat} {nl : Nat} {law : Int} {f : Int} {fr : List Int} {P : zWt} {Wt : zWt} {X : zCd} (h : bgnR B L M t i o b nl law f fr P Wt X) : fr.length + 1 ≤ 2 * o + lmT t := h.2.2.2.2.1
set_option maxRecDepth 8000 in
set_option maxHeartbeats 2000000 in
theorem bgnR.o8 {B : Nat → Int} {L : Nat} {M : zM} {t : Nat} {i : Nat} {o : Nat} {b : Nat} {nl : Nat} {law : Int} {f : Int} {fr : List Int} {P : zWt} {Wt : zWt} {X : zCd} (h : bgnR B L M t i o b nl law f fr P Wt X) : o ≤ 8 := h.2.2.2.2.2.1
set_option maxRecDepth 8000 in
set_option maxHeartbeats 2000000 in
theorem bgnR.len {B : Nat → Int} {L : Nat} {M : zM} {t : Nat} {i : Nat} {o : Nat} {b : Nat} {nl : Nat} {law : Int} {f : Int} {fr : List Int} {P : zWt} {Wt : zWt} {X : zCd} (h : bgnR B L M t i o b nl law f fr P Wt X) : X.length + P.length = b + nl := h.2.2.2.2.2.2.1
set_option maxRecDepth 8000 in
set_option maxHeartbeats 2000000 in
theorem bgnR.le {B : Nat → Int} {L : Nat} {M : zM} {t : Nat} {i : Nat} {o : Nat} {b : Nat} {nl : Nat} {law : Int} {f : Int} {fr : List Int} {P : zWt} {Wt : zWt} {X : zCd} (h : bgnR B L M t i o b nl law f fr P Wt X) : b + nl ≤ i := h.2.2.2.2.2.2.2.1
set_option maxRecDepth 8000 in
set_option maxHeartbeats 2000000 in
theorem bgnR.wB {B : Nat → Int} {L : Nat} {M : zM} {t : Nat} {i : Nat} {o : Nat} {b : Nat} {nl : Nat} {law : Int} {f : Int} {fr : List Int} {P : zWt} {Wt : zWt} {X : zCd} (h : bgnR B L M t i o b nl law f fr P Wt X) : wtB (fr.length + 1) (P ++ Wt) := h.2.2.2.2.2.2.2.2.1
set_option maxRecDepth 8000 in
set_option maxHeartbeats 2000000 in
theorem bgnR.wL {B : Nat → Int} {L : Nat} {M : zM} {t : Nat} {i : Nat} {o : Nat} {b : Nat} {nl : Nat} {law : Int} {f : Int} {fr : List Int} {P : zWt} {Wt : zWt} {X : zCd} (h : bgnR B L M t i o b nl law f fr P Wt X) : Wt.length + slT t ≤ 2 * (fr.length + 1) := h.2.2.2.2.2.2.2.2.2.1
set_option maxRecDepth 8000 in
set_option maxHeartbeats 2000000 in
theorem bgnR.pL {B : Nat → Int} {L : Nat} {M : zM} {t : Nat} {i : Nat} {o : Nat} {b : Nat} {nl : Nat} {law : Int} {f : Int} {fr : List Int} {P : zWt} {Wt : zWt} {X : zCd} (h : bgnR B L M t i o b nl law f fr P Wt X) : P.length ≤ slT t := h.2.2.2.2.2.2.2.2.2.2.1
set_option maxRecDepth 8000 in
set_option maxHeartbeats 2000000 in
theorem bgnR.pO {B : Nat → Int} {L : Nat} {M : zM} {t : Nat} {i : Nat} {o : Nat} {b : Nat} {nl : Nat} {law : Int} {f : Int} {fr : List Int} {P : zWt} {Wt : zWt} {X : zCd} (h : bgnR B L M t i o b nl law f fr P Wt X) : okP (rkT t) (fr.length + 1) P := h.2.2.2.2.2.2.2.2.2.2.2.1
set_option maxRecDepth 8000 in
set_option maxHeartbeats 2000000 in
theorem bgnR.wO {B : Nat → Int} {L : Nat} {M : zM} {t : Nat} {i : Nat} {o : Nat} {b : Nat} {nl : Nat} {law : Int} {f : Int} {fr : List Int} {P : zWt} {Wt : zWt} {X : zCd} (h : bgnR B L M t i o b nl law f fr P Wt X) : t ≠ 2 → t ≠ 3 → t ≠ 6 → okW (rkT t) (fr.length + 1) Wt := h.2.2.2.2.2.2.2.2.2.2.2.2.1
set_option maxRecDepth 8000 in
set_option maxHeartbeats 2000000 in
theorem bgnR.p0 {B : Nat → Int} {L : Nat} {M : zM} {t : Nat} {i : Nat} {o : Nat} {b : Nat} {nl : Nat} {law : Int} {f : Int} {fr : List Int} {P : zWt} {Wt : zWt} {X : zCd} (h : bgnR B L M t i o b nl law f fr P Wt X) : t < 7 → P = [] := h.2.2.2.2.2.2.2.2.2.2.2.2.2
def outR (B : Nat → Int) (L : Nat) (M : zM) (i c : Nat) (q : Int × Nat) : Prop := ∃ k M', rnS k M M' ∧ failR B L M' q.1 q.2 ∧ frB M M' ∧ i ≤ q.2 ∧ k ≤ 3 * (q.2 - i) + c
def outRS (B : Nat → Int) (L t : Nat) (M : zM) (i o nl : Nat) (f : Int) (fr : List Int) (P Wt : zWt) (X : zCd) (r : (Int × Nat) ⊕ (Nat × zCd)) : Prop := match r with
  | .inl q => outR B L M i (cFT t) q
  | .inr q => ∃ k M' P' X', rnS k M M' ∧ M' 42 0 28 = s1T t ∧ stR B L M' q.1 o (f :: fr) (P' ++ Wt) X' ∧ X' ++ pops P' = X ++ pops P ++ imL nl q.2 ∧ okP (rkT t) (fr.length + 1) P' ∧ P'.length ≤ slT t ∧ wtB (fr.length + 1) P' ∧ frT (fr.length + 1) M M' ∧ k ≤ 3 * (q.1 - i)
def outRO (B : Nat → Int) (L t : Nat) (M : zM) (i o nl : Nat) (f : Int) (fr : List Int) (Wt : zWt) (X : zCd) (r : (Int × Nat) ⊕ (Nat × zCd)) : Prop := match r with
  | .inl q => outR B L M i (cFT t) q
  | .inr q => ∃ k M', (∀ F N, F ≤ 100 + o → OV F M' N → rnS k M N) ∧ stR B L M' q.1 o (f :: fr) Wt (X ++ imL nl q.2) ∧ frT (fr.length + 1) M M' ∧ k ≤ 3 * (q.1 - i)
def outRA (B : Nat → Int) (L t : Nat) (M : zM) (i o nl : Nat) (f : Int) (fr : List Int) (Wt : zWt) (X : zCd) (r : (Int × Nat) ⊕ (Nat × zCd)) : Prop := match r with
  | .inl q => outR B L M i (cFT t) q
  | .inr q => ∃ k M', (∀ F N, F ≤ 100 + o → AV F M' N → rnS k M N) ∧ stR B L M' q.1 o (f :: fr) Wt (X ++ imL nl q.2) ∧ frT (fr.length + 1) M M' ∧ k ≤ 3 * (q.1 - i)
def outRT (B : Nat → Int) (L t : Nat) (M : zM) (i o nl : Nat) (f : Int) (fr : List Int) (P Wt : zWt) (X : zCd) (r : (Int × Nat) ⊕ (Nat × zCd)) : Prop := (t = 2 ∨ t = 3 → outRO B L t M i o nl f fr Wt X r) ∧ (t = 6 → outRA B L t M i o nl f fr Wt X r) ∧ (t ≠ 2 → t ≠ 3 → t ≠ 6 → outRS B L t M i o nl f fr P Wt X r)
set_option maxRecDepth 8000 in
set_option maxHeartbeats 2000000 in
theorem wtB.le {c c' : Nat} {W : zWt} (h : wtB c W) (hc : c ≤ c') : wtB c' W := fun p hp => ⟨(h p hp).1, Nat.le_trans (h p hp).2 hc⟩
set_option maxRecDepth 8000 in
set_option maxHeartbeats 2000000 in
theorem wtB.okW {r : Int} {c : Nat} {W : zWt} (h : wtB c W) : okW r (c + 1) W := fun p l e => by
  have := (h p (by rw [e]; exact List.mem_cons_self)).2
  omega
set_option maxRecDepth 8000 in
set_option maxHeartbeats 2000000 in
theorem okW.mono {r r' : Int} {c : Nat} {W : zWt} (h : okW r c W) (hr : r ≤ r') : okW r' c W := fun p l e => by
  have := h p l e
  omega
set_option maxRecDepth 8000 in
set_option maxHeartbeats 2000000 in
theorem okP.mono {r r' : Int} {c : Nat} {P : zWt} (h : okP r c P) (hr : r' ≤ r) : okP r' c P := fun p hp => ⟨(h p hp).1, Int.le_trans hr (h p hp).2⟩
set_option maxRecDepth 8000 in
set_option maxHeartbeats 2000000 in
theorem okP_nil {r : Int} {c : Nat} : okP r c [] := fun p hp => by cases hp
set_option maxRecDepth 8000 in
set_option maxHeartbeats 2000000 in
theorem wtB.right {c : Nat} {P W : zWt} (h : wtB c (P ++ W)) : wtB c W := fun p hp => h p (List.mem_append_right _ hp)
set_option maxRecDepth 8000 in
set_option maxHeartbeats 2000000 in
theorem wtB.left {c : Nat} {P W : zWt} (h : wtB c (P ++ W)) : wtB c P := fun p hp => h p (List.mem_append_left _ hp)
set_option maxRecDepth 8000 in
set_option maxHeartbeats 2000000 in
theorem wtB.app {c : Nat} {P W : zWt} (h1 : wtB c P) (h2 : wtB c W) : wtB c (P ++ W) := fun p hp => (List.mem_append.mp hp).elim (h1 p) (h2 p)
set_option maxRecDepth 8000 in
set_option maxHeartbeats 2000000 in
theorem outR.step {B : Nat → Int} {L : Nat} {M M1 : zM} {i i1 c c1 k : Nat} {q : Int × Nat} (h : outR B L M1 i1 c1 q) (hr : rnS k M M1) (hf : frB M M1) (hi : i ≤ i1) (hk : k + c1 ≤ 3 * (i1 - i) + c) : outR B L M i c q := by
  obtain ⟨k1, M2, a1, a2, a3, a4, a5⟩ := h
  exact ⟨k + k1, M2, hr.trans a1, a2, hf.trans a3, by omega, by omega⟩
set_option maxRecDepth 8000 in
set_option maxHeartbeats 2000000 in
theorem outR.now {B : Nat → Int} {L : Nat} {M M1 : zM} {i i1 c k : Nat} {w : Int} (h : failR B L M1 w i1) (hr : rnS k M M1) (hf : frB M M1) (hi : i ≤ i1) (hk : k ≤ 3 * (i1 - i) + c) : outR B L M i c (w, i1) := ⟨k, M1, hr, h, hf, hi, hk⟩
