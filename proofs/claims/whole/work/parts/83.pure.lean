/-! call: thing -/
/-- a row in which thing n has been told -/
def twR (w : Nat → Int) (n : Nat) (d o : Int) : Nat → Int := fun q => if q = 30 + n then -1 else if q = 22 + n then -1 else if q = 14 + n then o else if q = 6 + n then d else w q
set_option maxRecDepth 8000 in
set_option maxHeartbeats 2000000 in
theorem twR_out {w : Nat → Int} {n q : Nat} {d o : Int} (h : q ≠ 30 + n ∧ q ≠ 22 + n ∧ q ≠ 14 + n ∧ q ≠ 6 + n) : twR w n d o q = w q := by
  unfold twR
  rw [if_neg h.1, if_neg h.2.1, if_neg h.2.2.1, if_neg h.2.2.2]
set_option maxRecDepth 8000 in
set_option maxHeartbeats 2000000 in
theorem twR_in {w : Nat → Int} {n : Nat} {d o : Int} (hn : n < 8) : twR w n d o (30 + n) = -1 ∧ twR w n d o (22 + n) = -1 ∧ twR w n d o (14 + n) = o ∧ twR w n d o (6 + n) = d := by
  unfold twR
  refine ⟨if_pos rfl, ?_, ?_, ?_⟩
  · rw [if_neg (by omega), if_pos rfl]
  · rw [if_neg (by omega), if_neg (by omega), if_pos rfl]
  · rw [if_neg (by omega), if_neg (by omega), if_neg (by omega), if_pos rfl]
set_option maxRecDepth 8000 in
set_option maxHeartbeats 2000000 in
theorem rowOK.newThing {a a' w w' : Nat → Int} {n : Nat} {d o : Int} (h : rowOK a w) (hn : a 1 = n) (h8 : n < 8) (hd : 0 ≤ d ∧ d ≤ 99) (ho : 0 ≤ o ∧ o < a 0) (e0 : a' 0 = a 0) (e1 : a' 1 = (n : Int) + 1) (w0 : ∀ q, q < 161 → w' q = twR w n d o q) : rowOK a' w' := by
  have h40 := h.book
  obtain ⟨t1, t2, t3, t4⟩ := twR_in (w := w) (d := d) (o := o) h8
  obtain ⟨g1, g2, g3, g4, g5, g6, g7, g8, g9, g10⟩ := h
  have r : ∀ q, q < 161 → (q ≠ 30 + n ∧ q ≠ 22 + n ∧ q ≠ 14 + n ∧ q ≠ 6 + n) → w' q = w q := fun q hq hx => by rw [w0 q hq, twR_out hx]
  unfold rowOK
  rw [e0, e1, r 38 (by omega) (by omega), r 39 (by omega) (by omega), r 40 (by omega) (by omega)]
  refine ⟨fun i hi => ?_, fun i hi h2 => ?_, fun s hs => ?_, fun s hs => ?_, fun s hs hk => ?_, fun s hs hk => ?_, g7, g8, g9, fun i hi => ?_⟩
  · rw [r i (by omega) (by omega)]; exact g1 i hi
  · rw [r i (by omega) (by omega)]; exact g2 i hi h2
  · by_cases hsn : s = n
    · subst hsn; rw [w0 _ (by omega), t4]; exact hd
    · rw [r _ (by omega) (by omega)]; exact g3 s (by omega)
  · by_cases hsn : s = n
    · subst hsn; rw [w0 _ (by omega), t3]; omega
    · rw [r _ (by omega) (by omega)]; exact g4 s (by omega)
  · by_cases hsn : s = n
    · subst hsn; rw [w0 _ (by omega), t3] at hk; omega
    · rw [r _ (by omega) (by omega)] at hk
      rw [r _ (by omega) (by omega), r _ (by omega) (by omega)]; exact g5 s (by omega) hk
  · by_cases hsn : s = n
    · subst hsn; rw [w0 _ (by omega), w0 _ (by omega), t1, t2]; exact ⟨rfl, rfl⟩
    · rw [r _ (by omega) (by omega)] at hk
      rw [r _ (by omega) (by omega), r _ (by omega) (by omega)]; exact g6 s (by omega) hk
  · rw [r _ (by omega) (by omega), r _ (by omega) (by omega), r _ (by omega) (by omega), r _ (by omega) (by omega)]; have := g10 i hi; omega
def sThing (A : Nat → Int) (n : Nat) (d o b : Int) : Nat → Int := wup (sTell (sTell (sTell (sTell (wup (wup A (16 + n) o) (24 + n) b) (6 + n) d) (14 + n) o) (22 + n) (-1)) (30 + n) (-1)) 1 ((n : Int) + 1)
set_option maxRecDepth 8000 in
set_option maxHeartbeats 2000000 in
theorem sTell_5 {A : Nat → Int} {at_ : Nat} {v : Int} : sTell A at_ v 5 = A 5 := by
  unfold sTell
  rw [if_neg (by omega)]
set_option maxRecDepth 8000 in
set_option maxHeartbeats 2000000 in
theorem sTell_lo {A : Nat → Int} {at_ q : Nat} {v : Int} (h : q < 90) : sTell A at_ v q = A q := by
  unfold sTell
  rw [if_neg (by omega)]
set_option maxRecDepth 8000 in
set_option maxHeartbeats 2000000 in
theorem sThing_head {A : Nat → Int} {n q : Nat} {d o b : Int} (h : q < 90) (h1 : q ≠ 1) (h2 : q ≠ 16 + n) (h3 : q ≠ 24 + n) : sThing A n d o b q = A q := by
  unfold sThing
  rw [wup_ne h1, sTell_lo h, sTell_lo h, sTell_lo h, sTell_lo h, wup_ne h3, wup_ne h2]
set_option maxRecDepth 8000 in
set_option maxHeartbeats 2000000 in
theorem sThing_own {A : Nat → Int} {n : Nat} {d o b : Int} (h : n < 8) : sThing A n d o b 1 = n + 1 ∧ sThing A n d o b (16 + n) = o ∧ sThing A n d o b (24 + n) = b := by
  unfold sThing
  refine ⟨wup_eq _ _ _, ?_, ?_⟩
  · rw [wup_ne (by omega), sTell_lo (by omega), sTell_lo (by omega), sTell_lo (by omega), sTell_lo (by omega), wup_ne (by omega), wup_eq]
  · rw [wup_ne (by omega), sTell_lo (by omega), sTell_lo (by omega), sTell_lo (by omega), sTell_lo (by omega), wup_eq]
set_option maxRecDepth 8000 in
set_option maxHeartbeats 2000000 in
theorem sThing_now {A : Nat → Int} {n q : Nat} {d o b : Int} (h : n < 8) (hq : q < 161) : sThing A n d o b (90 + q) = twR (rw_ A 90) n d o q := by
  unfold sThing
  rw [wup_ne (by omega)]
  have tell : ∀ (B : Nat → Int) (at_ : Nat) (v : Int), sTell B at_ v (90 + q) = if q = at_ then v else B (90 + q) := fun B at_ v => by
    unfold sTell
    by_cases hqa : q = at_
    · rw [if_pos hqa, if_pos (Or.inl (by omega))]
    · rw [if_neg hqa, if_neg (by omega)]
  rw [tell, tell, tell, tell, wup_ne (by omega), wup_ne (by omega)]
  rfl
set_option maxRecDepth 8000 in
set_option maxHeartbeats 2000000 in
theorem sThing_step {A : Nat → Int} {n q i : Nat} {d o b : Int} (h : n < 8) (hq : q < 161) (hi : (i : Int) < A 5) : sThing A n d o b (260 + 161 * i + q) = twR (rw_ A (260 + 161 * i)) n d o q := by
  have e1 : (260 + 161 * i + q - 260) % 161 = q := by omega
  have e2 : (260 + 161 * i + q - 260) / 161 = i := by omega
  have e5 : wup (wup A (16 + n) o) (24 + n) b 5 = A 5 := by rw [wup_ne (by omega), wup_ne (by omega)]
  unfold sThing
  rw [wup_ne (by omega)]
  have tell : ∀ (B : Nat → Int) (at_ : Nat) (v : Int), B 5 = A 5 → at_ < 161 → sTell B at_ v (260 + 161 * i + q) = if q = at_ then v else B (260 + 161 * i + q) := fun B at_ v hB ha => by
    unfold sTell
    rw [hB, e1, e2]
    by_cases hqa : q = at_
    · rw [if_pos hqa, if_pos (Or.inr ⟨by omega, hqa, hi⟩)]
    · rw [if_neg hqa, if_neg (by omega)]
  rw [tell _ _ _ (by rw [sTell_5, sTell_5, sTell_5, e5]) (by omega), tell _ _ _ (by rw [sTell_5, sTell_5, e5]) (by omega), tell _ _ _ (by rw [sTell_5, e5]) (by omega), tell _ _ _ e5 (by omega), wup_ne (by omega), wup_ne (by omega)]
  rfl
