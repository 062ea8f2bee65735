/-! text: those that wait are written -/
def rnk (o : Int) : Int := if o = 407 then 1 else if o = 406 then 2 else if o = 43 ∨ o = 45 then 3 else 4
set_option maxRecDepth 8000 in
set_option maxHeartbeats 2000000 in
theorem rnk_le (o : Int) : 1 ≤ rnk o ∧ rnk o ≤ 4 := by
  unfold rnk
  (repeat' split) <;> omega
set_option maxRecDepth 8000 in
set_option maxHeartbeats 2000000 in
theorem R_rank {o : Int} {M : zM} (h : 0 ≤ o ∧ o ≤ 500) : f_X11_rank o M = some (rnk o, M) := by
  unfold f_X11_rank rnk
  rw [zw_id (z := o) (by omega) (by omega)]
  by_cases h1 : o = 407
  · rw [if_neg (nn_ h1), if_pos h1]
  · rw [if_pos h1, if_neg h1]
    by_cases h2 : o = 406
    · rw [if_neg (nn_ h2), if_pos h2]
    · rw [if_pos h2, if_neg h2]
      by_cases h3 : o = 43
      · rw [if_pos h3, if_pos (Or.inl h3)]
      · rw [if_neg h3]
        by_cases h4 : o = 45
        · rw [if_neg (nn_ h4), if_pos (Or.inr h4)]
        · rw [if_pos h4, if_neg (by omega)]
/-- those at the top that wait are of an outer frame, or weaker -/
def okW (r : Int) (c : Nat) (W : zWt) : Prop := ∀ p l, W = p :: l → p.2 ≠ c ∨ rnk p.1 < r
def okP (r : Int) (c : Nat) (P : zWt) : Prop := ∀ p, p ∈ P → p.2 = c ∧ r ≤ rnk p.1
def wtB (c : Nat) (W : zWt) : Prop := ∀ p, p ∈ W → (0 ≤ p.1 ∧ p.1 ≤ 500) ∧ p.2 ≤ c
def pops (P : zWt) : zCd := P.map (fun p => (p.1, (0 : Int)))
set_option maxRecDepth 8000 in
set_option maxHeartbeats 2000000 in
theorem pops_len (P : zWt) : (pops P).length = P.length := List.length_map _
set_option maxRecDepth 8000 in
set_option maxHeartbeats 2000000 in
theorem pops_app (P Q : zWt) : pops (P ++ Q) = pops P ++ pops Q := List.map_append
section ZTXW
variable {B : Nat → Int} {L i o : Nat} {fr : List Int} {Wt : zWt} {r : Int}
set_option maxRecDepth 8000 in
set_option maxHeartbeats 2000000 in
theorem R_worksL (hr : 1 ≤ r ∧ r ≤ 4) (hW : okW r fr.length Wt) (hc : fr.length ≤ 40) : ∀ (P : zWt) (M : zM) (X : zCd) (fuel : Nat), stR B L M i o fr (P ++ Wt) X → okP r fr.length P → wtB 40 (P ++ Wt) → (P ++ Wt).length ≤ 80 → X.length + P.length ≤ 400 → P.length < fuel → ∃ M', zlp (fun s : zM => f_X11_works_L0 r s) fuel M = some M' ∧ stR B L M' i o fr Wt (X ++ pops P) ∧ M' 42 0 28 = M 42 0 28 ∧ ∀ c, frT c M M' := by
  intro P
  induction P with
  | nil =>
    intro M X fuel h _ hB hlen hX hfu
    refine ⟨M, zlp_z (by omega) ?_, ?_, rfl, fun c => frT.rfl_⟩
    · unfold f_X11_works_L0
      rw [List.nil_append] at h hlen
      rw [h.wts]
      cases Wt with
      | nil => rw [if_pos (by decide)]
      | cons p l =>
        rw [List.length_cons] at hlen ⊢
        have hp := hW p l rfl
        have hb := hB p (by rw [List.nil_append]; exact List.mem_cons_self)
        rw [show ((l.length + 1 : Nat) : Int) - 1 = (l.length : Int) by omega, zw_nat (by omega), zw_nat (by omega), if_neg (by omega), if_pos (by omega), zix_nat (by omega), h.wtm.2.1, h.wtm.1, h.frs, zw_nat (by omega), zw_nat (by omega)]
        by_cases h2 : p.2 = fr.length
        · rw [if_neg (nn_ (by omega)), if_pos (by omega), R_rank hb.1]
          simp only [zbs]
          have := rnk_le p.1
          rw [zw_id (z := rnk p.1) (by omega) (by omega), zw_id (z := r) (by omega) (by omega), if_pos (by omega)]
        · rw [if_pos (by omega)]
    · show stR B L M i o fr Wt (X ++ [])
      rw [List.append_nil]
      exact h
  | cons p P ih =>
    intro M X fuel h hP hB hlen hX hfu
    rw [List.cons_append] at h hB hlen
    rw [List.length_cons] at hlen hX hfu
    obtain ⟨hp1, hp2⟩ := hP p List.mem_cons_self
    have hb := hB p List.mem_cons_self
    have hrk := rnk_le p.1
    have hm := h.wtm
    have ewt : (M 42 0 25) - 1 = (P ++ Wt).length := by rw [h.wts, List.length_cons]; omega
    have h2 : stR B L (zput M 42 0 25 ((M 42 0 25) - 1)) i o fr (P ++ Wt) X := by
      refine ⟨h.tape.put (by omega), h.tok.put (by omega), ?_, ?_, ?_, ?_, ?_, ?_, ?_, ?_, ?_⟩
      · rw [zput_j (by omega)]; exact h.ok
      · rw [zput_j (by omega)]; exact h.wat
      · rw [zput_j (by omega)]; exact h.opn
      · rw [zput_j (by omega)]; exact h.frs
      · rw [zput_rowk (by omega)]; exact h.frm
      · rw [zput_eq, ewt]
      · rw [zput_rowk (by omega), zput_rowk (by omega)]; exact hm.2.2
      · rw [zput_j (by omega)]; exact h.ords
      · unfold rcM; rw [zput_rowk (by omega), zput_rowk (by omega)]; exact h.code
    obtain ⟨M2, a2, b2, c2, d2⟩ := R_emit (v := p.1) (u := 0) h2 (by omega)
    obtain ⟨fu, rfl⟩ : ∃ fu, fuel = fu + 1 := ⟨fuel - 1, by omega⟩
    obtain ⟨M3, a3, b3, c3, d3⟩ := ih M2 (X ++ [(p.1, 0)]) fu b2 (fun q hq => hP q (List.mem_cons_of_mem _ hq)) (fun q hq => hB q (List.mem_cons_of_mem _ hq)) (by omega) (by rw [List.length_append, List.length_singleton]; omega) (by omega)
    refine ⟨M3, zlp_inl (s' := M2) ?_ a3, ?_, ?_, fun c => (frT.p42 (by omega)).trans ((d2 c).trans (d3 c))⟩
    · unfold f_X11_works_L0
      rw [ewt, h.wts, List.length_cons, zw_nat (by omega), zw_nat (by omega), if_neg (by omega), if_pos (by omega), zix_nat (by omega), hm.2.1, hm.1, h.frs, zw_nat (by omega), zw_nat (by omega), if_neg (nn_ (by omega)), if_pos (by omega), R_rank hb.1]
      simp only [zbs]
      rw [ewt] at a2
      rw [zw_id (z := rnk p.1) (by omega) (by omega), zw_id (z := r) (by omega) (by omega), if_neg (by omega), ewt, zlt_, zput_eq, zw_nat (by omega), if_pos (by omega), zix_nat (by omega), zput_k (by omega), hm.1, a2]
      exact zbs _ _
    · have e : X ++ [(p.1, (0 : Int))] ++ pops P = X ++ pops (p :: P) := by rw [List.append_assoc]; rfl
      rw [← e]
      exact b3
    · rw [c3, c2, zput_j (by omega)]
set_option maxRecDepth 8000 in
set_option maxHeartbeats 2000000 in
theorem R_works {M : zM} {P : zWt} {X : zCd} (hr : 1 ≤ r ∧ r ≤ 4) (hW : okW r fr.length Wt) (hc : fr.length ≤ 40) (h : stR B L M i o fr (P ++ Wt) X) (hP : okP r fr.length P) (hB : wtB 40 (P ++ Wt)) (hl : (P ++ Wt).length ≤ 80) (hX : X.length + P.length ≤ 400) : ∃ M', f_X11_works r M = some M' ∧ stR B L M' i o fr Wt (X ++ pops P) ∧ M' 42 0 28 = M 42 0 28 ∧ ∀ c, frT c M M' := by
  have hl2 : P.length ≤ 80 := by rw [List.length_append] at hl; omega
  obtain ⟨M', a1, a2, a3, a4⟩ := R_worksL hr hW hc P M X zF h hP hB hl hX (by unfold zF; omega)
  refine ⟨M', ?_, a2, a3, a4⟩
  unfold f_X11_works
  rw [a1]
  exact zbs _ _
set_option maxRecDepth 8000 in
set_option maxHeartbeats 2000000 in
theorem R_wait {M : zM} {P : zWt} {X : zCd} {v : Int} (hv : 0 ≤ v ∧ v ≤ 500) (hW : okW (rnk v) fr.length Wt) (hc : fr.length ≤ 40) (h : stR B L M i o fr (P ++ Wt) X) (hP : okP (rnk v) fr.length P) (hB : wtB 40 (P ++ Wt)) (hl : (P ++ Wt).length ≤ 80) (hX : X.length + P.length ≤ 400) (hl2 : Wt.length < 80) : ∃ M', f_X11_waitsFor v M = some M' ∧ stR B L M' (i + 1) o fr ((v, fr.length) :: Wt) (X ++ pops P) ∧ M' 42 0 28 = M 42 0 28 ∧ ∀ c, frT c M M' := by
  obtain ⟨M1, a1, b1, c1, d1⟩ := R_works (rnk_le v) hW hc h hP hB hl hX
  have h3 : stR B L (zput (zput (zput M1 56 0 Wt.length v) 57 0 Wt.length fr.length) 42 0 25 ((Wt.length : Int) + 1)) i o fr ((v, fr.length) :: Wt) (X ++ pops P) := by
    refine ⟨((b1.tape.putk (by omega) (by omega)).putk (by omega) (by omega)).put (by omega), ((b1.tok.putk (by omega)).putk (by omega)).put (by omega), ?_, ?_, ?_, ?_, ?_, ?_, ?_, ?_, ?_⟩
    · rw [zput_j (by omega), zput_k (by omega), zput_k (by omega)]; exact b1.ok
    · rw [zput_j (by omega), zput_k (by omega), zput_k (by omega)]; exact b1.wat
    · rw [zput_j (by omega), zput_k (by omega), zput_k (by omega)]; exact b1.opn
    · rw [zput_j (by omega), zput_k (by omega), zput_k (by omega)]; exact b1.frs
    · rw [zput_rowk (by omega), zput_rowk (by omega), zput_rowk (by omega)]; exact b1.frm
    · rw [zput_eq, List.length_cons]; omega
    · refine ⟨?_, ?_, opsR_put b1.wtm (fun k hk => ⟨?_, ?_⟩)⟩
      · rw [zput_k (by omega), zput_k (by omega), zput_eq]
      · rw [zput_k (by omega), zput_eq]
      · rw [zput_k (by omega), zput_k (by omega), zput_j (by omega)]
      · rw [zput_k (by omega), zput_j (by omega), zput_k (by omega)]
    · rw [zput_j (by omega), zput_k (by omega), zput_k (by omega)]; exact b1.ords
    · unfold rcM; rw [zput_rowk (by omega), zput_rowk (by omega), zput_rowk (by omega), zput_rowk (by omega), zput_rowk (by omega), zput_rowk (by omega)]; exact b1.code
  obtain ⟨M2, a2, b2, c2, d2⟩ := R_nxt h3
  refine ⟨M2, ?_, b2, ?_, fun c => (d1 c).trans ((frT.pk (by omega)).trans ((frT.pk (by omega)).trans ((frT.p42 (by omega)).trans (d2 c))))⟩
  · unfold f_X11_waitsFor
    rw [R_rank hv]
    simp only [zbs]
    rw [a1]
    simp only [zbs]
    rw [b1.wts, zw_nat (by omega), if_pos (by omega), zlt_, zput_k (by omega), b1.wts, zw_nat (by omega), if_pos (by omega), zlt_, zlt_, zix_nat (by omega), zput_k (by omega), b1.frs, zput_k (by omega), zput_k (by omega), b1.wts, a2]
    exact zbs _ _
  · rw [c2, zput_j (by omega), zput_k (by omega), zput_k (by omega), c1]
end ZTXW
/-! text: turns of the reference -/
def rnS (k : Nat) (M M' : zM) : Prop := ∀ n y, zlp (fun s : zM => f_X11_text_L74 s) n M' = some y → zlp (fun s : zM => f_X11_text_L74 s) (n + k) M = some y
set_option maxRecDepth 8000 in
set_option maxHeartbeats 2000000 in
theorem rnS.rfl_ {M : zM} : rnS 0 M M := fun n y h => h
set_option maxRecDepth 8000 in
set_option maxHeartbeats 2000000 in
theorem rnS.trans {k1 k2 : Nat} {M M1 M2 : zM} (h1 : rnS k1 M M1) (h2 : rnS k2 M1 M2) : rnS (k1 + k2) M M2 := fun n y h => by
  have := h1 (n + k2) y (h2 n y h)
  rw [show n + (k1 + k2) = n + k2 + k1 by omega]
  exact this
set_option maxRecDepth 8000 in
set_option maxHeartbeats 2000000 in
theorem rnS.one {M M1 : zM} (h : f_X11_text_L74 M = some (.inl M1)) : rnS 1 M M1 := fun n y h2 => zlp_inl h h2
set_option maxRecDepth 8000 in
set_option maxHeartbeats 2000000 in
theorem go_0 {M N : zM} (h19 : M 42 0 19 = 0) (h28 : M 42 0 28 = 0) (e : f_X11_asks M = some N) : rnS 1 M N := by
  refine rnS.one ?_
  unfold f_X11_text_L74 f_X11_text_j96
  rw [h19, if_neg (nn_ zw_0), h28, if_pos (by decide), if_pos zw_0, e]
  exact zbs _ _
set_option maxRecDepth 8000 in
set_option maxHeartbeats 2000000 in
theorem go_1 {M N : zM} (h19 : M 42 0 19 = 0) (h28 : M 42 0 28 = 1) (e : f_X11_begins M = some N) : rnS 1 M N := by
  refine rnS.one ?_
  unfold f_X11_text_L74 f_X11_text_j96
  rw [h19, if_neg (nn_ zw_0), h28, if_pos (by decide), if_neg (by decide), if_pos (by decide), e]
  exact zbs _ _
set_option maxRecDepth 8000 in
set_option maxHeartbeats 2000000 in
theorem go_2 {M N : zM} (h19 : M 42 0 19 = 0) (h28 : M 42 0 28 = 2) (e : f_X11_goesOn M = some N) : rnS 1 M N := by
  refine rnS.one ?_
  unfold f_X11_text_L74 f_X11_text_j96
  rw [h19, if_neg (nn_ zw_0), h28, if_pos (by decide), if_neg (by decide), if_neg (by decide), if_pos (by decide), e]
  exact zbs _ _
set_option maxRecDepth 8000 in
set_option maxHeartbeats 2000000 in
theorem go_3 {M N : zM} (h19 : M 42 0 19 = 0) (h28 : M 42 0 28 = 3) (e : f_X11_asksOn M = some N) : rnS 1 M N := by
  refine rnS.one ?_
  unfold f_X11_text_L74 f_X11_text_j96
  rw [h19, if_neg (nn_ zw_0), h28, if_pos (by decide), if_neg (by decide), if_neg (by decide), if_neg (by decide), if_pos (by decide), e]
  exact zbs _ _
set_option maxRecDepth 8000 in
set_option maxHeartbeats 2000000 in
theorem go_4 {M N : zM} (h19 : M 42 0 19 = 0) (h28 : M 42 0 28 = 4) (h17 : 1 ≤ M 42 0 17 ∧ M 42 0 17 ≤ 4) (e : f_X11_clause M = some N) : rnS 1 M N := by
  refine rnS.one ?_
  unfold f_X11_text_L74 f_X11_text_j96
  rw [h19, if_neg (nn_ zw_0), h28, if_neg (nn_ (by decide)), if_neg (show ¬ zw (M 42 0 17) = 0 by rw [zw_id (by omega) (by omega)]; omega), if_neg (by decide), if_neg (by decide), if_neg (by decide), if_neg (by decide), e]
  exact zbs _ _
set_option maxRecDepth 8000 in
set_option maxHeartbeats 2000000 in
theorem zlp_mono {S E : Type} {body : S → Option (S ⊕ E)} : ∀ (n m : Nat) (s : S) (e : E), zlp body n s = some e → n ≤ m → zlp body m s = some e := by
  intro n
  induction n with
  | zero => intro m s e h _; cases h
  | succ n ih =>
    intro m s e h hm
    obtain ⟨m, rfl⟩ : ∃ m', m = m' + 1 := ⟨m - 1, by omega⟩
    rcases zlp_cases h with ⟨s', h1, h2⟩ | h1
    · exact zlp_inl h1 (ih m s' e h2 (by omega))
    · exact zlp_inr h1
/-! text: a one is over -/
def ovT (y : zM) : Option zM := zlet (zput y 42 0 28 2) fun M11 => (f_X11_top M11).bind fun p12 => if ¬ zw p12.1 = 10 then some p12.2 else (f_X11_bySecond p12.2).bind fun p13 => some p13
def OV (F : Nat) (M N : zM) : Prop := ∃ y, zlp (fun s : zM => f_X11_oneIsOver_L0 s) F M = some y ∧ ovT y = some N
set_option maxRecDepth 8000 in
set_option maxHeartbeats 2000000 in
theorem OV_is {F : Nat} {M N : zM} (h : OV F M N) (hF : F ≤ 1000) : f_X11_oneIsOver M = some N := by
  obtain ⟨y, h1, h2⟩ := h
  unfold f_X11_oneIsOver
  rw [zlp_mono F zF M y h1 (by unfold zF; omega)]
  simp only [zbs]
  exact h2
section ZTXO
variable {B : Nat → Int} {L i o : Nat} {fr : List Int} {Wt : zWt} {X : zCd} {M : zM} {f : Int}
set_option maxRecDepth 8000 in
set_option maxHeartbeats 2000000 in
theorem ov_up {op : Int} (hf : (f = 7 ∧ op = 402) ∨ (f = 11 ∧ op = 403)) (h : stR B L M i (o + 1) (f :: fr) Wt X) (hc : fr.length < 40) (hX : X.length < 400) : ∃ M', stR B L M' i o fr Wt (X ++ [(op, 0)]) ∧ (∀ c, frT c M M') ∧ ∀ F N, OV F M' N → OV (F + 1) M N := by
  have ht := R_top h hc
  obtain ⟨M1, a1, b1, c1, d1⟩ := R_emit (v := op) (u := 0) h hX
  have b2 := b1.pop
  have b3 := b2.shut
  refine ⟨_, b3, fun c => (d1 c).trans ((frT.p42 (by omega)).trans (frT.p42 (by omega))), fun F N => ?_⟩
  rintro ⟨y, h1, h2⟩
  refine ⟨y, zlp_inl ?_ h1, h2⟩
  unfold f_X11_oneIsOver_L0 f_X11_oneIsOver_j18 f_X11_oneIsOver_j37
  rw [ht]
  simp only [zbs]
  rw [ht]
  simp only [zbs]
  rw [zw_id (z := f) (by omega) (by omega)]
  rcases hf with ⟨hf, rfl⟩ | ⟨hf, rfl⟩
  · rw [if_pos hf, if_neg (nn_ hf), a1]
    simp only [zbs, zlt_]
  · rw [if_neg (by omega), if_neg (nn_ hf), ht]
    simp only [zbs]
    rw [zw_id (z := f) (by omega) (by omega), if_pos (by omega), a1]
    simp only [zbs, zlt_]
set_option maxRecDepth 8000 in
set_option maxHeartbeats 2000000 in
theorem ov_l0 (h : stR B L M i o (f :: fr) Wt X) (hc : fr.length < 40) (hf : 0 ≤ f ∧ f ≤ 20 ∧ f ≠ 7 ∧ f ≠ 11) {F : Nat} (hF : 0 < F) : zlp (fun s : zM => f_X11_oneIsOver_L0 s) F M = some M := by
  have ht := R_top h hc
  refine zlp_z hF ?_
  unfold f_X11_oneIsOver_L0
  rw [ht]
  simp only [zbs]
  rw [ht]
  simp only [zbs]
  rw [zw_id (z := f) (by omega) (by omega), if_neg hf.2.2.1, if_pos hf.2.2.2]
set_option maxRecDepth 8000 in
set_option maxHeartbeats 2000000 in
theorem ov_end (h : stR B L M i o (f :: fr) Wt X) (hc : fr.length < 40) (hf : 0 ≤ f ∧ f ≤ 20 ∧ f ≠ 7 ∧ f ≠ 11 ∧ f ≠ 10) {F : Nat} (hF : 0 < F) : OV F M (zput M 42 0 28 2) := by
  refine ⟨M, ov_l0 h hc ⟨hf.1, hf.2.1, hf.2.2.1, hf.2.2.2.1⟩ hF, ?_⟩
  unfold ovT
  rw [zlt_, R_top h.state hc]
  simp only [zbs]
  rw [zw_id (z := f) (by omega) (by omega), if_pos hf.2.2.2.2]
set_option maxRecDepth 8000 in
set_option maxHeartbeats 2000000 in
/-- LEFT one: OF stands behind it -/
theorem ov_first (h : stR B L M i o (10 :: fr) Wt X) (hc : fr.length < 40) (hk : tK B L i = 16) {F : Nat} (hF : 0 < F) : ∃ N, OV F M N ∧ stR B L N (i + 1) o (11 :: fr) Wt X ∧ N 42 0 28 = 1 ∧ ∀ c, frT c M N := by
  have h2 := h.state (s := 2)
  have e : (zput M 42 0 28 2 42 0 22) - 1 = (fr.length : Int) := by rw [h2.frs, List.length_cons]; omega
  obtain ⟨M2, a2, b2, c2, d2⟩ := R_nxt (h2.turn (g := 11))
  refine ⟨_, ⟨M, ov_l0 h hc (by omega) hF, ?_⟩, b2.state (s := 1), zput_eq _ _ _ _ _, fun c => (frT.p42 (by omega)).trans ((frT.pk (by omega)).trans ((d2 c).trans (frT.p42 (by omega))))⟩
  unfold ovT
  rw [zlt_, R_top h2 hc]
  simp only [zbs]
  rw [if_neg (nn_ (by decide))]
  unfold f_X11_bySecond
  rw [R_isW (v := 11) (kk := 16) h2.tok.2.1 (by omega) rfl, if_pos hk]
  simp only [zbs]
  rw [if_pos zw_1n, e, zw_nat (by omega), if_pos (by omega), zlt_, zix_nat (by omega), a2]
  simp only [zbs, zlt_]
set_option maxRecDepth 8000 in
set_option maxHeartbeats 2000000 in
theorem ov_firstN (h : stR B L M i o (10 :: fr) Wt X) (hc : fr.length < 40) (hk : tK B L i ≠ 16) {F : Nat} (hF : 0 < F) : ∃ N, OV F M N ∧ failR B L N 1 i ∧ frB M N := by
  have h2 := h.state (s := 2)
  obtain ⟨M2, a2, b2, c2⟩ := R_err (w := 1) h2 (by omega)
  refine ⟨M2, ⟨M, ov_l0 h hc (by omega) hF, ?_⟩, b2, (frT.p42 (c := 0) (by omega)).1.trans c2⟩
  unfold ovT
  rw [zlt_, R_top h2 hc]
  simp only [zbs]
  rw [if_neg (nn_ (by decide))]
  unfold f_X11_bySecond
  rw [R_isW (v := 11) (kk := 16) h2.tok.2.1 (by omega) rfl, if_neg hk]
  simp only [zbs]
  rw [if_neg (nn_ zw_0), a2]
  simp only [zbs]
end ZTXO
/-! text: an ask is over -/
def AV (F : Nat) (M N : zM) : Prop := ∃ y, zlp (fun s : zM => f_X11_askIsOver_L0 s) F M = some y ∧ zput y 42 0 28 3 = N
set_option maxRecDepth 8000 in
set_option maxHeartbeats 2000000 in
theorem AV_is {F : Nat} {M N : zM} (h : AV F M N) (hF : F ≤ 1000) : f_X11_askIsOver M = some N := by
  obtain ⟨y, h1, h2⟩ := h
  unfold f_X11_askIsOver
  rw [zlp_mono F zF M y h1 (by unfold zF; omega)]
  simp only [zbs]
  rw [zlt_, h2]
section ZTXA
variable {B : Nat → Int} {L i o : Nat} {fr : List Int} {Wt : zWt} {X : zCd} {M : zM} {f : Int}
set_option maxRecDepth 8000 in
set_option maxHeartbeats 2000000 in
theorem av_up (h : stR B L M i (o + 1) (3 :: fr) Wt X) (hc : fr.length < 40) (hX : X.length < 400) : ∃ M', stR B L M' i o fr Wt (X ++ [(405, 0)]) ∧ (∀ c, frT c M M') ∧ ∀ F N, AV F M' N → AV (F + 1) M N := by
  have ht := R_top h hc
  have b2 := h.pop
  have b3 := b2.shut
  obtain ⟨M1, a1, b1, c1, d1⟩ := R_emit (v := 405) (u := 0) b3 hX
  refine ⟨M1, b1, fun c => (frT.p42 (by omega)).trans ((frT.p42 (by omega)).trans (d1 c)), fun F N => ?_⟩
  rintro ⟨y, h1, h2⟩
  refine ⟨y, zlp_inl ?_ h1, h2⟩
  unfold f_X11_askIsOver_L0
  rw [ht]
  simp only [zbs]
  rw [if_neg (nn_ (by decide)), zlt_, zlt_, a1]
  exact zbs _ _
set_option maxRecDepth 8000 in
set_option maxHeartbeats 2000000 in
theorem av_end (h : stR B L M i o (f :: fr) Wt X) (hc : fr.length < 40) (hf : 0 ≤ f ∧ f ≤ 20 ∧ f ≠ 3) {F : Nat} (hF : 0 < F) : AV F M (zput M 42 0 28 3) := by
  refine ⟨M, zlp_z hF ?_, rfl⟩
  unfold f_X11_askIsOver_L0
  rw [R_top h hc]
  simp only [zbs]
  rw [zw_id (z := f) (by omega) (by omega), if_pos hf.2.2]
end ZTXA
