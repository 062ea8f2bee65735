/-! text: the reference's stacks, its small steps -/
abbrev zWt : Type := List (Int × Nat)
def opsR (f g : Nat → Int) : zWt → Prop
  | [] => True
  | a :: l => f l.length = a.1 ∧ g l.length = (a.2 : Int) ∧ opsR f g l
set_option maxRecDepth 8000 in
set_option maxHeartbeats 2000000 in
theorem opsR_put {f g f' g' : Nat → Int} : ∀ {l : zWt}, opsR f g l → (∀ k, k < l.length → f' k = f k ∧ g' k = g k) → opsR f' g' l := by
  intro l
  induction l with
  | nil => intro _ _; trivial
  | cons a l ih =>
    intro h e
    rw [List.length_cons] at e
    exact ⟨by rw [(e _ (by omega)).1]; exact h.1, by rw [(e _ (by omega)).2]; exact h.2.1, ih h.2.2 (fun k hk => e k (by omega))⟩
def rcM (M : zM) : Nat → Int × Int := fun j => (M 64 0 j, M 65 0 j)
/-- cells that reading a law leaves; those of c frames too -/
def frB (M M' : zM) : Prop := (∀ k i, k ≠ 42 → ¬ (54 ≤ k ∧ k ≤ 58) → k ≠ 64 → k ≠ 65 → M' k i = M k i) ∧ ∀ j, ¬ (15 ≤ j ∧ j ≤ 22) → j ≠ 25 → j ≠ 28 → j ≠ 37 → M' 42 0 j = M 42 0 j
def frT (c : Nat) (M M' : zM) : Prop := frB M M' ∧ ∀ j, j ≤ c → M' 55 0 j = M 55 0 j ∧ M' 58 0 j = M 58 0 j
set_option maxRecDepth 8000 in
set_option maxHeartbeats 2000000 in
theorem frB.rfl_ {M : zM} : frB M M := ⟨fun _ _ _ _ _ _ => rfl, fun _ _ _ _ _ => rfl⟩
set_option maxRecDepth 8000 in
set_option maxHeartbeats 2000000 in
theorem frB.trans {M M' M2 : zM} (h : frB M M') (h2 : frB M' M2) : frB M M2 := ⟨fun k i a b c d => by rw [h2.1 k i a b c d, h.1 k i a b c d], fun j a b c d => by rw [h2.2 j a b c d, h.2 j a b c d]⟩
set_option maxRecDepth 8000 in
set_option maxHeartbeats 2000000 in
theorem frT.rfl_ {c : Nat} {M : zM} : frT c M M := ⟨frB.rfl_, fun _ _ => ⟨rfl, rfl⟩⟩
set_option maxRecDepth 8000 in
set_option maxHeartbeats 2000000 in
theorem frT.trans {c : Nat} {M M' M2 : zM} (h : frT c M M') (h2 : frT c M' M2) : frT c M M2 := ⟨h.1.trans h2.1, fun j a => ⟨by rw [(h2.2 j a).1, (h.2 j a).1], by rw [(h2.2 j a).2, (h.2 j a).2]⟩⟩
set_option maxRecDepth 8000 in
set_option maxHeartbeats 2000000 in
theorem frT.le {c c' : Nat} {M M' : zM} (h : frT c M M') (hc : c' ≤ c) : frT c' M M' := ⟨h.1, fun j a => h.2 j (by omega)⟩
set_option maxRecDepth 8000 in
set_option maxHeartbeats 2000000 in
theorem frN.t {c : Nat} {M M' : zM} (h : frN M M') : frT c M M' := ⟨⟨fun k i a _ _ _ => h.1 k i (fun z => a z.1), fun j a _ _ _ => h.2 j (by omega) (by omega) (by omega) (by omega)⟩, fun j _ => ⟨by rw [h.1 55 0 (by omega)], by rw [h.1 58 0 (by omega)]⟩⟩
set_option maxRecDepth 8000 in
set_option maxHeartbeats 2000000 in
theorem frT.p42 {c j : Nat} {M : zM} {v : Int} (h : (15 ≤ j ∧ j ≤ 22) ∨ j = 25 ∨ j = 28 ∨ j = 37) : frT c M (zput M 42 0 j v) := ⟨⟨fun k i a _ _ _ => zput_rowk (by omega), fun q a b d e => zput_j (by omega)⟩, fun q _ => ⟨zput_k (by omega), zput_k (by omega)⟩⟩
set_option maxRecDepth 8000 in
set_option maxHeartbeats 2000000 in
theorem frT.pk {c k j : Nat} {M : zM} {v : Int} (h : k = 54 ∨ k = 56 ∨ k = 57 ∨ k = 64 ∨ k = 65) : frT c M (zput M k 0 j v) := ⟨⟨fun k' i a b d e => zput_rowk (by omega), fun q _ _ _ _ => zput_k (by omega)⟩, fun q _ => ⟨zput_k (by omega), zput_k (by omega)⟩⟩
set_option maxRecDepth 8000 in
set_option maxHeartbeats 2000000 in
theorem frT.px {c k j : Nat} {M : zM} {v : Int} (h : k = 55 ∨ k = 58) (hj : c < j) : frT c M (zput M k 0 j v) := ⟨⟨fun k' i a b d e => zput_rowk (by omega), fun q _ _ _ _ => zput_k (by omega)⟩, fun q hq => ⟨zput_j (by omega), zput_j (by omega)⟩⟩
/-- the reference reads a law: TOKEN i, o signs open, frames, those that wait, orders -/
def stR (B : Nat → Int) (L : Nat) (M : zM) (i : Nat) (o : Nat) (fr : List Int) (Wt : zWt) (X : zCd) : Prop :=
  (tapeR M B L) ∧
  (tokR M B L i) ∧
  (M 42 0 19 = 0) ∧
  (M 42 0 20 = -1) ∧
  (M 42 0 21 = o) ∧
  (M 42 0 22 = fr.length) ∧
  (pileR (M 54 0) fr) ∧
  (M 42 0 25 = Wt.length) ∧
  (opsR (M 56 0) (M 57 0) Wt) ∧
  (M 42 0 37 = X.length) ∧
  (cAt (rcM M) 0 X)
set_option maxRecDepth 8000 in
set_option maxHeartbeats 2000000 in
theorem stR.tape {B : Nat → Int} {L : Nat} {M : zM} {i : Nat} {o : Nat} {fr : List Int} {Wt : zWt} {X : zCd} (h : stR B L M i o fr Wt X) : tapeR M B L := h.1
set_option maxRecDepth 8000 in
set_option maxHeartbeats 2000000 in
theorem stR.tok {B : Nat → Int} {L : Nat} {M : zM} {i : Nat} {o : Nat} {fr : List Int} {Wt : zWt} {X : zCd} (h : stR B L M i o fr Wt X) : tokR M B L i := h.2.1
set_option maxRecDepth 8000 in
set_option maxHeartbeats 2000000 in
theorem stR.ok {B : Nat → Int} {L : Nat} {M : zM} {i : Nat} {o : Nat} {fr : List Int} {Wt : zWt} {X : zCd} (h : stR B L M i o fr Wt X) : M 42 0 19 = 0 := h.2.2.1
set_option maxRecDepth 8000 in
set_option maxHeartbeats 2000000 in
theorem stR.wat {B : Nat → Int} {L : Nat} {M : zM} {i : Nat} {o : Nat} {fr : List Int} {Wt : zWt} {X : zCd} (h : stR B L M i o fr Wt X) : M 42 0 20 = -1 := h.2.2.2.1
set_option maxRecDepth 8000 in
set_option maxHeartbeats 2000000 in
theorem stR.opn {B : Nat → Int} {L : Nat} {M : zM} {i : Nat} {o : Nat} {fr : List Int} {Wt : zWt} {X : zCd} (h : stR B L M i o fr Wt X) : M 42 0 21 = o := h.2.2.2.2.1
set_option maxRecDepth 8000 in
set_option maxHeartbeats 2000000 in
theorem stR.frs {B : Nat → Int} {L : Nat} {M : zM} {i : Nat} {o : Nat} {fr : List Int} {Wt : zWt} {X : zCd} (h : stR B L M i o fr Wt X) : M 42 0 22 = fr.length := h.2.2.2.2.2.1
set_option maxRecDepth 8000 in
set_option maxHeartbeats 2000000 in
theorem stR.frm {B : Nat → Int} {L : Nat} {M : zM} {i : Nat} {o : Nat} {fr : List Int} {Wt : zWt} {X : zCd} (h : stR B L M i o fr Wt X) : pileR (M 54 0) fr := h.2.2.2.2.2.2.1
set_option maxRecDepth 8000 in
set_option maxHeartbeats 2000000 in
theorem stR.wts {B : Nat → Int} {L : Nat} {M : zM} {i : Nat} {o : Nat} {fr : List Int} {Wt : zWt} {X : zCd} (h : stR B L M i o fr Wt X) : M 42 0 25 = Wt.length := h.2.2.2.2.2.2.2.1
set_option maxRecDepth 8000 in
set_option maxHeartbeats 2000000 in
theorem stR.wtm {B : Nat → Int} {L : Nat} {M : zM} {i : Nat} {o : Nat} {fr : List Int} {Wt : zWt} {X : zCd} (h : stR B L M i o fr Wt X) : opsR (M 56 0) (M 57 0) Wt := h.2.2.2.2.2.2.2.2.1
set_option maxRecDepth 8000 in
set_option maxHeartbeats 2000000 in
theorem stR.ords {B : Nat → Int} {L : Nat} {M : zM} {i : Nat} {o : Nat} {fr : List Int} {Wt : zWt} {X : zCd} (h : stR B L M i o fr Wt X) : M 42 0 37 = X.length := h.2.2.2.2.2.2.2.2.2.1
set_option maxRecDepth 8000 in
set_option maxHeartbeats 2000000 in
theorem stR.code {B : Nat → Int} {L : Nat} {M : zM} {i : Nat} {o : Nat} {fr : List Int} {Wt : zWt} {X : zCd} (h : stR B L M i o fr Wt X) : cAt (rcM M) 0 X := h.2.2.2.2.2.2.2.2.2.2
def failR (B : Nat → Int) (L : Nat) (M : zM) (w : Int) (f : Nat) : Prop := M 42 0 19 = w ∧ (1 ≤ w ∧ w ≤ 6) ∧ M 42 0 20 = tPl B L f
section ZTXR
variable {B : Nat → Int} {L i o : Nat} {fr : List Int} {Wt : zWt} {X : zCd} {M M' : zM}
set_option maxRecDepth 8000 in
set_option maxHeartbeats 2000000 in
theorem stR.mov {i' : Nat} (h : stR B L M i o fr Wt X) (f : frN M M') (t : tokR M' B L i') : stR B L M' i' o fr Wt X := by
  have e : ∀ j, j ≠ 15 → j ≠ 16 → j ≠ 17 → j ≠ 18 → M' 42 0 j = M 42 0 j := f.2
  refine ⟨h.tape.frN f, t, ?_, ?_, ?_, ?_, ?_, ?_, ?_, ?_, ?_⟩
  · rw [e 19 (by omega) (by omega) (by omega) (by omega)]; exact h.ok
  · rw [e 20 (by omega) (by omega) (by omega) (by omega)]; exact h.wat
  · rw [e 21 (by omega) (by omega) (by omega) (by omega)]; exact h.opn
  · rw [e 22 (by omega) (by omega) (by omega) (by omega)]; exact h.frs
  · rw [f.1 54 0 (by omega)]; exact h.frm
  · rw [e 25 (by omega) (by omega) (by omega) (by omega)]; exact h.wts
  · rw [f.1 56 0 (by omega), f.1 57 0 (by omega)]; exact h.wtm
  · rw [e 37 (by omega) (by omega) (by omega) (by omega)]; exact h.ords
  · unfold rcM; rw [f.1 64 0 (by omega), f.1 65 0 (by omega)]; exact h.code
set_option maxRecDepth 8000 in
set_option maxHeartbeats 2000000 in
theorem tokR.put {j : Nat} {v : Int} (h : tokR M B L i) (hj : ¬ (15 ≤ j ∧ j ≤ 18)) : tokR (zput M 42 0 j v) B L i := by
  unfold tokR at h ⊢
  rw [zput_j (by omega), zput_j (by omega), zput_j (by omega), zput_j (by omega)]
  exact h
set_option maxRecDepth 8000 in
set_option maxHeartbeats 2000000 in
theorem tokR.putk {k j : Nat} {v : Int} (h : tokR M B L i) (hk : k ≠ 42) : tokR (zput M k 0 j v) B L i := by
  unfold tokR at h ⊢
  rw [zput_k (by omega), zput_k (by omega), zput_k (by omega), zput_k (by omega)]
  exact h
set_option maxRecDepth 8000 in
set_option maxHeartbeats 2000000 in
theorem tapeR.put {j : Nat} {v : Int} (h : tapeR M B L) (hj : j ≠ 14) : tapeR (zput M 42 0 j v) B L := by
  unfold tapeR at h ⊢
  rw [zput_j (by omega), zput_rowk (by omega)]
  exact h
set_option maxRecDepth 8000 in
set_option maxHeartbeats 2000000 in
theorem tapeR.putk {k j : Nat} {v : Int} (h : tapeR M B L) (hk : k ≠ 42) (hk2 : k ≠ 45) : tapeR (zput M k 0 j v) B L := by
  unfold tapeR at h ⊢
  rw [zput_k (by omega), zput_rowk (by omega)]
  exact h
set_option maxRecDepth 8000 in
set_option maxHeartbeats 2000000 in
theorem stR.state {s : Int} (h : stR B L M i o fr Wt X) : stR B L (zput M 42 0 28 s) i o fr Wt X := by
  refine ⟨h.tape.put (by omega), h.tok.put (by omega), ?_, ?_, ?_, ?_, ?_, ?_, ?_, ?_, ?_⟩
  · rw [zput_j (by omega)]; exact h.ok
  · rw [zput_j (by omega)]; exact h.wat
  · rw [zput_j (by omega)]; exact h.opn
  · rw [zput_j (by omega)]; exact h.frs
  · rw [zput_rowk (by omega)]; exact h.frm
  · rw [zput_j (by omega)]; exact h.wts
  · rw [zput_rowk (by omega), zput_rowk (by omega)]; exact h.wtm
  · rw [zput_j (by omega)]; exact h.ords
  · unfold rcM; rw [zput_rowk (by omega), zput_rowk (by omega)]; exact h.code
set_option maxRecDepth 8000 in
set_option maxHeartbeats 2000000 in
/-- cells that tell nothing of it: compare, openAt -/
theorem stR.aside {k j : Nat} {v : Int} (h : stR B L M i o fr Wt X) (hk : k = 55 ∨ k = 58) : stR B L (zput M k 0 j v) i o fr Wt X := by
  refine ⟨h.tape.putk (by omega) (by omega), h.tok.putk (by omega), ?_, ?_, ?_, ?_, ?_, ?_, ?_, ?_, ?_⟩
  · rw [zput_k (by omega)]; exact h.ok
  · rw [zput_k (by omega)]; exact h.wat
  · rw [zput_k (by omega)]; exact h.opn
  · rw [zput_k (by omega)]; exact h.frs
  · rw [zput_rowk (by omega)]; exact h.frm
  · rw [zput_k (by omega)]; exact h.wts
  · rw [zput_rowk (by omega), zput_rowk (by omega)]; exact h.wtm
  · rw [zput_k (by omega)]; exact h.ords
  · unfold rcM; rw [zput_rowk (by omega), zput_rowk (by omega)]; exact h.code
set_option maxRecDepth 8000 in
set_option maxHeartbeats 2000000 in
theorem R_nxt (h : stR B L M i o fr Wt X) : ∃ M', f_X11_next M = some M' ∧ stR B L M' (i + 1) o fr Wt X ∧ M' 42 0 28 = M 42 0 28 ∧ ∀ c, frT c M M' := by
  obtain ⟨M', a1, a2, a3⟩ := R_next (i := i + 1) h.tape h.tok.2.2
  exact ⟨M', a1, h.mov a3 a2, a3.2 28 (by omega) (by omega) (by omega) (by omega), fun c => a3.t⟩
set_option maxRecDepth 8000 in
set_option maxHeartbeats 2000000 in
theorem R_emit {v u : Int} (h : stR B L M i o fr Wt X) (hX : X.length < 400) : ∃ M', f_X11_emits v u M = some M' ∧ stR B L M' i o fr Wt (X ++ [(v, u)]) ∧ M' 42 0 28 = M 42 0 28 ∧ ∀ c, frT c M M' := by
  unfold f_X11_emits
  rw [h.ords, zw_nat (by omega), if_pos (by omega), zlt_, zput_k (by omega), h.ords, zw_nat (by omega), if_pos (by omega), zlt_, zlt_, zix_nat (by omega), zput_k (by omega), zput_k (by omega), h.ords]
  refine ⟨_, rfl, ⟨?_, ?_, ?_, ?_, ?_, ?_, ?_, ?_, ?_, ?_, ?_⟩, ?_, fun c => (frT.pk (by omega)).trans ((frT.pk (by omega)).trans (frT.p42 (by omega)))⟩
  · exact ((h.tape.putk (by omega) (by omega)).putk (by omega) (by omega)).put (by omega)
  · exact ((h.tok.putk (by omega)).putk (by omega)).put (by omega)
  · rw [zput_j (by omega), zput_k (by omega), zput_k (by omega)]; exact h.ok
  · rw [zput_j (by omega), zput_k (by omega), zput_k (by omega)]; exact h.wat
  · rw [zput_j (by omega), zput_k (by omega), zput_k (by omega)]; exact h.opn
  · rw [zput_j (by omega), zput_k (by omega), zput_k (by omega)]; exact h.frs
  · rw [zput_rowk (by omega), zput_rowk (by omega), zput_rowk (by omega)]; exact h.frm
  · rw [zput_j (by omega), zput_k (by omega), zput_k (by omega)]; exact h.wts
  · rw [zput_rowk (by omega), zput_rowk (by omega), zput_rowk (by omega), zput_rowk (by omega), zput_rowk (by omega), zput_rowk (by omega)]; exact h.wtm
  · rw [zput_eq, List.length_append, List.length_singleton]; omega
  · rw [cAt_app]
    refine ⟨cAt_congr _ _ h.code (fun j _ hj => ?_), ?_, trivial⟩
    · unfold rcM
      rw [zput_k (by omega), zput_k (by omega), zput_j (by omega), zput_k (by omega), zput_j (by omega), zput_k (by omega)]
    · unfold rcM
      rw [Nat.zero_add, zput_k (by omega), zput_k (by omega), zput_eq, zput_k (by omega), zput_eq]
  · rw [zput_j (by omega), zput_k (by omega), zput_k (by omega)]
set_option maxRecDepth 8000 in
set_option maxHeartbeats 2000000 in
theorem R_frame {f : Int} (h : stR B L M i o fr Wt X) (hf : fr.length < 40) : ∃ M', f_X11_opensFrame f M = some M' ∧ stR B L M' i o (f :: fr) Wt X ∧ M' 42 0 28 = M 42 0 28 ∧ ∀ c, frT c M M' := by
  unfold f_X11_opensFrame
  rw [h.frs, zw_nat (by omega), if_pos (by omega), zlt_, zlt_, zix_nat (by omega), zput_k (by omega), h.frs]
  refine ⟨_, rfl, ⟨?_, ?_, ?_, ?_, ?_, ?_, ?_, ?_, ?_, ?_, ?_⟩, ?_, fun c => (frT.pk (by omega)).trans (frT.p42 (by omega))⟩
  · exact (h.tape.putk (by omega) (by omega)).put (by omega)
  · exact (h.tok.putk (by omega)).put (by omega)
  · rw [zput_j (by omega), zput_k (by omega)]; exact h.ok
  · rw [zput_j (by omega), zput_k (by omega)]; exact h.wat
  · rw [zput_j (by omega), zput_k (by omega)]; exact h.opn
  · rw [zput_eq, List.length_cons]; omega
  · rw [zput_rowk (by omega)]
    exact ⟨by rw [zput_eq], pileR_put h.frm (fun k hk => by rw [zput_j (by omega)])⟩
  · rw [zput_j (by omega), zput_k (by omega)]; exact h.wts
  · rw [zput_rowk (by omega), zput_rowk (by omega), zput_rowk (by omega), zput_rowk (by omega)]; exact h.wtm
  · rw [zput_j (by omega), zput_k (by omega)]; exact h.ords
  · unfold rcM; rw [zput_rowk (by omega), zput_rowk (by omega), zput_rowk (by omega), zput_rowk (by omega)]; exact h.code
  · rw [zput_j (by omega), zput_k (by omega)]
set_option maxRecDepth 8000 in
set_option maxHeartbeats 2000000 in
theorem R_top {f : Int} (h : stR B L M i o (f :: fr) Wt X) (hf : fr.length < 40) : f_X11_top M = some (f, M) := by
  have e : (M 42 0 22) - 1 = fr.length := by rw [h.frs, List.length_cons]; omega
  unfold f_X11_top
  rw [e, zw_nat (by omega), if_pos (by omega), zix_nat (by omega), h.frm.1]
set_option maxRecDepth 8000 in
set_option maxHeartbeats 2000000 in
/-- the frame at the top is another now -/
theorem stR.turn {f g : Int} (h : stR B L M i o (f :: fr) Wt X) : stR B L (zput M 54 0 fr.length g) i o (g :: fr) Wt X := by
  refine ⟨h.tape.putk (by omega) (by omega), h.tok.putk (by omega), ?_, ?_, ?_, ?_, ?_, ?_, ?_, ?_, ?_⟩
  · rw [zput_k (by omega)]; exact h.ok
  · rw [zput_k (by omega)]; exact h.wat
  · rw [zput_k (by omega)]; exact h.opn
  · rw [zput_k (by omega)]; exact h.frs
  · exact ⟨by rw [zput_eq], pileR_put h.frm.2 (fun k hk => by rw [zput_j (by omega)])⟩
  · rw [zput_k (by omega)]; exact h.wts
  · rw [zput_rowk (by omega), zput_rowk (by omega)]; exact h.wtm
  · rw [zput_k (by omega)]; exact h.ords
  · unfold rcM; rw [zput_rowk (by omega), zput_rowk (by omega)]; exact h.code
set_option maxRecDepth 8000 in
set_option maxHeartbeats 2000000 in
/-- the frame at the top goes -/
theorem stR.pop {f : Int} (h : stR B L M i o (f :: fr) Wt X) : stR B L (zput M 42 0 22 ((M 42 0 22) - 1)) i o fr Wt X := by
  refine ⟨h.tape.put (by omega), h.tok.put (by omega), ?_, ?_, ?_, ?_, ?_, ?_, ?_, ?_, ?_⟩
  · rw [zput_j (by omega)]; exact h.ok
  · rw [zput_j (by omega)]; exact h.wat
  · rw [zput_j (by omega)]; exact h.opn
  · rw [zput_eq, h.frs, List.length_cons]; omega
  · rw [zput_rowk (by omega)]; exact h.frm.2
  · rw [zput_j (by omega)]; exact h.wts
  · rw [zput_rowk (by omega), zput_rowk (by omega)]; exact h.wtm
  · rw [zput_j (by omega)]; exact h.ords
  · unfold rcM; rw [zput_rowk (by omega), zput_rowk (by omega)]; exact h.code
set_option maxRecDepth 8000 in
set_option maxHeartbeats 2000000 in
theorem stR.shut (h : stR B L M i (o + 1) fr Wt X) : stR B L (zput M 42 0 21 ((M 42 0 21) - 1)) i o fr Wt X := by
  refine ⟨h.tape.put (by omega), h.tok.put (by omega), ?_, ?_, ?_, ?_, ?_, ?_, ?_, ?_, ?_⟩
  · rw [zput_j (by omega)]; exact h.ok
  · rw [zput_j (by omega)]; exact h.wat
  · rw [zput_eq, h.opn]; omega
  · rw [zput_j (by omega)]; exact h.frs
  · rw [zput_rowk (by omega)]; exact h.frm
  · rw [zput_j (by omega)]; exact h.wts
  · rw [zput_rowk (by omega), zput_rowk (by omega)]; exact h.wtm
  · rw [zput_j (by omega)]; exact h.ords
  · unfold rcM; rw [zput_rowk (by omega), zput_rowk (by omega)]; exact h.code
set_option maxRecDepth 8000 in
set_option maxHeartbeats 2000000 in
theorem stR.open_ (h : stR B L M i o fr Wt X) : stR B L (zput M 42 0 21 ((M 42 0 21) + 1)) i (o + 1) fr Wt X := by
  refine ⟨h.tape.put (by omega), h.tok.put (by omega), ?_, ?_, ?_, ?_, ?_, ?_, ?_, ?_, ?_⟩
  · rw [zput_j (by omega)]; exact h.ok
  · rw [zput_j (by omega)]; exact h.wat
  · rw [zput_eq, h.opn]; omega
  · rw [zput_j (by omega)]; exact h.frs
  · rw [zput_rowk (by omega)]; exact h.frm
  · rw [zput_j (by omega)]; exact h.wts
  · rw [zput_rowk (by omega), zput_rowk (by omega)]; exact h.wtm
  · rw [zput_j (by omega)]; exact h.ords
  · unfold rcM; rw [zput_rowk (by omega), zput_rowk (by omega)]; exact h.code
set_option maxRecDepth 8000 in
set_option maxHeartbeats 2000000 in
theorem R_err {w : Int} (h : stR B L M i o fr Wt X) (hw : 1 ≤ w ∧ w ≤ 6) : ∃ M', f_X11_errs w M = some M' ∧ failR B L M' w i ∧ frB M M' := by
  unfold f_X11_errs
  rw [h.ok, if_neg (nn_ zw_0), zlt_, zlt_, zput_j (by omega), h.tok.1]
  refine ⟨_, rfl, ⟨?_, hw, ?_⟩, ((frT.p42 (c := 0) (by omega)).trans (frT.p42 (by omega))).1⟩
  · rw [zput_j (by omega), zput_eq]
  · rw [zput_eq]
set_option maxRecDepth 8000 in
set_option maxHeartbeats 2000000 in
/-- one more sign is open -/
theorem R_open {f : Int} (h : stR B L M i o fr Wt X) (ho : o < 8) (hf : fr.length < 40) : ∃ M', f_X11_opensSign f M = some (1, M') ∧ stR B L M' (i + 1) (o + 1) (f :: fr) Wt X ∧ M' 42 0 28 = M 42 0 28 ∧ ∀ c, frT c M M' := by
  obtain ⟨M1, a1, b1, c1, d1⟩ := R_frame (f := f) h.open_ hf
  obtain ⟨M2, a2, b2, c2, d2⟩ := R_nxt b1
  refine ⟨M2, ?_, b2, ?_, fun c => (frT.p42 (by omega)).trans ((d1 c).trans (d2 c))⟩
  · unfold f_X11_opensSign
    rw [if_pos (by rw [h.opn, zw_nat (by omega)]; omega), zlt_, a1]
    simp only [zbs]
    rw [a2]
    exact zbs _ _
  · rw [c2, c1, zput_j (by omega)]
set_option maxRecDepth 8000 in
set_option maxHeartbeats 2000000 in
theorem R_openN {f : Int} (h : stR B L M i o fr Wt X) (ho : o = 8) : ∃ M', f_X11_opensSign f M = some (0, M') ∧ failR B L M' 3 i ∧ frB M M' := by
  obtain ⟨M1, a1, b1, c1⟩ := R_err h (w := 3) (by omega)
  refine ⟨M1, ?_, b1, c1⟩
  unfold f_X11_opensSign
  rw [if_neg (by rw [h.opn, zw_nat (by omega)]; omega), a1]
  exact zbs _ _
end ZTXR
/-! what a TOKEN is, on the reference's side -/
set_option maxRecDepth 8000 in
set_option maxHeartbeats 2000000 in
theorem rk_inj : ∀ a, a < 25 → ∀ b, b < 25 → rkL.getD a 0 = rkL.getD b 0 → a = b := by decide
set_option maxRecDepth 8000 in
set_option maxHeartbeats 2000000 in
theorem rk_rng : ∀ a, a < 25 → 0 ≤ rkL.getD a 0 ∧ rkL.getD a 0 < 25 := by decide
set_option maxRecDepth 8000 in
set_option maxHeartbeats 2000000 in
theorem sg_inj : ∀ a, a < 13 → ∀ b, b < 13 → sgL.getD a 0 = sgL.getD b 0 → a = b := by decide
set_option maxRecDepth 8000 in
set_option maxHeartbeats 2000000 in
theorem sg_rng : ∀ a, a < 13 → 35 ≤ sgL.getD a 0 ∧ sgL.getD a 0 < 302 ∧ sgL.getD a 0 ≠ 44 := by decide
set_option maxRecDepth 8000 in
set_option maxHeartbeats 2000000 in
theorem rk_iff {k kk : Int} (h : 0 ≤ k ∧ k < 25) (h2 : 0 ≤ kk ∧ kk < 25) : rk k = rk kk ↔ k = kk := by
  constructor
  · intro e
    have := rk_inj k.toNat (by omega) kk.toNat (by omega) e
    omega
  · intro e; rw [e]
set_option maxRecDepth 8000 in
set_option maxHeartbeats 2000000 in
theorem rk_le {k : Int} (h : 0 ≤ k ∧ k < 25) : 0 ≤ rk k ∧ rk k < 25 := rk_rng k.toNat (by omega)
set_option maxRecDepth 8000 in
set_option maxHeartbeats 2000000 in
theorem sg_iff {k kk : Int} (h : 26 ≤ k ∧ k ≤ 38) (h2 : 26 ≤ kk ∧ kk ≤ 38) : sg k = sg kk ↔ k = kk := by
  constructor
  · intro e
    have := sg_inj (k - 26).toNat (by omega) (kk - 26).toNat (by omega) e
    omega
  · intro e; rw [e]
set_option maxRecDepth 8000 in
set_option maxHeartbeats 2000000 in
theorem sg_le {k : Int} (h : 26 ≤ k ∧ k ≤ 38) : 35 ≤ sg k ∧ sg k < 302 ∧ sg k ≠ 44 := sg_rng (k - 26).toNat (by omega)
set_option maxRecDepth 8000 in
set_option maxHeartbeats 2000000 in
theorem R_isW {M : zM} {k u v kk : Int} (h : tokS (M 42 0 17) (M 42 0 18) k u) (hk : 0 ≤ kk ∧ kk < 25) (hv : v = rk kk) : f_X11_isWord v M = some (if k = kk then 1 else 0, M) := by
  have hr := rk_le hk
  unfold f_X11_isWord
  rw [zw_id (z := v) (by omega) (by omega)]
  rcases h with ⟨h1, h2⟩ | ⟨h1, h2, h3, -⟩ | ⟨h1, h2, h3⟩ | ⟨h1, h2, h3⟩ | ⟨h1, h2⟩
  · rw [h2, if_pos (by decide), if_neg (by omega)]
  · rw [h2, if_pos (by decide), if_neg (by omega)]
  · have hr2 := rk_le h1
    rw [h2, if_neg (nn_ (by decide)), h3, zw_id (z := rk k) (by omega) (by omega), hv]
    by_cases e : k = kk
    · rw [if_neg (nn_ (by rw [e])), if_pos e]
    · rw [if_pos (fun z => e ((rk_iff h1 hk).mp z)), if_neg e]
  · rw [h2, if_pos (by decide), if_neg (by omega)]
  · rcases h2 with h2 | ⟨h2, -⟩
    · rw [h2, if_pos (by decide), if_neg (by omega)]
    · rw [h2, if_pos (by decide), if_neg (by omega)]
set_option maxRecDepth 8000 in
set_option maxHeartbeats 2000000 in
theorem R_isS {M : zM} {k u v kk : Int} (h : tokS (M 42 0 17) (M 42 0 18) k u) (hk : 26 ≤ kk ∧ kk ≤ 38) (hv : v = sg kk) : f_X11_isSign v M = some (if k = kk then 1 else 0, M) := by
  have hr := sg_le hk
  unfold f_X11_isSign
  rw [zw_id (z := v) (by omega) (by omega)]
  rcases h with ⟨h1, h2⟩ | ⟨h1, h2, h3, -⟩ | ⟨h1, h2, h3⟩ | ⟨h1, h2, h3⟩ | ⟨h1, h2⟩
  · rw [h2, if_pos (by decide), if_neg (by omega)]
  · rw [h2, if_pos (by decide), if_neg (by omega)]
  · rw [h2, if_pos (by decide), if_neg (by omega)]
  · have hr2 := sg_le h1
    rw [h2, if_neg (nn_ (by decide)), h3, zw_id (z := sg k) (by omega) (by omega), hv]
    by_cases e : k = kk
    · rw [if_neg (nn_ (by rw [e])), if_pos e]
    · rw [if_pos (fun z => e ((sg_iff h1 hk).mp z)), if_neg e]
  · rcases h2 with h2 | ⟨h2, h3⟩
    · rw [h2, if_pos (by decide), if_neg (by omega)]
    · rw [h2, if_neg (nn_ (by decide)), h3, if_pos (by rw [zw_id (z := 44) (by omega) (by omega)]; omega), if_neg (by omega)]
set_option maxRecDepth 8000 in
set_option maxHeartbeats 2000000 in
/-- a TOKEN that is a sign, and is none -/
theorem tokS.sort3 {s t k u : Int} (h : tokS s t k u) (hs : s = 3) : (26 ≤ k ∧ k ≤ 38 ∧ t = sg k) ∨ (k = 39 ∧ t = 44) := by
  rcases h with ⟨h1, h2⟩ | ⟨h1, h2, h3, -⟩ | ⟨h1, h2, h3⟩ | ⟨h1, h2, h3⟩ | ⟨h1, h2⟩
  · omega
  · omega
  · omega
  · exact Or.inl ⟨h1.1, h1.2, h3⟩
  · rcases h2 with h2 | ⟨h2, h3⟩
    · omega
    · exact Or.inr ⟨h1, h3⟩
set_option maxRecDepth 8000 in
set_option maxHeartbeats 2000000 in
theorem tokS.sort_le {s t k u : Int} (h : tokS s t k u) : 0 ≤ s ∧ s ≤ 4 := by
  rcases h with ⟨h1, h2⟩ | ⟨h1, h2, h3, -⟩ | ⟨h1, h2, h3⟩ | ⟨h1, h2, h3⟩ | ⟨h1, h2 | ⟨h2, -⟩⟩ <;> omega
set_option maxRecDepth 8000 in
set_option maxHeartbeats 2000000 in
theorem tokS.is3 {s t k u : Int} (h : tokS s t k u) (hk : 26 ≤ k ∧ k ≤ 38) : s = 3 ∧ t = sg k := by
  rcases h with ⟨h1, h2⟩ | ⟨h1, h2, h3, -⟩ | ⟨h1, h2, h3⟩ | ⟨h1, h2, h3⟩ | ⟨h1, h2⟩
  · omega
  · omega
  · omega
  · exact ⟨h2, h3⟩
  · omega
set_option maxRecDepth 8000 in
set_option maxHeartbeats 2000000 in
theorem tokS.is1 {s t k u : Int} (h : tokS s t k u) (hk : 0 ≤ k ∧ k < 25) : s = 1 ∧ t = rk k := by
  rcases h with ⟨h1, h2⟩ | ⟨h1, h2, h3, -⟩ | ⟨h1, h2, h3⟩ | ⟨h1, h2, h3⟩ | ⟨h1, h2⟩
  · omega
  · omega
  · exact ⟨h2, h3⟩
  · omega
  · omega
set_option maxRecDepth 8000 in
set_option maxHeartbeats 2000000 in
theorem tokS.is2 {s t k u : Int} (h : tokS s t k u) (hk : k = 25) : s = 2 ∧ (0 ≤ t ∧ t ≤ 1000000) ∧ ((u ≤ 9999 ∧ t = u) ∨ (u = 10000 ∧ 9999 < t)) := by
  rcases h with ⟨h1, h2⟩ | ⟨h1, h2, h3, h4⟩ | ⟨h1, h2, h3⟩ | ⟨h1, h2, h3⟩ | ⟨h1, h2⟩
  · omega
  · exact ⟨h2, h3, h4⟩
  · omega
  · omega
  · omega
set_option maxRecDepth 8000 in
set_option maxHeartbeats 2000000 in
theorem tokS.not2 {s t k u : Int} (h : tokS s t k u) (hk : k ≠ 25) : s ≠ 2 := by
  rcases h with ⟨h1, h2⟩ | ⟨h1, h2, h3, -⟩ | ⟨h1, h2, h3⟩ | ⟨h1, h2, h3⟩ | ⟨h1, h2 | ⟨h2, -⟩⟩ <;> omega
