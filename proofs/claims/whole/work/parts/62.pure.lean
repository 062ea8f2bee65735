/-! COMES BACK, as the reference has it; a DAY on both sides -/
set_option maxRecDepth 8000 in
set_option maxHeartbeats 300000 in
theorem nn_ {p : Prop} (h : p) : ¬ ¬ p := fun z => z h
set_option maxRecDepth 8000 in
set_option maxHeartbeats 300000 in
/-- a loop that counts from c on -/
theorem zT_cnt {E : Type} {body : Int × zM → Option ((Int × zM) ⊕ E)} (c : Nat) (P : Nat → zM → Prop) (n : Nat) {Q : E → Prop} (step : ∀ i N, i < n → P i N → zT (body (((c + i : Nat) : Int), N)) (fun r => (∃ N', r = .inl (((c + i : Nat) : Int) + 1, N') ∧ P (i + 1) N') ∨ ∃ e, r = .inr e ∧ Q e)) (last : ∀ N, P n N → zT (body (((c + n : Nat) : Int), N)) (fun r => ∃ e, r = .inr e ∧ Q e)) {m : Nat} (hm : n < m) {N0 : zM} (h0 : P 0 N0) : zT (zlp body m ((c : Int), N0)) Q := by
  refine zT_for (fun i s => s.1 = ((c + i : Nat) : Int) ∧ P i s.2) n ?_ hm ⟨rfl, h0⟩
  rintro i ⟨x, N⟩ hi ⟨h1, h2⟩
  dsimp only at h1 h2
  subst h1
  by_cases hin : i = n
  · subst hin
    exact zT_mono (last N h2) (fun r hr => Or.inr hr)
  · refine zT_mono (step i N (by omega) h2) (fun r hr => ?_)
    rcases hr with ⟨N', h3, h4⟩ | h3
    · exact Or.inl ⟨_, h3, by omega, by simp only; omega, h4⟩
    · exact Or.inr h3
set_option maxRecDepth 8000 in
set_option maxHeartbeats 300000 in
theorem zT_cnt0 {E : Type} {body : Int × zM → Option ((Int × zM) ⊕ E)} (P : Nat → zM → Prop) (n : Nat) {Q : E → Prop} (step : ∀ (i : Nat) N, i < n → P i N → zT (body ((i : Int), N)) (fun r => (∃ N', r = .inl ((i : Int) + 1, N') ∧ P (i + 1) N') ∨ ∃ e, r = .inr e ∧ Q e)) (last : ∀ N, P n N → zT (body ((n : Int), N)) (fun r => ∃ e, r = .inr e ∧ Q e)) {m : Nat} (hm : n < m) {N0 : zM} (h0 : P 0 N0) : zT (zlp body m (0, N0)) Q := by
  refine zT_cnt 0 P n (fun i N hi hP => ?_) (fun N hP => ?_) hm h0
  · rw [Nat.zero_add]; exact step i N hi hP
  · rw [Nat.zero_add]; exact last N hP
set_option maxRecDepth 8000 in
set_option maxHeartbeats 300000 in
theorem R_push {M : zM} {w : Nat → Int} {t : Nat} {to : Int} (hW : M 68 0 = w) (ht : t < 8) (h40 : 0 ≤ w 40 ∧ w 40 < 30) : ∃ M', f_X11_writes_j51 t to M = some M' ∧ M' 68 0 = sPush w t to ∧ ∀ k i, k ≠ 68 → M' k i = M k i := by
  obtain ⟨n, hn⟩ := Int.eq_ofNat_of_zero_le h40.1
  have e1 : zix (41 + 4 * (n : Int)) = 41 + 4 * n := zix_id (by omega) (by omega)
  have e2 : zix (41 + 4 * (n : Int) + 1) = 42 + 4 * n := zix_id (by omega) (by omega)
  have e3 : zix (41 + 4 * (n : Int) + 2) = 43 + 4 * n := zix_id (by omega) (by omega)
  have e4 : zix (41 + 4 * (n : Int) + 3) = 44 + 4 * n := zix_id (by omega) (by omega)
  unfold f_X11_writes_j51 zlet
  simp (disch := omega) only [if_true, if_false, true_or, or_true, true_and, and_true, not_true_eq_false, not_false_eq_true, hW, hn, zw_id, if_pos, e1, e2, e3, e4, zi6, zput_wup, wup_ne]
  refine ⟨_, rfl, ?_, fun k i hk => by simp (disch := omega) only [if_true, if_false, true_or, or_true, true_and, and_true, not_true_eq_false, not_false_eq_true, zput_rowk]⟩
  unfold sPush
  simp only [zput_wup, hW, hn, Int.toNat_natCast]
set_option maxRecDepth 8000 in
set_option maxHeartbeats 300000 in
theorem R_shift {M : zM} {w : Nat → Int} {v1 v2 : Int} (hW : M 68 0 = w) : zT (zlp (fun s : Int × zM => f_X11_writes_L15 v1 v2 s.1 s.2) zF (41, M)) (fun M' => (∀ q, M' 68 0 q = if 41 ≤ q ∧ q < 157 then w (q + 4) else w q) ∧ ∀ k i, k ≠ 68 → M' k i = M k i) := by
  refine zT_cnt (body := fun s : Int × zM => f_X11_writes_L15 v1 v2 s.1 s.2) 41 (fun i N => (∀ q, N 68 0 q = if 41 ≤ q ∧ q < 41 + i then w (q + 4) else w q) ∧ ∀ k i, k ≠ 68 → N k i = M k i) 116 ?_ ?_ (by unfold zF; omega) ⟨fun q => by rw [if_neg (by omega), hW], fun _ _ _ => rfl⟩
  · rintro i N hi ⟨h1, h2⟩
    dsimp only
    unfold f_X11_writes_L15
    have e1 : zix ((41 + i : Nat) : Int) = 41 + i := zix_id (by omega) (by omega)
    have e2 : zix (((41 + i : Nat) : Int) + 4) = 41 + i + 4 := zix_id (by omega) (by omega)
    simp (disch := omega) only [if_true, if_false, true_or, or_true, true_and, and_true, not_true_eq_false, not_false_eq_true, zw_id, if_neg, if_pos, e1, e2, zlt_]
    refine zT_some (Or.inl ⟨_, rfl, fun q => ?_, fun k i hk => by rw [zput_rowk (by omega)]; exact h2 k i hk⟩)
    by_cases hq : q = 41 + i
    · subst hq
      rw [zput_eq, h1, if_neg (by omega), if_pos (by omega)]
    · rw [zput_j hq, h1 q]
      by_cases hq2 : 41 ≤ q ∧ q < 41 + i
      · rw [if_pos hq2, if_pos (by omega)]
      · rw [if_neg hq2, if_neg (by omega)]
  · rintro N ⟨h1, h2⟩
    dsimp only
    unfold f_X11_writes_L15
    rw [zw_id (by omega) (by omega), if_pos (by omega)]
    exact zT_some ⟨N, rfl, fun q => h1 q, h2⟩
set_option maxRecDepth 8000 in
set_option maxHeartbeats 300000 in
theorem R_writes_1 {M : zM} {w : Nat → Int} {t : Nat} {to : Int} (hW : M 68 0 = w) (ht : t < 8) (h : w 40 = 30) : ∃ M', f_X11_writes t to M = some M' ∧ M' 68 0 = sPush (sShift w) t to ∧ ∀ k i, k ≠ 68 → M' k i = M k i := by
  have h4 : M 68 0 40 = 30 := by rw [hW, h]
  obtain ⟨N, e1, e2, e3⟩ := R_shift (v1 := (t : Int)) (v2 := to) hW
  have hs : zput N 68 0 40 29 68 0 = sShift w := by
    rw [zput_wup]
    unfold sShift
    congr 1
    funext q
    exact e2 q
  obtain ⟨M', f1, f2, f3⟩ := R_push (t := t) (to := to) hs ht (by rw [sShift_40]; omega)
  refine ⟨M', ?_, f2, fun k i hk => by rw [f3 k i hk, zput_rowk (by omega), e3 k i hk]⟩
  unfold f_X11_writes
  have hc : ¬ ¬ zw (M 68 0 40) = 30 := by rw [h4, zw_id (by omega) (by omega)]; exact fun z => z rfl
  rw [if_neg hc]
  generalize hz : zlp (fun s : Int × zM => f_X11_writes_L15 (t : Int) to s.1 s.2) zF (41, M) = z at e1 ⊢
  rw [e1]
  simp only [zbs, zlt_]
  exact f1
set_option maxRecDepth 8000 in
set_option maxHeartbeats 300000 in
theorem R_writes_2 {M : zM} {w : Nat → Int} {t : Nat} {to : Int} (hW : M 68 0 = w) (ht : t < 8) (h40 : 0 ≤ w 40 ∧ w 40 ≤ 30) (h : ¬ w 40 = 30) : ∃ M', f_X11_writes t to M = some M' ∧ M' 68 0 = sPush w t to ∧ ∀ k i, k ≠ 68 → M' k i = M k i := by
  have h4 : M 68 0 40 = w 40 := by rw [hW]
  unfold f_X11_writes
  have hc : ¬ zw (M 68 0 40) = 30 := by rw [h4, zw_id (by omega) (by omega)]; exact h
  rw [if_pos hc]
  exact R_push hW ht (by omega)
set_option maxRecDepth 8000 in
set_option maxHeartbeats 300000 in
theorem R_writes {M : zM} {w : Nat → Int} {t : Nat} {to : Int} (hW : M 68 0 = w) (ht : t < 8) (h40 : 0 ≤ w 40 ∧ w 40 ≤ 30) : ∃ M', f_X11_writes t to M = some M' ∧ M' 68 0 = sWrite w t to ∧ ∀ k i, k ≠ 68 → M' k i = M k i := by
  unfold sWrite
  by_cases h : w 40 = 30
  · rw [if_pos h]
    exact R_writes_1 hW ht h
  · rw [if_neg h]
    exact R_writes_2 hW ht h40 h
/-- cells that the reference's doings may change -/
def frR (M M' : zM) : Prop := ∀ k i, k ≠ 66 → k ≠ 67 → k ≠ 68 → M' k i = M k i
set_option maxRecDepth 8000 in
set_option maxHeartbeats 300000 in
theorem frR.rfl_ {M : zM} : frR M M := fun _ _ _ _ _ => rfl
set_option maxRecDepth 8000 in
set_option maxHeartbeats 300000 in
theorem frR.trans {M M' M2 : zM} (h : frR M M') (h2 : frR M' M2) : frR M M2 := fun k i a b c => by rw [h2 k i a b c, h k i a b c]
set_option maxRecDepth 8000 in
set_option maxHeartbeats 300000 in
theorem frR.of {M M' : zM} (h : ∀ k i, k ≠ 66 → k ≠ 67 → M' k i = M k i) : frR M M' := fun k i a b _ => h k i a b
set_option maxRecDepth 8000 in
set_option maxHeartbeats 300000 in
theorem frR.of68 {M M' : zM} (h : ∀ k i, k ≠ 68 → M' k i = M k i) : frR M M' := fun k i _ _ c => h k i c
set_option maxRecDepth 8000 in
set_option maxHeartbeats 300000 in
theorem frR.put {j : Nat} {M : zM} {v : Int} : frR M (zput M 68 0 j v) := fun k i _ _ c => zput_rowk (by omega)
set_option maxRecDepth 8000 in
set_option maxHeartbeats 300000 in
theorem frR.txt {M M' : zM} {n : Int} {T : Nat → Nat → Option zLw} (h : frR M M') (hT : textsOK M n T) : textsOK M' n T := hT.frame (fun k i hk => h k i (by unfold txK at hk; omega) (by unfold txK at hk; omega) (by unfold txK at hk; omega))
set_option maxRecDepth 8000 in
set_option maxHeartbeats 300000 in
theorem R_comesBack {M : zM} {t : Nat} {T : Nat → Nat → Option zLw} {A w : Nat → Int} (hM : M 43 0 = A) (hW : M 68 0 = w) (hA : headOK A) (hw : rowOK A w) (hT : textsOK M (A 3) T) (ht : (t : Int) < A 1) (hk : w (14 + t) = -1) : ∃ M', f_X11_comesBack t M = some (sLaw T A w t 2 0, M') ∧ M' 68 0 = sBack T A w t ∧ frR M M' := by
  have h0 := hA.thg
  have h1 := hA.own
  have hbk := hw.book
  have hto := sTo_le (T := T) (pe := 0) hA hw ht hk
  obtain ⟨M1, e1, e2⟩ := R_to hM hW hA hw hT ht hk
  have hM1 : M1 43 0 = A := by rw [e2 43 0 (by omega) (by omega)]; exact hM
  have hW1 : M1 68 0 = w := by rw [e2 68 0 (by omega) (by omega)]; exact hW
  obtain ⟨M2, e3, e4⟩ := R_brings hM1 hW1 hA hw ((frR.of e2).txt hT) ht hk
  have hW2 : M2 68 0 = w := by rw [e4 68 0 (by omega) (by omega)]; exact hW1
  have hb := sLaw3_le (T := T) (pe := w (sLaw T A w t 2 0).toNat) hw ht
  unfold sBack
  generalize hbr : sLaw T A w t 3 (w (sLaw T A w t 2 0).toNat) = br at hb e3
  generalize hto_ : sLaw T A w t 2 0 = to at hto e1 e3 hbr
  obtain ⟨o, rfl⟩ := Int.eq_ofNat_of_zero_le hto.1
  have hpo := hw.pence o (by omega)
  rw [Int.toNat_natCast]
  unfold f_X11_comesBack zlet
  rw [e1]
  simp only [zbs]
  rw [e3]
  simp (disch := omega) only [if_true, if_false, true_or, or_true, true_and, and_true, not_true_eq_false, not_false_eq_true, zbs, zw_id, if_pos, zi0, hW2]
  rw [R_held (by omega) (by omega) (by omega) (by omega)]
  simp (disch := omega) only [if_true, if_false, true_or, or_true, true_and, and_true, not_true_eq_false, not_false_eq_true, zbs]
  have hW3 : zput M2 68 0 o (clp (w o + br) (-1000000) 1000000) 68 0 = wup w o (clp (w o + br) (-1000000) 1000000) := by rw [zput_wup, hW2]
  obtain ⟨M5, e5, e6, e7⟩ := R_writes (t := t) (to := (o : Int)) hW3 (by omega) (by rw [wup_ne (by omega)]; exact hbk)
  rw [e5]
  simp (disch := omega) only [if_true, if_false, true_or, or_true, true_and, and_true, not_true_eq_false, not_false_eq_true, zbs, zw_id, if_pos, zi14, zi22, zi30]
  refine ⟨_, rfl, ?_, (frR.of e2).trans ((frR.of e4).trans (frR.put.trans ((frR.of68 e7).trans (frR.put.trans (frR.put.trans frR.put)))))⟩
  simp only [zput_wup, e6]
