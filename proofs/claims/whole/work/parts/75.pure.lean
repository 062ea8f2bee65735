/-! calls: rule, fault, feed, end, about, bargain -/
set_option maxRecDepth 8000 in
set_option maxHeartbeats 2000000 in
theorem zlp_congr {S E : Type} {b1 b2 : S → Option (S ⊕ E)} (P : S → Prop) (h : ∀ s, P s → b1 s = b2 s) (h2 : ∀ s s', P s → b2 s = some (.inl s') → P s') : ∀ (n : Nat) (s : S), P s → zlp b1 n s = zlp b2 n s := by
  intro n
  induction n with
  | zero => intro s _; rfl
  | succ n ih =>
    intro s hs
    unfold zlp
    rw [h s hs]
    cases hb : b2 s with
    | none => rfl
    | some r =>
      cases r with
      | inl s' => exact ih s' (h2 s s' hs hb)
      | inr e => rfl
set_option maxRecDepth 8000 in
set_option maxHeartbeats 2000000 in
theorem allFit_step {M : zM} {A : Nat → Int} {d b : Int} (hM : M 43 0 = A) (hA : headOK A) (tl : toldR M 0 A) (i : Nat) (hi : i ≤ 9) : f_X9_allFit_L2 0 d b i M = f_X11_isRule_L2 d b i M ∧ (A 8 ≤ i → f_X11_isRule_L2 d b i M = some (.inr (.inr ()))) ∧ ((i : Int) < A 8 → f_X11_isRule_L2 d b i M = some (.inl ((i : Int) + 1)) ∨ f_X11_isRule_L2 d b i M = some (.inr (.inl (0, M)))) := by
  have h8 := hA.sen
  have e8 : M 43 0 8 = A 8 := by rw [hM]
  unfold f_X9_allFit_L2 f_X11_isRule_L2
  rw [tl.seen, e8, zw_id (z := A 8) (by omega) (by omega), zw_nat (by omega)]
  by_cases hc : A 8 ≤ i
  · rw [if_pos hc, if_pos hc]
    exact ⟨rfl, fun _ => rfl, fun h => by omega⟩
  · obtain ⟨s1, s2, s3⟩ := hA.saw i (by omega)
    have t1 := tl.seenDear i (by omega)
    have t2 := tl.seenBulk i (by omega)
    have t3 := tl.seenHappy i (by omega)
    have e1 : zix (57 + 3 * (i : Int)) = 57 + 3 * i := zix_id (by omega) (by omega)
    have e2 : zix (57 + 3 * (i : Int) + 1) = 58 + 3 * i := zix_id (by omega) (by omega)
    have e3 : zix (57 + 3 * (i : Int) + 2) = 59 + 3 * i := zix_id (by omega) (by omega)
    have m1 : M 43 0 (57 + 3 * i) = A (57 + 3 * i) := by rw [hM]
    have m2 : M 43 0 (58 + 3 * i) = A (58 + 3 * i) := by rw [hM]
    have m3 : M 43 0 (59 + 3 * i) = A (59 + 3 * i) := by rw [hM]
    rw [if_neg hc, if_neg hc]
    unfold f_X9_allFit_j34 f_X9_allFit_j35 f_X11_isRule_j49 f_X11_isRule_j50 f_X11_isRule_j68
    rw [zix_nat (by omega), t1, t2, t3, e1, e2, e3, m1, m2, m3]
    have hx : A (59 + 3 * i) % 2 = A (59 + 3 * i) := by omega
    simp (disch := omega) only [if_true, if_false, true_or, or_true, true_and, and_true, not_true_eq_false, not_false_eq_true, zw_id, if_pos, hx]
    refine ⟨?_, fun h => by omega, fun _ => ?_⟩
    · rcases s3 with h | h
      · rw [h]; (repeat' split) <;> first | rfl | omega
      · rw [h]; (repeat' split) <;> first | rfl | omega
    · (repeat' split) <;> first | exact Or.inl rfl | exact Or.inr rfl
set_option maxRecDepth 8000 in
set_option maxHeartbeats 2000000 in
theorem allFit_eq {M : zM} {A : Nat → Int} {d b : Int} (hM : M 43 0 = A) (hA : headOK A) (tl : toldR M 0 A) : f_X9_allFit 0 d b M = f_X11_isRule d b M ∧ ∃ r, f_X11_isRule d b M = some (r, M) := by
  have h8 := hA.sen
  constructor
  · unfold f_X9_allFit f_X11_isRule
    rw [zlp_congr (b1 := fun s : Int => f_X9_allFit_L2 0 d b s M) (b2 := fun s : Int => f_X11_isRule_L2 d b s M) (fun s => ∃ i : Nat, s = i ∧ i ≤ 9) ?_ ?_ zF 0 ⟨0, rfl, by omega⟩]
    · rintro s ⟨i, rfl, hi⟩
      exact (allFit_step hM hA tl i hi).1
    · rintro s s' ⟨i, rfl, hi⟩ hs
      obtain ⟨-, g2, g3⟩ := allFit_step (d := d) (b := b) hM hA tl i hi
      by_cases hc : A 8 ≤ i
      · rw [g2 hc] at hs; cases hs
      · rcases g3 (by omega) with h | h
        · rw [h] at hs; cases hs; exact ⟨i + 1, by omega, by omega⟩
        · rw [h] at hs; cases hs
  · obtain ⟨n, hn⟩ := Int.eq_ofNat_of_zero_le h8.1
    have key := zT_for (body := fun s : Int => f_X11_isRule_L2 d b s M) (fun i s => s = (i : Int)) n (Q := fun e => e = .inr () ∨ e = .inl (0, M)) ?_ (m := zF) (by unfold zF; omega) (s := 0) rfl
    · obtain ⟨e, k1, k2⟩ := key
      unfold f_X11_isRule
      rw [k1]
      rcases k2 with rfl | rfl
      · exact ⟨1, rfl⟩
      · exact ⟨0, rfl⟩
    · rintro i s hi rfl
      obtain ⟨-, g2, g3⟩ := allFit_step (d := d) (b := b) hM hA tl i (by omega)
      by_cases hc : A 8 ≤ i
      · rw [g2 hc]
        exact zT_some (Or.inr ⟨_, rfl, Or.inl rfl⟩)
      · rcases g3 (by omega) with h | h
        · rw [h]; exact zT_some (Or.inl ⟨_, rfl, by omega, by omega⟩)
        · rw [h]; exact zT_some (Or.inr ⟨_, rfl, Or.inr rfl⟩)
set_option maxRecDepth 8000 in
set_option maxHeartbeats 2000000 in
theorem rule_inner {M : zM} {A : Nat → Int} {d : Int} (hM : M 43 0 = A) (hA : headOK A) (tl : toldR M 0 A) : zlp (fun s : Int × zM => f_X10_rule_L10 d s.1 s.2) zF (1, M) = zlp (fun s : Int × zM => f_X11_rule_L10 d s.1 s.2) zF (1, M) ∧ zT (zlp (fun s : Int × zM => f_X11_rule_L10 d s.1 s.2) zF (1, M)) (fun e => e = .inr M ∨ ∃ r, e = .inl (r, M)) := by
  constructor
  · refine zlp_congr (b1 := fun s : Int × zM => f_X10_rule_L10 d s.1 s.2) (b2 := fun s : Int × zM => f_X11_rule_L10 d s.1 s.2) (fun s => (1 ≤ s.1 ∧ s.1 ≤ 11) ∧ s.2 = M) ?_ ?_ zF _ ⟨by omega, rfl⟩
    · rintro ⟨b, N⟩ ⟨hb, rfl⟩
      dsimp only
      unfold f_X10_rule_L10 f_X11_rule_L10
      rw [(allFit_eq hM hA tl).1, zw_id (z := b) (by omega) (by omega)]
      by_cases h : 10 < b
      · rw [if_pos h, if_pos (by omega)]
      · rw [if_neg h, if_neg (by omega)]
    · rintro ⟨b, N⟩ ⟨b', N'⟩ ⟨hb, rfl⟩ hs
      dsimp only at hb hs ⊢
      obtain ⟨r, hr⟩ := (allFit_eq (d := d) (b := b) hM hA tl).2
      unfold f_X11_rule_L10 at hs
      rw [zw_id (z := b) (by omega) (by omega), hr] at hs
      simp only [zbs] at hs
      by_cases h : 11 ≤ b
      · rw [if_pos h] at hs; cases hs
      · rw [if_neg h] at hs
        by_cases h0 : zw r = 0
        · rw [if_pos h0] at hs; cases hs; exact ⟨by omega, rfl⟩
        · rw [if_neg h0] at hs; cases hs
  · refine zT_cnt (body := fun s : Int × zM => f_X11_rule_L10 d s.1 s.2) 1 (fun i N => N = M) 10 ?_ ?_ (by unfold zF; omega) rfl
    · rintro i N hi rfl
      dsimp only
      obtain ⟨r, hr⟩ := (allFit_eq (d := d) (b := ((1 + i : Nat) : Int)) hM hA tl).2
      unfold f_X11_rule_L10
      rw [zw_id (by omega) (by omega), if_neg (by omega), hr]
      simp only [zbs]
      by_cases h0 : zw r = 0
      · rw [if_pos h0]; exact zT_some (Or.inl ⟨_, rfl, rfl⟩)
      · rw [if_neg h0]; exact zT_some (Or.inr ⟨_, rfl, Or.inr ⟨_, rfl⟩⟩)
    · rintro N rfl
      dsimp only
      unfold f_X11_rule_L10
      rw [zw_id (by omega) (by omega), if_pos (by omega)]
      exact zT_some ⟨_, rfl, Or.inl rfl⟩
set_option maxRecDepth 8000 in
set_option maxHeartbeats 2000000 in
theorem call_rule {M : zM} (h : zI M) : zCall (f_X10_rule M) (fun N => f_X11_rule N) := by
  have hz := h
  obtain ⟨T, hI⟩ := h
  have hA := hI.w0.head
  have tl := hI.w0.tld
  have e : f_X10_rule M = f_X11_rule M := by
    unfold f_X10_rule f_X11_rule
    rw [zlp_congr (b1 := fun s : Int × zM => f_X10_rule_L2 s.1 s.2) (b2 := fun s : Int × zM => f_X11_rule_L2 s.1 s.2) (fun s => (0 ≤ s.1 ∧ s.1 ≤ 101) ∧ s.2 = M) ?_ ?_ zF _ ⟨by omega, rfl⟩]
    · rintro ⟨d, N⟩ ⟨hd, rfl⟩
      dsimp only
      unfold f_X10_rule_L2 f_X11_rule_L2
      rw [(rule_inner rfl hA tl).1, zw_id (z := d) (by omega) (by omega)]
      by_cases h : 100 < d
      · rw [if_pos h, if_pos (by omega)]
      · rw [if_neg h, if_neg (by omega)]
    · rintro ⟨d, N⟩ ⟨d', N'⟩ ⟨hd, rfl⟩ hs
      dsimp only at hd hs ⊢
      obtain ⟨e, k1, k2⟩ := (rule_inner (d := d) rfl hA tl).2
      unfold f_X11_rule_L2 at hs
      rw [zw_id (z := d) (by omega) (by omega), k1] at hs
      simp only [zbs] at hs
      by_cases h : 101 ≤ d
      · rw [if_pos h] at hs; cases hs
      · rw [if_neg h] at hs
        rcases k2 with rfl | ⟨r, rfl⟩
        · cases hs; exact ⟨by omega, rfl⟩
        · cases hs
  have ex : ∃ r, f_X11_rule M = some (r, M) := by
    have key := zT_cnt0 (body := fun s : Int × zM => f_X11_rule_L2 s.1 s.2) (fun i N => N = M) 101 (Q := fun e => e = .inr M ∨ ∃ r, e = .inl (r, M)) ?_ ?_ (m := zF) (by unfold zF; omega) (N0 := M) rfl
    · obtain ⟨e, k1, k2⟩ := key
      unfold f_X11_rule
      rw [k1]
      rcases k2 with rfl | ⟨r, rfl⟩
      · exact ⟨_, rfl⟩
      · exact ⟨_, rfl⟩
    · rintro i N hi rfl
      dsimp only
      obtain ⟨e, k1, k2⟩ := (rule_inner (d := (i : Int)) rfl hA tl).2
      unfold f_X11_rule_L2
      rw [zw_id (by omega) (by omega), if_neg (by omega), k1]
      rcases k2 with rfl | ⟨r, rfl⟩
      · exact zT_some (Or.inl ⟨_, rfl, rfl⟩)
      · exact zT_some (Or.inr ⟨_, rfl, Or.inr ⟨_, rfl⟩⟩)
    · rintro N rfl
      dsimp only
      unfold f_X11_rule_L2
      rw [zw_id (by omega) (by omega), if_pos (by omega)]
      exact zT_some ⟨_, rfl, Or.inl rfl⟩
  obtain ⟨r, hr⟩ := ex
  exact zCall.same hz (e.trans hr) hr
set_option maxRecDepth 8000 in
set_option maxHeartbeats 2000000 in
theorem call_fault {M : zM} {v : Int} (h : zI M) (hv : -2147483648 ≤ v ∧ v ≤ 2147483647) : zCall (f_X10_fault v M) (fun N => f_X11_fault v N) := by
  have hz := h
  obtain ⟨T, hI⟩ := h
  rcases hI.flt with ⟨a1, a2, a3⟩ | ⟨a1, a2, a3⟩
  · refine zCall.same hz (v := -1) ?_ ?_
    · unfold f_X10_fault
      rw [a1, if_neg (nn_ (show zw (0 % 2) = 0 from zw_0))]
    · unfold f_X11_fault
      rw [a2, a3]
      (repeat' split) <;> rfl
  · refine zCall.same hz (v := if v = 0 then M 42 0 4 else if v = 1 then M 42 0 5 else -1) ?_ ?_
    · unfold f_X10_fault
      rw [a1, a2, a3, if_pos (show ¬ zw (1 % 2) = 0 by rw [show (1 : Int) % 2 = 1 from rfl, zw01.2.1]; omega), zw_id (z := v) (by omega) (by omega)]
      (repeat' split) <;> first | rfl | omega
    · unfold f_X11_fault
      rw [zw_id (z := v) (by omega) (by omega)]
      (repeat' split) <;> first | rfl | omega
set_option maxRecDepth 8000 in
set_option maxHeartbeats 2000000 in
theorem call_about {M : zM} {v : Int} (h : zI M) : zCall (f_X10_about v M) (fun N => f_X11_about v N) := by
  have hz := h
  obtain ⟨T, hI⟩ := h
  obtain ⟨r, h1, h2⟩ := about_ok (v := v) rfl hI.w0 hI.len.1
  exact zCall.same hz h1 h2
set_option maxRecDepth 8000 in
set_option maxHeartbeats 2000000 in
theorem call_bargain {M : zM} {w n d s : Int} (h : zI M) (hw : -2147483648 ≤ w ∧ w ≤ 2147483647) (hn : -2147483648 ≤ n ∧ n ≤ 2147483647) (hd : -2147483648 ≤ d ∧ d ≤ 2147483647) : zCall (f_X10_bargain w n d s M) (fun N => f_X11_bargain w n d s N) := by
  obtain ⟨r, h1, h2⟩ := bargain_ok (M := M) (s := s) hw hn hd
  exact zCall.same h h1 h2
set_option maxRecDepth 8000 in
set_option maxHeartbeats 2000000 in
/-- the tape changes alone -/
theorem holdsI.taped {M M1 M2 : zM} {T : Nat → Nat → Option zLw} (h : holdsI M T) (f1 : ∀ k i, ¬ (k = 35 ∨ k = 36 ∨ k = 45) → ¬ (k = 42 ∧ i = 0) → M2 k i = M k i) (fm : ∀ s, s ≠ 3 → M2 42 0 s = M 42 0 s) (len : M2 35 0 1 = M2 42 0 3 ∧ 0 ≤ M2 42 0 3 ∧ M2 42 0 3 ≤ 300) (tp : ∀ i : Nat, (i : Int) < M2 42 0 3 → byteR (M2 36 0 i) (M2 45 0 i)) : holdsI M2 T := by
  have f43 := f1 43 0 (by omega) (by omega)
  have f44 := f1 44 0 (by omega) (by omega)
  refine ⟨?_, ?_, ?_, ?_, len, tp, ?_⟩
  · rw [f43]; exact h.w0.of (fun k i x y z => f1 k i (by omega) (by omega)) (fun q _ => rfl)
  · rw [f44]; exact h.w1.of (fun k i x y z => f1 k i (by omega) (by omega)) (fun q _ => rfl)
  · rw [f43]; exact h.txt.frame (fun k i hk => f1 k i (by unfold txK at hk; omega) (by unfold txK at hk; omega))
  · rw [f43, f44]; exact h.txs
  · rw [f1 37 0 (by omega) (by omega), fm 4 (by omega), fm 5 (by omega)]; exact h.flt
set_option maxRecDepth 8000 in
set_option maxHeartbeats 2000000 in
theorem call_end {M : zM} {v : Int} (h : zI M) (hv : -2147483648 ≤ v ∧ v ≤ 2147483647) : zCall (f_X10_end v M) (fun N => f_X11_end v N) := by
  have hz := h
  obtain ⟨T, hI⟩ := h
  obtain ⟨l1, l2, l3⟩ := hI.len
  by_cases hr : 0 ≤ v ∧ v ≤ M 42 0 3
  · have m42 : zput M 35 0 1 v 42 0 3 = M 42 0 3 := zput_k (by omega)
    refine zCall.mk (M1 := zput M 35 0 1 v) (M2 := zput (zput M 35 0 1 v) 42 0 3 v) (v := v) ?_ ?_ ⟨T, hI.taped (M1 := M) (fun k i a b => by rw [zput_rowk (by omega), zput_rowk (by omega)]) (fun s hs => by rw [zput_j hs, zput_k (by omega)]) ?_ (fun i hi => ?_)⟩
    · unfold f_X10_end
      rw [l1]
      simp (disch := omega) only [if_true, if_false, true_or, or_true, true_and, and_true, not_true_eq_false, not_false_eq_true, zw_id, if_neg, if_pos, zlt_]
    · unfold f_X11_end
      rw [m42, in_yes hr.1 hr.2 hv (by omega) (by omega)]
      simp only [zbs, zlt_]
      rw [if_pos (by rw [zw01.2.1]; omega)]
    · rw [zput_k (by omega), zput_eq, zput_eq]; exact ⟨rfl, by omega, by omega⟩
    · rw [zput_eq] at hi
      simp (disch := omega) only [if_true, if_false, true_or, or_true, true_and, and_true, not_true_eq_false, not_false_eq_true, zput_k]
      exact hI.tape i (by omega)
  · refine zCall.same hz (v := -1) ?_ ?_
    · unfold f_X10_end
      rw [l1]
      by_cases h0 : v < 0
      · simp (disch := omega) only [if_true, if_false, true_or, or_true, true_and, and_true, not_true_eq_false, not_false_eq_true, zw_id, if_pos]
      · simp (disch := omega) only [if_true, if_false, true_or, or_true, true_and, and_true, not_true_eq_false, not_false_eq_true, zw_id, if_neg]
    · unfold f_X11_end
      rw [in_no (by omega) hv (by omega) (by omega)]
      simp only [zbs]
      rw [if_neg (nn_ zw_0)]
