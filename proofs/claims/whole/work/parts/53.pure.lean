/-! in, within; owner; about, bargain -/
theorem in_yes {v lo hi : Int} {M : zM} (h1 : lo ≤ v) (h2 : v ≤ hi) (hv : -2147483648 ≤ v ∧ v ≤ 2147483647) (hl : -2147483648 ≤ lo ∧ lo ≤ 2147483647) (hh : -2147483648 ≤ hi ∧ hi ≤ 2147483647) : f_X11_in v lo hi M = some (1, M) := by
  unfold f_X11_in
  simp (disch := omega) only [if_true, if_false, true_or, or_true, true_and, and_true, not_true_eq_false, not_false_eq_true, zw_id, if_neg]
theorem in_no {v lo hi : Int} {M : zM} (h : v < lo ∨ hi < v) (hv : -2147483648 ≤ v ∧ v ≤ 2147483647) (hl : -2147483648 ≤ lo ∧ lo ≤ 2147483647) (hh : -2147483648 ≤ hi ∧ hi ≤ 2147483647) : f_X11_in v lo hi M = some (0, M) := by
  unfold f_X11_in
  simp (disch := omega) only [if_true, if_false, true_or, or_true, true_and, and_true, not_true_eq_false, not_false_eq_true, zw_id]
  by_cases h1 : v < lo
  · simp (disch := omega) only [if_true, if_false, true_or, or_true, true_and, and_true, not_true_eq_false, not_false_eq_true, if_pos]
  · simp (disch := omega) only [if_true, if_false, true_or, or_true, true_and, and_true, not_true_eq_false, not_false_eq_true, if_pos, if_neg]
theorem zw01 : zw 0 = 0 ∧ zw 1 = 1 ∧ zw (-1) = -1 := by decide
theorem ownerR_yes {M : zM} {a : Nat → Int} {v : Int} (ha : M 43 0 = a) (hO : headOK a) (hv : -2147483648 ≤ v ∧ v ≤ 2147483647) (h : 0 ≤ v ∧ v ≤ 10 ∧ a 0 < 6) : f_X11_owner v M = some (a 0, zput (zput M 43 0 (10 + a 0).toNat v) 43 0 0 (a 0 + 1)) := by
  have h0 := hO.own
  have hz : M 43 0 0 = a 0 := by rw [ha]
  unfold f_X11_owner
  rw [in_yes h.1 h.2.1 hv (by omega) (by omega)]
  simp (disch := omega) only [if_true, if_false, true_or, or_true, true_and, and_true, not_true_eq_false, not_false_eq_true, Option.bind_some, zw_id, hz, if_neg, if_pos, zlet, zix, zput_j]
theorem ownerR_no {M : zM} {a : Nat → Int} {v : Int} (ha : M 43 0 = a) (hO : headOK a) (hv : -2147483648 ≤ v ∧ v ≤ 2147483647) (h : ¬ (0 ≤ v ∧ v ≤ 10 ∧ a 0 < 6)) : f_X11_owner v M = some (-1, M) := by
  have h0 := hO.own
  have hz : M 43 0 0 = a 0 := by rw [ha]
  unfold f_X11_owner
  by_cases hb : 0 ≤ v ∧ v ≤ 10
  · rw [in_yes hb.1 hb.2 hv (by omega) (by omega)]
    simp (disch := omega) only [if_true, if_false, true_or, or_true, true_and, and_true, not_true_eq_false, not_false_eq_true, Option.bind_some, zw_id, hz, if_neg, if_pos, zlet, zix, zput_j]
  · rw [in_no (by omega) hv (by omega) (by omega)]
    simp (disch := omega) only [if_true, if_false, true_or, or_true, true_and, and_true, not_true_eq_false, not_false_eq_true, Option.bind_some, zw_id, if_pos, if_true]
theorem ownerX_yes {M : zM} {a w : Nat → Int} {v : Int} (hO : headOK a) (hc : cityR M 0 a w) (hv : -2147483648 ≤ v ∧ v ≤ 2147483647) (h : 0 ≤ v ∧ v ≤ 10 ∧ a 0 < 6) : f_X10_owner v M = some (a 0, zput (zput (zput M 12 0 (a 0).toNat v) 13 0 (a 0).toNat 0) 11 0 6 (a 0 + 1)) := by
  have h0 := hO.own
  have hz := hc.own
  unfold f_X10_owner
  simp (disch := omega) only [if_true, if_false, true_or, or_true, true_and, and_true, not_true_eq_false, not_false_eq_true, zw_id, hz, if_neg, if_pos, zlet, zix, zput_k, zput_eq, Int.add_sub_cancel]
theorem ownerX_no {M : zM} {a w : Nat → Int} {v : Int} (hO : headOK a) (hc : cityR M 0 a w) (hv : -2147483648 ≤ v ∧ v ≤ 2147483647) (h : ¬ (0 ≤ v ∧ v ≤ 10 ∧ a 0 < 6)) : f_X10_owner v M = some (-1, M) := by
  have h0 := hO.own
  have hz := hc.own
  unfold f_X10_owner
  by_cases h1 : v < 0
  · simp (disch := omega) only [if_true, if_false, true_or, or_true, true_and, and_true, not_true_eq_false, not_false_eq_true, zw_id, if_pos]
  · by_cases h2 : 10 < v
    · simp (disch := omega) only [if_true, if_false, true_or, or_true, true_and, and_true, not_true_eq_false, not_false_eq_true, zw_id, if_pos, if_neg]
    · simp (disch := omega) only [if_true, if_false, true_or, or_true, true_and, and_true, not_true_eq_false, not_false_eq_true, zw_id, hz, if_neg]
theorem wth_yes {v lo hi : Int} {M : zM} (h1 : lo ≤ v) (h2 : v ≤ hi) (hv : -2147483648 ≤ v ∧ v ≤ 2147483647) (hl : -2147483648 ≤ lo ∧ lo ≤ 2147483647) (hh : -2147483648 ≤ hi ∧ hi ≤ 2147483647) : f_X10_within v lo hi M = some (1, M) := by
  unfold f_X10_within
  simp (disch := omega) only [if_true, if_false, true_or, or_true, true_and, and_true, not_true_eq_false, not_false_eq_true, zw_id, if_neg]
theorem wth_no {v lo hi : Int} {M : zM} (h : v < lo ∨ hi < v) (hv : -2147483648 ≤ v ∧ v ≤ 2147483647) (hl : -2147483648 ≤ lo ∧ lo ≤ 2147483647) (hh : -2147483648 ≤ hi ∧ hi ≤ 2147483647) : f_X10_within v lo hi M = some (0, M) := by
  unfold f_X10_within
  simp (disch := omega) only [if_true, if_false, true_or, or_true, true_and, and_true, not_true_eq_false, not_false_eq_true, zw_id]
  by_cases h1 : v < lo
  · simp (disch := omega) only [if_true, if_false, true_or, or_true, true_and, and_true, not_true_eq_false, not_false_eq_true, if_pos]
  · simp (disch := omega) only [if_true, if_false, true_or, or_true, true_and, and_true, not_true_eq_false, not_false_eq_true, if_pos, if_neg]
theorem ite_ans {c : Prop} [Decidable c] {M : zM} {A B : Option (Int × zM)} (h1 : ∃ r, A = some (r, M)) (h2 : ∃ r, B = some (r, M)) : ∃ r, (if c then A else B) = some (r, M) := by
  by_cases h : c
  · rw [if_pos h]; exact h1
  · rw [if_neg h]; exact h2
theorem about_ok {M : zM} {a : Nat → Int} {v : Int} (ha : M 43 0 = a) (W : worldR M 0 a) (ht : M 35 0 1 = M 42 0 3) : ∃ r, f_X10_about v M = some (r, M) ∧ f_X11_about v M = some (r, M) := by
  have e : f_X10_about v M = f_X11_about v M := by
    have h1 : M 11 0 6 = M 43 0 0 := by rw [ha]; exact W.city.own
    have h2 : M 11 0 7 = M 43 0 1 := by rw [ha]; exact W.city.thg
    have h3 : M 11 0 9 = M 43 0 2 := by rw [ha]; exact W.city.room
    have h4 : M 11 0 10 = M 43 0 128 := by rw [ha]; exact W.city.day
    have h5 : M 11 0 11 = M 43 0 129 := by rw [ha]; exact W.city.x
    have h6 : M 11 0 12 = M 43 0 3 := by rw [ha]; exact W.city.txs
    have h7 : M 11 0 13 = M 43 0 4 := by rw [ha]; exact W.city.txt
    have h8 : M 20 0 1 = M 43 0 5 := by rw [ha]; exact W.steps.held
    have h9 : M 23 0 7 = M 43 0 6 := by rw [ha]; exact W.tld.plans
    have h10 : M 23 0 8 = M 43 0 7 := by rw [ha]; exact W.tld.votes
    have h11 : M 23 0 9 = M 43 0 8 := by rw [ha]; exact W.tld.seen
    unfold f_X10_about f_X11_about
    simp only [h1, h2, h3, h4, h5, h6, h7, h8, h9, h10, h11, ht]
  have h : ∃ r, f_X11_about v M = some (r, M) := by
    unfold f_X11_about
    repeat' first | exact ⟨_, rfl⟩ | refine ite_ans ?_ ?_
  obtain ⟨r, h⟩ := h
  exact ⟨r, e.trans h, h⟩
/-- bargain: told from the last offer back -/
def bgS (w d : Int) : Nat → Int → Int × Int → Int × Int
  | 0, _, p => p
  | n + 1, k, (off, tk) => bgS w d n (k - 1) ((if 0 < w - k * d then w - k * d else 0) - off, off)
theorem bgX {w d v4 : Int} (hw : 0 ≤ w ∧ w ≤ 9999) (hd : 0 ≤ d ∧ d ≤ 9999) (M : zM) : ∀ (n : Nat) (m : Nat) (off tk : Int), n ≤ 20 → n < m → zlp (fun s : Int × Int × Int × zM => f_X10_bargain_L45 w d v4 s.1 s.2.1 s.2.2.1 s.2.2.2) m (off, tk, (n : Int) - 1, M) = some ((bgS w d n ((n : Int) - 1) (off, tk)).1, (bgS w d n ((n : Int) - 1) (off, tk)).2, M) := by
  intro n
  induction n with
  | zero =>
    intro m off tk _ hm
    obtain ⟨m, rfl⟩ : ∃ k, m = k + 1 := ⟨m - 1, by omega⟩
    unfold zlp f_X10_bargain_L45
    simp (disch := omega) only [if_true, if_false, true_or, or_true, true_and, and_true, not_true_eq_false, not_false_eq_true, zw_id, if_pos]
    rfl
  | succ n ih =>
    intro m off tk hn hm
    obtain ⟨m, rfl⟩ : ∃ k, m = k + 1 := ⟨m - 1, by omega⟩
    have e1 : ((n + 1 : Nat) : Int) - 1 = (n : Int) := by omega
    have hnd : 0 ≤ (n : Int) * d ∧ (n : Int) * d ≤ 20 * 9999 := ⟨Int.mul_nonneg (by omega) hd.1, Int.mul_le_mul (by omega) hd.2 hd.1 (by omega)⟩
    rw [e1]
    unfold zlp f_X10_bargain_L45
    simp (disch := omega) only [if_true, if_false, true_or, or_true, true_and, and_true, not_true_eq_false, not_false_eq_true, zw_id, if_neg]
    have := ih m ((if 0 < w - (n : Int) * d then w - (n : Int) * d else 0) - off) off (by omega) (by omega)
    rw [show (n : Int) + -1 = (n : Int) - 1 by omega]
    exact this
theorem bgR {w d v4 : Int} (hw : 0 ≤ w ∧ w ≤ 9999) (hd : 0 ≤ d ∧ d ≤ 9999) (M : zM) : ∀ (n : Nat) (m : Nat) (off tk : Int), n ≤ 20 → n < m → zlp (fun s : Int × Int × Int => f_X11_bargain_L45 w d v4 s.1 s.2.1 s.2.2 M) m (off, tk, (n : Int) - 1) = some ((bgS w d n ((n : Int) - 1) (off, tk)).1, (bgS w d n ((n : Int) - 1) (off, tk)).2) := by
  intro n
  induction n with
  | zero =>
    intro m off tk _ hm
    obtain ⟨m, rfl⟩ : ∃ k, m = k + 1 := ⟨m - 1, by omega⟩
    unfold zlp f_X11_bargain_L45
    simp (disch := omega) only [if_true, if_false, true_or, or_true, true_and, and_true, not_true_eq_false, not_false_eq_true, zw_id, if_pos]
    rfl
  | succ n ih =>
    intro m off tk hn hm
    obtain ⟨m, rfl⟩ : ∃ k, m = k + 1 := ⟨m - 1, by omega⟩
    have e1 : ((n + 1 : Nat) : Int) - 1 = (n : Int) := by omega
    have hnd : 0 ≤ (n : Int) * d ∧ (n : Int) * d ≤ 20 * 9999 := ⟨Int.mul_nonneg (by omega) hd.1, Int.mul_le_mul (by omega) hd.2 hd.1 (by omega)⟩
    rw [e1]
    unfold zlp f_X11_bargain_L45
    simp (disch := omega) only [if_true, if_false, true_or, or_true, true_and, and_true, not_true_eq_false, not_false_eq_true, zw_id, if_neg]
    have := ih m ((if 0 < w - (n : Int) * d then w - (n : Int) * d else 0) - off) off (by omega) (by omega)
    by_cases hc : 0 ≤ w - (n : Int) * d
    · rw [if_pos hc]
      unfold f_X11_bargain_j69
      have e2 : (if 0 < w - (n : Int) * d then w - (n : Int) * d else 0) = w - (n : Int) * d := by
        by_cases h0 : 0 < w - (n : Int) * d
        · rw [if_pos h0]
        · rw [if_neg h0]; omega
      rw [e2] at this
      first
        | exact this
        | (rw [show (n : Int) + -1 = (n : Int) - 1 by omega]; show _ = _; unfold bgS; rw [e2]; exact this)
    · rw [if_neg hc]
      unfold f_X11_bargain_j69
      have e2 : (if 0 < w - (n : Int) * d then w - (n : Int) * d else 0) = 0 := if_neg (by omega)
      rw [e2] at this
      first
        | exact this
        | (rw [show (n : Int) + -1 = (n : Int) - 1 by omega]; show _ = _; unfold bgS; rw [e2]; exact this)
theorem bargain_ok {M : zM} {w n d s : Int} (hw : -2147483648 ≤ w ∧ w ≤ 2147483647) (hn : -2147483648 ≤ n ∧ n ≤ 2147483647) (hd : -2147483648 ≤ d ∧ d ≤ 2147483647) : ∃ r, f_X10_bargain w n d s M = some (r, M) ∧ f_X11_bargain w n d s M = some (r, M) := by
  unfold f_X10_bargain f_X11_bargain
  by_cases h1 : 0 ≤ w ∧ w ≤ 9999
  · rw [wth_yes h1.1 h1.2 hw (by omega) (by omega), in_yes h1.1 h1.2 hw (by omega) (by omega)]
    simp (disch := omega) only [if_true, if_false, true_or, or_true, true_and, and_true, not_true_eq_false, not_false_eq_true, Option.bind_some, zw_id, if_neg]
    by_cases h2 : 1 ≤ n ∧ n ≤ 20
    · rw [wth_yes h2.1 h2.2 hn (by omega) (by omega), in_yes h2.1 h2.2 hn (by omega) (by omega)]
      simp (disch := omega) only [if_true, if_false, true_or, or_true, true_and, and_true, not_true_eq_false, not_false_eq_true, Option.bind_some, zw_id, if_neg]
      by_cases h3 : 0 ≤ d ∧ d ≤ 9999
      · rw [wth_yes h3.1 h3.2 hd (by omega) (by omega), in_yes h3.1 h3.2 hd (by omega) (by omega)]
        simp (disch := omega) only [if_true, if_false, true_or, or_true, true_and, and_true, not_true_eq_false, not_false_eq_true, Option.bind_some, zw_id, if_pos]
        obtain ⟨k, rfl⟩ := Int.eq_ofNat_of_zero_le (show 0 ≤ n by omega)
        have e1 := bgX (v4 := s) h1 h3 M k zF 0 0 (by omega) (by unfold zF; omega)
        have e2 := bgR (v4 := s) h1 h3 M k zF 0 0 (by omega) (by unfold zF; omega)
        rw [e1, e2]
        simp only [Option.bind_some]
        by_cases h4 : zw s = 0
        · rw [if_pos h4]; exact ⟨_, rfl, rfl⟩
        · rw [if_neg h4]; exact ⟨_, rfl, rfl⟩
      · rw [wth_no (by omega) hd (by omega) (by omega), in_no (by omega) hd (by omega) (by omega)]
        simp only [Option.bind_some, zw_0, not_true_eq_false, if_false]
        exact ⟨_, rfl, rfl⟩
    · rw [wth_no (by omega) hn (by omega) (by omega), in_no (by omega) hn (by omega) (by omega)]
      simp only [Option.bind_some, zw_0, if_true]
      exact ⟨_, rfl, rfl⟩
  · rw [wth_no (by omega) hw (by omega) (by omega), in_no (by omega) hw (by omega) (by omega)]
    simp only [Option.bind_some, zw_0, if_true]
    exact ⟨_, rfl, rfl⟩
