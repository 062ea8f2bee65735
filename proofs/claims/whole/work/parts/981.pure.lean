/-! played: a clause on either side -/
/-- a clause's cells, on either side -/
def clX (x cl : Nat) (k a b c : Int) (M : zM) : Prop := M 3 x cl = k ∧ (4 ≤ k → M 4 x cl = a) ∧ (k = 5 ∨ k = 9 → M 5 x cl = b) ∧ (k = 5 → M 6 x cl = c)
def clR (x cl : Nat) (k a b c : Int) (N : zM) : Prop := N 47 0 (24 * x + cl) = k ∧ (4 ≤ k → N 49 0 (24 * x + cl) = a) ∧ (k = 5 ∨ k = 9 → N 50 0 (24 * x + cl) = b) ∧ (k = 5 → N 51 0 (24 * x + cl) = c) ∧ (cl : Int) < N 46 0 x ∧ N 46 0 x ≤ 24
/-- a clause: one answer (0: it can't be) -/
def clOK (T : Nat → Nat → Option zLw) (A W : Nat → Int) (x cl : Nat) (k a b c : Int) : Prop := ∃ (v : Int) (A' W' : Nat → Int), (v = 0 ∨ v = 1) ∧ A' 3 = A 3 ∧ (∀ M, worldR M 0 A → textsOK M (A 3) T → clX x cl k a b c M → ∃ M', f_X10_couldDo x cl M = some (v, M') ∧ worldR M' 0 A' ∧ frW M M') ∧ ∀ N, N 43 0 = A → N 68 0 = W → textsOK N (A 3) T → clR x cl k a b c N → ∃ (n : Int) (N' : zM), f_X11_played_L21 x cl N = f_X11_played_j227 x cl n N' ∧ (zw n = v) ∧ N' 43 0 = A' ∧ N' 68 0 = W' ∧ frV N N'
set_option maxRecDepth 8000 in
set_option maxHeartbeats 2000000 in
theorem zi24x {x cl : Nat} (hx : x < 4) (hc : cl < 24) : zix (24 * (x : Int) + (cl : Int)) = 24 * x + cl := zix_id (by omega) (by omega)
set_option maxRecDepth 8000 in
set_option maxHeartbeats 2000000 in
theorem zw_m1 {v : Int} (h : v = -1) : zw v = -1 := by rw [h]; exact zw01.2.2
set_option maxRecDepth 8000 in
set_option maxHeartbeats 2000000 in
/-- one whose answer NONE says that it can't be -/
theorem clOK.none_ {T : Nat → Nat → Option zLw} {A W : Nat → Int} {x cl : Nat} {k a b c : Int} {fX fR : zM → Option (Int × zM)} (h : deedOK T A W fX fR) (hX : ∀ M, clX x cl k a b c M → f_X10_couldDo x cl M = (fX M).bind (fun p => if zw p.1 = -1 then some (0, p.2) else some (1, p.2))) (hR : ∀ N, clR x cl k a b c N → textsOK N (A 3) T → f_X11_played_L21 x cl N = (fR N).bind (fun p => if zw p.1 = -1 then f_X11_played_j227 x cl 0 p.2 else f_X11_played_j227 x cl 1 p.2)) : clOK T A W x cl k a b c := by
  obtain ⟨v, A', W', h3, h4, h5⟩ := h
  by_cases hv : zw v = -1
  · refine ⟨0, A', W', Or.inl rfl, h3, fun M w t q => ?_, fun N e1 e2 t q => ?_⟩
    · obtain ⟨M', g1, g2, g3⟩ := h4 M w t
      refine ⟨M', ?_, g2, g3⟩
      rw [hX M q, g1]
      simp only [zbs]
      rw [if_pos hv]
    · obtain ⟨N', g1, g2, g3, g4⟩ := h5 N e1 e2 t
      refine ⟨0, N', ?_, zw_0, g2, g3, g4⟩
      rw [hR N q t, g1]
      simp only [zbs]
      rw [if_pos hv]
  · refine ⟨1, A', W', Or.inr rfl, h3, fun M w t q => ?_, fun N e1 e2 t q => ?_⟩
    · obtain ⟨M', g1, g2, g3⟩ := h4 M w t
      refine ⟨M', ?_, g2, g3⟩
      rw [hX M q, g1]
      simp only [zbs]
      rw [if_neg hv]
    · obtain ⟨N', g1, g2, g3, g4⟩ := h5 N e1 e2 t
      refine ⟨1, N', ?_, zw01.2.1, g2, g3, g4⟩
      rw [hR N q t, g1]
      simp only [zbs]
      rw [if_neg hv]
set_option maxRecDepth 8000 in
set_option maxHeartbeats 2000000 in
/-- one that answers yes or no -/
theorem clOK.bool_ {M0 : zM} {T : Nat → Nat → Option zLw} {A W : Nat → Int} {x cl : Nat} {k a b c : Int} {fX fR : zM → Option (Int × zM)} (h0 : worldR M0 0 A) (hT0 : textsOK M0 (A 3) T) (h : deedOK T A W fX fR) (h01 : ∀ M r, fX M = some r → r.1 = 0 ∨ r.1 = 1) (hX : ∀ M, clX x cl k a b c M → f_X10_couldDo x cl M = (fX M).bind (fun p => if p.1 = 0 ∨ p.1 = 1 then some (p.1, p.2) else none)) (hR : ∀ N, clR x cl k a b c N → textsOK N (A 3) T → f_X11_played_L21 x cl N = (fR N).bind (fun p => f_X11_played_j227 x cl p.1 p.2)) : clOK T A W x cl k a b c := by
  obtain ⟨v, A', W', h3, h4, h5⟩ := h
  have hv : v = 0 ∨ v = 1 := by
    obtain ⟨M', g1, -⟩ := h4 M0 h0 hT0
    exact h01 M0 _ g1
  refine ⟨v, A', W', hv, h3, fun M w t q => ?_, fun N e1 e2 t q => ?_⟩
  · obtain ⟨M', g1, g2, g3⟩ := h4 M w t
    refine ⟨M', ?_, g2, g3⟩
    rw [hX M q, g1]
    simp only [zbs]
    rw [if_pos hv]
  · obtain ⟨N', g1, g2, g3, g4⟩ := h5 N e1 e2 t
    refine ⟨v, N', ?_, zw_id (by omega) (by omega), g2, g3, g4⟩
    rw [hR N q t, g1]
    simp only [zbs]
set_option maxRecDepth 8000 in
set_option maxHeartbeats 2000000 in
theorem cl_any {M0 : zM} {T : Nat → Nat → Option zLw} {A W : Nat → Int} {x cl : Nat} {k a b c : Int} (h0 : worldR M0 0 A) (hT0 : textsOK M0 (A 3) T) (hx : x < 4) (hxA : (x : Int) < A 3) (hcl : cl < 24) (hk : 0 ≤ k ∧ k ≤ 10) (ha : 4 ≤ k → 0 ≤ a ∧ a ≤ 99) (hb : k = 5 ∨ k = 9 → 0 ≤ b ∧ b ≤ 5) (hc : k = 5 → 1 ≤ c ∧ c ≤ 9) (hd : k = 10 → 1 ≤ a ∧ a ≤ 60) : clOK T A W x cl k a b c := by
  have zc : zix (cl : Int) = cl := zix_nat (by omega)
  have zx : zix (x : Int) = x := zix_nat (by omega)
  have z24 := zi24x hx hcl
  have cX : ∀ M, clX x cl k a b c M → zw (M 3 x cl) = k := fun M q => by rw [q.1, zw_id (by omega) (by omega)]
  have cR : ∀ N, clR x cl k a b c N → zw (N 47 0 (24 * x + cl)) = k := fun N q => by rw [q.1, zw_id (by omega) (by omega)]
  have c0 : 0 ≤ zw (cl : Int) ∧ zw (cl : Int) < 24 := by rw [zw_nat (by omega)]; omega
  have x0 : 0 ≤ zw (x : Int) ∧ zw (x : Int) < 4 := by rw [zw_nat (by omega)]; omega
  have y0 : 0 ≤ zw (24 * (x : Int) + (cl : Int)) ∧ zw (24 * (x : Int) + (cl : Int)) < 96 := by rw [zw_id (by omega) (by omega)]; omega
  have n46 : ∀ N, textsOK N (A 3) T → clR x cl k a b c N → ¬ zw (N 46 0 x) ≤ zw (cl : Int) := fun N t q => by
    have := q.2.2.2.2
    rw [zw_id (by omega) (by omega), zw_nat (by omega)]; omega
  by_cases k4 : k = 4
  · refine clOK.none_ (deed_owner h0 (v := a) (by have := ha (by omega); omega)) (fun M q => ?_) (fun N q t => ?_)
    · unfold f_X10_couldDo
      rw [zc, if_pos c0, if_pos c0, if_pos c0, if_pos (by rw [cX M q]; exact k4), q.2.1 (by omega)]
    · unfold f_X11_played_L21 f_X11_played_j119
      rw [zx, z24, if_pos x0, if_neg (n46 N t q), if_pos y0, if_pos y0, if_pos y0, if_pos (by rw [cR N q]; exact k4), q.2.1 (by omega)]
  by_cases k5 : k = 5
  · have hb' := hb (Or.inl k5)
    have hc' := hc k5
    refine clOK.none_ (deed_thing h0 (d := a) (o := b) (b := c) (by have := ha (by omega); omega) (by omega) (by omega)) (fun M q => ?_) (fun N q t => ?_)
    · unfold f_X10_couldDo
      rw [zc, if_pos c0, if_pos c0, if_pos c0, if_neg (by rw [cX M q]; exact k4), if_pos (by rw [cX M q]; exact k5), if_pos c0, q.2.1 (by omega), q.2.2.1 (Or.inl k5), q.2.2.2 k5]
    · unfold f_X11_played_L21 f_X11_played_j147
      rw [zx, z24, if_pos x0, if_neg (n46 N t q), if_pos y0, if_pos y0, if_pos y0, if_neg (by rw [cR N q]; exact k4), if_pos (by rw [cR N q]; exact k5), if_pos y0, q.2.1 (by omega), q.2.2.1 (Or.inl k5), q.2.2.2.1 k5]
  by_cases k6 : k = 6
  · refine clOK.bool_ h0 hT0 (deed_room (v := a) (by have := ha (by omega); omega)) (fun M r hr => room01 hr) (fun M q => ?_) (fun N q t => ?_)
    · unfold f_X10_couldDo
      rw [zc, if_pos c0, if_pos c0, if_pos c0, if_neg (by rw [cX M q]; exact k4), if_neg (by rw [cX M q]; exact k5), if_pos (by rw [cX M q]; exact k6), q.2.1 (by omega)]
    · unfold f_X11_played_L21
      rw [zx, z24, if_pos x0, if_neg (n46 N t q), if_pos y0, if_pos y0, if_pos y0, if_neg (by rw [cR N q]; exact k4), if_neg (by rw [cR N q]; exact k5), if_pos (by rw [cR N q]; exact k6), q.2.1 (by omega)]
  by_cases k7 : k = 7
  · refine clOK.none_ (deed_steal h0 (v := a) (by have := ha (by omega); omega)) (fun M q => ?_) (fun N q t => ?_)
    · unfold f_X10_couldDo
      rw [zc, if_pos c0, if_pos c0, if_pos c0, if_neg (by rw [cX M q]; exact k4), if_neg (by rw [cX M q]; exact k5), if_neg (by rw [cX M q]; exact k6), if_pos (by rw [cX M q]; exact k7), q.2.1 (by omega)]
    · unfold f_X11_played_L21 f_X11_played_j178
      rw [zx, z24, if_pos x0, if_neg (n46 N t q), if_pos y0, if_pos y0, if_pos y0, if_neg (by rw [cR N q]; exact k4), if_neg (by rw [cR N q]; exact k5), if_neg (by rw [cR N q]; exact k6), if_pos (by rw [cR N q]; exact k7), q.2.1 (by omega)]
  by_cases k8 : k = 8
  · refine clOK.none_ (deed_send h0 (v := a) (by have := ha (by omega); omega)) (fun M q => ?_) (fun N q t => ?_)
    · unfold f_X10_couldDo
      rw [zc, if_pos c0, if_pos c0, if_pos c0, if_neg (by rw [cX M q]; exact k4), if_neg (by rw [cX M q]; exact k5), if_neg (by rw [cX M q]; exact k6), if_neg (by rw [cX M q]; exact k7), if_pos (by rw [cX M q]; exact k8), q.2.1 (by omega)]
    · unfold f_X11_played_L21 f_X11_played_j198
      rw [zx, z24, if_pos x0, if_neg (n46 N t q), if_pos y0, if_pos y0, if_pos y0, if_neg (by rw [cR N q]; exact k4), if_neg (by rw [cR N q]; exact k5), if_neg (by rw [cR N q]; exact k6), if_neg (by rw [cR N q]; exact k7), if_pos (by rw [cR N q]; exact k8), q.2.1 (by omega)]
  by_cases k9 : k = 9
  · have hb' := hb (Or.inr k9)
    refine clOK.bool_ h0 hT0 (deed_give h0 (v := a) (o := b) (by have := ha (by omega); omega) (by omega)) (fun M r hr => give01 hr) (fun M q => ?_) (fun N q t => ?_)
    · unfold f_X10_couldDo
      rw [zc, if_pos c0, if_pos c0, if_pos c0, if_neg (by rw [cX M q]; exact k4), if_neg (by rw [cX M q]; exact k5), if_neg (by rw [cX M q]; exact k6), if_neg (by rw [cX M q]; exact k7), if_neg (by rw [cX M q]; exact k8), if_pos (by rw [cX M q]; exact k9), q.2.1 (by omega), q.2.2.1 (Or.inr k9)]
    · unfold f_X11_played_L21
      rw [zx, z24, if_pos x0, if_neg (n46 N t q), if_pos y0, if_pos y0, if_pos y0, if_neg (by rw [cR N q]; exact k4), if_neg (by rw [cR N q]; exact k5), if_neg (by rw [cR N q]; exact k6), if_neg (by rw [cR N q]; exact k7), if_neg (by rw [cR N q]; exact k8), if_pos (by rw [cR N q]; exact k9), q.2.1 (by omega), q.2.2.1 (Or.inr k9)]
  by_cases k10 : k = 10
  · have hd' := hd k10
    obtain ⟨n, rfl⟩ := Int.eq_ofNat_of_zero_le (show 0 ≤ a by omega)
    have hday := h0.day
    have hrd := h0.row.day
    have h128 : rw_ A 90 38 = A 128 := rfl
    rw [h128] at hrd
    obtain ⟨p, hp⟩ := Int.eq_ofNat_of_zero_le (show 0 ≤ (if 9999 - A 128 < (n : Int) then 9999 - A 128 else n) by split <;> omega)
    have hp2 : p ≤ n ∧ A 128 + p ≤ 9999 ∧ (p = n ∨ A 128 + p = 9999) := by split at hp <;> omega
    obtain ⟨-, -, -, o3, -⟩ := days_ok (W := W) h0 hT0 hp2.2.1 p (Nat.le_refl p)
    refine ⟨if p = n then 1 else 0, (sDays T A W p).1, (sDays T A W p).2.1, ?_, o3, fun M w t q => ?_, fun N e1 e2 t q => ?_⟩
    · split
      · exact Or.inr rfl
      · exact Or.inl rfl
    · have hcd := w.city.day
      rw [h128] at hcd
      have ep : (if zw (9999 - M 11 0 10) < zw (n : Int) then 9999 - M 11 0 10 else (n : Int)) = p := by
        rw [hcd, zw_id (by omega) (by omega), zw_nat (by omega)]
        exact hp
      have hfin : ∀ (y : Int) (M' : zM), f_X10_day p M = some (y, M') → f_X10_couldDo x cl M = some (if p = n then 1 else 0, M') := by
        intro y M' e
        unfold f_X10_couldDo
        rw [zc, if_pos c0, if_pos c0, if_pos c0, if_neg (by rw [cX M q]; exact k4), if_neg (by rw [cX M q]; exact k5), if_neg (by rw [cX M q]; exact k6), if_neg (by rw [cX M q]; exact k7), if_neg (by rw [cX M q]; exact k8), if_neg (by rw [cX M q]; exact k9), if_pos (by rw [cX M q]; exact k10), q.2.1 (by omega), ep, e]
        simp only [zbs]
        rw [zw_nat (by omega), zw_nat (by omega)]
        by_cases h : p = n
        · rw [if_pos h, if_neg (nn_ (by omega))]
        · rw [if_neg h, if_pos (by omega)]
      by_cases hz : p = 0
      · subst hz
        refine ⟨M, hfin (-1) M ?_, w, frW.rfl_⟩
        unfold f_X10_day
        rw [wth_no (by omega) (by omega) (by omega) (by omega)]
        simp only [zbs]
        rw [if_pos zw_0]
      · obtain ⟨⟨r1, M1⟩, x1, x2, x3, x4⟩ := X_days (W := W) (T := T) (n := p) w t (by omega) hp2.2.1
        dsimp only at x2 x3 x4
        refine ⟨M1, hfin r1 M1 ?_, x3, x4⟩
        unfold f_X10_day
        rw [wth_yes (by omega) (by omega) (by omega) (by omega) (by omega)]
        simp (disch := omega) only [if_true, if_false, true_or, or_true, true_and, and_true, not_true_eq_false, not_false_eq_true, zbs, zw_id, if_neg, if_pos, hcd]
        rw [x1]
        simp only [zbs]
    · obtain ⟨N', g1, g2, g3, g4⟩ := R_daysL h0 hT0 e1 e2 t hp2.1 (by omega) hp2.2.1 hp2.2.2
      refine ⟨if p = n then 1 else 0, N', ?_, ?_, g2, g3, g4⟩
      · unfold f_X11_played_L21
        rw [zx, z24, if_pos x0, if_neg (n46 N t q), if_pos y0, if_pos y0, if_pos y0, if_neg (by rw [cR N q]; exact k4), if_neg (by rw [cR N q]; exact k5), if_neg (by rw [cR N q]; exact k6), if_neg (by rw [cR N q]; exact k7), if_neg (by rw [cR N q]; exact k8), if_neg (by rw [cR N q]; exact k9), if_pos (by rw [cR N q]; exact k10), q.2.1 (by omega), g1]
        exact zbs _ _
      · rw [zw_id (by split <;> omega) (by split <;> omega)]
  · refine ⟨1, A, W, Or.inr rfl, rfl, fun M w t q => ⟨M, ?_, w, frW.rfl_⟩, fun N e1 e2 t q => ⟨1, N, ?_, zw01.2.1, e1, e2, frV.rfl_⟩⟩
    · unfold f_X10_couldDo
      rw [zc, if_pos c0, if_pos c0, if_pos c0, if_neg (by rw [cX M q]; exact k4), if_neg (by rw [cX M q]; exact k5), if_neg (by rw [cX M q]; exact k6), if_neg (by rw [cX M q]; exact k7), if_neg (by rw [cX M q]; exact k8), if_neg (by rw [cX M q]; exact k9), if_neg (by rw [cX M q]; exact k10)]
    · unfold f_X11_played_L21
      rw [zx, z24, if_pos x0, if_neg (n46 N t q), if_pos y0, if_pos y0, if_pos y0, if_neg (by rw [cR N q]; exact k4), if_neg (by rw [cR N q]; exact k5), if_neg (by rw [cR N q]; exact k6), if_neg (by rw [cR N q]; exact k7), if_neg (by rw [cR N q]; exact k8), if_neg (by rw [cR N q]; exact k9), if_neg (by rw [cR N q]; exact k10)]
