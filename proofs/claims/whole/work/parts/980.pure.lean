/-! played: days one by one, on the reference's side -/
set_option maxRecDepth 8000 in
set_option maxHeartbeats 2000000 in
theorem R_day1 {N M0 : zM} {A W : Nat → Int} {T : Nat → Nat → Option zLw} (h : worldR M0 0 A) (hT0 : textsOK M0 (A 3) T) (hN : N 43 0 = A) (hW : N 68 0 = W) (hT : textsOK N (A 3) T) (hp : A 128 < 9999) : ∃ N', f_X11_day 1 N = some ((sDays T A W 1).2.2, N') ∧ N' 43 0 = (sDays T A W 1).1 ∧ N' 68 0 = (sDays T A W 1).2.1 ∧ frV N N' := by
  have hrd := h.row.day
  have h128 : rw_ A 90 38 = A 128 := rfl
  rw [h128] at hrd
  obtain ⟨⟨r2, N1⟩, y1, y2, y3, y4, y5⟩ := R_days2 (n := 1) h hT0 hT hN hW (by omega) (by omega)
  dsimp only at y2 y3 y4 y5
  refine ⟨N1, ?_, y3, y4, y5⟩
  unfold f_X11_day
  rw [in_yes (by omega) (by omega) (by omega) (by omega) (by omega)]
  simp (disch := omega) only [if_true, if_false, true_or, or_true, true_and, and_true, not_true_eq_false, not_false_eq_true, zbs, zw_id, if_neg, if_pos, hN]
  have y1' : zlp (fun s : Int × Int × zM => f_X11_day_L32 1 s.1 s.2.1 s.2.2) zF (0, 0, N) = some (r2, N1) := y1
  rw [y1']
  simp only [zbs, y2]
set_option maxRecDepth 8000 in
set_option maxHeartbeats 2000000 in
theorem R_day1_no {N M0 : zM} {A : Nat → Int} (h : worldR M0 0 A) (hN : N 43 0 = A) (hp : A 128 = 9999) : f_X11_day 1 N = some (-1, N) := by
  unfold f_X11_day
  rw [in_yes (by omega) (by omega) (by omega) (by omega) (by omega)]
  simp (disch := omega) only [if_true, if_false, true_or, or_true, true_and, and_true, not_true_eq_false, not_false_eq_true, zbs, zw_id, if_neg, hN, hp]
set_option maxRecDepth 8000 in
set_option maxHeartbeats 2000000 in
theorem sDays_succ1 (T : Nat → Nat → Option zLw) (A W : Nat → Int) (n : Nat) : (sDays T A W (n + 1)).1 = (sDays T (sDays T A W n).1 (sDays T A W n).2.1 1).1 ∧ (sDays T A W (n + 1)).2.1 = (sDays T (sDays T A W n).1 (sDays T A W n).2.1 1).2.1 := ⟨rfl, rfl⟩
set_option maxRecDepth 8000 in
set_option maxHeartbeats 2000000 in
theorem sDays_ge (T : Nat → Nat → Option zLw) {M0 : zM} {A W : Nat → Int} (h : worldR M0 0 A) : 0 ≤ (sDays T A W 1).2.2 ∧ (sDays T A W 1).2.2 ≤ 8 := by
  have h0 := h.head.thg
  have e := sPassN_le (T := T) (A := sKeep A) (w := sLay A W) (n := (sKeep A 1).toNat)
  have hk : sKeep A 1 = A 1 := sKeep_lo (by omega) (by omega)
  have e2 : (sDays T A W 1).2.2 = 0 + (sPassN T (sKeep A) (sLay A W) (sKeep A 1).toNat).2 := rfl
  rw [e2]
  omega
set_option maxRecDepth 8000 in
set_option maxHeartbeats 2000000 in
theorem R_daysL {N M0 : zM} {A W : Nat → Int} {T : Nat → Nat → Option zLw} {n a : Nat} (h : worldR M0 0 A) (hT0 : textsOK M0 (A 3) T) (hN : N 43 0 = A) (hW : N 68 0 = W) (hT : textsOK N (A 3) T) (hna : n ≤ a) (ha : a ≤ 60) (hp : A 128 + n ≤ 9999) (hl : n = a ∨ A 128 + n = 9999) : ∃ N', f_X11_days a N = some (if n = a then 1 else 0, N') ∧ N' 43 0 = (sDays T A W n).1 ∧ N' 68 0 = (sDays T A W n).2.1 ∧ frV N N' := by
  have ok := days_ok (W := W) h hT0 hp
  have key := zT_for (body := fun s : Int × zM => f_X11_days_L2 (a : Int) s.1 s.2) (fun i s => s.1 = (i : Int) ∧ s.2 43 0 = (sDays T A W i).1 ∧ s.2 68 0 = (sDays T A W i).2.1 ∧ frV N s.2) n (Q := fun e => ∃ N', e = (if n = a then .inr N' else .inl (0, N')) ∧ N' 43 0 = (sDays T A W n).1 ∧ N' 68 0 = (sDays T A W n).2.1 ∧ frV N N') ?_ (m := zF) (by unfold zF; omega) (s := (0, N)) ⟨rfl, hN, hW, frV.rfl_⟩
  · obtain ⟨e, k1, N', k2, k3⟩ := key
    refine ⟨N', ?_, k3⟩
    unfold f_X11_days
    rw [k1, k2]
    simp only [zbs]
    by_cases hc : n = a
    · rw [if_pos hc, if_pos hc]
    · rw [if_neg hc, if_neg hc]
  · rintro i ⟨x, N1⟩ hi ⟨h1, h2, h3, h4⟩
    dsimp only at h1 h2 h3 h4 ⊢
    subst h1
    obtain ⟨Nx, o1, o2, o3, o4⟩ := ok i hi
    have hT1 : textsOK N1 ((sDays T A W i).1 3) T := by rw [o3]; exact h4.txt hT
    have o2' : textsOK Nx ((sDays T A W i).1 3) T := by rw [o3]; exact o2
    unfold f_X11_days_L2
    rw [zw_nat (by omega), zw_nat (by omega)]
    by_cases hia : i = a
    · subst hia
      have hin : i = n := by omega
      subst hin
      rw [if_pos (by omega)]
      exact zT_some (Or.inr ⟨_, rfl, N1, by rw [if_pos rfl], h2, h3, h4⟩)
    · rw [if_neg (by omega)]
      by_cases hin : i = n
      · subst hin
        rw [R_day1_no o1 h2 (by omega)]
        simp only [zbs]
        rw [if_neg (nn_ zw01.2.2)]
        exact zT_some (Or.inr ⟨_, rfl, N1, by rw [if_neg hia], h2, h3, h4⟩)
      · obtain ⟨N2, q1, q2, q3, q4⟩ := R_day1 o1 o2' h2 h3 hT1 (by omega)
        have hge := sDays_ge T (W := (sDays T A W i).2.1) o1
        rw [q1]
        simp only [zbs]
        rw [if_pos (by rw [zw_id (by omega) (by omega)]; omega)]
        obtain ⟨s1, s2⟩ := sDays_succ1 T A W i
        exact zT_some (Or.inl ⟨_, rfl, by omega, by show ((i : Nat) : Int) + 1 = ((i + 1 : Nat) : Int); omega, by rw [s1]; exact q2, by rw [s2]; exact q3, h4.trans q4⟩)
set_option maxRecDepth 8000 in
set_option maxHeartbeats 2000000 in
theorem room01 {v : Int} {M : zM} {r : Int × zM} (h : f_X10_room v M = some r) : r.1 = 0 ∨ r.1 = 1 := by
  unfold f_X10_room at h
  rw [Option.bind_eq_some_iff] at h
  obtain ⟨p, -, h⟩ := h
  split at h
  · rw [zlt_] at h; cases h; exact Or.inr rfl
  · cases h; exact Or.inl rfl
set_option maxRecDepth 8000 in
set_option maxHeartbeats 2000000 in
theorem give01 {v o : Int} {M : zM} {r : Int × zM} (h : f_X10_give v o M = some r) : r.1 = 0 ∨ r.1 = 1 := by
  unfold f_X10_give at h
  rw [Option.bind_eq_some_iff] at h
  obtain ⟨p, -, h⟩ := h
  split at h
  · rw [Option.bind_eq_some_iff] at h
    obtain ⟨p2, -, h⟩ := h
    split at h
    · rw [zlt_] at h; cases h; exact Or.inr rfl
    · cases h
  · cases h; exact Or.inl rfl
