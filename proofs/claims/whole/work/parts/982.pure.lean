/-! played: all clauses, one behind the other -/
set_option maxRecDepth 8000 in
set_option maxHeartbeats 2000000 in
theorem zlq_inl {S E : Type} {body : S → Option (S ⊕ E)} {s s' : S} {m : Nat} (h : body s = some (.inl s')) : zlp body (m + 1) s = zlp body m s' := zlp_inl h rfl
set_option maxRecDepth 8000 in
set_option maxHeartbeats 2000000 in
theorem zlq_inr {S E : Type} {body : S → Option (S ⊕ E)} {s : S} {e : E} {m : Nat} (h : body s = some (.inr e)) : zlp body (m + 1) s = some e := zlp_inr h
set_option maxRecDepth 8000 in
set_option maxHeartbeats 2000000 in
theorem clX.frW {x cl : Nat} {k a b c : Int} {M M' : zM} (h : clX x cl k a b c M) (f : frW M M') : clX x cl k a b c M' := by
  unfold clX at h ⊢
  rw [f 3 x (by unfold sc0; omega), f 4 x (by unfold sc0; omega), f 5 x (by unfold sc0; omega), f 6 x (by unfold sc0; omega)]
  exact h
set_option maxRecDepth 8000 in
set_option maxHeartbeats 2000000 in
theorem clR.frV {x cl : Nat} {k a b c : Int} {N N' : zM} (h : clR x cl k a b c N) (f : frV N N') : clR x cl k a b c N' := by
  unfold clR at h ⊢
  rw [f 47 0 (by omega) (by omega), f 49 0 (by omega) (by omega), f 50 0 (by omega) (by omega), f 51 0 (by omega) (by omega), f 46 0 (by omega) (by omega)]
  exact h
set_option maxRecDepth 8000 in
set_option maxHeartbeats 2000000 in
theorem played_all {T : Nat → Nat → Option zLw} {x n : Nat} (kf af bf cf : Nat → Int) (hx : x < 4) (hn : n ≤ 24) (hk : ∀ cl, cl < n → 0 ≤ kf cl ∧ kf cl ≤ 10) (ha : ∀ cl, cl < n → 4 ≤ kf cl → 0 ≤ af cl ∧ af cl ≤ 99) (hb : ∀ cl, cl < n → kf cl = 5 ∨ kf cl = 9 → 0 ≤ bf cl ∧ bf cl ≤ 5) (hc : ∀ cl, cl < n → kf cl = 5 → 1 ≤ cf cl ∧ cf cl ≤ 9) (hd : ∀ cl, cl < n → kf cl = 10 → 1 ≤ af cl ∧ af cl ≤ 60) : ∀ (d i : Nat) (A W : Nat → Int) (M0 : zM), i + d = n → worldR M0 0 A → textsOK M0 (A 3) T → (x : Int) < A 3 → M0 2 x 8 = n → (∀ cl, cl < n → clX x cl (kf cl) (af cl) (bf cl) (cf cl) M0) → ∃ (v : Int) (A' W' : Nat → Int), A' 3 = A 3 ∧ (∃ (M' : zM) (r : (Int × zM) ⊕ zM), (∀ m, d < m → zlp (fun s : Int × zM => f_X10_played_L29 x s.1 s.2) m ((i : Int), M0) = some r) ∧ ((r = .inr M' ∧ v = -1) ∨ r = .inl (v, M')) ∧ worldR M' 0 A' ∧ frW M0 M') ∧ ∀ N, N 43 0 = A → N 68 0 = W → textsOK N (A 3) T → N 46 0 x = n → (∀ cl, cl < n → clR x cl (kf cl) (af cl) (bf cl) (cf cl) N) → ∃ (N' : zM) (r : (Int × zM) ⊕ zM), (∀ m, d < m → zlp (fun s : Int × zM => f_X11_played_L21 x s.1 s.2) m ((i : Int), N) = some r) ∧ ((r = .inr N' ∧ v = -1) ∨ r = .inl (v, N')) ∧ N' 43 0 = A' ∧ N' 68 0 = W' ∧ frV N N' := by
  intro d
  induction d with
  | zero =>
    intro i A W M0 hi h0 hT0 hxA hcl hcX
    have hin : i = n := by omega
    subst hin
    refine ⟨-1, A, W, rfl, ⟨M0, .inr M0, fun m hm => ?_, Or.inl ⟨rfl, rfl⟩, h0, frW.rfl_⟩, fun N e1 e2 t e3 e4 => ⟨N, .inr N, fun m hm => ?_, Or.inl ⟨rfl, rfl⟩, e1, e2, frV.rfl_⟩⟩
    · obtain ⟨m, rfl⟩ : ∃ k, m = k + 1 := ⟨m - 1, by omega⟩
      refine zlq_inr ?_
      dsimp only
      unfold f_X10_played_L29
      rw [if_pos (by rw [hcl]; exact Int.le_refl _)]
    · obtain ⟨m, rfl⟩ : ∃ k, m = k + 1 := ⟨m - 1, by omega⟩
      refine zlq_inr ?_
      dsimp only
      unfold f_X11_played_L21
      rw [if_pos (by rw [zw_nat (by omega)]; omega), if_pos (by rw [zix_nat (by omega), e3]; exact Int.le_refl _)]
  | succ d ih =>
    intro i A W M0 hi h0 hT0 hxA hcl hcX
    have hin : i < n := by omega
    obtain ⟨v, A', W', h01, h3, hX, hR⟩ := cl_any (W := W) (x := x) (cl := i) (k := kf i) (a := af i) (b := bf i) (c := cf i) h0 hT0 hx hxA (by omega) (hk i hin) (ha i hin) (hb i hin) (hc i hin) (hd i hin)
    obtain ⟨M1, g1, g2, g3⟩ := hX M0 h0 hT0 (hcX i hin)
    have hT1 : textsOK M1 (A' 3) T := by rw [h3]; exact g3.txt hT0
    have stepX_ : f_X10_played_L29 x (i : Int) M0 = if v = 0 then some (.inr (.inl ((i : Int), M1))) else some (.inl ((i : Int) + 1, M1)) := by
      unfold f_X10_played_L29
      rw [hcl, zw_nat (by omega), zw_nat (by omega), if_neg (by omega), g1]
      simp only [zbs]
      by_cases hv : v = 0
      · rw [if_pos hv, if_neg (nn_ (by rw [hv]; exact zw_0))]
      · rw [if_neg hv, if_pos (by rw [zw_id (by omega) (by omega)]; exact hv)]
    by_cases hv : v = 0
    · refine ⟨i, A', W', h3, ⟨M1, .inl ((i : Int), M1), fun m hm => ?_, Or.inr rfl, g2, g3⟩, fun N e1 e2 t e3 e4 => ?_⟩
      · obtain ⟨m, rfl⟩ : ∃ k, m = k + 1 := ⟨m - 1, by omega⟩
        exact zlq_inr (by dsimp only; rw [stepX_, if_pos hv])
      · obtain ⟨y, N', q1, q2, q3, q4, q5⟩ := hR N e1 e2 t (e4 i hin)
        refine ⟨N', .inl ((i : Int), N'), fun m hm => ?_, Or.inr rfl, q3, q4, q5⟩
        obtain ⟨m, rfl⟩ : ∃ k, m = k + 1 := ⟨m - 1, by omega⟩
        refine zlq_inr ?_
        dsimp only
        rw [q1]
        unfold f_X11_played_j227
        rw [if_neg (nn_ (by rw [q2]; exact hv))]
    · obtain ⟨u, A2, W2, k3, ⟨M2, r, k4, k5, k6, k7⟩, kR⟩ := ih (i + 1) A' W' M1 (by omega) g2 hT1 (by rw [h3]; exact hxA) (by rw [g3 2 x (by unfold sc0; omega)]; exact hcl) (fun cl h => (hcX cl h).frW g3)
      refine ⟨u, A2, W2, by rw [k3, h3], ⟨M2, r, fun m hm => ?_, k5, k6, g3.trans k7⟩, fun N e1 e2 t e3 e4 => ?_⟩
      · obtain ⟨m, rfl⟩ : ∃ k, m = k + 1 := ⟨m - 1, by omega⟩
        refine (zlq_inl (s' := ((i : Int) + 1, M1)) (by dsimp only; rw [stepX_, if_neg hv])).trans ?_
        exact k4 m (by omega)
      · obtain ⟨y, N', q1, q2, q3, q4, q5⟩ := hR N e1 e2 t (e4 i hin)
        obtain ⟨N2, r2, l1, l2, l3, l4, l5⟩ := kR N' q3 q4 (by rw [h3]; exact q5.txt t) (by rw [q5 46 0 (by omega) (by omega)]; exact e3) (fun cl h => (e4 cl h).frV q5)
        refine ⟨N2, r2, fun m hm => ?_, l2, l3, l4, q5.trans l5⟩
        obtain ⟨m, rfl⟩ : ∃ k, m = k + 1 := ⟨m - 1, by omega⟩
        refine (zlq_inl (s' := (((i + 1 : Nat) : Int), N')) ?_).trans (l1 m (by omega))
        dsimp only
        rw [q1]
        unfold f_X11_played_j227
        rw [if_pos (by rw [q2]; exact hv)]
        rfl
set_option maxRecDepth 8000 in
set_option maxHeartbeats 2000000 in
theorem call_played {M : zM} {v : Int} (h : zI M) (hv : -2147483648 ≤ v ∧ v ≤ 2147483647) : zCall (f_X10_played v M) (fun N => f_X11_played v N) := by
  have hz := h
  obtain ⟨T, hI⟩ := h
  have w0 := hI.w0
  have hT := hI.txt
  generalize hAA : M 43 0 = A at w0 hT
  have hA := w0.head
  have h3 := hA.txs
  have h12 := w0.city.txs
  by_cases hr : 0 ≤ v ∧ v < A 3
  case neg =>
    refine zCall.same hz (v := -2) ?_ ?_
    · unfold f_X10_played
      rw [h12, wth_no (by omega) hv (by omega) (by omega)]
      simp only [zbs]
      rw [if_neg (nn_ zw_0)]
    · unfold f_X11_played
      rw [hAA, in_no (by omega) hv (by omega) (by omega)]
      simp only [zbs]
      rw [if_neg (nn_ zw_0)]
  obtain ⟨x, rfl⟩ := Int.eq_ofNat_of_zero_le hr.1
  have ht := hT x hr.2
  obtain ⟨n, hn⟩ := Int.eq_ofNat_of_zero_le ht.cls.1
  have hn24 : n ≤ 24 := by have := ht.cls.2; omega
  have l : ∀ cl : Nat, cl < n → (cl : Int) < M 46 0 x := fun cl h => by rw [hn]; omega
  obtain ⟨u, A', W', k3, ⟨M1, r, k4, k5, k6, k7⟩, kR⟩ := played_all (T := T) (x := x) (n := n) (fun cl => M 3 x cl) (fun cl => M 4 x cl) (fun cl => M 5 x cl) (fun cl => M 6 x cl) (by omega) hn24 (fun cl h => (ht.word cl (l cl h)).2) (fun cl h q => (ht.one cl (l cl h) q).2) (fun cl h q => (ht.two cl (l cl h) q).2) (fun cl h q => (ht.three cl (l cl h) q).2) (fun cl h q => ht.days cl (l cl h) q) n 0 A (M 68 0) M (by omega) w0 hT hr.2 (by rw [ht.clsX]; exact hn) (fun cl h => ⟨rfl, fun _ => rfl, fun _ => rfl, fun _ => rfl⟩)
  have f : ∀ k i, ¬ sc0 k i → M1 k i = M k i := k7
  obtain ⟨M2, r2, l1, l2, l3, l4, l5⟩ := kR M1 (by rw [f 43 0 (by unfold sc0; omega)]; exact hAA) (f 68 0 (by unfold sc0; omega)) (k7.txt hT) (by rw [f 46 0 (by unfold sc0; omega)]; exact hn) (fun cl h => by
    have q := l cl h
    unfold clR
    rw [f 46 0 (by unfold sc0; omega), f 47 0 (by unfold sc0; omega), f 49 0 (by unfold sc0; omega), f 50 0 (by unfold sc0; omega), f 51 0 (by unfold sc0; omega)]
    exact ⟨(ht.word cl q).1.symm, fun z => (ht.one cl q z).1.symm, fun z => (ht.two cl q z).1.symm, fun z => (ht.three cl q z).1.symm, q, ht.cls.2⟩)
  have m43 : M1 43 0 = A := by rw [f 43 0 (by unfold sc0; omega)]; exact hAA
  refine zCall.mk (M1 := M1) (M2 := M2) (v := u) ?_ ?_ ⟨T, hI.step k7 k6 l5 l3 (by rw [k3, hAA])⟩
  · unfold f_X10_played
    rw [h12, wth_yes hr.1 (by omega) hv (by omega) (by omega)]
    simp only [zbs]
    rw [if_pos (by rw [zw01.2.1]; omega), zw_nat (by omega), if_pos (by omega), zix_nat (by omega)]
    have k4' : zlp (fun s : Int × zM => f_X10_played_L29 x s.1 s.2) zF (0, M) = some r := k4 zF (by unfold zF; omega)
    rw [k4']
    simp only [zbs]
    rcases k5 with ⟨rfl, rfl⟩ | rfl <;> rfl
  · unfold f_X11_played
    rw [m43, in_yes hr.1 (by omega) hv (by omega) (by omega)]
    simp only [zbs]
    rw [if_pos (by rw [zw01.2.1]; omega)]
    have l1' : zlp (fun s : Int × zM => f_X11_played_L21 x s.1 s.2) zF (0, M1) = some r2 := l1 zF (by unfold zF; omega)
    rw [l1']
    simp only [zbs]
    rcases l2 with ⟨rfl, rfl⟩ | rfl <;> rfl
