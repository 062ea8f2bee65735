/-! methods, decompiled: 6 -/
def f_X9_mean_L4 (n0 : Nat) (v1 : Int) (v2 : Int) (M : zM) : Option ((Int × Int) ⊕ (Int)) :=
  if zw (M 23 n0 8) ≤ zw v2 then
    some (.inr v1)
  else
    if 0 ≤ zw v2 ∧ zw v2 < 9 then
      some (.inl ((v1 + (M 26 n0 (zix v2))), (v2 + 1)))
    else
      none
theorem g_X9_mean_L4 {n0 : Nat} {v1 : Int} {v2 : Int} {M : zM} {x : (Int × Int) ⊕ (Int)} {r : Option zV} {Mf : zM} {d : Nat} (hd : 0 ≤ d) (h : f_X9_mean_L4 n0 v1 v2 M = some x)
    (kc : ∀ s, x = .inl s → zG 63 d (4, [some (zr 23 n0), some (zi s.1), some (zi s.2)], [], M) r Mf)
    (kb : ∀ t, x = .inr t → zG 63 d (27, [some (zr 23 n0), some (zi t), none], [], M) r Mf) (kr : True) : zG 63 d (4, [some (zr 23 n0), some (zi v1), some (zi v2)], [], M) r Mf := by
  have hm := zmok_63
  unfold f_X9_mean_L4 at h
  refine zG_run hm 3 (cf' := (9, [some (zr 23 n0), some (zi v1), some (zi v2)], [zi (M 23 n0 8), zi v2], M)) rfl ?_
  by_cases c2 : zw (M 23 n0 8) ≤ zw v2
  · rw [if_pos c2] at h
    refine zG_br hm rfl (cf' := (27, [some (zr 23 n0), some (zi v1), some (zi v2)], [], M)) (if_pos c2) ?_
    refine zG_sub (lv' := [some (zr 23 n0), some (zi v1), none]) (zsb_s rfl (zsb_s rfl (zsb_n zsb_0))) ?_
    exact kb v1 (Option.some.inj h).symm
  · rw [if_neg c2] at h
    refine zG_br hm rfl (cf' := (12, [some (zr 23 n0), some (zi v1), some (zi v2)], [], M)) (if_neg c2) ?_
    refine zG_run hm 4 (cf' := (18, [some (zr 23 n0), some (zi v1), some (zi v2)], [zi v2, zr 26 n0, zi v1], M)) rfl ?_
    by_cases c1 : 0 ≤ zw v2 ∧ zw v2 < 9
    · rw [if_pos c1] at h
      refine zG_br hm rfl (cf' := (19, [some (zr 23 n0), some (zi v1), some (zi v2)], [zi (M 26 n0 (zix v2)), zi v1], M)) (if_pos c1) ?_
      refine zG_run hm 4 (cf' := (4, [some (zr 23 n0), some (zi (v1 + (M 26 n0 (zix v2)))), some (zi (v2 + 1))], [], M)) rfl ?_
      refine zG_sub (lv' := [some (zr 23 n0), some (zi (v1 + (M 26 n0 (zix v2)))), some (zi (v2 + 1))]) (zsb_s rfl (zsb_s rfl (zsb_s rfl zsb_0))) ?_
      exact kc ((v1 + (M 26 n0 (zix v2))), (v2 + 1)) (Option.some.inj h).symm
    · rw [if_neg c1] at h
      cases h
theorem gl_X9_mean_L4 {n0 : Nat} {M : zM} {y : Int} {r : Option zV} {Mf : zM} {d : Nat} (hd : 0 ≤ d)
    (kb : ∀ t, y = t → zG 63 d (27, [some (zr 23 n0), some (zi t), none], [], M) r Mf) (kr : True) : ∀ (n : Nat) (s : Int × Int), zlp (fun s : Int × Int => f_X9_mean_L4 n0 s.1 s.2 M) n s = some y → zG 63 d (4, [some (zr 23 n0), some (zi s.1), some (zi s.2)], [], M) r Mf := by
  intro n
  induction n with
  | zero => intro s h; cases h
  | succ n ih =>
    intro s h
    rcases zlp_cases h with ⟨s', h1, h2⟩ | h1
    · exact g_X9_mean_L4 hd h1 (fun s2 e2 => by cases e2; exact ih _ h2) (fun t e2 => by cases e2) trivial
    · exact g_X9_mean_L4 hd h1 (fun s2 e2 => by cases e2) (fun t e2 => kb t (Sum.inr.inj e2)) trivial
def f_X9_mean (n0 : Nat) (M : zM) : Option (Int × zM) :=
  (zlp (fun s : Int × Int => f_X9_mean_L4 n0 s.1 s.2 M) zF (0, 0)).bind fun y3 =>
    if ¬ zw (M 23 n0 8) = 0 then
      if zw (M 23 n0 8) = 0 then
        none
      else
        some ((Int.tdiv (zw y3) (zw (M 23 n0 8))), M)
    else
      some ((-1), M)
theorem g_X9_mean {n0 : Nat} {M : zM} {q : Int × zM} {d : Nat} (hd : 0 ≤ d) (h : f_X9_mean n0 M = some q) : zG 63 d (0, [some (zr 23 n0), none, none], [], M) (some (zi q.1)) q.2 := by
  have hm := zmok_63
  unfold f_X9_mean at h
  refine zG_run hm 4 (cf' := (4, [some (zr 23 n0), some (zi 0), some (zi 0)], [], M)) rfl ?_
  refine zG_sub (lv' := [some (zr 23 n0), some (zi 0), some (zi 0)]) (zsb_s rfl (zsb_s rfl (zsb_s rfl zsb_0))) ?_
  obtain ⟨y3, hy3, h⟩ := Option.bind_eq_some_iff.mp h
  refine gl_X9_mean_L4 hd (fun t e2 => ?_) trivial zF (0, 0) hy3
  cases e2
  refine zG_run hm 2 (cf' := (31, [some (zr 23 n0), some (zi y3), none], [zi (M 23 n0 8)], M)) rfl ?_
  by_cases c5 : ¬ zw (M 23 n0 8) = 0
  · rw [if_pos c5] at h
    refine zG_br hm rfl (cf' := (38, [some (zr 23 n0), some (zi y3), none], [], M)) (if_pos c5) ?_
    refine zG_run hm 3 (cf' := (43, [some (zr 23 n0), some (zi y3), none], [zi (M 23 n0 8), zi y3], M)) rfl ?_
    by_cases c4 : zw (M 23 n0 8) = 0
    · rw [if_pos c4] at h
      cases h
    · rw [if_neg c4] at h
      refine zG_br hm rfl (cf' := (44, [some (zr 23 n0), some (zi y3), none], [zi (Int.tdiv (zw y3) (zw (M 23 n0 8)))], M)) (if_neg c4) ?_
      cases h
      exact zG_ri hm rfl rfl
  · rw [if_neg c5] at h
    refine zG_br hm rfl (cf' := (34, [some (zr 23 n0), some (zi y3), none], [], M)) (if_neg c5) ?_
    refine zG_run hm 2 (cf' := (44, [some (zr 23 n0), some (zi y3), none], [zi (-1)], M)) rfl ?_
    cases h
    exact zG_ri hm rfl rfl
theorem met_X9_mean {n0 : Nat} {M : zM} {q : Int × zM} {d : Nat} (hd : 0 ≤ d) (h : f_X9_mean n0 M = some q) : zMet 63 d [zr 23 n0] M (some (zi q.1)) q.2 :=
  zMet_of (lv0 := [some (zr 23 n0), none, none]) zmok_63 rfl rfl (fun v hv => by cases hv; trivial) (g_X9_mean hd h)
def f_X9_outcome (n0 : Nat) (v1 : Int) (M : zM) : Option (Int × zM) :=
  if zw v1 = 0 then
    (f_X9_middle n0 M).bind fun p1 =>
      some (p1.1, p1.2)
  else
    (f_X9_mean n0 M).bind fun p2 =>
      some (p2.1, p2.2)
theorem g_X9_outcome {n0 : Nat} {v1 : Int} {M : zM} {q : Int × zM} {d : Nat} (hd : 1 ≤ d) (h : f_X9_outcome n0 v1 M = some q) : zG 62 d (0, [some (zr 23 n0), some (zi v1)], [], M) (some (zi q.1)) q.2 := by
  have hm := zmok_62
  unfold f_X9_outcome at h
  refine zG_run hm 1 (cf' := (1, [some (zr 23 n0), some (zi v1)], [zi v1], M)) rfl ?_
  by_cases c3 : zw v1 = 0
  · rw [if_pos c3] at h
    refine zG_br hm rfl (cf' := (11, [some (zr 23 n0), some (zi v1)], [], M)) (if_pos c3) ?_
    refine zG_run hm 1 (cf' := (12, [some (zr 23 n0), some (zi v1)], [zr 23 n0], M)) rfl ?_
    obtain ⟨p1, hp1, h⟩ := Option.bind_eq_some_iff.mp h
    refine zG_V hm zmok_64 rfl (as := []) (rest := []) (st2 := [zi p1.1]) (pc2 := 15) rfl rfl (by omega) (met_X9_middle (d := 0) (Nat.le_refl _) hp1) rfl ?_
    cases h
    exact zG_ri hm rfl rfl
  · rw [if_neg c3] at h
    refine zG_br hm rfl (cf' := (4, [some (zr 23 n0), some (zi v1)], [], M)) (if_neg c3) ?_
    refine zG_run hm 1 (cf' := (5, [some (zr 23 n0), some (zi v1)], [zr 23 n0], M)) rfl ?_
    obtain ⟨p2, hp2, h⟩ := Option.bind_eq_some_iff.mp h
    refine zG_V hm zmok_63 rfl (as := []) (rest := []) (st2 := [zi p2.1]) (pc2 := 8) rfl rfl (by omega) (met_X9_mean (d := 0) (Nat.le_refl _) hp2) rfl ?_
    refine zG_run hm 1 (cf' := (15, [some (zr 23 n0), some (zi v1)], [zi p2.1], p2.2)) rfl ?_
    cases h
    exact zG_ri hm rfl rfl
theorem met_X9_outcome {n0 : Nat} {v1 : Int} {M : zM} {q : Int × zM} {d : Nat} (hd : 1 ≤ d) (h : f_X9_outcome n0 v1 M = some q) : zMet 62 d [zr 23 n0, zi v1] M (some (zi q.1)) q.2 :=
  zMet_of (lv0 := [some (zr 23 n0), some (zi v1)]) zmok_62 rfl rfl (fun v hv => by cases hv; trivial) (g_X9_outcome hd h)
def f_X10_voted (v1 : Int) (M : zM) : Option (Int × zM) :=
  if ¬ zw (M 23 0 8) = 0 then
    (f_X9_outcome 0 v1 M).bind fun p1 =>
      some (p1.1, p1.2)
  else
    some ((-1), M)
theorem g_X10_voted {v1 : Int} {M : zM} {q : Int × zM} {d : Nat} (hd : 2 ≤ d) (h : f_X10_voted v1 M = some q) : zG 100 d (0, [some (zr 0 0), some (zi v1)], [], M) (some (zi q.1)) q.2 := by
  have hm := zmok_100
  unfold f_X10_voted at h
  refine zG_run hm 3 (cf' := (7, [some (zr 0 0), some (zi v1)], [zi (M 23 0 8)], M)) rfl ?_
  by_cases c2 : ¬ zw (M 23 0 8) = 0
  · rw [if_pos c2] at h
    refine zG_br hm rfl (cf' := (14, [some (zr 0 0), some (zi v1)], [], M)) (if_pos c2) ?_
    refine zG_run hm 3 (cf' := (19, [some (zr 0 0), some (zi v1)], [zi v1, zr 23 0], M)) rfl ?_
    obtain ⟨p1, hp1, h⟩ := Option.bind_eq_some_iff.mp h
    refine zG_V hm zmok_62 rfl (as := [zi v1]) (rest := []) (st2 := [zi p1.1]) (pc2 := 22) rfl rfl (by omega) (met_X9_outcome (d := 1) (Nat.le_refl _) hp1) rfl ?_
    cases h
    exact zG_ri hm rfl rfl
  · rw [if_neg c2] at h
    refine zG_br hm rfl (cf' := (10, [some (zr 0 0), some (zi v1)], [], M)) (if_neg c2) ?_
    refine zG_run hm 2 (cf' := (22, [some (zr 0 0), some (zi v1)], [zi (-1)], M)) rfl ?_
    cases h
    exact zG_ri hm rfl rfl
theorem met_X10_voted {v1 : Int} {M : zM} {q : Int × zM} {d : Nat} (hd : 2 ≤ d) (h : f_X10_voted v1 M = some q) : zMet 100 d [zr 0 0, zi v1] M (some (zi q.1)) q.2 :=
  zMet_of (lv0 := [some (zr 0 0), some (zi v1)]) zmok_100 rfl rfl (fun v hv => by cases hv; trivial) (g_X10_voted hd h)
def f_X11_votedBy_j40 (v1 : Int) (v2 : Int) (v3 : Int) (v5 : Int) (vs0 : Int) (vs1 : Int) (M : zM) : Option ((Int × Int) ⊕ (Int)) :=
  some (.inl ((vs1 + vs0), (v5 + 1)))
theorem g_X11_votedBy_j40 {v1 : Int} {v2 : Int} {v3 : Int} {v5 : Int} {vs0 : Int} {vs1 : Int} {M : zM} {x : (Int × Int) ⊕ (Int)} {r : Option zV} {Mf : zM} {d : Nat} (hd : 0 ≤ d) (h : f_X11_votedBy_j40 v1 v2 v3 v5 vs0 vs1 M = some x)
    (kc : ∀ s, x = .inl s → zG 215 d (6, [some (zr 42 0), some (zi v1), some (zi v2), some (zi v3), some (zi s.1), some (zi s.2), none, none], [], M) r Mf)
    (kb : ∀ t, x = .inr t → zG 215 d (49, [some (zr 42 0), some (zi v1), some (zi v2), some (zi v3), some (zi t), none, none, none], [], M) r Mf) (kr : True) : zG 215 d (40, [some (zr 42 0), some (zi v1), some (zi v2), some (zi v3), none, some (zi v5), none, none], [zi vs0, zi vs1], M) r Mf := by
  have hm := zmok_215
  unfold f_X11_votedBy_j40 at h
  refine zG_run hm 4 (cf' := (6, [some (zr 42 0), some (zi v1), some (zi v2), some (zi v3), some (zi (vs1 + vs0)), some (zi (v5 + 1)), none, none], [], M)) rfl ?_
  refine zG_sub (lv' := [some (zr 42 0), some (zi v1), some (zi v2), some (zi v3), some (zi (vs1 + vs0)), some (zi (v5 + 1)), none, none]) (zsb_s rfl (zsb_s rfl (zsb_s rfl (zsb_s rfl (zsb_s rfl (zsb_s rfl (zsb_n (zsb_n zsb_0)))))))) ?_
  exact kc ((vs1 + vs0), (v5 + 1)) (Option.some.inj h).symm
def f_X11_votedBy_L6 (v1 : Int) (v2 : Int) (v3 : Int) (v4 : Int) (v5 : Int) (M : zM) : Option ((Int × Int) ⊕ (Int)) :=
  if zw (M 43 0 7) ≤ zw v5 then
    some (.inr v4)
  else
    if ¬ zw v5 = zw v1 then
      if 0 ≤ zw (48 + v5) ∧ zw (48 + v5) < 5090 then
        f_X11_votedBy_j40 v1 v2 v3 v5 (M 43 0 (zix (48 + v5))) v4 M
      else
        none
    else
      f_X11_votedBy_j40 v1 v2 v3 v5 v2 v4 M
theorem g_X11_votedBy_L6 {v1 : Int} {v2 : Int} {v3 : Int} {v4 : Int} {v5 : Int} {M : zM} {x : (Int × Int) ⊕ (Int)} {r : Option zV} {Mf : zM} {d : Nat} (hd : 0 ≤ d) (h : f_X11_votedBy_L6 v1 v2 v3 v4 v5 M = some x)
    (kc : ∀ s, x = .inl s → zG 215 d (6, [some (zr 42 0), some (zi v1), some (zi v2), some (zi v3), some (zi s.1), some (zi s.2), none, none], [], M) r Mf)
    (kb : ∀ t, x = .inr t → zG 215 d (49, [some (zr 42 0), some (zi v1), some (zi v2), some (zi v3), some (zi t), none, none, none], [], M) r Mf) (kr : True) : zG 215 d (6, [some (zr 42 0), some (zi v1), some (zi v2), some (zi v3), some (zi v4), some (zi v5), none, none], [], M) r Mf := by
  have hm := zmok_215
  unfold f_X11_votedBy_L6 at h
  refine zG_run hm 5 (cf' := (15, [some (zr 42 0), some (zi v1), some (zi v2), some (zi v3), some (zi v4), some (zi v5), none, none], [zi (M 43 0 7), zi v5], M)) rfl ?_
  by_cases c3 : zw (M 43 0 7) ≤ zw v5
  · rw [if_pos c3] at h
    refine zG_br hm rfl (cf' := (49, [some (zr 42 0), some (zi v1), some (zi v2), some (zi v3), some (zi v4), some (zi v5), none, none], [], M)) (if_pos c3) ?_
    refine zG_sub (lv' := [some (zr 42 0), some (zi v1), some (zi v2), some (zi v3), some (zi v4), none, none, none]) (zsb_s rfl (zsb_s rfl (zsb_s rfl (zsb_s rfl (zsb_s rfl (zsb_n (zsb_n (zsb_n zsb_0)))))))) ?_
    exact kb v4 (Option.some.inj h).symm
  · rw [if_neg c3] at h
    refine zG_br hm rfl (cf' := (18, [some (zr 42 0), some (zi v1), some (zi v2), some (zi v3), some (zi v4), some (zi v5), none, none], [], M)) (if_neg c3) ?_
    refine zG_run hm 3 (cf' := (23, [some (zr 42 0), some (zi v1), some (zi v2), some (zi v3), some (zi v4), some (zi v5), none, none], [zi v1, zi v5, zi v4], M)) rfl ?_
    by_cases c2 : ¬ zw v5 = zw v1
    · rw [if_pos c2] at h
      refine zG_br hm rfl (cf' := (30, [some (zr 42 0), some (zi v1), some (zi v2), some (zi v3), some (zi v4), some (zi v5), none, none], [zi v4], M)) (if_pos c2) ?_
      refine zG_run hm 5 (cf' := (39, [some (zr 42 0), some (zi v1), some (zi v2), some (zi v3), some (zi v4), some (zi v5), none, none], [zi (48 + v5), zr 43 0, zi v4], M)) rfl ?_
      by_cases c1 : 0 ≤ zw (48 + v5) ∧ zw (48 + v5) < 5090
      · rw [if_pos c1] at h
        refine zG_br hm rfl (cf' := (40, [some (zr 42 0), some (zi v1), some (zi v2), some (zi v3), some (zi v4), some (zi v5), none, none], [zi (M 43 0 (zix (48 + v5))), zi v4], M)) (if_pos c1) ?_
        refine zG_sub (lv' := [some (zr 42 0), some (zi v1), some (zi v2), some (zi v3), none, some (zi v5), none, none]) (zsb_s rfl (zsb_s rfl (zsb_s rfl (zsb_s rfl (zsb_n (zsb_s rfl (zsb_n (zsb_n zsb_0)))))))) ?_
        exact g_X11_votedBy_j40 hd h kc kb kr
      · rw [if_neg c1] at h
        cases h
    · rw [if_neg c2] at h
      refine zG_br hm rfl (cf' := (26, [some (zr 42 0), some (zi v1), some (zi v2), some (zi v3), some (zi v4), some (zi v5), none, none], [zi v4], M)) (if_neg c2) ?_
      refine zG_run hm 2 (cf' := (40, [some (zr 42 0), some (zi v1), some (zi v2), some (zi v3), some (zi v4), some (zi v5), none, none], [zi v2, zi v4], M)) rfl ?_
      refine zG_sub (lv' := [some (zr 42 0), some (zi v1), some (zi v2), some (zi v3), none, some (zi v5), none, none]) (zsb_s rfl (zsb_s rfl (zsb_s rfl (zsb_s rfl (zsb_n (zsb_s rfl (zsb_n (zsb_n zsb_0)))))))) ?_
      exact g_X11_votedBy_j40 hd h kc kb kr
theorem gl_X11_votedBy_L6 {v1 : Int} {v2 : Int} {v3 : Int} {M : zM} {y : Int} {r : Option zV} {Mf : zM} {d : Nat} (hd : 0 ≤ d)
    (kb : ∀ t, y = t → zG 215 d (49, [some (zr 42 0), some (zi v1), some (zi v2), some (zi v3), some (zi t), none, none, none], [], M) r Mf) (kr : True) : ∀ (n : Nat) (s : Int × Int), zlp (fun s : Int × Int => f_X11_votedBy_L6 v1 v2 v3 s.1 s.2 M) n s = some y → zG 215 d (6, [some (zr 42 0), some (zi v1), some (zi v2), some (zi v3), some (zi s.1), some (zi s.2), none, none], [], M) r Mf := by
  intro n
  induction n with
  | zero => intro s h; cases h
  | succ n ih =>
    intro s h
    rcases zlp_cases h with ⟨s', h1, h2⟩ | h1
    · exact g_X11_votedBy_L6 hd h1 (fun s2 e2 => by cases e2; exact ih _ h2) (fun t e2 => by cases e2) trivial
    · exact g_X11_votedBy_L6 hd h1 (fun s2 e2 => by cases e2) (fun t e2 => kb t (Sum.inr.inj e2)) trivial
def f_X11_votedBy_j134 (v1 : Int) (v2 : Int) (v5 : Int) (v7 : Int) (vs0 : Int) (vs1 : Int) (M : zM) : Option ((Int × Int) ⊕ (Int)) :=
  some (.inl ((vs1 + vs0), (v7 + 1)))
theorem g_X11_votedBy_j134 {v1 : Int} {v2 : Int} {v5 : Int} {v7 : Int} {vs0 : Int} {vs1 : Int} {M : zM} {x : (Int × Int) ⊕ (Int)} {r : Option zV} {Mf : zM} {d : Nat} (hd : 0 ≤ d) (h : f_X11_votedBy_j134 v1 v2 v5 v7 vs0 vs1 M = some x)
    (kc : ∀ s, x = .inl s → zG 215 d (90, [some (zr 42 0), some (zi v1), some (zi v2), none, none, some (zi v5), some (zi s.1), some (zi s.2)], [], M) r Mf)
    (kb : ∀ t, x = .inr t → zG 215 d (143, [some (zr 42 0), some (zi v1), some (zi v2), none, none, some (zi v5), some (zi t), none], [], M) r Mf) (kr : True) : zG 215 d (134, [some (zr 42 0), some (zi v1), some (zi v2), none, none, some (zi v5), none, some (zi v7)], [zi vs0, zi vs1], M) r Mf := by
  have hm := zmok_215
  unfold f_X11_votedBy_j134 at h
  refine zG_run hm 4 (cf' := (90, [some (zr 42 0), some (zi v1), some (zi v2), none, none, some (zi v5), some (zi (vs1 + vs0)), some (zi (v7 + 1))], [], M)) rfl ?_
  refine zG_sub (lv' := [some (zr 42 0), some (zi v1), some (zi v2), none, none, some (zi v5), some (zi (vs1 + vs0)), some (zi (v7 + 1))]) (zsb_s rfl (zsb_s rfl (zsb_s rfl (zsb_n (zsb_n (zsb_s rfl (zsb_s rfl (zsb_s rfl zsb_0)))))))) ?_
  exact kc ((vs1 + vs0), (v7 + 1)) (Option.some.inj h).symm
def f_X11_votedBy_j124 (v1 : Int) (v2 : Int) (v5 : Int) (v7 : Int) (vs0 : Int) (vs1 : Int) (M : zM) : Option ((Int × Int) ⊕ (Int)) :=
  if zw v5 < zw vs0 then
    f_X11_votedBy_j134 v1 v2 v5 v7 0 vs1 M
  else
    f_X11_votedBy_j134 v1 v2 v5 v7 1 vs1 M
theorem g_X11_votedBy_j124 {v1 : Int} {v2 : Int} {v5 : Int} {v7 : Int} {vs0 : Int} {vs1 : Int} {M : zM} {x : (Int × Int) ⊕ (Int)} {r : Option zV} {Mf : zM} {d : Nat} (hd : 0 ≤ d) (h : f_X11_votedBy_j124 v1 v2 v5 v7 vs0 vs1 M = some x)
    (kc : ∀ s, x = .inl s → zG 215 d (90, [some (zr 42 0), some (zi v1), some (zi v2), none, none, some (zi v5), some (zi s.1), some (zi s.2)], [], M) r Mf)
    (kb : ∀ t, x = .inr t → zG 215 d (143, [some (zr 42 0), some (zi v1), some (zi v2), none, none, some (zi v5), some (zi t), none], [], M) r Mf) (kr : True) : zG 215 d (124, [some (zr 42 0), some (zi v1), some (zi v2), none, none, some (zi v5), none, some (zi v7)], [zi vs0, zi vs1], M) r Mf := by
  have hm := zmok_215
  unfold f_X11_votedBy_j124 at h
  refine zG_run hm 1 (cf' := (126, [some (zr 42 0), some (zi v1), some (zi v2), none, none, some (zi v5), none, some (zi v7)], [zi v5, zi vs0, zi vs1], M)) rfl ?_
  by_cases c5 : zw v5 < zw vs0
  · rw [if_pos c5] at h
    refine zG_br hm rfl (cf' := (133, [some (zr 42 0), some (zi v1), some (zi v2), none, none, some (zi v5), none, some (zi v7)], [zi vs1], M)) (if_pos c5) ?_
    refine zG_run hm 1 (cf' := (134, [some (zr 42 0), some (zi v1), some (zi v2), none, none, some (zi v5), none, some (zi v7)], [zi 0, zi vs1], M)) rfl ?_
    refine zG_sub (lv' := [some (zr 42 0), some (zi v1), some (zi v2), none, none, some (zi v5), none, some (zi v7)]) (zsb_s rfl (zsb_s rfl (zsb_s rfl (zsb_n (zsb_n (zsb_s rfl (zsb_n (zsb_s rfl zsb_0)))))))) ?_
    exact g_X11_votedBy_j134 hd h kc kb kr
  · rw [if_neg c5] at h
    refine zG_br hm rfl (cf' := (129, [some (zr 42 0), some (zi v1), some (zi v2), none, none, some (zi v5), none, some (zi v7)], [zi vs1], M)) (if_neg c5) ?_
    refine zG_run hm 2 (cf' := (134, [some (zr 42 0), some (zi v1), some (zi v2), none, none, some (zi v5), none, some (zi v7)], [zi 1, zi vs1], M)) rfl ?_
    refine zG_sub (lv' := [some (zr 42 0), some (zi v1), some (zi v2), none, none, some (zi v5), none, some (zi v7)]) (zsb_s rfl (zsb_s rfl (zsb_s rfl (zsb_n (zsb_n (zsb_s rfl (zsb_n (zsb_s rfl zsb_0)))))))) ?_
    exact g_X11_votedBy_j134 hd h kc kb kr
def f_X11_votedBy_L90 (v1 : Int) (v2 : Int) (v5 : Int) (v6 : Int) (v7 : Int) (M : zM) : Option ((Int × Int) ⊕ (Int)) :=
  if zw (M 43 0 7) ≤ zw v7 then
    some (.inr v6)
  else
    if ¬ zw v7 = zw v1 then
      if 0 ≤ zw (48 + v7) ∧ zw (48 + v7) < 5090 then
        f_X11_votedBy_j124 v1 v2 v5 v7 (M 43 0 (zix (48 + v7))) v6 M
      else
        none
    else
      f_X11_votedBy_j124 v1 v2 v5 v7 v2 v6 M
theorem g_X11_votedBy_L90 {v1 : Int} {v2 : Int} {v5 : Int} {v6 : Int} {v7 : Int} {M : zM} {x : (Int × Int) ⊕ (Int)} {r : Option zV} {Mf : zM} {d : Nat} (hd : 0 ≤ d) (h : f_X11_votedBy_L90 v1 v2 v5 v6 v7 M = some x)
    (kc : ∀ s, x = .inl s → zG 215 d (90, [some (zr 42 0), some (zi v1), some (zi v2), none, none, some (zi v5), some (zi s.1), some (zi s.2)], [], M) r Mf)
    (kb : ∀ t, x = .inr t → zG 215 d (143, [some (zr 42 0), some (zi v1), some (zi v2), none, none, some (zi v5), some (zi t), none], [], M) r Mf) (kr : True) : zG 215 d (90, [some (zr 42 0), some (zi v1), some (zi v2), none, none, some (zi v5), some (zi v6), some (zi v7)], [], M) r Mf := by
  have hm := zmok_215
  unfold f_X11_votedBy_L90 at h
  refine zG_run hm 5 (cf' := (99, [some (zr 42 0), some (zi v1), some (zi v2), none, none, some (zi v5), some (zi v6), some (zi v7)], [zi (M 43 0 7), zi v7], M)) rfl ?_
  by_cases c8 : zw (M 43 0 7) ≤ zw v7
  · rw [if_pos c8] at h
    refine zG_br hm rfl (cf' := (143, [some (zr 42 0), some (zi v1), some (zi v2), none, none, some (zi v5), some (zi v6), some (zi v7)], [], M)) (if_pos c8) ?_
    refine zG_sub (lv' := [some (zr 42 0), some (zi v1), some (zi v2), none, none, some (zi v5), some (zi v6), none]) (zsb_s rfl (zsb_s rfl (zsb_s rfl (zsb_n (zsb_n (zsb_s rfl (zsb_s rfl (zsb_n zsb_0)))))))) ?_
    exact kb v6 (Option.some.inj h).symm
  · rw [if_neg c8] at h
    refine zG_br hm rfl (cf' := (102, [some (zr 42 0), some (zi v1), some (zi v2), none, none, some (zi v5), some (zi v6), some (zi v7)], [], M)) (if_neg c8) ?_
    refine zG_run hm 3 (cf' := (107, [some (zr 42 0), some (zi v1), some (zi v2), none, none, some (zi v5), some (zi v6), some (zi v7)], [zi v1, zi v7, zi v6], M)) rfl ?_
    by_cases c7 : ¬ zw v7 = zw v1
    · rw [if_pos c7] at h
      refine zG_br hm rfl (cf' := (114, [some (zr 42 0), some (zi v1), some (zi v2), none, none, some (zi v5), some (zi v6), some (zi v7)], [zi v6], M)) (if_pos c7) ?_
      refine zG_run hm 5 (cf' := (123, [some (zr 42 0), some (zi v1), some (zi v2), none, none, some (zi v5), some (zi v6), some (zi v7)], [zi (48 + v7), zr 43 0, zi v6], M)) rfl ?_
      by_cases c6 : 0 ≤ zw (48 + v7) ∧ zw (48 + v7) < 5090
      · rw [if_pos c6] at h
        refine zG_br hm rfl (cf' := (124, [some (zr 42 0), some (zi v1), some (zi v2), none, none, some (zi v5), some (zi v6), some (zi v7)], [zi (M 43 0 (zix (48 + v7))), zi v6], M)) (if_pos c6) ?_
        refine zG_sub (lv' := [some (zr 42 0), some (zi v1), some (zi v2), none, none, some (zi v5), none, some (zi v7)]) (zsb_s rfl (zsb_s rfl (zsb_s rfl (zsb_n (zsb_n (zsb_s rfl (zsb_n (zsb_s rfl zsb_0)))))))) ?_
        exact g_X11_votedBy_j124 hd h kc kb kr
      · rw [if_neg c6] at h
        cases h
    · rw [if_neg c7] at h
      refine zG_br hm rfl (cf' := (110, [some (zr 42 0), some (zi v1), some (zi v2), none, none, some (zi v5), some (zi v6), some (zi v7)], [zi v6], M)) (if_neg c7) ?_
      refine zG_run hm 2 (cf' := (124, [some (zr 42 0), some (zi v1), some (zi v2), none, none, some (zi v5), some (zi v6), some (zi v7)], [zi v2, zi v6], M)) rfl ?_
      refine zG_sub (lv' := [some (zr 42 0), some (zi v1), some (zi v2), none, none, some (zi v5), none, some (zi v7)]) (zsb_s rfl (zsb_s rfl (zsb_s rfl (zsb_n (zsb_n (zsb_s rfl (zsb_n (zsb_s rfl zsb_0)))))))) ?_
      exact g_X11_votedBy_j124 hd h kc kb kr
theorem gl_X11_votedBy_L90 {v1 : Int} {v2 : Int} {v5 : Int} {M : zM} {y : Int} {r : Option zV} {Mf : zM} {d : Nat} (hd : 0 ≤ d)
    (kb : ∀ t, y = t → zG 215 d (143, [some (zr 42 0), some (zi v1), some (zi v2), none, none, some (zi v5), some (zi t), none], [], M) r Mf) (kr : True) : ∀ (n : Nat) (s : Int × Int), zlp (fun s : Int × Int => f_X11_votedBy_L90 v1 v2 v5 s.1 s.2 M) n s = some y → zG 215 d (90, [some (zr 42 0), some (zi v1), some (zi v2), none, none, some (zi v5), some (zi s.1), some (zi s.2)], [], M) r Mf := by
  intro n
  induction n with
  | zero => intro s h; cases h
  | succ n ih =>
    intro s h
    rcases zlp_cases h with ⟨s', h1, h2⟩ | h1
    · exact g_X11_votedBy_L90 hd h1 (fun s2 e2 => by cases e2; exact ih _ h2) (fun t e2 => by cases e2) trivial
    · exact g_X11_votedBy_L90 hd h1 (fun s2 e2 => by cases e2) (fun t e2 => kb t (Sum.inr.inj e2)) trivial
def f_X11_votedBy_L70 (v1 : Int) (v2 : Int) (v5 : Int) (v6 : Int) (M : zM) : Option ((Int × Int) ⊕ (Int)) :=
  if zw (M 43 0 7) ≤ zw (2 * v6) then
    some (.inr v5)
  else
    (zlp (fun s : Int × Int => f_X11_votedBy_L90 v1 v2 v5 s.1 s.2 M) zF (0, 0)).bind fun y9 =>
      some (.inl ((v5 + 1), y9))
theorem g_X11_votedBy_L70 {v1 : Int} {v2 : Int} {v5 : Int} {v6 : Int} {M : zM} {x : (Int × Int) ⊕ (Int)} {r : Option zV} {Mf : zM} {d : Nat} (hd : 0 ≤ d) (h : f_X11_votedBy_L70 v1 v2 v5 v6 M = some x)
    (kc : ∀ s, x = .inl s → zG 215 d (70, [some (zr 42 0), some (zi v1), some (zi v2), none, none, some (zi s.1), some (zi s.2), none], [], M) r Mf)
    (kb : ∀ t, x = .inr t → zG 215 d (149, [none, none, none, none, none, some (zi t), none, none], [], M) r Mf) (kr : True) : zG 215 d (70, [some (zr 42 0), some (zi v1), some (zi v2), none, none, some (zi v5), some (zi v6), none], [], M) r Mf := by
  have hm := zmok_215
  unfold f_X11_votedBy_L70 at h
  refine zG_run hm 7 (cf' := (81, [some (zr 42 0), some (zi v1), some (zi v2), none, none, some (zi v5), some (zi v6), none], [zi (M 43 0 7), zi (2 * v6)], M)) rfl ?_
  by_cases c10 : zw (M 43 0 7) ≤ zw (2 * v6)
  · rw [if_pos c10] at h
    refine zG_br hm rfl (cf' := (149, [some (zr 42 0), some (zi v1), some (zi v2), none, none, some (zi v5), some (zi v6), none], [], M)) (if_pos c10) ?_
    refine zG_sub (lv' := [none, none, none, none, none, some (zi v5), none, none]) (zsb_n (zsb_n (zsb_n (zsb_n (zsb_n (zsb_s rfl (zsb_n (zsb_n zsb_0)))))))) ?_
    exact kb v5 (Option.some.inj h).symm
  · rw [if_neg c10] at h
    refine zG_br hm rfl (cf' := (84, [some (zr 42 0), some (zi v1), some (zi v2), none, none, some (zi v5), some (zi v6), none], [], M)) (if_neg c10) ?_
    refine zG_run hm 4 (cf' := (90, [some (zr 42 0), some (zi v1), some (zi v2), none, none, some (zi v5), some (zi 0), some (zi 0)], [], M)) rfl ?_
    refine zG_sub (lv' := [some (zr 42 0), some (zi v1), some (zi v2), none, none, some (zi v5), some (zi 0), some (zi 0)]) (zsb_s rfl (zsb_s rfl (zsb_s rfl (zsb_n (zsb_n (zsb_s rfl (zsb_s rfl (zsb_s rfl zsb_0)))))))) ?_
    obtain ⟨y9, hy9, h⟩ := Option.bind_eq_some_iff.mp h
    refine gl_X11_votedBy_L90 hd (fun t e2 => ?_) trivial zF (0, 0) hy9
    cases e2
    refine zG_run hm 2 (cf' := (70, [some (zr 42 0), some (zi v1), some (zi v2), none, none, some (zi (v5 + 1)), some (zi y9), none], [], M)) rfl ?_
    refine zG_sub (lv' := [some (zr 42 0), some (zi v1), some (zi v2), none, none, some (zi (v5 + 1)), some (zi y9), none]) (zsb_s rfl (zsb_s rfl (zsb_s rfl (zsb_n (zsb_n (zsb_s rfl (zsb_s rfl (zsb_n zsb_0)))))))) ?_
    exact kc ((v5 + 1), y9) (Option.some.inj h).symm
theorem gl_X11_votedBy_L70 {v1 : Int} {v2 : Int} {M : zM} {y : Int} {r : Option zV} {Mf : zM} {d : Nat} (hd : 0 ≤ d)
    (kb : ∀ t, y = t → zG 215 d (149, [none, none, none, none, none, some (zi t), none, none], [], M) r Mf) (kr : True) : ∀ (n : Nat) (s : Int × Int), zlp (fun s : Int × Int => f_X11_votedBy_L70 v1 v2 s.1 s.2 M) n s = some y → zG 215 d (70, [some (zr 42 0), some (zi v1), some (zi v2), none, none, some (zi s.1), some (zi s.2), none], [], M) r Mf := by
  intro n
  induction n with
  | zero => intro s h; cases h
  | succ n ih =>
    intro s h
    rcases zlp_cases h with ⟨s', h1, h2⟩ | h1
    · exact g_X11_votedBy_L70 hd h1 (fun s2 e2 => by cases e2; exact ih _ h2) (fun t e2 => by cases e2) trivial
    · exact g_X11_votedBy_L70 hd h1 (fun s2 e2 => by cases e2) (fun t e2 => kb t (Sum.inr.inj e2)) trivial
def f_X11_votedBy (v1 : Int) (v2 : Int) (v3 : Int) (M : zM) : Option (Int × zM) :=
  (zlp (fun s : Int × Int => f_X11_votedBy_L6 v1 v2 v3 s.1 s.2 M) zF (0, 0)).bind fun y4 =>
    if zw v3 = 0 then
      (zlp (fun s : Int × Int => f_X11_votedBy_L70 v1 v2 s.1 s.2 M) zF (0, 0)).bind fun y11 =>
        some ((y11 - 1), M)
    else
      if zw (M 43 0 7) = 0 then
        none
      else
        some ((Int.tdiv (zw y4) (zw (M 43 0 7))), M)
theorem g_X11_votedBy {v1 : Int} {v2 : Int} {v3 : Int} {M : zM} {q : Int × zM} {d : Nat} (hd : 0 ≤ d) (h : f_X11_votedBy v1 v2 v3 M = some q) : zG 215 d (0, [some (zr 42 0), some (zi v1), some (zi v2), some (zi v3), none, none, none, none], [], M) (some (zi q.1)) q.2 := by
  have hm := zmok_215
  unfold f_X11_votedBy at h
  refine zG_run hm 4 (cf' := (6, [some (zr 42 0), some (zi v1), some (zi v2), some (zi v3), some (zi 0), some (zi 0), none, none], [], M)) rfl ?_
  refine zG_sub (lv' := [some (zr 42 0), some (zi v1), some (zi v2), some (zi v3), some (zi 0), some (zi 0), none, none]) (zsb_s rfl (zsb_s rfl (zsb_s rfl (zsb_s rfl (zsb_s rfl (zsb_s rfl (zsb_n (zsb_n zsb_0)))))))) ?_
  obtain ⟨y4, hy4, h⟩ := Option.bind_eq_some_iff.mp h
  refine gl_X11_votedBy_L6 hd (fun t e2 => ?_) trivial zF (0, 0) hy4
  cases e2
  refine zG_run hm 1 (cf' := (50, [some (zr 42 0), some (zi v1), some (zi v2), some (zi v3), some (zi y4), none, none, none], [zi v3], M)) rfl ?_
  by_cases c13 : zw v3 = 0
  · rw [if_pos c13] at h
    refine zG_br hm rfl (cf' := (64, [some (zr 42 0), some (zi v1), some (zi v2), some (zi v3), some (zi y4), none, none, none], [], M)) (if_pos c13) ?_
    refine zG_run hm 4 (cf' := (70, [some (zr 42 0), some (zi v1), some (zi v2), some (zi v3), some (zi y4), some (zi 0), some (zi 0), none], [], M)) rfl ?_
    refine zG_sub (lv' := [some (zr 42 0), some (zi v1), some (zi v2), none, none, some (zi 0), some (zi 0), none]) (zsb_s rfl (zsb_s rfl (zsb_s rfl (zsb_n (zsb_n (zsb_s rfl (zsb_s rfl (zsb_n zsb_0)))))))) ?_
    obtain ⟨y11, hy11, h⟩ := Option.bind_eq_some_iff.mp h
    refine gl_X11_votedBy_L70 hd (fun t e2 => ?_) trivial zF (0, 0) hy11
    cases e2
    refine zG_run hm 3 (cf' := (153, [none, none, none, none, none, some (zi y11), none, none], [zi (y11 - 1)], M)) rfl ?_
    cases h
    exact zG_ri hm rfl rfl
  · rw [if_neg c13] at h
    refine zG_br hm rfl (cf' := (53, [some (zr 42 0), some (zi v1), some (zi v2), some (zi v3), some (zi y4), none, none, none], [], M)) (if_neg c13) ?_
    refine zG_run hm 5 (cf' := (62, [some (zr 42 0), some (zi v1), some (zi v2), some (zi v3), some (zi y4), none, none, none], [zi (M 43 0 7), zi y4], M)) rfl ?_
    by_cases c12 : zw (M 43 0 7) = 0
    · rw [if_pos c12] at h
      cases h
    · rw [if_neg c12] at h
      refine zG_br hm rfl (cf' := (63, [some (zr 42 0), some (zi v1), some (zi v2), some (zi v3), some (zi y4), none, none, none], [zi (Int.tdiv (zw y4) (zw (M 43 0 7)))], M)) (if_neg c12) ?_
      cases h
      exact zG_ri hm rfl rfl
theorem met_X11_votedBy {v1 : Int} {v2 : Int} {v3 : Int} {M : zM} {q : Int × zM} {d : Nat} (hd : 0 ≤ d) (h : f_X11_votedBy v1 v2 v3 M = some q) : zMet 215 d [zr 42 0, zi v1, zi v2, zi v3] M (some (zi q.1)) q.2 :=
  zMet_of (lv0 := [some (zr 42 0), some (zi v1), some (zi v2), some (zi v3), none, none, none, none]) zmok_215 rfl rfl (fun v hv => by cases hv; trivial) (g_X11_votedBy hd h)
def f_X11_voted (v1 : Int) (M : zM) : Option (Int × zM) :=
  if ¬ zw (M 43 0 7) = 0 then
    (f_X11_votedBy (-1) 0 v1 M).bind fun p1 =>
      some (p1.1, p1.2)
  else
    some ((-1), M)
theorem g_X11_voted {v1 : Int} {M : zM} {q : Int × zM} {d : Nat} (hd : 1 ≤ d) (h : f_X11_voted v1 M = some q) : zG 216 d (0, [some (zr 42 0), some (zi v1)], [], M) (some (zi q.1)) q.2 := by
  have hm := zmok_216
  unfold f_X11_voted at h
  refine zG_run hm 4 (cf' := (7, [some (zr 42 0), some (zi v1)], [zi (M 43 0 7)], M)) rfl ?_
  by_cases c2 : ¬ zw (M 43 0 7) = 0
  · rw [if_pos c2] at h
    refine zG_br hm rfl (cf' := (14, [some (zr 42 0), some (zi v1)], [], M)) (if_pos c2) ?_
    refine zG_run hm 4 (cf' := (18, [some (zr 42 0), some (zi v1)], [zi v1, zi 0, zi (-1), zr 42 0], M)) rfl ?_
    obtain ⟨p1, hp1, h⟩ := Option.bind_eq_some_iff.mp h
    refine zG_V hm zmok_215 rfl (as := [zi (-1), zi 0, zi v1]) (rest := []) (st2 := [zi p1.1]) (pc2 := 21) rfl rfl (by omega) (met_X11_votedBy (d := 0) (Nat.le_refl _) hp1) rfl ?_
    cases h
    exact zG_ri hm rfl rfl
  · rw [if_neg c2] at h
    refine zG_br hm rfl (cf' := (10, [some (zr 42 0), some (zi v1)], [], M)) (if_neg c2) ?_
    refine zG_run hm 2 (cf' := (21, [some (zr 42 0), some (zi v1)], [zi (-1)], M)) rfl ?_
    cases h
    exact zG_ri hm rfl rfl
theorem met_X11_voted {v1 : Int} {M : zM} {q : Int × zM} {d : Nat} (hd : 1 ≤ d) (h : f_X11_voted v1 M = some q) : zMet 216 d [zr 42 0, zi v1] M (some (zi q.1)) q.2 :=
  zMet_of (lv0 := [some (zr 42 0), some (zi v1)]) zmok_216 rfl rfl (fun v hv => by cases hv; trivial) (g_X11_voted hd h)
def f_X10_lying_L51 (v1 : Int) (v2 : Int) (v3 : Int) (v5 : Int) (v4 : Int) (v6 : Int) (M : zM) : Option ((Int × Int × zM) ⊕ (Int × zM)) :=
  if 99 < zw v6 then
    some (.inr (v4, M))
  else
    if 0 ≤ zw v1 ∧ zw v1 < 9 then
      zlet (zput M 26 0 (zix v1) v6) fun M3 =>
      (f_X9_outcome 0 v2 M3).bind fun p4 =>
        some (.inl ((if zw (if 0 ≤ zw (v3 - p4.1) then (v3 - p4.1) else 0 - (v3 - p4.1)) < zw v4 then (if 0 ≤ zw (v3 - p4.1) then (v3 - p4.1) else 0 - (v3 - p4.1)) else v4), (v6 + 1), p4.2))
    else
      none
theorem g_X10_lying_L51 {v1 : Int} {v2 : Int} {v3 : Int} {v5 : Int} {v4 : Int} {v6 : Int} {M : zM} {x : (Int × Int × zM) ⊕ (Int × zM)} {r : Option zV} {Mf : zM} {d : Nat} (hd : 2 ≤ d) (h : f_X10_lying_L51 v1 v2 v3 v5 v4 v6 M = some x)
    (kc : ∀ s, x = .inl s → zG 101 d (51, [some (zr 0 0), some (zi v1), some (zi v2), some (zi v3), some (zi s.1), some (zi v5), some (zi s.2.1)], [], s.2.2) r Mf)
    (kb : ∀ t, x = .inr t → zG 101 d (95, [some (zr 0 0), some (zi v1), none, some (zi v3), some (zi t.1), some (zi v5), none], [], t.2) r Mf) (kr : True) : zG 101 d (51, [some (zr 0 0), some (zi v1), some (zi v2), some (zi v3), some (zi v4), some (zi v5), some (zi v6)], [], M) r Mf := by
  have hm := zmok_101
  unfold f_X10_lying_L51 at h
  refine zG_run hm 2 (cf' := (55, [some (zr 0 0), some (zi v1), some (zi v2), some (zi v3), some (zi v4), some (zi v5), some (zi v6)], [zi 99, zi v6], M)) rfl ?_
  by_cases c6 : 99 < zw v6
  · rw [if_pos c6] at h
    refine zG_br hm rfl (cf' := (95, [some (zr 0 0), some (zi v1), some (zi v2), some (zi v3), some (zi v4), some (zi v5), some (zi v6)], [], M)) (if_pos c6) ?_
    refine zG_sub (lv' := [some (zr 0 0), some (zi v1), none, some (zi v3), some (zi v4), some (zi v5), none]) (zsb_s rfl (zsb_s rfl (zsb_n (zsb_s rfl (zsb_s rfl (zsb_s rfl (zsb_n zsb_0))))))) ?_
    exact kb (v4, M) (Option.some.inj h).symm
  · rw [if_neg c6] at h
    refine zG_br hm rfl (cf' := (58, [some (zr 0 0), some (zi v1), some (zi v2), some (zi v3), some (zi v4), some (zi v5), some (zi v6)], [], M)) (if_neg c6) ?_
    refine zG_run hm 5 (cf' := (68, [some (zr 0 0), some (zi v1), some (zi v2), some (zi v3), some (zi v4), some (zi v5), some (zi v6)], [zi v6, zi v1, zr 26 0], M)) rfl ?_
    by_cases c5 : 0 ≤ zw v1 ∧ zw v1 < 9
    · rw [if_pos c5] at h
      refine zG_br hm rfl (cf' := (69, [some (zr 0 0), some (zi v1), some (zi v2), some (zi v3), some (zi v4), some (zi v5), some (zi v6)], [], (zput M 26 0 (zix v1) v6))) (if_pos c5) ?_
      obtain ⟨M3, eM3, h⟩ := zlet_of h
      rw [eM3]
      refine zG_run hm 5 (cf' := (77, [some (zr 0 0), some (zi v1), some (zi v2), some (zi v3), some (zi v4), some (zi v5), some (zi v6)], [zi v2, zr 23 0, zi v3, zi v4], M3)) rfl ?_
      obtain ⟨p4, hp4, h⟩ := Option.bind_eq_some_iff.mp h
      refine zG_V hm zmok_62 rfl (as := [zi v2]) (rest := [zi v3, zi v4]) (st2 := [zi p4.1, zi v3, zi v4]) (pc2 := 80) rfl rfl (by omega) (met_X9_outcome (d := 1) (Nat.le_refl _) hp4) rfl ?_
      refine zG_run hm 1 (cf' := (81, [some (zr 0 0), some (zi v1), some (zi v2), some (zi v3), some (zi v4), some (zi v5), some (zi v6)], [zi (v3 - p4.1), zi v4], p4.2)) rfl ?_
      refine zG_abs hm rfl rfl ?_
      show zG 101 d (84, [some (zr 0 0), some (zi v1), some (zi v2), some (zi v3), some (zi v4), some (zi v5), some (zi v6)], [zi (if 0 ≤ zw (v3 - p4.1) then (v3 - p4.1) else 0 - (v3 - p4.1)), zi v4], p4.2) _ _
      refine zG_min hm rfl rfl ?_
      show zG 101 d (87, [some (zr 0 0), some (zi v1), some (zi v2), some (zi v3), some (zi v4), some (zi v5), some (zi v6)], [zi (if zw (if 0 ≤ zw (v3 - p4.1) then (v3 - p4.1) else 0 - (v3 - p4.1)) < zw v4 then (if 0 ≤ zw (v3 - p4.1) then (v3 - p4.1) else 0 - (v3 - p4.1)) else v4)], p4.2) _ _
      refine zG_run hm 3 (cf' := (51, [some (zr 0 0), some (zi v1), some (zi v2), some (zi v3), some (zi (if zw (if 0 ≤ zw (v3 - p4.1) then (v3 - p4.1) else 0 - (v3 - p4.1)) < zw v4 then (if 0 ≤ zw (v3 - p4.1) then (v3 - p4.1) else 0 - (v3 - p4.1)) else v4)), some (zi v5), some (zi (v6 + 1))], [], p4.2)) rfl ?_
      refine zG_sub (lv' := [some (zr 0 0), some (zi v1), some (zi v2), some (zi v3), some (zi (if zw (if 0 ≤ zw (v3 - p4.1) then (v3 - p4.1) else 0 - (v3 - p4.1)) < zw v4 then (if 0 ≤ zw (v3 - p4.1) then (v3 - p4.1) else 0 - (v3 - p4.1)) else v4)), some (zi v5), some (zi (v6 + 1))]) (zsb_s rfl (zsb_s rfl (zsb_s rfl (zsb_s rfl (zsb_s rfl (zsb_s rfl (zsb_s rfl zsb_0))))))) ?_
      exact kc ((if zw (if 0 ≤ zw (v3 - p4.1) then (v3 - p4.1) else 0 - (v3 - p4.1)) < zw v4 then (if 0 ≤ zw (v3 - p4.1) then (v3 - p4.1) else 0 - (v3 - p4.1)) else v4), (v6 + 1), p4.2) (Option.some.inj h).symm
    · rw [if_neg c5] at h
      cases h
theorem gl_X10_lying_L51 {v1 : Int} {v2 : Int} {v3 : Int} {v5 : Int} {y : Int × zM} {r : Option zV} {Mf : zM} {d : Nat} (hd : 2 ≤ d)
    (kb : ∀ t, y = t → zG 101 d (95, [some (zr 0 0), some (zi v1), none, some (zi v3), some (zi t.1), some (zi v5), none], [], t.2) r Mf) (kr : True) : ∀ (n : Nat) (s : Int × Int × zM), zlp (fun s : Int × Int × zM => f_X10_lying_L51 v1 v2 v3 v5 s.1 s.2.1 s.2.2) n s = some y → zG 101 d (51, [some (zr 0 0), some (zi v1), some (zi v2), some (zi v3), some (zi s.1), some (zi v5), some (zi s.2.1)], [], s.2.2) r Mf := by
  intro n
  induction n with
  | zero => intro s h; cases h
  | succ n ih =>
    intro s h
    rcases zlp_cases h with ⟨s', h1, h2⟩ | h1
    · exact g_X10_lying_L51 hd h1 (fun s2 e2 => by cases e2; exact ih _ h2) (fun t e2 => by cases e2) trivial
    · exact g_X10_lying_L51 hd h1 (fun s2 e2 => by cases e2) (fun t e2 => kb t (Sum.inr.inj e2)) trivial
def f_X10_lying (v1 : Int) (v2 : Int) (M : zM) : Option (Int × zM) :=
  (f_X10_within v1 0 ((M 23 0 8) - 1) M).bind fun p1 =>
    if ¬ zw p1.1 = 0 then
      if 0 ≤ zw v1 ∧ zw v1 < 9 then
        (f_X9_outcome 0 v2 p1.2).bind fun p2 =>
          (zlp (fun s : Int × Int × zM => f_X10_lying_L51 v1 v2 (p1.2 26 0 (zix v1)) (if 0 ≤ zw ((p1.2 26 0 (zix v1)) - p2.1) then ((p1.2 26 0 (zix v1)) - p2.1) else 0 - ((p1.2 26 0 (zix v1)) - p2.1)) s.1 s.2.1 s.2.2) zF ((if 0 ≤ zw ((p1.2 26 0 (zix v1)) - p2.1) then ((p1.2 26 0 (zix v1)) - p2.1) else 0 - ((p1.2 26 0 (zix v1)) - p2.1)), 0, p2.2)).bind fun y7 =>
            if 0 ≤ zw v1 ∧ zw v1 < 9 then
              zlet (zput y7.2 26 0 (zix v1) (p1.2 26 0 (zix v1))) fun M8 =>
              some (((if 0 ≤ zw ((p1.2 26 0 (zix v1)) - p2.1) then ((p1.2 26 0 (zix v1)) - p2.1) else 0 - ((p1.2 26 0 (zix v1)) - p2.1)) - y7.1), M8)
            else
              none
      else
        none
    else
      some ((-1), p1.2)
theorem g_X10_lying {v1 : Int} {v2 : Int} {M : zM} {q : Int × zM} {d : Nat} (hd : 2 ≤ d) (h : f_X10_lying v1 v2 M = some q) : zG 101 d (0, [some (zr 0 0), some (zi v1), some (zi v2), none, none, none, none], [], M) (some (zi q.1)) q.2 := by
  have hm := zmok_101
  unfold f_X10_lying at h
  refine zG_run hm 7 (cf' := (11, [some (zr 0 0), some (zi v1), some (zi v2), none, none, none, none], [zi ((M 23 0 8) - 1), zi 0, zi v1], M)) rfl ?_
  obtain ⟨p1, hp1, h⟩ := Option.bind_eq_some_iff.mp h
  refine zG_S hm zmok_108 rfl (as := [zi v1, zi 0, zi ((M 23 0 8) - 1)]) (rest := []) (st2 := [zi p1.1]) (pc2 := 14) rfl rfl (by omega) (met_X10_within (d := 0) (Nat.le_refl _) hp1) rfl ?_
  by_cases c11 : ¬ zw p1.1 = 0
  · rw [if_pos c11] at h
    refine zG_br hm rfl (cf' := (19, [some (zr 0 0), some (zi v1), some (zi v2), none, none, none, none], [], p1.2)) (if_pos c11) ?_
    refine zG_run hm 4 (cf' := (27, [some (zr 0 0), some (zi v1), some (zi v2), none, none, none, none], [zi v1, zr 26 0], p1.2)) rfl ?_
    by_cases c10 : 0 ≤ zw v1 ∧ zw v1 < 9
    · rw [if_pos c10] at h
      refine zG_br hm rfl (cf' := (28, [some (zr 0 0), some (zi v1), some (zi v2), none, none, none, none], [zi (p1.2 26 0 (zix v1))], p1.2)) (if_pos c10) ?_
      refine zG_run hm 5 (cf' := (35, [some (zr 0 0), some (zi v1), some (zi v2), some (zi (p1.2 26 0 (zix v1))), none, none, none], [zi v2, zr 23 0, zi (p1.2 26 0 (zix v1))], p1.2)) rfl ?_
      obtain ⟨p2, hp2, h⟩ := Option.bind_eq_some_iff.mp h
      refine zG_V hm zmok_62 rfl (as := [zi v2]) (rest := [zi (p1.2 26 0 (zix v1))]) (st2 := [zi p2.1, zi (p1.2 26 0 (zix v1))]) (pc2 := 38) rfl rfl (by omega) (met_X9_outcome (d := 1) (Nat.le_refl _) hp2) rfl ?_
      refine zG_run hm 1 (cf' := (39, [some (zr 0 0), some (zi v1), some (zi v2), some (zi (p1.2 26 0 (zix v1))), none, none, none], [zi ((p1.2 26 0 (zix v1)) - p2.1)], p2.2)) rfl ?_
      refine zG_abs hm rfl rfl ?_
      show zG 101 d (42, [some (zr 0 0), some (zi v1), some (zi v2), some (zi (p1.2 26 0 (zix v1))), none, none, none], [zi (if 0 ≤ zw ((p1.2 26 0 (zix v1)) - p2.1) then ((p1.2 26 0 (zix v1)) - p2.1) else 0 - ((p1.2 26 0 (zix v1)) - p2.1))], p2.2) _ _
      refine zG_run hm 5 (cf' := (51, [some (zr 0 0), some (zi v1), some (zi v2), some (zi (p1.2 26 0 (zix v1))), some (zi (if 0 ≤ zw ((p1.2 26 0 (zix v1)) - p2.1) then ((p1.2 26 0 (zix v1)) - p2.1) else 0 - ((p1.2 26 0 (zix v1)) - p2.1))), some (zi (if 0 ≤ zw ((p1.2 26 0 (zix v1)) - p2.1) then ((p1.2 26 0 (zix v1)) - p2.1) else 0 - ((p1.2 26 0 (zix v1)) - p2.1))), some (zi 0)], [], p2.2)) rfl ?_
      refine zG_sub (lv' := [some (zr 0 0), some (zi v1), some (zi v2), some (zi (p1.2 26 0 (zix v1))), some (zi (if 0 ≤ zw ((p1.2 26 0 (zix v1)) - p2.1) then ((p1.2 26 0 (zix v1)) - p2.1) else 0 - ((p1.2 26 0 (zix v1)) - p2.1))), some (zi (if 0 ≤ zw ((p1.2 26 0 (zix v1)) - p2.1) then ((p1.2 26 0 (zix v1)) - p2.1) else 0 - ((p1.2 26 0 (zix v1)) - p2.1))), some (zi 0)]) (zsb_s rfl (zsb_s rfl (zsb_s rfl (zsb_s rfl (zsb_s rfl (zsb_s rfl (zsb_s rfl zsb_0))))))) ?_
      obtain ⟨y7, hy7, h⟩ := Option.bind_eq_some_iff.mp h
      refine gl_X10_lying_L51 hd (fun t e2 => ?_) trivial zF ((if 0 ≤ zw ((p1.2 26 0 (zix v1)) - p2.1) then ((p1.2 26 0 (zix v1)) - p2.1) else 0 - ((p1.2 26 0 (zix v1)) - p2.1)), 0, p2.2) hy7
      cases e2
      refine zG_run hm 5 (cf' := (104, [some (zr 0 0), some (zi v1), none, some (zi (p1.2 26 0 (zix v1))), some (zi y7.1), some (zi (if 0 ≤ zw ((p1.2 26 0 (zix v1)) - p2.1) then ((p1.2 26 0 (zix v1)) - p2.1) else 0 - ((p1.2 26 0 (zix v1)) - p2.1))), none], [zi (p1.2 26 0 (zix v1)), zi v1, zr 26 0], y7.2)) rfl ?_
      by_cases c9 : 0 ≤ zw v1 ∧ zw v1 < 9
      · rw [if_pos c9] at h
        refine zG_br hm rfl (cf' := (105, [some (zr 0 0), some (zi v1), none, some (zi (p1.2 26 0 (zix v1))), some (zi y7.1), some (zi (if 0 ≤ zw ((p1.2 26 0 (zix v1)) - p2.1) then ((p1.2 26 0 (zix v1)) - p2.1) else 0 - ((p1.2 26 0 (zix v1)) - p2.1))), none], [], (zput y7.2 26 0 (zix v1) (p1.2 26 0 (zix v1))))) (if_pos c9) ?_
        obtain ⟨M8, eM8, h⟩ := zlet_of h
        rw [eM8]
        refine zG_run hm 3 (cf' := (110, [some (zr 0 0), some (zi v1), none, some (zi (p1.2 26 0 (zix v1))), some (zi y7.1), some (zi (if 0 ≤ zw ((p1.2 26 0 (zix v1)) - p2.1) then ((p1.2 26 0 (zix v1)) - p2.1) else 0 - ((p1.2 26 0 (zix v1)) - p2.1))), none], [zi ((if 0 ≤ zw ((p1.2 26 0 (zix v1)) - p2.1) then ((p1.2 26 0 (zix v1)) - p2.1) else 0 - ((p1.2 26 0 (zix v1)) - p2.1)) - y7.1)], M8)) rfl ?_
        cases h
        exact zG_ri hm rfl rfl
      · rw [if_neg c9] at h
        cases h
    · rw [if_neg c10] at h
      cases h
  · rw [if_neg c11] at h
    refine zG_br hm rfl (cf' := (17, [some (zr 0 0), some (zi v1), some (zi v2), none, none, none, none], [], p1.2)) (if_neg c11) ?_
    refine zG_run hm 1 (cf' := (18, [some (zr 0 0), some (zi v1), some (zi v2), none, none, none, none], [zi (-1)], p1.2)) rfl ?_
    cases h
    exact zG_ri hm rfl rfl
theorem met_X10_lying {v1 : Int} {v2 : Int} {M : zM} {q : Int × zM} {d : Nat} (hd : 2 ≤ d) (h : f_X10_lying v1 v2 M = some q) : zMet 101 d [zr 0 0, zi v1, zi v2] M (some (zi q.1)) q.2 :=
  zMet_of (lv0 := [some (zr 0 0), some (zi v1), some (zi v2), none, none, none, none]) zmok_101 rfl rfl (fun v hv => by cases hv; trivial) (g_X10_lying hd h)
def f_X11_away (v0 : Int) (v1 : Int) (M : zM) : Option (Int × zM) :=
  if zw v1 ≤ zw v0 then
    some ((v0 - v1), M)
  else
    some ((v1 - v0), M)
theorem g_X11_away {v0 : Int} {v1 : Int} {M : zM} {q : Int × zM} {d : Nat} (hd : 0 ≤ d) (h : f_X11_away v0 v1 M = some q) : zG 217 d (0, [some (zi v0), some (zi v1)], [], M) (some (zi q.1)) q.2 := by
  have hm := zmok_217
  unfold f_X11_away at h
  refine zG_run hm 2 (cf' := (2, [some (zi v0), some (zi v1)], [zi v1, zi v0], M)) rfl ?_
  by_cases c1 : zw v1 ≤ zw v0
  · rw [if_pos c1] at h
    refine zG_br hm rfl (cf' := (11, [some (zi v0), some (zi v1)], [], M)) (if_pos c1) ?_
    refine zG_run hm 3 (cf' := (14, [some (zi v0), some (zi v1)], [zi (v0 - v1)], M)) rfl ?_
    cases h
    exact zG_ri hm rfl rfl
  · rw [if_neg c1] at h
    refine zG_br hm rfl (cf' := (5, [some (zi v0), some (zi v1)], [], M)) (if_neg c1) ?_
    refine zG_run hm 4 (cf' := (14, [some (zi v0), some (zi v1)], [zi (v1 - v0)], M)) rfl ?_
    cases h
    exact zG_ri hm rfl rfl
theorem met_X11_away {v0 : Int} {v1 : Int} {M : zM} {q : Int × zM} {d : Nat} (hd : 0 ≤ d) (h : f_X11_away v0 v1 M = some q) : zMet 217 d [zi v0, zi v1] M (some (zi q.1)) q.2 :=
  zMet_of (lv0 := [some (zi v0), some (zi v1)]) zmok_217 rfl rfl (fun v hv => by cases hv; trivial) (g_X11_away hd h)
def f_X11_lying_j86 (v1 : Int) (v2 : Int) (v3 : Int) (v4 : Int) (v6 : Int) (vs0 : Int) (M : zM) : Option ((Int × Int × zM) ⊕ (Int × zM)) :=
  some (.inl (vs0, (v6 + 1), M))
theorem g_X11_lying_j86 {v1 : Int} {v2 : Int} {v3 : Int} {v4 : Int} {v6 : Int} {vs0 : Int} {M : zM} {x : (Int × Int × zM) ⊕ (Int × zM)} {r : Option zV} {Mf : zM} {d : Nat} (hd : 1 ≤ d) (h : f_X11_lying_j86 v1 v2 v3 v4 v6 vs0 M = some x)
    (kc : ∀ s, x = .inl s → zG 218 d (48, [some (zr 42 0), some (zi v1), some (zi v2), some (zi v3), some (zi v4), some (zi s.1), some (zi s.2.1), none], [], s.2.2) r Mf)
    (kb : ∀ t, x = .inr t → zG 218 d (94, [none, none, none, none, none, some (zi t.1), none, none], [], t.2) r Mf) (kr : True) : zG 218 d (86, [some (zr 42 0), some (zi v1), some (zi v2), some (zi v3), some (zi v4), none, some (zi v6), none], [zi vs0], M) r Mf := by
  have hm := zmok_218
  unfold f_X11_lying_j86 at h
  refine zG_run hm 3 (cf' := (48, [some (zr 42 0), some (zi v1), some (zi v2), some (zi v3), some (zi v4), some (zi vs0), some (zi (v6 + 1)), none], [], M)) rfl ?_
  refine zG_sub (lv' := [some (zr 42 0), some (zi v1), some (zi v2), some (zi v3), some (zi v4), some (zi vs0), some (zi (v6 + 1)), none]) (zsb_s rfl (zsb_s rfl (zsb_s rfl (zsb_s rfl (zsb_s rfl (zsb_s rfl (zsb_s rfl (zsb_n zsb_0)))))))) ?_
  exact kc (vs0, (v6 + 1), M) (Option.some.inj h).symm
def f_X11_lying_L48 (v1 : Int) (v2 : Int) (v3 : Int) (v4 : Int) (v5 : Int) (v6 : Int) (M : zM) : Option ((Int × Int × zM) ⊕ (Int × zM)) :=
  if 100 ≤ zw v6 then
    some (.inr (v5, M))
  else
    (f_X11_votedBy v1 v6 v2 M).bind fun p4 =>
      (f_X11_away v3 p4.1 p4.2).bind fun p5 =>
        if zw (v4 - p5.1) ≤ zw v5 then
          f_X11_lying_j86 v1 v2 v3 v4 v6 v5 p5.2
        else
          f_X11_lying_j86 v1 v2 v3 v4 v6 (v4 - p5.1) p5.2
theorem g_X11_lying_L48 {v1 : Int} {v2 : Int} {v3 : Int} {v4 : Int} {v5 : Int} {v6 : Int} {M : zM} {x : (Int × Int × zM) ⊕ (Int × zM)} {r : Option zV} {Mf : zM} {d : Nat} (hd : 1 ≤ d) (h : f_X11_lying_L48 v1 v2 v3 v4 v5 v6 M = some x)
    (kc : ∀ s, x = .inl s → zG 218 d (48, [some (zr 42 0), some (zi v1), some (zi v2), some (zi v3), some (zi v4), some (zi s.1), some (zi s.2.1), none], [], s.2.2) r Mf)
    (kb : ∀ t, x = .inr t → zG 218 d (94, [none, none, none, none, none, some (zi t.1), none, none], [], t.2) r Mf) (kr : True) : zG 218 d (48, [some (zr 42 0), some (zi v1), some (zi v2), some (zi v3), some (zi v4), some (zi v5), some (zi v6), none], [], M) r Mf := by
  have hm := zmok_218
  unfold f_X11_lying_L48 at h
  refine zG_run hm 2 (cf' := (52, [some (zr 42 0), some (zi v1), some (zi v2), some (zi v3), some (zi v4), some (zi v5), some (zi v6), none], [zi 100, zi v6], M)) rfl ?_
  by_cases c7 : 100 ≤ zw v6
  · rw [if_pos c7] at h
    refine zG_br hm rfl (cf' := (94, [some (zr 42 0), some (zi v1), some (zi v2), some (zi v3), some (zi v4), some (zi v5), some (zi v6), none], [], M)) (if_pos c7) ?_
    refine zG_sub (lv' := [none, none, none, none, none, some (zi v5), none, none]) (zsb_n (zsb_n (zsb_n (zsb_n (zsb_n (zsb_s rfl (zsb_n (zsb_n zsb_0)))))))) ?_
    exact kb (v5, M) (Option.some.inj h).symm
  · rw [if_neg c7] at h
    refine zG_br hm rfl (cf' := (55, [some (zr 42 0), some (zi v1), some (zi v2), some (zi v3), some (zi v4), some (zi v5), some (zi v6), none], [], M)) (if_neg c7) ?_
    refine zG_run hm 6 (cf' := (63, [some (zr 42 0), some (zi v1), some (zi v2), some (zi v3), some (zi v4), some (zi v5), some (zi v6), none], [zi v2, zi v6, zi v1, zr 42 0, zi v3, zi v4], M)) rfl ?_
    obtain ⟨p4, hp4, h⟩ := Option.bind_eq_some_iff.mp h
    refine zG_V hm zmok_215 rfl (as := [zi v1, zi v6, zi v2]) (rest := [zi v3, zi v4]) (st2 := [zi p4.1, zi v3, zi v4]) (pc2 := 66) rfl rfl (by omega) (met_X11_votedBy (d := 0) (Nat.le_refl _) hp4) rfl ?_
    obtain ⟨p5, hp5, h⟩ := Option.bind_eq_some_iff.mp h
    refine zG_S hm zmok_217 rfl (as := [zi v3, zi p4.1]) (rest := [zi v4]) (st2 := [zi p5.1, zi v4]) (pc2 := 69) rfl rfl (by omega) (met_X11_away (d := 0) (Nat.le_refl _) hp5) rfl ?_
    refine zG_run hm 4 (cf' := (76, [some (zr 42 0), some (zi v1), some (zi v2), some (zi v3), some (zi v4), some (zi v5), some (zi v6), some (zi (v4 - p5.1))], [zi v5, zi (v4 - p5.1)], p5.2)) rfl ?_
    by_cases c6 : zw (v4 - p5.1) ≤ zw v5
    · rw [if_pos c6] at h
      refine zG_br hm rfl (cf' := (84, [some (zr 42 0), some (zi v1), some (zi v2), some (zi v3), some (zi v4), some (zi v5), some (zi v6), some (zi (v4 - p5.1))], [], p5.2)) (if_pos c6) ?_
      refine zG_run hm 1 (cf' := (86, [some (zr 42 0), some (zi v1), some (zi v2), some (zi v3), some (zi v4), some (zi v5), some (zi v6), some (zi (v4 - p5.1))], [zi v5], p5.2)) rfl ?_
      refine zG_sub (lv' := [some (zr 42 0), some (zi v1), some (zi v2), some (zi v3), some (zi v4), none, some (zi v6), none]) (zsb_s rfl (zsb_s rfl (zsb_s rfl (zsb_s rfl (zsb_s rfl (zsb_n (zsb_s rfl (zsb_n zsb_0)))))))) ?_
      exact g_X11_lying_j86 hd h kc kb kr
    · rw [if_neg c6] at h
      refine zG_br hm rfl (cf' := (79, [some (zr 42 0), some (zi v1), some (zi v2), some (zi v3), some (zi v4), some (zi v5), some (zi v6), some (zi (v4 - p5.1))], [], p5.2)) (if_neg c6) ?_
      refine zG_run hm 2 (cf' := (86, [some (zr 42 0), some (zi v1), some (zi v2), some (zi v3), some (zi v4), some (zi v5), some (zi v6), some (zi (v4 - p5.1))], [zi (v4 - p5.1)], p5.2)) rfl ?_
      refine zG_sub (lv' := [some (zr 42 0), some (zi v1), some (zi v2), some (zi v3), some (zi v4), none, some (zi v6), none]) (zsb_s rfl (zsb_s rfl (zsb_s rfl (zsb_s rfl (zsb_s rfl (zsb_n (zsb_s rfl (zsb_n zsb_0)))))))) ?_
      exact g_X11_lying_j86 hd h kc kb kr
theorem gl_X11_lying_L48 {v1 : Int} {v2 : Int} {v3 : Int} {v4 : Int} {y : Int × zM} {r : Option zV} {Mf : zM} {d : Nat} (hd : 1 ≤ d)
    (kb : ∀ t, y = t → zG 218 d (94, [none, none, none, none, none, some (zi t.1), none, none], [], t.2) r Mf) (kr : True) : ∀ (n : Nat) (s : Int × Int × zM), zlp (fun s : Int × Int × zM => f_X11_lying_L48 v1 v2 v3 v4 s.1 s.2.1 s.2.2) n s = some y → zG 218 d (48, [some (zr 42 0), some (zi v1), some (zi v2), some (zi v3), some (zi v4), some (zi s.1), some (zi s.2.1), none], [], s.2.2) r Mf := by
  intro n
  induction n with
  | zero => intro s h; cases h
  | succ n ih =>
    intro s h
    rcases zlp_cases h with ⟨s', h1, h2⟩ | h1
    · exact g_X11_lying_L48 hd h1 (fun s2 e2 => by cases e2; exact ih _ h2) (fun t e2 => by cases e2) trivial
    · exact g_X11_lying_L48 hd h1 (fun s2 e2 => by cases e2) (fun t e2 => kb t (Sum.inr.inj e2)) trivial
def f_X11_lying (v1 : Int) (v2 : Int) (M : zM) : Option (Int × zM) :=
  (f_X11_in v1 0 ((M 43 0 7) - 1) M).bind fun p1 =>
    if ¬ zw p1.1 = 0 then
      if 0 ≤ zw (48 + v1) ∧ zw (48 + v1) < 5090 then
        (f_X11_votedBy (-1) 0 v2 p1.2).bind fun p2 =>
          (f_X11_away (p1.2 43 0 (zix (48 + v1))) p2.1 p2.2).bind fun p3 =>
            (zlp (fun s : Int × Int × zM => f_X11_lying_L48 v1 v2 (p1.2 43 0 (zix (48 + v1))) p3.1 s.1 s.2.1 s.2.2) zF (0, 0, p3.2)).bind fun y8 =>
              some (y8.1, y8.2)
      else
        none
    else
      some ((-1), p1.2)
theorem g_X11_lying {v1 : Int} {v2 : Int} {M : zM} {q : Int × zM} {d : Nat} (hd : 1 ≤ d) (h : f_X11_lying v1 v2 M = some q) : zG 218 d (0, [some (zr 42 0), some (zi v1), some (zi v2), none, none, none, none, none], [], M) (some (zi q.1)) q.2 := by
  have hm := zmok_218
  unfold f_X11_lying at h
  refine zG_run hm 8 (cf' := (11, [some (zr 42 0), some (zi v1), some (zi v2), none, none, none, none, none], [zi ((M 43 0 7) - 1), zi 0, zi v1], M)) rfl ?_
  obtain ⟨p1, hp1, h⟩ := Option.bind_eq_some_iff.mp h
  refine zG_S hm zmok_117 rfl (as := [zi v1, zi 0, zi ((M 43 0 7) - 1)]) (rest := []) (st2 := [zi p1.1]) (pc2 := 14) rfl rfl (by omega) (met_X11_in (d := 0) (Nat.le_refl _) hp1) rfl ?_
  by_cases c10 : ¬ zw p1.1 = 0
  · rw [if_pos c10] at h
    refine zG_br hm rfl (cf' := (19, [some (zr 42 0), some (zi v1), some (zi v2), none, none, none, none, none], [], p1.2)) (if_pos c10) ?_
    refine zG_run hm 5 (cf' := (27, [some (zr 42 0), some (zi v1), some (zi v2), none, none, none, none, none], [zi (48 + v1), zr 43 0], p1.2)) rfl ?_
    by_cases c9 : 0 ≤ zw (48 + v1) ∧ zw (48 + v1) < 5090
    · rw [if_pos c9] at h
      refine zG_br hm rfl (cf' := (28, [some (zr 42 0), some (zi v1), some (zi v2), none, none, none, none, none], [zi (p1.2 43 0 (zix (48 + v1)))], p1.2)) (if_pos c9) ?_
      refine zG_run hm 6 (cf' := (34, [some (zr 42 0), some (zi v1), some (zi v2), some (zi (p1.2 43 0 (zix (48 + v1)))), none, none, none, none], [zi v2, zi 0, zi (-1), zr 42 0, zi (p1.2 43 0 (zix (48 + v1)))], p1.2)) rfl ?_
      obtain ⟨p2, hp2, h⟩ := Option.bind_eq_some_iff.mp h
      refine zG_V hm zmok_215 rfl (as := [zi (-1), zi 0, zi v2]) (rest := [zi (p1.2 43 0 (zix (48 + v1)))]) (st2 := [zi p2.1, zi (p1.2 43 0 (zix (48 + v1)))]) (pc2 := 37) rfl rfl (by omega) (met_X11_votedBy (d := 0) (Nat.le_refl _) hp2) rfl ?_
      obtain ⟨p3, hp3, h⟩ := Option.bind_eq_some_iff.mp h
      refine zG_S hm zmok_217 rfl (as := [zi (p1.2 43 0 (zix (48 + v1))), zi p2.1]) (rest := []) (st2 := [zi p3.1]) (pc2 := 40) rfl rfl (by omega) (met_X11_away (d := 0) (Nat.le_refl _) hp3) rfl ?_
      refine zG_run hm 5 (cf' := (48, [some (zr 42 0), some (zi v1), some (zi v2), some (zi (p1.2 43 0 (zix (48 + v1)))), some (zi p3.1), some (zi 0), some (zi 0), none], [], p3.2)) rfl ?_
      refine zG_sub (lv' := [some (zr 42 0), some (zi v1), some (zi v2), some (zi (p1.2 43 0 (zix (48 + v1)))), some (zi p3.1), some (zi 0), some (zi 0), none]) (zsb_s rfl (zsb_s rfl (zsb_s rfl (zsb_s rfl (zsb_s rfl (zsb_s rfl (zsb_s rfl (zsb_n zsb_0)))))))) ?_
      obtain ⟨y8, hy8, h⟩ := Option.bind_eq_some_iff.mp h
      refine gl_X11_lying_L48 hd (fun t e2 => ?_) trivial zF (0, 0, p3.2) hy8
      cases e2
      refine zG_run hm 1 (cf' := (96, [none, none, none, none, none, some (zi y8.1), none, none], [zi y8.1], y8.2)) rfl ?_
      cases h
      exact zG_ri hm rfl rfl
    · rw [if_neg c9] at h
      cases h
  · rw [if_neg c10] at h
    refine zG_br hm rfl (cf' := (17, [some (zr 42 0), some (zi v1), some (zi v2), none, none, none, none, none], [], p1.2)) (if_neg c10) ?_
    refine zG_run hm 1 (cf' := (18, [some (zr 42 0), some (zi v1), some (zi v2), none, none, none, none, none], [zi (-1)], p1.2)) rfl ?_
    cases h
    exact zG_ri hm rfl rfl
theorem met_X11_lying {v1 : Int} {v2 : Int} {M : zM} {q : Int × zM} {d : Nat} (hd : 1 ≤ d) (h : f_X11_lying v1 v2 M = some q) : zMet 218 d [zr 42 0, zi v1, zi v2] M (some (zi q.1)) q.2 :=
  zMet_of (lv0 := [some (zr 42 0), some (zi v1), some (zi v2), none, none, none, none, none]) zmok_218 rfl rfl (fun v hv => by cases hv; trivial) (g_X11_lying hd h)
def f_X10_seen (v1 : Int) (v2 : Int) (v3 : Int) (M : zM) : Option (Int × zM) :=
  if ¬ zw v1 = (-1) then
    (f_X10_within v1 0 99 M).bind fun p1 =>
      if zw p1.1 = 0 then
        some ((-2), p1.2)
      else
        (f_X10_within v2 1 9 p1.2).bind fun p2 =>
          if zw p2.1 = 0 then
            some ((-2), p2.2)
          else
            if zw (p2.2 23 0 9) < 9 then
              if 0 ≤ zw (p2.2 23 0 9) ∧ zw (p2.2 23 0 9) < 9 then
                zlet (zput p2.2 28 0 (zix (p2.2 23 0 9)) v1) fun M3 =>
                if 0 ≤ zw (M3 23 0 9) ∧ zw (M3 23 0 9) < 9 then
                  zlet (zput M3 29 0 (zix (M3 23 0 9)) v2) fun M4 =>
                  if 0 ≤ zw (M4 23 0 9) ∧ zw (M4 23 0 9) < 9 then
                    zlet (zput M4 30 0 (zix (M4 23 0 9)) v3) fun M5 =>
                    zlet (zput M5 23 0 9 ((M5 23 0 9) + 1)) fun M6 =>
                    some ((M6 23 0 9), M6)
                  else
                    none
                else
                  none
              else
                none
            else
              some ((-2), p2.2)
  else
    zlet (zput M 23 0 9 0) fun M13 =>
    some (0, M13)
theorem g_X10_seen {v1 : Int} {v2 : Int} {v3 : Int} {M : zM} {q : Int × zM} {d : Nat} (hd : 1 ≤ d) (h : f_X10_seen v1 v2 v3 M = some q) : zG 102 d (0, [some (zr 0 0), some (zi v1), some (zi v2), some (zi v3)], [], M) (some (zi q.1)) q.2 := by
  have hm := zmok_102
  unfold f_X10_seen at h
  refine zG_run hm 2 (cf' := (2, [some (zr 0 0), some (zi v1), some (zi v2), some (zi v3)], [zi (-1), zi v1], M)) rfl ?_
  by_cases c14 : ¬ zw v1 = (-1)
  · rw [if_pos c14] at h
    refine zG_br hm rfl (cf' := (15, [some (zr 0 0), some (zi v1), some (zi v2), some (zi v3)], [], M)) (if_pos c14) ?_
    refine zG_run hm 3 (cf' := (19, [some (zr 0 0), some (zi v1), some (zi v2), some (zi v3)], [zi 99, zi 0, zi v1], M)) rfl ?_
    obtain ⟨p1, hp1, h⟩ := Option.bind_eq_some_iff.mp h
    refine zG_S hm zmok_108 rfl (as := [zi v1, zi 0, zi 99]) (rest := []) (st2 := [zi p1.1]) (pc2 := 22) rfl rfl (by omega) (met_X10_within (d := 0) (Nat.le_refl _) hp1) rfl ?_
    by_cases c12 : zw p1.1 = 0
    · rw [if_pos c12] at h
      refine zG_br hm rfl (cf' := (47, [some (zr 0 0), some (zi v1), some (zi v2), some (zi v3)], [], p1.2)) (if_pos c12) ?_
      refine zG_run hm 1 (cf' := (49, [some (zr 0 0), some (zi v1), some (zi v2), some (zi v3)], [zi (-2)], p1.2)) rfl ?_
      cases h
      exact zG_ri hm rfl rfl
    · rw [if_neg c12] at h
      refine zG_br hm rfl (cf' := (25, [some (zr 0 0), some (zi v1), some (zi v2), some (zi v3)], [], p1.2)) (if_neg c12) ?_
      refine zG_run hm 3 (cf' := (29, [some (zr 0 0), some (zi v1), some (zi v2), some (zi v3)], [zi 9, zi 1, zi v2], p1.2)) rfl ?_
      obtain ⟨p2, hp2, h⟩ := Option.bind_eq_some_iff.mp h
      refine zG_S hm zmok_108 rfl (as := [zi v2, zi 1, zi 9]) (rest := []) (st2 := [zi p2.1]) (pc2 := 32) rfl rfl (by omega) (met_X10_within (d := 0) (Nat.le_refl _) hp2) rfl ?_
      by_cases c11 : zw p2.1 = 0
      · rw [if_pos c11] at h
        refine zG_br hm rfl (cf' := (47, [some (zr 0 0), some (zi v1), some (zi v2), some (zi v3)], [], p2.2)) (if_pos c11) ?_
        refine zG_run hm 1 (cf' := (49, [some (zr 0 0), some (zi v1), some (zi v2), some (zi v3)], [zi (-2)], p2.2)) rfl ?_
        cases h
        exact zG_ri hm rfl rfl
      · rw [if_neg c11] at h
        refine zG_br hm rfl (cf' := (35, [some (zr 0 0), some (zi v1), some (zi v2), some (zi v3)], [], p2.2)) (if_neg c11) ?_
        refine zG_run hm 4 (cf' := (44, [some (zr 0 0), some (zi v1), some (zi v2), some (zi v3)], [zi 9, zi (p2.2 23 0 9)], p2.2)) rfl ?_
        by_cases c10 : zw (p2.2 23 0 9) < 9
        · rw [if_pos c10] at h
          refine zG_br hm rfl (cf' := (50, [some (zr 0 0), some (zi v1), some (zi v2), some (zi v3)], [], p2.2)) (if_pos c10) ?_
          refine zG_run hm 7 (cf' := (65, [some (zr 0 0), some (zi v1), some (zi v2), some (zi v3)], [zi v1, zi (p2.2 23 0 9), zr 28 0], p2.2)) rfl ?_
          by_cases c9 : 0 ≤ zw (p2.2 23 0 9) ∧ zw (p2.2 23 0 9) < 9
          · rw [if_pos c9] at h
            refine zG_br hm rfl (cf' := (66, [some (zr 0 0), some (zi v1), some (zi v2), some (zi v3)], [], (zput p2.2 28 0 (zix (p2.2 23 0 9)) v1))) (if_pos c9) ?_
            obtain ⟨M3, eM3, h⟩ := zlet_of h
            rw [eM3]
            refine zG_run hm 7 (cf' := (81, [some (zr 0 0), some (zi v1), some (zi v2), some (zi v3)], [zi v2, zi (M3 23 0 9), zr 29 0], M3)) rfl ?_
            by_cases c8 : 0 ≤ zw (M3 23 0 9) ∧ zw (M3 23 0 9) < 9
            · rw [if_pos c8] at h
              refine zG_br hm rfl (cf' := (82, [some (zr 0 0), some (zi v1), some (zi v2), some (zi v3)], [], (zput M3 29 0 (zix (M3 23 0 9)) v2))) (if_pos c8) ?_
              obtain ⟨M4, eM4, h⟩ := zlet_of h
              rw [eM4]
              refine zG_run hm 7 (cf' := (97, [some (zr 0 0), some (zi v1), some (zi v2), some (zi v3)], [zi v3, zi (M4 23 0 9), zr 30 0], M4)) rfl ?_
              by_cases c7 : 0 ≤ zw (M4 23 0 9) ∧ zw (M4 23 0 9) < 9
              · rw [if_pos c7] at h
                refine zG_br hm rfl (cf' := (98, [some (zr 0 0), some (zi v1), some (zi v2), some (zi v3)], [], (zput M4 30 0 (zix (M4 23 0 9)) v3))) (if_pos c7) ?_
                obtain ⟨M5, eM5, h⟩ := zlet_of h
                rw [eM5]
                refine zG_run hm 7 (cf' := (111, [some (zr 0 0), some (zi v1), some (zi v2), some (zi v3)], [], (zput M5 23 0 9 ((M5 23 0 9) + 1)))) rfl ?_
                obtain ⟨M6, eM6, h⟩ := zlet_of h
                rw [eM6]
                refine zG_run hm 3 (cf' := (118, [some (zr 0 0), some (zi v1), some (zi v2), some (zi v3)], [zi (M6 23 0 9)], M6)) rfl ?_
                cases h
                exact zG_ri hm rfl rfl
              · rw [if_neg c7] at h
                cases h
            · rw [if_neg c8] at h
              cases h
          · rw [if_neg c9] at h
            cases h
        · rw [if_neg c10] at h
          refine zG_br hm rfl (cf' := (47, [some (zr 0 0), some (zi v1), some (zi v2), some (zi v3)], [], p2.2)) (if_neg c10) ?_
          refine zG_run hm 1 (cf' := (49, [some (zr 0 0), some (zi v1), some (zi v2), some (zi v3)], [zi (-2)], p2.2)) rfl ?_
          cases h
          exact zG_ri hm rfl rfl
  · rw [if_neg c14] at h
    refine zG_br hm rfl (cf' := (5, [some (zr 0 0), some (zi v1), some (zi v2), some (zi v3)], [], M)) (if_neg c14) ?_
    refine zG_run hm 4 (cf' := (13, [some (zr 0 0), some (zi v1), some (zi v2), some (zi v3)], [], (zput M 23 0 9 0))) rfl ?_
    obtain ⟨M13, eM13, h⟩ := zlet_of h
    rw [eM13]
    refine zG_run hm 1 (cf' := (14, [some (zr 0 0), some (zi v1), some (zi v2), some (zi v3)], [zi 0], M13)) rfl ?_
    cases h
    exact zG_ri hm rfl rfl
theorem met_X10_seen {v1 : Int} {v2 : Int} {v3 : Int} {M : zM} {q : Int × zM} {d : Nat} (hd : 1 ≤ d) (h : f_X10_seen v1 v2 v3 M = some q) : zMet 102 d [zr 0 0, zi v1, zi v2, zi v3] M (some (zi q.1)) q.2 :=
  zMet_of (lv0 := [some (zr 0 0), some (zi v1), some (zi v2), some (zi v3)]) zmok_102 rfl rfl (fun v hv => by cases hv; trivial) (g_X10_seen hd h)
def f_X11_seen_j99 (vs0 : Int) (vs1 : Int) (M : zM) : Option (Int × zM) :=
  if 0 ≤ zw vs1 ∧ zw vs1 < 5090 then
    zlet (zput M 43 0 (zix vs1) vs0) fun M5 =>
    zlet (zput M5 43 0 8 ((M5 43 0 8) + 1)) fun M6 =>
    some ((M6 43 0 8), M6)
  else
    none
theorem g_X11_seen_j99 {vs0 : Int} {vs1 : Int} {M : zM} {q : Int × zM} {d : Nat} (hd : 1 ≤ d) (h : f_X11_seen_j99 vs0 vs1 M = some q) : zG 219 d (99, [some (zr 42 0), none, none, none, none], [zi vs0, zi vs1, zr 43 0], M) (some (zi q.1)) q.2 := by
  have hm := zmok_219
  unfold f_X11_seen_j99 at h
  by_cases c7 : 0 ≤ zw vs1 ∧ zw vs1 < 5090
  · rw [if_pos c7] at h
    refine zG_br hm rfl (cf' := (100, [some (zr 42 0), none, none, none, none], [], (zput M 43 0 (zix vs1) vs0))) (if_pos c7) ?_
    obtain ⟨M5, eM5, h⟩ := zlet_of h
    rw [eM5]
    refine zG_run hm 8 (cf' := (111, [some (zr 42 0), none, none, none, none], [], (zput M5 43 0 8 ((M5 43 0 8) + 1)))) rfl ?_
    obtain ⟨M6, eM6, h⟩ := zlet_of h
    rw [eM6]
    refine zG_run hm 4 (cf' := (118, [some (zr 42 0), none, none, none, none], [zi (M6 43 0 8)], M6)) rfl ?_
    cases h
    exact zG_ri hm rfl rfl
  · rw [if_neg c7] at h
    cases h
def f_X11_seen (v1 : Int) (v2 : Int) (v3 : Int) (M : zM) : Option (Int × zM) :=
  if ¬ zw v1 = (-1) then
    (f_X11_in v1 0 99 M).bind fun p1 =>
      if zw p1.1 = 0 then
        some ((-2), p1.2)
      else
        (f_X11_in v2 1 9 p1.2).bind fun p2 =>
          if zw p2.1 = 0 then
            some ((-2), p2.2)
          else
            if ¬ zw (p2.2 43 0 8) = 9 then
              if 0 ≤ zw (57 + (3 * (p2.2 43 0 8))) ∧ zw (57 + (3 * (p2.2 43 0 8))) < 5090 then
                zlet (zput p2.2 43 0 (zix (57 + (3 * (p2.2 43 0 8)))) v1) fun M3 =>
                if 0 ≤ zw ((57 + (3 * (p2.2 43 0 8))) + 1) ∧ zw ((57 + (3 * (p2.2 43 0 8))) + 1) < 5090 then
                  zlet (zput M3 43 0 (zix ((57 + (3 * (p2.2 43 0 8))) + 1)) v2) fun M4 =>
                  if zw v3 = 0 then
                    f_X11_seen_j99 0 ((57 + (3 * (p2.2 43 0 8))) + 2) M4
                  else
                    f_X11_seen_j99 1 ((57 + (3 * (p2.2 43 0 8))) + 2) M4
                else
                  none
              else
                none
            else
              some ((-2), p2.2)
  else
    zlet (zput M 43 0 8 0) fun M14 =>
    some (0, M14)
theorem g_X11_seen {v1 : Int} {v2 : Int} {v3 : Int} {M : zM} {q : Int × zM} {d : Nat} (hd : 1 ≤ d) (h : f_X11_seen v1 v2 v3 M = some q) : zG 219 d (0, [some (zr 42 0), some (zi v1), some (zi v2), some (zi v3), none], [], M) (some (zi q.1)) q.2 := by
  have hm := zmok_219
  unfold f_X11_seen at h
  refine zG_run hm 2 (cf' := (2, [some (zr 42 0), some (zi v1), some (zi v2), some (zi v3), none], [zi (-1), zi v1], M)) rfl ?_
  by_cases c15 : ¬ zw v1 = (-1)
  · rw [if_pos c15] at h
    refine zG_br hm rfl (cf' := (15, [some (zr 42 0), some (zi v1), some (zi v2), some (zi v3), none], [], M)) (if_pos c15) ?_
    refine zG_run hm 3 (cf' := (19, [some (zr 42 0), some (zi v1), some (zi v2), some (zi v3), none], [zi 99, zi 0, zi v1], M)) rfl ?_
    obtain ⟨p1, hp1, h⟩ := Option.bind_eq_some_iff.mp h
    refine zG_S hm zmok_117 rfl (as := [zi v1, zi 0, zi 99]) (rest := []) (st2 := [zi p1.1]) (pc2 := 22) rfl rfl (by omega) (met_X11_in (d := 0) (Nat.le_refl _) hp1) rfl ?_
    by_cases c13 : zw p1.1 = 0
    · rw [if_pos c13] at h
      refine zG_br hm rfl (cf' := (47, [some (zr 42 0), some (zi v1), some (zi v2), some (zi v3), none], [], p1.2)) (if_pos c13) ?_
      refine zG_run hm 1 (cf' := (49, [some (zr 42 0), some (zi v1), some (zi v2), some (zi v3), none], [zi (-2)], p1.2)) rfl ?_
      cases h
      exact zG_ri hm rfl rfl
    · rw [if_neg c13] at h
      refine zG_br hm rfl (cf' := (25, [some (zr 42 0), some (zi v1), some (zi v2), some (zi v3), none], [], p1.2)) (if_neg c13) ?_
      refine zG_run hm 3 (cf' := (29, [some (zr 42 0), some (zi v1), some (zi v2), some (zi v3), none], [zi 9, zi 1, zi v2], p1.2)) rfl ?_
      obtain ⟨p2, hp2, h⟩ := Option.bind_eq_some_iff.mp h
      refine zG_S hm zmok_117 rfl (as := [zi v2, zi 1, zi 9]) (rest := []) (st2 := [zi p2.1]) (pc2 := 32) rfl rfl (by omega) (met_X11_in (d := 0) (Nat.le_refl _) hp2) rfl ?_
      by_cases c12 : zw p2.1 = 0
      · rw [if_pos c12] at h
        refine zG_br hm rfl (cf' := (47, [some (zr 42 0), some (zi v1), some (zi v2), some (zi v3), none], [], p2.2)) (if_pos c12) ?_
        refine zG_run hm 1 (cf' := (49, [some (zr 42 0), some (zi v1), some (zi v2), some (zi v3), none], [zi (-2)], p2.2)) rfl ?_
        cases h
        exact zG_ri hm rfl rfl
      · rw [if_neg c12] at h
        refine zG_br hm rfl (cf' := (35, [some (zr 42 0), some (zi v1), some (zi v2), some (zi v3), none], [], p2.2)) (if_neg c12) ?_
        refine zG_run hm 5 (cf' := (44, [some (zr 42 0), some (zi v1), some (zi v2), some (zi v3), none], [zi 9, zi (p2.2 43 0 8)], p2.2)) rfl ?_
        by_cases c11 : ¬ zw (p2.2 43 0 8) = 9
        · rw [if_pos c11] at h
          refine zG_br hm rfl (cf' := (50, [some (zr 42 0), some (zi v1), some (zi v2), some (zi v3), none], [], p2.2)) (if_pos c11) ?_
          refine zG_run hm 13 (cf' := (71, [some (zr 42 0), some (zi v1), some (zi v2), some (zi v3), some (zi (57 + (3 * (p2.2 43 0 8))))], [zi v1, zi (57 + (3 * (p2.2 43 0 8))), zr 43 0], p2.2)) rfl ?_
          by_cases c10 : 0 ≤ zw (57 + (3 * (p2.2 43 0 8))) ∧ zw (57 + (3 * (p2.2 43 0 8))) < 5090
          · rw [if_pos c10] at h
            refine zG_br hm rfl (cf' := (72, [some (zr 42 0), some (zi v1), some (zi v2), some (zi v3), some (zi (57 + (3 * (p2.2 43 0 8))))], [], (zput p2.2 43 0 (zix (57 + (3 * (p2.2 43 0 8)))) v1))) (if_pos c10) ?_
            obtain ⟨M3, eM3, h⟩ := zlet_of h
            rw [eM3]
            refine zG_run hm 6 (cf' := (81, [some (zr 42 0), some (zi v1), some (zi v2), some (zi v3), some (zi (57 + (3 * (p2.2 43 0 8))))], [zi v2, zi ((57 + (3 * (p2.2 43 0 8))) + 1), zr 43 0], M3)) rfl ?_
            by_cases c9 : 0 ≤ zw ((57 + (3 * (p2.2 43 0 8))) + 1) ∧ zw ((57 + (3 * (p2.2 43 0 8))) + 1) < 5090
            · rw [if_pos c9] at h
              refine zG_br hm rfl (cf' := (82, [some (zr 42 0), some (zi v1), some (zi v2), some (zi v3), some (zi (57 + (3 * (p2.2 43 0 8))))], [], (zput M3 43 0 (zix ((57 + (3 * (p2.2 43 0 8))) + 1)) v2))) (if_pos c9) ?_
              obtain ⟨M4, eM4, h⟩ := zlet_of h
              rw [eM4]
              refine zG_run hm 6 (cf' := (91, [some (zr 42 0), some (zi v1), some (zi v2), some (zi v3), some (zi (57 + (3 * (p2.2 43 0 8))))], [zi v3, zi ((57 + (3 * (p2.2 43 0 8))) + 2), zr 43 0], M4)) rfl ?_
              by_cases c8 : zw v3 = 0
              · rw [if_pos c8] at h
                refine zG_br hm rfl (cf' := (98, [some (zr 42 0), some (zi v1), some (zi v2), some (zi v3), some (zi (57 + (3 * (p2.2 43 0 8))))], [zi ((57 + (3 * (p2.2 43 0 8))) + 2), zr 43 0], M4)) (if_pos c8) ?_
                refine zG_run hm 1 (cf' := (99, [some (zr 42 0), some (zi v1), some (zi v2), some (zi v3), some (zi (57 + (3 * (p2.2 43 0 8))))], [zi 0, zi ((57 + (3 * (p2.2 43 0 8))) + 2), zr 43 0], M4)) rfl ?_
                refine zG_sub (lv' := [some (zr 42 0), none, none, none, none]) (zsb_s rfl (zsb_n (zsb_n (zsb_n (zsb_n zsb_0))))) ?_
                exact g_X11_seen_j99 hd h
              · rw [if_neg c8] at h
                refine zG_br hm rfl (cf' := (94, [some (zr 42 0), some (zi v1), some (zi v2), some (zi v3), some (zi (57 + (3 * (p2.2 43 0 8))))], [zi ((57 + (3 * (p2.2 43 0 8))) + 2), zr 43 0], M4)) (if_neg c8) ?_
                refine zG_run hm 2 (cf' := (99, [some (zr 42 0), some (zi v1), some (zi v2), some (zi v3), some (zi (57 + (3 * (p2.2 43 0 8))))], [zi 1, zi ((57 + (3 * (p2.2 43 0 8))) + 2), zr 43 0], M4)) rfl ?_
                refine zG_sub (lv' := [some (zr 42 0), none, none, none, none]) (zsb_s rfl (zsb_n (zsb_n (zsb_n (zsb_n zsb_0))))) ?_
                exact g_X11_seen_j99 hd h
            · rw [if_neg c9] at h
              cases h
          · rw [if_neg c10] at h
            cases h
        · rw [if_neg c11] at h
          refine zG_br hm rfl (cf' := (47, [some (zr 42 0), some (zi v1), some (zi v2), some (zi v3), none], [], p2.2)) (if_neg c11) ?_
          refine zG_run hm 1 (cf' := (49, [some (zr 42 0), some (zi v1), some (zi v2), some (zi v3), none], [zi (-2)], p2.2)) rfl ?_
          cases h
          exact zG_ri hm rfl rfl
  · rw [if_neg c15] at h
    refine zG_br hm rfl (cf' := (5, [some (zr 42 0), some (zi v1), some (zi v2), some (zi v3), none], [], M)) (if_neg c15) ?_
    refine zG_run hm 5 (cf' := (13, [some (zr 42 0), some (zi v1), some (zi v2), some (zi v3), none], [], (zput M 43 0 8 0))) rfl ?_
    obtain ⟨M14, eM14, h⟩ := zlet_of h
    rw [eM14]
    refine zG_run hm 1 (cf' := (14, [some (zr 42 0), some (zi v1), some (zi v2), some (zi v3), none], [zi 0], M14)) rfl ?_
    cases h
    exact zG_ri hm rfl rfl
theorem met_X11_seen {v1 : Int} {v2 : Int} {v3 : Int} {M : zM} {q : Int × zM} {d : Nat} (hd : 1 ≤ d) (h : f_X11_seen v1 v2 v3 M = some q) : zMet 219 d [zr 42 0, zi v1, zi v2, zi v3] M (some (zi q.1)) q.2 :=
  zMet_of (lv0 := [some (zr 42 0), some (zi v1), some (zi v2), some (zi v3), none]) zmok_219 rfl rfl (fun v hv => by cases hv; trivial) (g_X11_seen hd h)
def f_X9_allFit_j35 (n0 : Nat) (v1 : Int) (v2 : Int) (v3 : Int) (vs0 : Int) (M : zM) : Option ((Int) ⊕ ((Int × zM) ⊕ (Unit))) :=
  if 0 ≤ zw v3 ∧ zw v3 < 9 then
    if zw vs0 = zw (M 30 n0 (zix v3) % 2) then
      some (.inl (v3 + 1))
    else
      some (.inr (.inl (0, M)))
  else
    none
theorem g_X9_allFit_j35 {n0 : Nat} {v1 : Int} {v2 : Int} {v3 : Int} {vs0 : Int} {M : zM} {x : (Int) ⊕ ((Int × zM) ⊕ (Unit))} {r : Option zV} {Mf : zM} {d : Nat} (hd : 0 ≤ d) (h : f_X9_allFit_j35 n0 v1 v2 v3 vs0 M = some x)
    (kc : ∀ s, x = .inl s → zG 65 d (2, [some (zr 23 n0), some (zi v1), some (zi v2), some (zi s), none], [], M) r Mf)
    (kb : ∀ t, x = .inr (.inr t) → zG 65 d (56, [none, none, none, none, none], [], M) r Mf) (kr : ∀ q, x = .inr (.inl q) → r = some (zi q.1) ∧ Mf = q.2) : zG 65 d (35, [some (zr 23 n0), some (zi v1), some (zi v2), some (zi v3), none], [zi vs0], M) r Mf := by
  have hm := zmok_65
  unfold f_X9_allFit_j35 at h
  refine zG_run hm 5 (cf' := (44, [some (zr 23 n0), some (zi v1), some (zi v2), some (zi v3), some (zi vs0)], [zi v3, zr 30 n0, zi vs0], M)) rfl ?_
  by_cases c2 : 0 ≤ zw v3 ∧ zw v3 < 9
  · rw [if_pos c2] at h
    refine zG_br hm rfl (cf' := (45, [some (zr 23 n0), some (zi v1), some (zi v2), some (zi v3), some (zi vs0)], [zi (M 30 n0 (zix v3) % 2), zi vs0], M)) (if_pos c2) ?_
    by_cases c1 : zw vs0 = zw (M 30 n0 (zix v3) % 2)
    · rw [if_pos c1] at h
      refine zG_br hm rfl (cf' := (50, [some (zr 23 n0), some (zi v1), some (zi v2), some (zi v3), some (zi vs0)], [], M)) (if_pos c1) ?_
      refine zG_run hm 2 (cf' := (2, [some (zr 23 n0), some (zi v1), some (zi v2), some (zi (v3 + 1)), some (zi vs0)], [], M)) rfl ?_
      refine zG_sub (lv' := [some (zr 23 n0), some (zi v1), some (zi v2), some (zi (v3 + 1)), none]) (zsb_s rfl (zsb_s rfl (zsb_s rfl (zsb_s rfl (zsb_n zsb_0))))) ?_
      exact kc (v3 + 1) (Option.some.inj h).symm
    · rw [if_neg c1] at h
      refine zG_br hm rfl (cf' := (48, [some (zr 23 n0), some (zi v1), some (zi v2), some (zi v3), some (zi vs0)], [], M)) (if_neg c1) ?_
      refine zG_run hm 1 (cf' := (49, [some (zr 23 n0), some (zi v1), some (zi v2), some (zi v3), some (zi vs0)], [zi 0], M)) rfl ?_
      obtain ⟨rfl, rfl⟩ := kr (0, M) (Option.some.inj h).symm
      exact zG_rz hm rfl rfl (Or.inl rfl)
  · rw [if_neg c2] at h
    cases h
def f_X9_allFit_j34 (n0 : Nat) (v1 : Int) (v2 : Int) (v3 : Int) (M : zM) : Option ((Int) ⊕ ((Int × zM) ⊕ (Unit))) :=
  f_X9_allFit_j35 n0 v1 v2 v3 0 M
theorem g_X9_allFit_j34 {n0 : Nat} {v1 : Int} {v2 : Int} {v3 : Int} {M : zM} {x : (Int) ⊕ ((Int × zM) ⊕ (Unit))} {r : Option zV} {Mf : zM} {d : Nat} (hd : 0 ≤ d) (h : f_X9_allFit_j34 n0 v1 v2 v3 M = some x)
    (kc : ∀ s, x = .inl s → zG 65 d (2, [some (zr 23 n0), some (zi v1), some (zi v2), some (zi s), none], [], M) r Mf)
    (kb : ∀ t, x = .inr (.inr t) → zG 65 d (56, [none, none, none, none, none], [], M) r Mf) (kr : ∀ q, x = .inr (.inl q) → r = some (zi q.1) ∧ Mf = q.2) : zG 65 d (34, [some (zr 23 n0), some (zi v1), some (zi v2), some (zi v3), none], [], M) r Mf := by
  have hm := zmok_65
  unfold f_X9_allFit_j34 at h
  refine zG_run hm 1 (cf' := (35, [some (zr 23 n0), some (zi v1), some (zi v2), some (zi v3), none], [zi 0], M)) rfl ?_
  refine zG_sub (lv' := [some (zr 23 n0), some (zi v1), some (zi v2), some (zi v3), none]) (zsb_s rfl (zsb_s rfl (zsb_s rfl (zsb_s rfl (zsb_n zsb_0))))) ?_
  exact g_X9_allFit_j35 hd h kc kb kr
def f_X9_allFit_L2 (n0 : Nat) (v1 : Int) (v2 : Int) (v3 : Int) (M : zM) : Option ((Int) ⊕ ((Int × zM) ⊕ (Unit))) :=
  if zw (M 23 n0 9) ≤ zw v3 then
    some (.inr (.inr ()))
  else
    if 0 ≤ zw v3 ∧ zw v3 < 9 then
      if zw (M 28 n0 (zix v3)) < zw v1 then
        f_X9_allFit_j34 n0 v1 v2 v3 M
      else
        if 0 ≤ zw v3 ∧ zw v3 < 9 then
          if zw (M 29 n0 (zix v3)) < zw v2 then
            f_X9_allFit_j34 n0 v1 v2 v3 M
          else
            f_X9_allFit_j35 n0 v1 v2 v3 1 M
        else
          none
    else
      none
theorem g_X9_allFit_L2 {n0 : Nat} {v1 : Int} {v2 : Int} {v3 : Int} {M : zM} {x : (Int) ⊕ ((Int × zM) ⊕ (Unit))} {r : Option zV} {Mf : zM} {d : Nat} (hd : 0 ≤ d) (h : f_X9_allFit_L2 n0 v1 v2 v3 M = some x)
    (kc : ∀ s, x = .inl s → zG 65 d (2, [some (zr 23 n0), some (zi v1), some (zi v2), some (zi s), none], [], M) r Mf)
    (kb : ∀ t, x = .inr (.inr t) → zG 65 d (56, [none, none, none, none, none], [], M) r Mf) (kr : ∀ q, x = .inr (.inl q) → r = some (zi q.1) ∧ Mf = q.2) : zG 65 d (2, [some (zr 23 n0), some (zi v1), some (zi v2), some (zi v3), none], [], M) r Mf := by
  have hm := zmok_65
  unfold f_X9_allFit_L2 at h
  refine zG_run hm 3 (cf' := (7, [some (zr 23 n0), some (zi v1), some (zi v2), some (zi v3), none], [zi (M 23 n0 9), zi v3], M)) rfl ?_
  by_cases c7 : zw (M 23 n0 9) ≤ zw v3
  · rw [if_pos c7] at h
    refine zG_br hm rfl (cf' := (56, [some (zr 23 n0), some (zi v1), some (zi v2), some (zi v3), none], [], M)) (if_pos c7) ?_
    refine zG_sub (lv' := [none, none, none, none, none]) (zsb_n (zsb_n (zsb_n (zsb_n (zsb_n zsb_0))))) ?_
    exact kb () (Option.some.inj h).symm
  · rw [if_neg c7] at h
    refine zG_br hm rfl (cf' := (10, [some (zr 23 n0), some (zi v1), some (zi v2), some (zi v3), none], [], M)) (if_neg c7) ?_
    refine zG_run hm 3 (cf' := (15, [some (zr 23 n0), some (zi v1), some (zi v2), some (zi v3), none], [zi v3, zr 28 n0], M)) rfl ?_
    by_cases c6 : 0 ≤ zw v3 ∧ zw v3 < 9
    · rw [if_pos c6] at h
      refine zG_br hm rfl (cf' := (16, [some (zr 23 n0), some (zi v1), some (zi v2), some (zi v3), none], [zi (M 28 n0 (zix v3))], M)) (if_pos c6) ?_
      refine zG_run hm 1 (cf' := (17, [some (zr 23 n0), some (zi v1), some (zi v2), some (zi v3), none], [zi v1, zi (M 28 n0 (zix v3))], M)) rfl ?_
      by_cases c5 : zw (M 28 n0 (zix v3)) < zw v1
      · rw [if_pos c5] at h
        refine zG_br hm rfl (cf' := (34, [some (zr 23 n0), some (zi v1), some (zi v2), some (zi v3), none], [], M)) (if_pos c5) ?_
        refine zG_sub (lv' := [some (zr 23 n0), some (zi v1), some (zi v2), some (zi v3), none]) (zsb_s rfl (zsb_s rfl (zsb_s rfl (zsb_s rfl (zsb_n zsb_0))))) ?_
        exact g_X9_allFit_j34 hd h kc kb kr
      · rw [if_neg c5] at h
        refine zG_br hm rfl (cf' := (20, [some (zr 23 n0), some (zi v1), some (zi v2), some (zi v3), none], [], M)) (if_neg c5) ?_
        refine zG_run hm 3 (cf' := (25, [some (zr 23 n0), some (zi v1), some (zi v2), some (zi v3), none], [zi v3, zr 29 n0], M)) rfl ?_
        by_cases c4 : 0 ≤ zw v3 ∧ zw v3 < 9
        · rw [if_pos c4] at h
          refine zG_br hm rfl (cf' := (26, [some (zr 23 n0), some (zi v1), some (zi v2), some (zi v3), none], [zi (M 29 n0 (zix v3))], M)) (if_pos c4) ?_
          refine zG_run hm 1 (cf' := (27, [some (zr 23 n0), some (zi v1), some (zi v2), some (zi v3), none], [zi v2, zi (M 29 n0 (zix v3))], M)) rfl ?_
          by_cases c3 : zw (M 29 n0 (zix v3)) < zw v2
          · rw [if_pos c3] at h
            refine zG_br hm rfl (cf' := (34, [some (zr 23 n0), some (zi v1), some (zi v2), some (zi v3), none], [], M)) (if_pos c3) ?_
            refine zG_sub (lv' := [some (zr 23 n0), some (zi v1), some (zi v2), some (zi v3), none]) (zsb_s rfl (zsb_s rfl (zsb_s rfl (zsb_s rfl (zsb_n zsb_0))))) ?_
            exact g_X9_allFit_j34 hd h kc kb kr
          · rw [if_neg c3] at h
            refine zG_br hm rfl (cf' := (30, [some (zr 23 n0), some (zi v1), some (zi v2), some (zi v3), none], [], M)) (if_neg c3) ?_
            refine zG_run hm 2 (cf' := (35, [some (zr 23 n0), some (zi v1), some (zi v2), some (zi v3), none], [zi 1], M)) rfl ?_
            refine zG_sub (lv' := [some (zr 23 n0), some (zi v1), some (zi v2), some (zi v3), none]) (zsb_s rfl (zsb_s rfl (zsb_s rfl (zsb_s rfl (zsb_n zsb_0))))) ?_
            exact g_X9_allFit_j35 hd h kc kb kr
        · rw [if_neg c4] at h
          cases h
    · rw [if_neg c6] at h
      cases h
theorem gl_X9_allFit_L2 {n0 : Nat} {v1 : Int} {v2 : Int} {M : zM} {y : (Int × zM) ⊕ (Unit)} {r : Option zV} {Mf : zM} {d : Nat} (hd : 0 ≤ d)
    (kb : ∀ t, y = .inr t → zG 65 d (56, [none, none, none, none, none], [], M) r Mf) (kr : ∀ q, y = .inl q → r = some (zi q.1) ∧ Mf = q.2) : ∀ (n : Nat) (s : Int), zlp (fun s : Int => f_X9_allFit_L2 n0 v1 v2 s M) n s = some y → zG 65 d (2, [some (zr 23 n0), some (zi v1), some (zi v2), some (zi s), none], [], M) r Mf := by
  intro n
  induction n with
  | zero => intro s h; cases h
  | succ n ih =>
    intro s h
    rcases zlp_cases h with ⟨s', h1, h2⟩ | h1
    · exact g_X9_allFit_L2 hd h1 (fun s2 e2 => by cases e2; exact ih _ h2) (fun t e2 => by cases e2) (fun q e2 => by cases e2)
    · exact g_X9_allFit_L2 hd h1 (fun s2 e2 => by cases e2) (fun t e2 => kb t (Sum.inr.inj e2)) (fun q e2 => kr q (Sum.inr.inj e2))
def f_X9_allFit (n0 : Nat) (v1 : Int) (v2 : Int) (M : zM) : Option (Int × zM) :=
  (zlp (fun s : Int => f_X9_allFit_L2 n0 v1 v2 s M) zF 0).bind fun y8 =>
    match y8 with
    | .inl q10 => some q10
    | .inr t9 =>
      some (1, M)
theorem g_X9_allFit {n0 : Nat} {v1 : Int} {v2 : Int} {M : zM} {q : Int × zM} {d : Nat} (hd : 0 ≤ d) (h : f_X9_allFit n0 v1 v2 M = some q) : zG 65 d (0, [some (zr 23 n0), some (zi v1), some (zi v2), none, none], [], M) (some (zi q.1)) q.2 := by
  have hm := zmok_65
  unfold f_X9_allFit at h
  refine zG_run hm 2 (cf' := (2, [some (zr 23 n0), some (zi v1), some (zi v2), some (zi 0), none], [], M)) rfl ?_
  refine zG_sub (lv' := [some (zr 23 n0), some (zi v1), some (zi v2), some (zi 0), none]) (zsb_s rfl (zsb_s rfl (zsb_s rfl (zsb_s rfl (zsb_n zsb_0))))) ?_
  obtain ⟨y8, hy8, h⟩ := Option.bind_eq_some_iff.mp h
  refine gl_X9_allFit_L2 hd (fun t9 e2 => ?_) (fun q e2 => ?_) zF 0 hy8
  · cases e2
    refine zG_run hm 1 (cf' := (57, [none, none, none, none, none], [zi 1], M)) rfl ?_
    cases h
    exact zG_rz hm rfl rfl (Or.inr rfl)
  · cases e2
    cases h
    exact ⟨rfl, rfl⟩
theorem met_X9_allFit {n0 : Nat} {v1 : Int} {v2 : Int} {M : zM} {q : Int × zM} {d : Nat} (hd : 0 ≤ d) (h : f_X9_allFit n0 v1 v2 M = some q) : zMet 65 d [zr 23 n0, zi v1, zi v2] M (some (zi q.1)) q.2 :=
  zMet_of (lv0 := [some (zr 23 n0), some (zi v1), some (zi v2), none, none]) zmok_65 rfl rfl (fun v hv => by cases hv; trivial) (g_X9_allFit hd h)
def f_X10_rule_L10 (v1 : Int) (v2 : Int) (M : zM) : Option ((Int × zM) ⊕ ((Int × zM) ⊕ (zM))) :=
  if 10 < zw v2 then
    some (.inr (.inr M))
  else
    (f_X9_allFit 0 v1 v2 M).bind fun p1 =>
      if zw p1.1 = 0 then
        some (.inl ((v2 + 1), p1.2))
      else
        some (.inr (.inl (((v1 * 100) + v2), p1.2)))
theorem g_X10_rule_L10 {v1 : Int} {v2 : Int} {M : zM} {x : (Int × zM) ⊕ ((Int × zM) ⊕ (zM))} {r : Option zV} {Mf : zM} {d : Nat} (hd : 1 ≤ d) (h : f_X10_rule_L10 v1 v2 M = some x)
    (kc : ∀ s, x = .inl s → zG 103 d (10, [some (zr 0 0), some (zi v1), some (zi s.1)], [], s.2) r Mf)
    (kb : ∀ t, x = .inr (.inr t) → zG 103 d (41, [some (zr 0 0), some (zi v1), none], [], t) r Mf) (kr : ∀ q, x = .inr (.inl q) → r = some (zi q.1) ∧ Mf = q.2) : zG 103 d (10, [some (zr 0 0), some (zi v1), some (zi v2)], [], M) r Mf := by
  have hm := zmok_103
  unfold f_X10_rule_L10 at h
  refine zG_run hm 2 (cf' := (13, [some (zr 0 0), some (zi v1), some (zi v2)], [zi 10, zi v2], M)) rfl ?_
  by_cases c3 : 10 < zw v2
  · rw [if_pos c3] at h
    refine zG_br hm rfl (cf' := (41, [some (zr 0 0), some (zi v1), some (zi v2)], [], M)) (if_pos c3) ?_
    refine zG_sub (lv' := [some (zr 0 0), some (zi v1), none]) (zsb_s rfl (zsb_s rfl (zsb_n zsb_0))) ?_
    exact kb M (Option.some.inj h).symm
  · rw [if_neg c3] at h
    refine zG_br hm rfl (cf' := (16, [some (zr 0 0), some (zi v1), some (zi v2)], [], M)) (if_neg c3) ?_
    refine zG_run hm 4 (cf' := (22, [some (zr 0 0), some (zi v1), some (zi v2)], [zi v2, zi v1, zr 23 0], M)) rfl ?_
    obtain ⟨p1, hp1, h⟩ := Option.bind_eq_some_iff.mp h
    refine zG_V hm zmok_65 rfl (as := [zi v1, zi v2]) (rest := []) (st2 := [zi p1.1]) (pc2 := 25) rfl rfl (by omega) (met_X9_allFit (d := 0) (Nat.le_refl _) hp1) rfl ?_
    by_cases c2 : zw p1.1 = 0
    · rw [if_pos c2] at h
      refine zG_br hm rfl (cf' := (35, [some (zr 0 0), some (zi v1), some (zi v2)], [], p1.2)) (if_pos c2) ?_
      refine zG_run hm 2 (cf' := (10, [some (zr 0 0), some (zi v1), some (zi (v2 + 1))], [], p1.2)) rfl ?_
      refine zG_sub (lv' := [some (zr 0 0), some (zi v1), some (zi (v2 + 1))]) (zsb_s rfl (zsb_s rfl (zsb_s rfl zsb_0))) ?_
      exact kc ((v2 + 1), p1.2) (Option.some.inj h).symm
    · rw [if_neg c2] at h
      refine zG_br hm rfl (cf' := (28, [some (zr 0 0), some (zi v1), some (zi v2)], [], p1.2)) (if_neg c2) ?_
      refine zG_run hm 5 (cf' := (34, [some (zr 0 0), some (zi v1), some (zi v2)], [zi ((v1 * 100) + v2)], p1.2)) rfl ?_
      obtain ⟨rfl, rfl⟩ := kr (((v1 * 100) + v2), p1.2) (Option.some.inj h).symm
      exact zG_ri hm rfl rfl
theorem gl_X10_rule_L10 {v1 : Int} {y : (Int × zM) ⊕ (zM)} {r : Option zV} {Mf : zM} {d : Nat} (hd : 1 ≤ d)
    (kb : ∀ t, y = .inr t → zG 103 d (41, [some (zr 0 0), some (zi v1), none], [], t) r Mf) (kr : ∀ q, y = .inl q → r = some (zi q.1) ∧ Mf = q.2) : ∀ (n : Nat) (s : Int × zM), zlp (fun s : Int × zM => f_X10_rule_L10 v1 s.1 s.2) n s = some y → zG 103 d (10, [some (zr 0 0), some (zi v1), some (zi s.1)], [], s.2) r Mf := by
  intro n
  induction n with
  | zero => intro s h; cases h
  | succ n ih =>
    intro s h
    rcases zlp_cases h with ⟨s', h1, h2⟩ | h1
    · exact g_X10_rule_L10 hd h1 (fun s2 e2 => by cases e2; exact ih _ h2) (fun t e2 => by cases e2) (fun q e2 => by cases e2)
    · exact g_X10_rule_L10 hd h1 (fun s2 e2 => by cases e2) (fun t e2 => kb t (Sum.inr.inj e2)) (fun q e2 => kr q (Sum.inr.inj e2))
def f_X10_rule_L2 (v1 : Int) (M : zM) : Option ((Int × zM) ⊕ ((Int × zM) ⊕ (zM))) :=
  if 100 < zw v1 then
    some (.inr (.inr M))
  else
    (zlp (fun s : Int × zM => f_X10_rule_L10 v1 s.1 s.2) zF (1, M)).bind fun y4 =>
      match y4 with
      | .inl q6 => some (.inr (.inl q6))
      | .inr t5 =>
        some (.inl ((v1 + 1), t5))
theorem g_X10_rule_L2 {v1 : Int} {M : zM} {x : (Int × zM) ⊕ ((Int × zM) ⊕ (zM))} {r : Option zV} {Mf : zM} {d : Nat} (hd : 1 ≤ d) (h : f_X10_rule_L2 v1 M = some x)
    (kc : ∀ s, x = .inl s → zG 103 d (2, [some (zr 0 0), some (zi s.1), none], [], s.2) r Mf)
    (kb : ∀ t, x = .inr (.inr t) → zG 103 d (47, [none, none, none], [], t) r Mf) (kr : ∀ q, x = .inr (.inl q) → r = some (zi q.1) ∧ Mf = q.2) : zG 103 d (2, [some (zr 0 0), some (zi v1), none], [], M) r Mf := by
  have hm := zmok_103
  unfold f_X10_rule_L2 at h
  refine zG_run hm 2 (cf' := (5, [some (zr 0 0), some (zi v1), none], [zi 100, zi v1], M)) rfl ?_
  by_cases c7 : 100 < zw v1
  · rw [if_pos c7] at h
    refine zG_br hm rfl (cf' := (47, [some (zr 0 0), some (zi v1), none], [], M)) (if_pos c7) ?_
    refine zG_sub (lv' := [none, none, none]) (zsb_n (zsb_n (zsb_n zsb_0))) ?_
    exact kb M (Option.some.inj h).symm
  · rw [if_neg c7] at h
    refine zG_br hm rfl (cf' := (8, [some (zr 0 0), some (zi v1), none], [], M)) (if_neg c7) ?_
    refine zG_run hm 2 (cf' := (10, [some (zr 0 0), some (zi v1), some (zi 1)], [], M)) rfl ?_
    refine zG_sub (lv' := [some (zr 0 0), some (zi v1), some (zi 1)]) (zsb_s rfl (zsb_s rfl (zsb_s rfl zsb_0))) ?_
    obtain ⟨y4, hy4, h⟩ := Option.bind_eq_some_iff.mp h
    refine gl_X10_rule_L10 hd (fun t5 e2 => ?_) (fun q e2 => ?_) zF (1, M) hy4
    · cases e2
      refine zG_run hm 2 (cf' := (2, [some (zr 0 0), some (zi (v1 + 1)), none], [], t5)) rfl ?_
      refine zG_sub (lv' := [some (zr 0 0), some (zi (v1 + 1)), none]) (zsb_s rfl (zsb_s rfl (zsb_n zsb_0))) ?_
      exact kc ((v1 + 1), t5) (Option.some.inj h).symm
    · cases e2
      exact kr q (Option.some.inj h).symm
theorem gl_X10_rule_L2  {y : (Int × zM) ⊕ (zM)} {r : Option zV} {Mf : zM} {d : Nat} (hd : 1 ≤ d)
    (kb : ∀ t, y = .inr t → zG 103 d (47, [none, none, none], [], t) r Mf) (kr : ∀ q, y = .inl q → r = some (zi q.1) ∧ Mf = q.2) : ∀ (n : Nat) (s : Int × zM), zlp (fun s : Int × zM => f_X10_rule_L2  s.1 s.2) n s = some y → zG 103 d (2, [some (zr 0 0), some (zi s.1), none], [], s.2) r Mf := by
  intro n
  induction n with
  | zero => intro s h; cases h
  | succ n ih =>
    intro s h
    rcases zlp_cases h with ⟨s', h1, h2⟩ | h1
    · exact g_X10_rule_L2 hd h1 (fun s2 e2 => by cases e2; exact ih _ h2) (fun t e2 => by cases e2) (fun q e2 => by cases e2)
    · exact g_X10_rule_L2 hd h1 (fun s2 e2 => by cases e2) (fun t e2 => kb t (Sum.inr.inj e2)) (fun q e2 => kr q (Sum.inr.inj e2))
def f_X10_rule  (M : zM) : Option (Int × zM) :=
  (zlp (fun s : Int × zM => f_X10_rule_L2  s.1 s.2) zF (0, M)).bind fun y8 =>
    match y8 with
    | .inl q10 => some q10
    | .inr t9 =>
      some ((-1), t9)
theorem g_X10_rule  {M : zM} {q : Int × zM} {d : Nat} (hd : 1 ≤ d) (h : f_X10_rule  M = some q) : zG 103 d (0, [some (zr 0 0), none, none], [], M) (some (zi q.1)) q.2 := by
  have hm := zmok_103
  unfold f_X10_rule at h
  refine zG_run hm 2 (cf' := (2, [some (zr 0 0), some (zi 0), none], [], M)) rfl ?_
  refine zG_sub (lv' := [some (zr 0 0), some (zi 0), none]) (zsb_s rfl (zsb_s rfl (zsb_n zsb_0))) ?_
  obtain ⟨y8, hy8, h⟩ := Option.bind_eq_some_iff.mp h
  refine gl_X10_rule_L2 hd (fun t9 e2 => ?_) (fun q e2 => ?_) zF (0, M) hy8
  · cases e2
    refine zG_run hm 1 (cf' := (48, [none, none, none], [zi (-1)], t9)) rfl ?_
    cases h
    exact zG_ri hm rfl rfl
  · cases e2
    cases h
    exact ⟨rfl, rfl⟩
theorem met_X10_rule  {M : zM} {q : Int × zM} {d : Nat} (hd : 1 ≤ d) (h : f_X10_rule  M = some q) : zMet 103 d [zr 0 0] M (some (zi q.1)) q.2 :=
  zMet_of (lv0 := [some (zr 0 0), none, none]) zmok_103 rfl rfl (fun v hv => by cases hv; trivial) (g_X10_rule hd h)
def f_X11_isRule_j68 (v1 : Int) (v2 : Int) (v3 : Int) (vs0 : Int) (vs1 : Int) (M : zM) : Option ((Int) ⊕ ((Int × zM) ⊕ (Unit))) :=
  if zw vs1 = zw vs0 then
    some (.inl (v3 + 1))
  else
    some (.inr (.inl (0, M)))
theorem g_X11_isRule_j68 {v1 : Int} {v2 : Int} {v3 : Int} {vs0 : Int} {vs1 : Int} {M : zM} {x : (Int) ⊕ ((Int × zM) ⊕ (Unit))} {r : Option zV} {Mf : zM} {d : Nat} (hd : 0 ≤ d) (h : f_X11_isRule_j68 v1 v2 v3 vs0 vs1 M = some x)
    (kc : ∀ s, x = .inl s → zG 220 d (2, [some (zr 42 0), some (zi v1), some (zi v2), some (zi s), none], [], M) r Mf)
    (kb : ∀ t, x = .inr (.inr t) → zG 220 d (79, [none, none, none, none, none], [], M) r Mf) (kr : ∀ q, x = .inr (.inl q) → r = some (zi q.1) ∧ Mf = q.2) : zG 220 d (68, [some (zr 42 0), some (zi v1), some (zi v2), some (zi v3), none], [zi vs0, zi vs1], M) r Mf := by
  have hm := zmok_220
  unfold f_X11_isRule_j68 at h
  by_cases c1 : zw vs1 = zw vs0
  · rw [if_pos c1] at h
    refine zG_br hm rfl (cf' := (73, [some (zr 42 0), some (zi v1), some (zi v2), some (zi v3), none], [], M)) (if_pos c1) ?_
    refine zG_run hm 2 (cf' := (2, [some (zr 42 0), some (zi v1), some (zi v2), some (zi (v3 + 1)), none], [], M)) rfl ?_
    refine zG_sub (lv' := [some (zr 42 0), some (zi v1), some (zi v2), some (zi (v3 + 1)), none]) (zsb_s rfl (zsb_s rfl (zsb_s rfl (zsb_s rfl (zsb_n zsb_0))))) ?_
    exact kc (v3 + 1) (Option.some.inj h).symm
  · rw [if_neg c1] at h
    refine zG_br hm rfl (cf' := (71, [some (zr 42 0), some (zi v1), some (zi v2), some (zi v3), none], [], M)) (if_neg c1) ?_
    refine zG_run hm 1 (cf' := (72, [some (zr 42 0), some (zi v1), some (zi v2), some (zi v3), none], [zi 0], M)) rfl ?_
    obtain ⟨rfl, rfl⟩ := kr (0, M) (Option.some.inj h).symm
    exact zG_rz hm rfl rfl (Or.inl rfl)
def f_X11_isRule_j50 (v1 : Int) (v2 : Int) (v3 : Int) (v4 : Int) (vs0 : Int) (M : zM) : Option ((Int) ⊕ ((Int × zM) ⊕ (Unit))) :=
  if 0 ≤ zw (v4 + 2) ∧ zw (v4 + 2) < 5090 then
    if ¬ zw (M 43 0 (zix (v4 + 2))) = 1 then
      f_X11_isRule_j68 v1 v2 v3 0 vs0 M
    else
      f_X11_isRule_j68 v1 v2 v3 1 vs0 M
  else
    none
theorem g_X11_isRule_j50 {v1 : Int} {v2 : Int} {v3 : Int} {v4 : Int} {vs0 : Int} {M : zM} {x : (Int) ⊕ ((Int × zM) ⊕ (Unit))} {r : Option zV} {Mf : zM} {d : Nat} (hd : 0 ≤ d) (h : f_X11_isRule_j50 v1 v2 v3 v4 vs0 M = some x)
    (kc : ∀ s, x = .inl s → zG 220 d (2, [some (zr 42 0), some (zi v1), some (zi v2), some (zi s), none], [], M) r Mf)
    (kb : ∀ t, x = .inr (.inr t) → zG 220 d (79, [none, none, none, none, none], [], M) r Mf) (kr : ∀ q, x = .inr (.inl q) → r = some (zi q.1) ∧ Mf = q.2) : zG 220 d (50, [some (zr 42 0), some (zi v1), some (zi v2), some (zi v3), some (zi v4)], [zi vs0], M) r Mf := by
  have hm := zmok_220
  unfold f_X11_isRule_j50 at h
  refine zG_run hm 5 (cf' := (58, [some (zr 42 0), some (zi v1), some (zi v2), some (zi v3), some (zi v4)], [zi (v4 + 2), zr 43 0, zi vs0], M)) rfl ?_
  by_cases c3 : 0 ≤ zw (v4 + 2) ∧ zw (v4 + 2) < 5090
  · rw [if_pos c3] at h
    refine zG_br hm rfl (cf' := (59, [some (zr 42 0), some (zi v1), some (zi v2), some (zi v3), some (zi v4)], [zi (M 43 0 (zix (v4 + 2))), zi vs0], M)) (if_pos c3) ?_
    refine zG_run hm 1 (cf' := (60, [some (zr 42 0), some (zi v1), some (zi v2), some (zi v3), some (zi v4)], [zi 1, zi (M 43 0 (zix (v4 + 2))), zi vs0], M)) rfl ?_
    by_cases c2 : ¬ zw (M 43 0 (zix (v4 + 2))) = 1
    · rw [if_pos c2] at h
      refine zG_br hm rfl (cf' := (67, [some (zr 42 0), some (zi v1), some (zi v2), some (zi v3), some (zi v4)], [zi vs0], M)) (if_pos c2) ?_
      refine zG_run hm 1 (cf' := (68, [some (zr 42 0), some (zi v1), some (zi v2), some (zi v3), some (zi v4)], [zi 0, zi vs0], M)) rfl ?_
      refine zG_sub (lv' := [some (zr 42 0), some (zi v1), some (zi v2), some (zi v3), none]) (zsb_s rfl (zsb_s rfl (zsb_s rfl (zsb_s rfl (zsb_n zsb_0))))) ?_
      exact g_X11_isRule_j68 hd h kc kb kr
    · rw [if_neg c2] at h
      refine zG_br hm rfl (cf' := (63, [some (zr 42 0), some (zi v1), some (zi v2), some (zi v3), some (zi v4)], [zi vs0], M)) (if_neg c2) ?_
      refine zG_run hm 2 (cf' := (68, [some (zr 42 0), some (zi v1), some (zi v2), some (zi v3), some (zi v4)], [zi 1, zi vs0], M)) rfl ?_
      refine zG_sub (lv' := [some (zr 42 0), some (zi v1), some (zi v2), some (zi v3), none]) (zsb_s rfl (zsb_s rfl (zsb_s rfl (zsb_s rfl (zsb_n zsb_0))))) ?_
      exact g_X11_isRule_j68 hd h kc kb kr
  · rw [if_neg c3] at h
    cases h
def f_X11_isRule_j49 (v1 : Int) (v2 : Int) (v3 : Int) (v4 : Int) (M : zM) : Option ((Int) ⊕ ((Int × zM) ⊕ (Unit))) :=
  f_X11_isRule_j50 v1 v2 v3 v4 0 M
theorem g_X11_isRule_j49 {v1 : Int} {v2 : Int} {v3 : Int} {v4 : Int} {M : zM} {x : (Int) ⊕ ((Int × zM) ⊕ (Unit))} {r : Option zV} {Mf : zM} {d : Nat} (hd : 0 ≤ d) (h : f_X11_isRule_j49 v1 v2 v3 v4 M = some x)
    (kc : ∀ s, x = .inl s → zG 220 d (2, [some (zr 42 0), some (zi v1), some (zi v2), some (zi s), none], [], M) r Mf)
    (kb : ∀ t, x = .inr (.inr t) → zG 220 d (79, [none, none, none, none, none], [], M) r Mf) (kr : ∀ q, x = .inr (.inl q) → r = some (zi q.1) ∧ Mf = q.2) : zG 220 d (49, [some (zr 42 0), some (zi v1), some (zi v2), some (zi v3), some (zi v4)], [], M) r Mf := by
  have hm := zmok_220
  unfold f_X11_isRule_j49 at h
  refine zG_run hm 1 (cf' := (50, [some (zr 42 0), some (zi v1), some (zi v2), some (zi v3), some (zi v4)], [zi 0], M)) rfl ?_
  refine zG_sub (lv' := [some (zr 42 0), some (zi v1), some (zi v2), some (zi v3), some (zi v4)]) (zsb_s rfl (zsb_s rfl (zsb_s rfl (zsb_s rfl (zsb_s rfl zsb_0))))) ?_
  exact g_X11_isRule_j50 hd h kc kb kr
def f_X11_isRule_L2 (v1 : Int) (v2 : Int) (v3 : Int) (M : zM) : Option ((Int) ⊕ ((Int × zM) ⊕ (Unit))) :=
  if zw (M 43 0 8) ≤ zw v3 then
    some (.inr (.inr ()))
  else
    if 0 ≤ zw (57 + (3 * v3)) ∧ zw (57 + (3 * v3)) < 5090 then
      if zw (M 43 0 (zix (57 + (3 * v3)))) < zw v1 then
        f_X11_isRule_j49 v1 v2 v3 (57 + (3 * v3)) M
      else
        if 0 ≤ zw ((57 + (3 * v3)) + 1) ∧ zw ((57 + (3 * v3)) + 1) < 5090 then
          if zw (M 43 0 (zix ((57 + (3 * v3)) + 1))) < zw v2 then
            f_X11_isRule_j49 v1 v2 v3 (57 + (3 * v3)) M
          else
            f_X11_isRule_j50 v1 v2 v3 (57 + (3 * v3)) 1 M
        else
          none
    else
      none
theorem g_X11_isRule_L2 {v1 : Int} {v2 : Int} {v3 : Int} {M : zM} {x : (Int) ⊕ ((Int × zM) ⊕ (Unit))} {r : Option zV} {Mf : zM} {d : Nat} (hd : 0 ≤ d) (h : f_X11_isRule_L2 v1 v2 v3 M = some x)
    (kc : ∀ s, x = .inl s → zG 220 d (2, [some (zr 42 0), some (zi v1), some (zi v2), some (zi s), none], [], M) r Mf)
    (kb : ∀ t, x = .inr (.inr t) → zG 220 d (79, [none, none, none, none, none], [], M) r Mf) (kr : ∀ q, x = .inr (.inl q) → r = some (zi q.1) ∧ Mf = q.2) : zG 220 d (2, [some (zr 42 0), some (zi v1), some (zi v2), some (zi v3), none], [], M) r Mf := by
  have hm := zmok_220
  unfold f_X11_isRule_L2 at h
  refine zG_run hm 5 (cf' := (10, [some (zr 42 0), some (zi v1), some (zi v2), some (zi v3), none], [zi (M 43 0 8), zi v3], M)) rfl ?_
  by_cases c8 : zw (M 43 0 8) ≤ zw v3
  · rw [if_pos c8] at h
    refine zG_br hm rfl (cf' := (79, [some (zr 42 0), some (zi v1), some (zi v2), some (zi v3), none], [], M)) (if_pos c8) ?_
    refine zG_sub (lv' := [none, none, none, none, none]) (zsb_n (zsb_n (zsb_n (zsb_n (zsb_n zsb_0))))) ?_
    exact kb () (Option.some.inj h).symm
  · rw [if_neg c8] at h
    refine zG_br hm rfl (cf' := (13, [some (zr 42 0), some (zi v1), some (zi v2), some (zi v3), none], [], M)) (if_neg c8) ?_
    refine zG_run hm 9 (cf' := (27, [some (zr 42 0), some (zi v1), some (zi v2), some (zi v3), some (zi (57 + (3 * v3)))], [zi (57 + (3 * v3)), zr 43 0], M)) rfl ?_
    by_cases c7 : 0 ≤ zw (57 + (3 * v3)) ∧ zw (57 + (3 * v3)) < 5090
    · rw [if_pos c7] at h
      refine zG_br hm rfl (cf' := (28, [some (zr 42 0), some (zi v1), some (zi v2), some (zi v3), some (zi (57 + (3 * v3)))], [zi (M 43 0 (zix (57 + (3 * v3))))], M)) (if_pos c7) ?_
      refine zG_run hm 1 (cf' := (29, [some (zr 42 0), some (zi v1), some (zi v2), some (zi v3), some (zi (57 + (3 * v3)))], [zi v1, zi (M 43 0 (zix (57 + (3 * v3))))], M)) rfl ?_
      by_cases c6 : zw (M 43 0 (zix (57 + (3 * v3)))) < zw v1
      · rw [if_pos c6] at h
        refine zG_br hm rfl (cf' := (49, [some (zr 42 0), some (zi v1), some (zi v2), some (zi v3), some (zi (57 + (3 * v3)))], [], M)) (if_pos c6) ?_
        refine zG_sub (lv' := [some (zr 42 0), some (zi v1), some (zi v2), some (zi v3), some (zi (57 + (3 * v3)))]) (zsb_s rfl (zsb_s rfl (zsb_s rfl (zsb_s rfl (zsb_s rfl zsb_0))))) ?_
        exact g_X11_isRule_j49 hd h kc kb kr
      · rw [if_neg c6] at h
        refine zG_br hm rfl (cf' := (32, [some (zr 42 0), some (zi v1), some (zi v2), some (zi v3), some (zi (57 + (3 * v3)))], [], M)) (if_neg c6) ?_
        refine zG_run hm 5 (cf' := (40, [some (zr 42 0), some (zi v1), some (zi v2), some (zi v3), some (zi (57 + (3 * v3)))], [zi ((57 + (3 * v3)) + 1), zr 43 0], M)) rfl ?_
        by_cases c5 : 0 ≤ zw ((57 + (3 * v3)) + 1) ∧ zw ((57 + (3 * v3)) + 1) < 5090
        · rw [if_pos c5] at h
          refine zG_br hm rfl (cf' := (41, [some (zr 42 0), some (zi v1), some (zi v2), some (zi v3), some (zi (57 + (3 * v3)))], [zi (M 43 0 (zix ((57 + (3 * v3)) + 1)))], M)) (if_pos c5) ?_
          refine zG_run hm 1 (cf' := (42, [some (zr 42 0), some (zi v1), some (zi v2), some (zi v3), some (zi (57 + (3 * v3)))], [zi v2, zi (M 43 0 (zix ((57 + (3 * v3)) + 1)))], M)) rfl ?_
          by_cases c4 : zw (M 43 0 (zix ((57 + (3 * v3)) + 1))) < zw v2
          · rw [if_pos c4] at h
            refine zG_br hm rfl (cf' := (49, [some (zr 42 0), some (zi v1), some (zi v2), some (zi v3), some (zi (57 + (3 * v3)))], [], M)) (if_pos c4) ?_
            refine zG_sub (lv' := [some (zr 42 0), some (zi v1), some (zi v2), some (zi v3), some (zi (57 + (3 * v3)))]) (zsb_s rfl (zsb_s rfl (zsb_s rfl (zsb_s rfl (zsb_s rfl zsb_0))))) ?_
            exact g_X11_isRule_j49 hd h kc kb kr
          · rw [if_neg c4] at h
            refine zG_br hm rfl (cf' := (45, [some (zr 42 0), some (zi v1), some (zi v2), some (zi v3), some (zi (57 + (3 * v3)))], [], M)) (if_neg c4) ?_
            refine zG_run hm 2 (cf' := (50, [some (zr 42 0), some (zi v1), some (zi v2), some (zi v3), some (zi (57 + (3 * v3)))], [zi 1], M)) rfl ?_
            refine zG_sub (lv' := [some (zr 42 0), some (zi v1), some (zi v2), some (zi v3), some (zi (57 + (3 * v3)))]) (zsb_s rfl (zsb_s rfl (zsb_s rfl (zsb_s rfl (zsb_s rfl zsb_0))))) ?_
            exact g_X11_isRule_j50 hd h kc kb kr
        · rw [if_neg c5] at h
          cases h
    · rw [if_neg c7] at h
      cases h
theorem gl_X11_isRule_L2 {v1 : Int} {v2 : Int} {M : zM} {y : (Int × zM) ⊕ (Unit)} {r : Option zV} {Mf : zM} {d : Nat} (hd : 0 ≤ d)
    (kb : ∀ t, y = .inr t → zG 220 d (79, [none, none, none, none, none], [], M) r Mf) (kr : ∀ q, y = .inl q → r = some (zi q.1) ∧ Mf = q.2) : ∀ (n : Nat) (s : Int), zlp (fun s : Int => f_X11_isRule_L2 v1 v2 s M) n s = some y → zG 220 d (2, [some (zr 42 0), some (zi v1), some (zi v2), some (zi s), none], [], M) r Mf := by
  intro n
  induction n with
  | zero => intro s h; cases h
  | succ n ih =>
    intro s h
    rcases zlp_cases h with ⟨s', h1, h2⟩ | h1
    · exact g_X11_isRule_L2 hd h1 (fun s2 e2 => by cases e2; exact ih _ h2) (fun t e2 => by cases e2) (fun q e2 => by cases e2)
    · exact g_X11_isRule_L2 hd h1 (fun s2 e2 => by cases e2) (fun t e2 => kb t (Sum.inr.inj e2)) (fun q e2 => kr q (Sum.inr.inj e2))
def f_X11_isRule (v1 : Int) (v2 : Int) (M : zM) : Option (Int × zM) :=
  (zlp (fun s : Int => f_X11_isRule_L2 v1 v2 s M) zF 0).bind fun y9 =>
    match y9 with
    | .inl q11 => some q11
    | .inr t10 =>
      some (1, M)
theorem g_X11_isRule {v1 : Int} {v2 : Int} {M : zM} {q : Int × zM} {d : Nat} (hd : 0 ≤ d) (h : f_X11_isRule v1 v2 M = some q) : zG 220 d (0, [some (zr 42 0), some (zi v1), some (zi v2), none, none], [], M) (some (zi q.1)) q.2 := by
  have hm := zmok_220
  unfold f_X11_isRule at h
  refine zG_run hm 2 (cf' := (2, [some (zr 42 0), some (zi v1), some (zi v2), some (zi 0), none], [], M)) rfl ?_
  refine zG_sub (lv' := [some (zr 42 0), some (zi v1), some (zi v2), some (zi 0), none]) (zsb_s rfl (zsb_s rfl (zsb_s rfl (zsb_s rfl (zsb_n zsb_0))))) ?_
  obtain ⟨y9, hy9, h⟩ := Option.bind_eq_some_iff.mp h
  refine gl_X11_isRule_L2 hd (fun t10 e2 => ?_) (fun q e2 => ?_) zF 0 hy9
  · cases e2
    refine zG_run hm 1 (cf' := (80, [none, none, none, none, none], [zi 1], M)) rfl ?_
    cases h
    exact zG_rz hm rfl rfl (Or.inr rfl)
  · cases e2
    cases h
    exact ⟨rfl, rfl⟩
theorem met_X11_isRule {v1 : Int} {v2 : Int} {M : zM} {q : Int × zM} {d : Nat} (hd : 0 ≤ d) (h : f_X11_isRule v1 v2 M = some q) : zMet 220 d [zr 42 0, zi v1, zi v2] M (some (zi q.1)) q.2 :=
  zMet_of (lv0 := [some (zr 42 0), some (zi v1), some (zi v2), none, none]) zmok_220 rfl rfl (fun v hv => by cases hv; trivial) (g_X11_isRule hd h)
def f_X11_rule_L10 (v1 : Int) (v2 : Int) (M : zM) : Option ((Int × zM) ⊕ ((Int × zM) ⊕ (zM))) :=
  if 11 ≤ zw v2 then
    some (.inr (.inr M))
  else
    (f_X11_isRule v1 v2 M).bind fun p1 =>
      if zw p1.1 = 0 then
        some (.inl ((v2 + 1), p1.2))
      else
        some (.inr (.inl (((v1 * 100) + v2), p1.2)))
theorem g_X11_rule_L10 {v1 : Int} {v2 : Int} {M : zM} {x : (Int × zM) ⊕ ((Int × zM) ⊕ (zM))} {r : Option zV} {Mf : zM} {d : Nat} (hd : 1 ≤ d) (h : f_X11_rule_L10 v1 v2 M = some x)
    (kc : ∀ s, x = .inl s → zG 221 d (10, [some (zr 42 0), some (zi v1), some (zi s.1)], [], s.2) r Mf)
    (kb : ∀ t, x = .inr (.inr t) → zG 221 d (38, [some (zr 42 0), some (zi v1), none], [], t) r Mf) (kr : ∀ q, x = .inr (.inl q) → r = some (zi q.1) ∧ Mf = q.2) : zG 221 d (10, [some (zr 42 0), some (zi v1), some (zi v2)], [], M) r Mf := by
  have hm := zmok_221
  unfold f_X11_rule_L10 at h
  refine zG_run hm 2 (cf' := (13, [some (zr 42 0), some (zi v1), some (zi v2)], [zi 11, zi v2], M)) rfl ?_
  by_cases c3 : 11 ≤ zw v2
  · rw [if_pos c3] at h
    refine zG_br hm rfl (cf' := (38, [some (zr 42 0), some (zi v1), some (zi v2)], [], M)) (if_pos c3) ?_
    refine zG_sub (lv' := [some (zr 42 0), some (zi v1), none]) (zsb_s rfl (zsb_s rfl (zsb_n zsb_0))) ?_
    exact kb M (Option.some.inj h).symm
  · rw [if_neg c3] at h
    refine zG_br hm rfl (cf' := (16, [some (zr 42 0), some (zi v1), some (zi v2)], [], M)) (if_neg c3) ?_
    refine zG_run hm 3 (cf' := (19, [some (zr 42 0), some (zi v1), some (zi v2)], [zi v2, zi v1, zr 42 0], M)) rfl ?_
    obtain ⟨p1, hp1, h⟩ := Option.bind_eq_some_iff.mp h
    refine zG_V hm zmok_220 rfl (as := [zi v1, zi v2]) (rest := []) (st2 := [zi p1.1]) (pc2 := 22) rfl rfl (by omega) (met_X11_isRule (d := 0) (Nat.le_refl _) hp1) rfl ?_
    by_cases c2 : zw p1.1 = 0
    · rw [if_pos c2] at h
      refine zG_br hm rfl (cf' := (32, [some (zr 42 0), some (zi v1), some (zi v2)], [], p1.2)) (if_pos c2) ?_
      refine zG_run hm 2 (cf' := (10, [some (zr 42 0), some (zi v1), some (zi (v2 + 1))], [], p1.2)) rfl ?_
      refine zG_sub (lv' := [some (zr 42 0), some (zi v1), some (zi (v2 + 1))]) (zsb_s rfl (zsb_s rfl (zsb_s rfl zsb_0))) ?_
      exact kc ((v2 + 1), p1.2) (Option.some.inj h).symm
    · rw [if_neg c2] at h
      refine zG_br hm rfl (cf' := (25, [some (zr 42 0), some (zi v1), some (zi v2)], [], p1.2)) (if_neg c2) ?_
      refine zG_run hm 5 (cf' := (31, [some (zr 42 0), some (zi v1), some (zi v2)], [zi ((v1 * 100) + v2)], p1.2)) rfl ?_
      obtain ⟨rfl, rfl⟩ := kr (((v1 * 100) + v2), p1.2) (Option.some.inj h).symm
      exact zG_ri hm rfl rfl
theorem gl_X11_rule_L10 {v1 : Int} {y : (Int × zM) ⊕ (zM)} {r : Option zV} {Mf : zM} {d : Nat} (hd : 1 ≤ d)
    (kb : ∀ t, y = .inr t → zG 221 d (38, [some (zr 42 0), some (zi v1), none], [], t) r Mf) (kr : ∀ q, y = .inl q → r = some (zi q.1) ∧ Mf = q.2) : ∀ (n : Nat) (s : Int × zM), zlp (fun s : Int × zM => f_X11_rule_L10 v1 s.1 s.2) n s = some y → zG 221 d (10, [some (zr 42 0), some (zi v1), some (zi s.1)], [], s.2) r Mf := by
  intro n
  induction n with
  | zero => intro s h; cases h
  | succ n ih =>
    intro s h
    rcases zlp_cases h with ⟨s', h1, h2⟩ | h1
    · exact g_X11_rule_L10 hd h1 (fun s2 e2 => by cases e2; exact ih _ h2) (fun t e2 => by cases e2) (fun q e2 => by cases e2)
    · exact g_X11_rule_L10 hd h1 (fun s2 e2 => by cases e2) (fun t e2 => kb t (Sum.inr.inj e2)) (fun q e2 => kr q (Sum.inr.inj e2))
def f_X11_rule_L2 (v1 : Int) (M : zM) : Option ((Int × zM) ⊕ ((Int × zM) ⊕ (zM))) :=
  if 101 ≤ zw v1 then
    some (.inr (.inr M))
  else
    (zlp (fun s : Int × zM => f_X11_rule_L10 v1 s.1 s.2) zF (1, M)).bind fun y4 =>
      match y4 with
      | .inl q6 => some (.inr (.inl q6))
      | .inr t5 =>
        some (.inl ((v1 + 1), t5))
theorem g_X11_rule_L2 {v1 : Int} {M : zM} {x : (Int × zM) ⊕ ((Int × zM) ⊕ (zM))} {r : Option zV} {Mf : zM} {d : Nat} (hd : 1 ≤ d) (h : f_X11_rule_L2 v1 M = some x)
    (kc : ∀ s, x = .inl s → zG 221 d (2, [some (zr 42 0), some (zi s.1), none], [], s.2) r Mf)
    (kb : ∀ t, x = .inr (.inr t) → zG 221 d (44, [none, none, none], [], t) r Mf) (kr : ∀ q, x = .inr (.inl q) → r = some (zi q.1) ∧ Mf = q.2) : zG 221 d (2, [some (zr 42 0), some (zi v1), none], [], M) r Mf := by
  have hm := zmok_221
  unfold f_X11_rule_L2 at h
  refine zG_run hm 2 (cf' := (5, [some (zr 42 0), some (zi v1), none], [zi 101, zi v1], M)) rfl ?_
  by_cases c7 : 101 ≤ zw v1
  · rw [if_pos c7] at h
    refine zG_br hm rfl (cf' := (44, [some (zr 42 0), some (zi v1), none], [], M)) (if_pos c7) ?_
    refine zG_sub (lv' := [none, none, none]) (zsb_n (zsb_n (zsb_n zsb_0))) ?_
    exact kb M (Option.some.inj h).symm
  · rw [if_neg c7] at h
    refine zG_br hm rfl (cf' := (8, [some (zr 42 0), some (zi v1), none], [], M)) (if_neg c7) ?_
    refine zG_run hm 2 (cf' := (10, [some (zr 42 0), some (zi v1), some (zi 1)], [], M)) rfl ?_
    refine zG_sub (lv' := [some (zr 42 0), some (zi v1), some (zi 1)]) (zsb_s rfl (zsb_s rfl (zsb_s rfl zsb_0))) ?_
    obtain ⟨y4, hy4, h⟩ := Option.bind_eq_some_iff.mp h
    refine gl_X11_rule_L10 hd (fun t5 e2 => ?_) (fun q e2 => ?_) zF (1, M) hy4
    · cases e2
      refine zG_run hm 2 (cf' := (2, [some (zr 42 0), some (zi (v1 + 1)), none], [], t5)) rfl ?_
      refine zG_sub (lv' := [some (zr 42 0), some (zi (v1 + 1)), none]) (zsb_s rfl (zsb_s rfl (zsb_n zsb_0))) ?_
      exact kc ((v1 + 1), t5) (Option.some.inj h).symm
    · cases e2
      exact kr q (Option.some.inj h).symm
theorem gl_X11_rule_L2  {y : (Int × zM) ⊕ (zM)} {r : Option zV} {Mf : zM} {d : Nat} (hd : 1 ≤ d)
    (kb : ∀ t, y = .inr t → zG 221 d (44, [none, none, none], [], t) r Mf) (kr : ∀ q, y = .inl q → r = some (zi q.1) ∧ Mf = q.2) : ∀ (n : Nat) (s : Int × zM), zlp (fun s : Int × zM => f_X11_rule_L2  s.1 s.2) n s = some y → zG 221 d (2, [some (zr 42 0), some (zi s.1), none], [], s.2) r Mf := by
  intro n
  induction n with
  | zero => intro s h; cases h
  | succ n ih =>
    intro s h
    rcases zlp_cases h with ⟨s', h1, h2⟩ | h1
    · exact g_X11_rule_L2 hd h1 (fun s2 e2 => by cases e2; exact ih _ h2) (fun t e2 => by cases e2) (fun q e2 => by cases e2)
    · exact g_X11_rule_L2 hd h1 (fun s2 e2 => by cases e2) (fun t e2 => kb t (Sum.inr.inj e2)) (fun q e2 => kr q (Sum.inr.inj e2))
def f_X11_rule  (M : zM) : Option (Int × zM) :=
  (zlp (fun s : Int × zM => f_X11_rule_L2  s.1 s.2) zF (0, M)).bind fun y8 =>
    match y8 with
    | .inl q10 => some q10
    | .inr t9 =>
      some ((-1), t9)
theorem g_X11_rule  {M : zM} {q : Int × zM} {d : Nat} (hd : 1 ≤ d) (h : f_X11_rule  M = some q) : zG 221 d (0, [some (zr 42 0), none, none], [], M) (some (zi q.1)) q.2 := by
  have hm := zmok_221
  unfold f_X11_rule at h
  refine zG_run hm 2 (cf' := (2, [some (zr 42 0), some (zi 0), none], [], M)) rfl ?_
  refine zG_sub (lv' := [some (zr 42 0), some (zi 0), none]) (zsb_s rfl (zsb_s rfl (zsb_n zsb_0))) ?_
  obtain ⟨y8, hy8, h⟩ := Option.bind_eq_some_iff.mp h
  refine gl_X11_rule_L2 hd (fun t9 e2 => ?_) (fun q e2 => ?_) zF (0, M) hy8
  · cases e2
    refine zG_run hm 1 (cf' := (45, [none, none, none], [zi (-1)], t9)) rfl ?_
    cases h
    exact zG_ri hm rfl rfl
  · cases e2
    cases h
    exact ⟨rfl, rfl⟩
theorem met_X11_rule  {M : zM} {q : Int × zM} {d : Nat} (hd : 1 ≤ d) (h : f_X11_rule  M = some q) : zMet 221 d [zr 42 0] M (some (zi q.1)) q.2 :=
  zMet_of (lv0 := [some (zr 42 0), none, none]) zmok_221 rfl rfl (fun v hv => by cases hv; trivial) (g_X11_rule hd h)
def f_X10_power_L5 (v0 : Int) (v2 : Int) (v3 : Int) (v5 : Int) (M : zM) : Option ((Int × Int) ⊕ (Int)) :=
  if zw v2 ≤ zw v5 then
    some (.inr v3)
  else
    some (.inl ((v3 * v0), (v5 + 1)))
theorem g_X10_power_L5 {v0 : Int} {v2 : Int} {v3 : Int} {v5 : Int} {M : zM} {x : (Int × Int) ⊕ (Int)} {r : Option zV} {Mf : zM} {d : Nat} (hd : 0 ≤ d) (h : f_X10_power_L5 v0 v2 v3 v5 M = some x)
    (kc : ∀ s, x = .inl s → zG 110 d (5, [some (zl v0), none, some (zi v2), some (zl s.1), none, some (zi s.2)], [], M) r Mf)
    (kb : ∀ t, x = .inr t → zG 110 d (21, [none, none, none, some (zl t), none, none], [], M) r Mf) (kr : True) : zG 110 d (5, [some (zl v0), none, some (zi v2), some (zl v3), none, some (zi v5)], [], M) r Mf := by
  have hm := zmok_110
  unfold f_X10_power_L5 at h
  refine zG_run hm 2 (cf' := (8, [some (zl v0), none, some (zi v2), some (zl v3), none, some (zi v5)], [zi v2, zi v5], M)) rfl ?_
  by_cases c1 : zw v2 ≤ zw v5
  · rw [if_pos c1] at h
    refine zG_br hm rfl (cf' := (21, [some (zl v0), none, some (zi v2), some (zl v3), none, some (zi v5)], [], M)) (if_pos c1) ?_
    refine zG_sub (lv' := [none, none, none, some (zl v3), none, none]) (zsb_n (zsb_n (zsb_n (zsb_s rfl (zsb_n (zsb_n zsb_0)))))) ?_
    exact kb v3 (Option.some.inj h).symm
  · rw [if_neg c1] at h
    refine zG_br hm rfl (cf' := (11, [some (zl v0), none, some (zi v2), some (zl v3), none, some (zi v5)], [], M)) (if_neg c1) ?_
    refine zG_run hm 6 (cf' := (5, [some (zl v0), none, some (zi v2), some (zl (v3 * v0)), none, some (zi (v5 + 1))], [], M)) rfl ?_
    refine zG_sub (lv' := [some (zl v0), none, some (zi v2), some (zl (v3 * v0)), none, some (zi (v5 + 1))]) (zsb_s rfl (zsb_n (zsb_s rfl (zsb_s rfl (zsb_n (zsb_s rfl zsb_0)))))) ?_
    exact kc ((v3 * v0), (v5 + 1)) (Option.some.inj h).symm
theorem gl_X10_power_L5 {v0 : Int} {v2 : Int} {M : zM} {y : Int} {r : Option zV} {Mf : zM} {d : Nat} (hd : 0 ≤ d)
    (kb : ∀ t, y = t → zG 110 d (21, [none, none, none, some (zl t), none, none], [], M) r Mf) (kr : True) : ∀ (n : Nat) (s : Int × Int), zlp (fun s : Int × Int => f_X10_power_L5 v0 v2 s.1 s.2 M) n s = some y → zG 110 d (5, [some (zl v0), none, some (zi v2), some (zl s.1), none, some (zi s.2)], [], M) r Mf := by
  intro n
  induction n with
  | zero => intro s h; cases h
  | succ n ih =>
    intro s h
    rcases zlp_cases h with ⟨s', h1, h2⟩ | h1
    · exact g_X10_power_L5 hd h1 (fun s2 e2 => by cases e2; exact ih _ h2) (fun t e2 => by cases e2) trivial
    · exact g_X10_power_L5 hd h1 (fun s2 e2 => by cases e2) (fun t e2 => kb t (Sum.inr.inj e2)) trivial
def f_X10_power (v0 : Int) (v2 : Int) (M : zM) : Option (Int × zM) :=
  (zlp (fun s : Int × Int => f_X10_power_L5 v0 v2 s.1 s.2 M) zF (1, 0)).bind fun y2 =>
    some (y2, M)
theorem g_X10_power {v0 : Int} {v2 : Int} {M : zM} {q : Int × zM} {d : Nat} (hd : 0 ≤ d) (h : f_X10_power v0 v2 M = some q) : zG 110 d (0, [some (zl v0), none, some (zi v2), none, none, none], [], M) (some (zl q.1)) q.2 := by
  have hm := zmok_110
  unfold f_X10_power at h
  refine zG_run hm 4 (cf' := (5, [some (zl v0), none, some (zi v2), some (zl 1), none, some (zi 0)], [], M)) rfl ?_
  refine zG_sub (lv' := [some (zl v0), none, some (zi v2), some (zl 1), none, some (zi 0)]) (zsb_s rfl (zsb_n (zsb_s rfl (zsb_s rfl (zsb_n (zsb_s rfl zsb_0)))))) ?_
  obtain ⟨y2, hy2, h⟩ := Option.bind_eq_some_iff.mp h
  refine gl_X10_power_L5 hd (fun t e2 => ?_) trivial zF (1, 0) hy2
  cases e2
  refine zG_run hm 1 (cf' := (22, [none, none, none, some (zl y2), none, none], [zl y2], M)) rfl ?_
  cases h
  exact zG_rl hm rfl rfl
theorem met_X10_power {v0 : Int} {v2 : Int} {M : zM} {q : Int × zM} {d : Nat} (hd : 0 ≤ d) (h : f_X10_power v0 v2 M = some q) : zMet 110 d [zl v0, zi v2] M (some (zl q.1)) q.2 :=
  zMet_of (lv0 := [some (zl v0), none, some (zi v2), none, none, none]) zmok_110 rfl rfl (fun v hv => by cases hv; trivial) (g_X10_power hd h)
def f_X10_commonMeasure_L3 (v0 : Int) (v2 : Int) (v4 : Int) (M : zM) : Option ((Int × Int × Int) ⊕ (Int)) :=
  if 100 ≤ zw v4 then
    some (.inr v2)
  else
    if zw (zlcmp (zwl v0) (0)) = 0 then
      some (.inr v2)
    else
      if zwl v0 = 0 then
        none
      else
        some (.inl ((zrem (zwl v2) (zwl v0)), v0, (v4 + 1)))
theorem g_X10_commonMeasure_L3 {v0 : Int} {v2 : Int} {v4 : Int} {M : zM} {x : (Int × Int × Int) ⊕ (Int)} {r : Option zV} {Mf : zM} {d : Nat} (hd : 0 ≤ d) (h : f_X10_commonMeasure_L3 v0 v2 v4 M = some x)
    (kc : ∀ s, x = .inl s → zG 111 d (3, [some (zl s.1), none, some (zl s.2.1), none, some (zi s.2.2), none, none], [], M) r Mf)
    (kb : ∀ t, x = .inr t → zG 111 d (32, [none, none, some (zl t), none, none, none, none], [], M) r Mf) (kr : True) : zG 111 d (3, [some (zl v0), none, some (zl v2), none, some (zi v4), none, none], [], M) r Mf := by
  have hm := zmok_111
  unfold f_X10_commonMeasure_L3 at h
  refine zG_run hm 2 (cf' := (7, [some (zl v0), none, some (zl v2), none, some (zi v4), none, none], [zi 100, zi v4], M)) rfl ?_
  by_cases c3 : 100 ≤ zw v4
  · rw [if_pos c3] at h
    refine zG_br hm rfl (cf' := (32, [some (zl v0), none, some (zl v2), none, some (zi v4), none, none], [], M)) (if_pos c3) ?_
    refine zG_sub (lv' := [none, none, some (zl v2), none, none, none, none]) (zsb_n (zsb_n (zsb_s rfl (zsb_n (zsb_n (zsb_n (zsb_n zsb_0))))))) ?_
    exact kb v2 (Option.some.inj h).symm
  · rw [if_neg c3] at h
    refine zG_br hm rfl (cf' := (10, [some (zl v0), none, some (zl v2), none, some (zi v4), none, none], [], M)) (if_neg c3) ?_
    refine zG_run hm 3 (cf' := (13, [some (zl v0), none, some (zl v2), none, some (zi v4), none, none], [zi (zlcmp (zwl v0) (0))], M)) rfl ?_
    by_cases c2 : zw (zlcmp (zwl v0) (0)) = 0
    · rw [if_pos c2] at h
      refine zG_br hm rfl (cf' := (32, [some (zl v0), none, some (zl v2), none, some (zi v4), none, none], [], M)) (if_pos c2) ?_
      refine zG_sub (lv' := [none, none, some (zl v2), none, none, none, none]) (zsb_n (zsb_n (zsb_s rfl (zsb_n (zsb_n (zsb_n (zsb_n zsb_0))))))) ?_
      exact kb v2 (Option.some.inj h).symm
    · rw [if_neg c2] at h
      refine zG_br hm rfl (cf' := (16, [some (zl v0), none, some (zl v2), none, some (zi v4), none, none], [], M)) (if_neg c2) ?_
      refine zG_run hm 2 (cf' := (18, [some (zl v0), none, some (zl v2), none, some (zi v4), none, none], [zl v0, zl v2], M)) rfl ?_
      by_cases c1 : zwl v0 = 0
      · rw [if_pos c1] at h
        cases h
      · rw [if_neg c1] at h
        refine zG_br hm rfl (cf' := (19, [some (zl v0), none, some (zl v2), none, some (zi v4), none, none], [zl (zrem (zwl v2) (zwl v0))], M)) (if_neg c1) ?_
        refine zG_run hm 7 (cf' := (3, [some (zl (zrem (zwl v2) (zwl v0))), none, some (zl v0), none, some (zi (v4 + 1)), some (zl (zrem (zwl v2) (zwl v0))), none], [], M)) rfl ?_
        refine zG_sub (lv' := [some (zl (zrem (zwl v2) (zwl v0))), none, some (zl v0), none, some (zi (v4 + 1)), none, none]) (zsb_s rfl (zsb_n (zsb_s rfl (zsb_n (zsb_s rfl (zsb_n (zsb_n zsb_0))))))) ?_
        exact kc ((zrem (zwl v2) (zwl v0)), v0, (v4 + 1)) (Option.some.inj h).symm
theorem gl_X10_commonMeasure_L3  {M : zM} {y : Int} {r : Option zV} {Mf : zM} {d : Nat} (hd : 0 ≤ d)
    (kb : ∀ t, y = t → zG 111 d (32, [none, none, some (zl t), none, none, none, none], [], M) r Mf) (kr : True) : ∀ (n : Nat) (s : Int × Int × Int), zlp (fun s : Int × Int × Int => f_X10_commonMeasure_L3  s.1 s.2.1 s.2.2 M) n s = some y → zG 111 d (3, [some (zl s.1), none, some (zl s.2.1), none, some (zi s.2.2), none, none], [], M) r Mf := by
  intro n
  induction n with
  | zero => intro s h; cases h
  | succ n ih =>
    intro s h
    rcases zlp_cases h with ⟨s', h1, h2⟩ | h1
    · exact g_X10_commonMeasure_L3 hd h1 (fun s2 e2 => by cases e2; exact ih _ h2) (fun t e2 => by cases e2) trivial
    · exact g_X10_commonMeasure_L3 hd h1 (fun s2 e2 => by cases e2) (fun t e2 => kb t (Sum.inr.inj e2)) trivial
def f_X10_commonMeasure (v0 : Int) (v2 : Int) (M : zM) : Option (Int × zM) :=
  (zlp (fun s : Int × Int × Int => f_X10_commonMeasure_L3  s.1 s.2.1 s.2.2 M) zF (v0, v2, 0)).bind fun y4 =>
    some (y4, M)
theorem g_X10_commonMeasure {v0 : Int} {v2 : Int} {M : zM} {q : Int × zM} {d : Nat} (hd : 0 ≤ d) (h : f_X10_commonMeasure v0 v2 M = some q) : zG 111 d (0, [some (zl v0), none, some (zl v2), none, none, none, none], [], M) (some (zl q.1)) q.2 := by
  have hm := zmok_111
  unfold f_X10_commonMeasure at h
  refine zG_run hm 2 (cf' := (3, [some (zl v0), none, some (zl v2), none, some (zi 0), none, none], [], M)) rfl ?_
  refine zG_sub (lv' := [some (zl v0), none, some (zl v2), none, some (zi 0), none, none]) (zsb_s rfl (zsb_n (zsb_s rfl (zsb_n (zsb_s rfl (zsb_n (zsb_n zsb_0))))))) ?_
  obtain ⟨y4, hy4, h⟩ := Option.bind_eq_some_iff.mp h
  refine gl_X10_commonMeasure_L3 hd (fun t e2 => ?_) trivial zF (v0, v2, 0) hy4
  cases e2
  refine zG_run hm 1 (cf' := (33, [none, none, some (zl y4), none, none, none, none], [zl y4], M)) rfl ?_
  cases h
  exact zG_rl hm rfl rfl
theorem met_X10_commonMeasure {v0 : Int} {v2 : Int} {M : zM} {q : Int × zM} {d : Nat} (hd : 0 ≤ d) (h : f_X10_commonMeasure v0 v2 M = some q) : zMet 111 d [zl v0, zl v2] M (some (zl q.1)) q.2 :=
  zMet_of (lv0 := [some (zl v0), none, some (zl v2), none, none, none, none]) zmok_111 rfl rfl (fun v hv => by cases hv; trivial) (g_X10_commonMeasure hd h)
def f_X10_odds_j94 (v1 : Int) (v2 : Int) (v3 : Int) (v4 : Int) (v6 : Int) (v8 : Int) (M : zM) : Option ((Int × Int × Int × zM) ⊕ (Int × Int × zM)) :=
  some (.inl (v4, v6, (v8 + 1), M))
theorem g_X10_odds_j94 {v1 : Int} {v2 : Int} {v3 : Int} {v4 : Int} {v6 : Int} {v8 : Int} {M : zM} {x : (Int × Int × Int × zM) ⊕ (Int × Int × zM)} {r : Option zV} {Mf : zM} {d : Nat} (hd : 1 ≤ d) (h : f_X10_odds_j94 v1 v2 v3 v4 v6 v8 M = some x)
    (kc : ∀ s, x = .inl s → zG 104 d (40, [some (zr 0 0), some (zi v1), some (zi v2), some (zi v3), some (zl s.1), none, some (zl s.2.1), none, some (zi s.2.2.1), none], [], s.2.2.2) r Mf)
    (kb : ∀ t, x = .inr t → zG 104 d (100, [none, none, none, some (zi v3), some (zl t.1), none, some (zl t.2.1), none, none, none], [], t.2.2) r Mf) (kr : True) : zG 104 d (94, [some (zr 0 0), some (zi v1), some (zi v2), some (zi v3), some (zl v4), none, some (zl v6), none, some (zi v8), none], [], M) r Mf := by
  have hm := zmok_104
  unfold f_X10_odds_j94 at h
  refine zG_run hm 2 (cf' := (40, [some (zr 0 0), some (zi v1), some (zi v2), some (zi v3), some (zl v4), none, some (zl v6), none, some (zi (v8 + 1)), none], [], M)) rfl ?_
  refine zG_sub (lv' := [some (zr 0 0), some (zi v1), some (zi v2), some (zi v3), some (zl v4), none, some (zl v6), none, some (zi (v8 + 1)), none]) (zsb_s rfl (zsb_s rfl (zsb_s rfl (zsb_s rfl (zsb_s rfl (zsb_n (zsb_s rfl (zsb_n (zsb_s rfl (zsb_n zsb_0)))))))))) ?_
  exact kc (v4, v6, (v8 + 1), M) (Option.some.inj h).symm
def f_X10_odds_L40 (v1 : Int) (v2 : Int) (v3 : Int) (v4 : Int) (v6 : Int) (v8 : Int) (M : zM) : Option ((Int × Int × Int × zM) ⊕ (Int × Int × zM)) :=
  if zw (M 11 0 6) ≤ zw v8 then
    some (.inr (v4, v6, M))
  else
    if ¬ zw (zand (zshr v1 v8) 1) = 1 then
      f_X10_odds_j94 v1 v2 v3 v4 v6 v8 M
    else
      if 0 ≤ zw v8 ∧ zw v8 < 6 then
        (f_X10_power (zw (M 12 0 (zix v8))) v2 M).bind fun p2 =>
          (f_X10_power 10 v2 p2.2).bind fun p3 =>
            f_X10_odds_j94 v1 v2 v3 (v4 * p2.1) (v6 * p3.1) v8 p3.2
      else
        none
theorem g_X10_odds_L40 {v1 : Int} {v2 : Int} {v3 : Int} {v4 : Int} {v6 : Int} {v8 : Int} {M : zM} {x : (Int × Int × Int × zM) ⊕ (Int × Int × zM)} {r : Option zV} {Mf : zM} {d : Nat} (hd : 1 ≤ d) (h : f_X10_odds_L40 v1 v2 v3 v4 v6 v8 M = some x)
    (kc : ∀ s, x = .inl s → zG 104 d (40, [some (zr 0 0), some (zi v1), some (zi v2), some (zi v3), some (zl s.1), none, some (zl s.2.1), none, some (zi s.2.2.1), none], [], s.2.2.2) r Mf)
    (kb : ∀ t, x = .inr t → zG 104 d (100, [none, none, none, some (zi v3), some (zl t.1), none, some (zl t.2.1), none, none, none], [], t.2.2) r Mf) (kr : True) : zG 104 d (40, [some (zr 0 0), some (zi v1), some (zi v2), some (zi v3), some (zl v4), none, some (zl v6), none, some (zi v8), none], [], M) r Mf := by
  have hm := zmok_104
  unfold f_X10_odds_L40 at h
  refine zG_run hm 4 (cf' := (49, [some (zr 0 0), some (zi v1), some (zi v2), some (zi v3), some (zl v4), none, some (zl v6), none, some (zi v8), none], [zi (M 11 0 6), zi v8], M)) rfl ?_
  by_cases c6 : zw (M 11 0 6) ≤ zw v8
  · rw [if_pos c6] at h
    refine zG_br hm rfl (cf' := (100, [some (zr 0 0), some (zi v1), some (zi v2), some (zi v3), some (zl v4), none, some (zl v6), none, some (zi v8), none], [], M)) (if_pos c6) ?_
    refine zG_sub (lv' := [none, none, none, some (zi v3), some (zl v4), none, some (zl v6), none, none, none]) (zsb_n (zsb_n (zsb_n (zsb_s rfl (zsb_s rfl (zsb_n (zsb_s rfl (zsb_n (zsb_n (zsb_n zsb_0)))))))))) ?_
    exact kb (v4, v6, M) (Option.some.inj h).symm
  · rw [if_neg c6] at h
    refine zG_br hm rfl (cf' := (52, [some (zr 0 0), some (zi v1), some (zi v2), some (zi v3), some (zl v4), none, some (zl v6), none, some (zi v8), none], [], M)) (if_neg c6) ?_
    refine zG_run hm 6 (cf' := (59, [some (zr 0 0), some (zi v1), some (zi v2), some (zi v3), some (zl v4), none, some (zl v6), none, some (zi v8), none], [zi 1, zi (zand (zshr v1 v8) 1)], M)) rfl ?_
    by_cases c5 : ¬ zw (zand (zshr v1 v8) 1) = 1
    · rw [if_pos c5] at h
      refine zG_br hm rfl (cf' := (94, [some (zr 0 0), some (zi v1), some (zi v2), some (zi v3), some (zl v4), none, some (zl v6), none, some (zi v8), none], [], M)) (if_pos c5) ?_
      refine zG_sub (lv' := [some (zr 0 0), some (zi v1), some (zi v2), some (zi v3), some (zl v4), none, some (zl v6), none, some (zi v8), none]) (zsb_s rfl (zsb_s rfl (zsb_s rfl (zsb_s rfl (zsb_s rfl (zsb_n (zsb_s rfl (zsb_n (zsb_s rfl (zsb_n zsb_0)))))))))) ?_
      exact g_X10_odds_j94 hd h kc kb kr
    · rw [if_neg c5] at h
      refine zG_br hm rfl (cf' := (62, [some (zr 0 0), some (zi v1), some (zi v2), some (zi v3), some (zl v4), none, some (zl v6), none, some (zi v8), none], [], M)) (if_neg c5) ?_
      refine zG_run hm 5 (cf' := (73, [some (zr 0 0), some (zi v1), some (zi v2), some (zi v3), some (zl v4), none, some (zl v6), none, some (zi v8), none], [zi v8, zr 12 0, zl v4], M)) rfl ?_
      by_cases c4 : 0 ≤ zw v8 ∧ zw v8 < 6
      · rw [if_pos c4] at h
        refine zG_br hm rfl (cf' := (74, [some (zr 0 0), some (zi v1), some (zi v2), some (zi v3), some (zl v4), none, some (zl v6), none, some (zi v8), none], [zi (M 12 0 (zix v8)), zl v4], M)) (if_pos c4) ?_
        refine zG_run hm 2 (cf' := (76, [some (zr 0 0), some (zi v1), some (zi v2), some (zi v3), some (zl v4), none, some (zl v6), none, some (zi v8), none], [zi v2, zl (zw (M 12 0 (zix v8))), zl v4], M)) rfl ?_
        obtain ⟨p2, hp2, h⟩ := Option.bind_eq_some_iff.mp h
        refine zG_S hm zmok_110 rfl (as := [zl (zw (M 12 0 (zix v8))), zi v2]) (rest := [zl v4]) (st2 := [zl p2.1, zl v4]) (pc2 := 79) rfl rfl (by omega) (met_X10_power (d := 0) (Nat.le_refl _) hp2) rfl ?_
        refine zG_run hm 5 (cf' := (88, [some (zr 0 0), some (zi v1), some (zi v2), some (zi v3), some (zl (v4 * p2.1)), none, some (zl v6), none, some (zi v8), none], [zi v2, zl 10, zl v6], p2.2)) rfl ?_
        obtain ⟨p3, hp3, h⟩ := Option.bind_eq_some_iff.mp h
        refine zG_S hm zmok_110 rfl (as := [zl 10, zi v2]) (rest := [zl v6]) (st2 := [zl p3.1, zl v6]) (pc2 := 91) rfl rfl (by omega) (met_X10_power (d := 0) (Nat.le_refl _) hp3) rfl ?_
        refine zG_run hm 2 (cf' := (94, [some (zr 0 0), some (zi v1), some (zi v2), some (zi v3), some (zl (v4 * p2.1)), none, some (zl (v6 * p3.1)), none, some (zi v8), none], [], p3.2)) rfl ?_
        refine zG_sub (lv' := [some (zr 0 0), some (zi v1), some (zi v2), some (zi v3), some (zl (v4 * p2.1)), none, some (zl (v6 * p3.1)), none, some (zi v8), none]) (zsb_s rfl (zsb_s rfl (zsb_s rfl (zsb_s rfl (zsb_s rfl (zsb_n (zsb_s rfl (zsb_n (zsb_s rfl (zsb_n zsb_0)))))))))) ?_
        exact g_X10_odds_j94 hd h kc kb kr
      · rw [if_neg c4] at h
        cases h
theorem gl_X10_odds_L40 {v1 : Int} {v2 : Int} {v3 : Int} {y : Int × Int × zM} {r : Option zV} {Mf : zM} {d : Nat} (hd : 1 ≤ d)
    (kb : ∀ t, y = t → zG 104 d (100, [none, none, none, some (zi v3), some (zl t.1), none, some (zl t.2.1), none, none, none], [], t.2.2) r Mf) (kr : True) : ∀ (n : Nat) (s : Int × Int × Int × zM), zlp (fun s : Int × Int × Int × zM => f_X10_odds_L40 v1 v2 v3 s.1 s.2.1 s.2.2.1 s.2.2.2) n s = some y → zG 104 d (40, [some (zr 0 0), some (zi v1), some (zi v2), some (zi v3), some (zl s.1), none, some (zl s.2.1), none, some (zi s.2.2.1), none], [], s.2.2.2) r Mf := by
  intro n
  induction n with
  | zero => intro s h; cases h
  | succ n ih =>
    intro s h
    rcases zlp_cases h with ⟨s', h1, h2⟩ | h1
    · exact g_X10_odds_L40 hd h1 (fun s2 e2 => by cases e2; exact ih _ h2) (fun t e2 => by cases e2) trivial
    · exact g_X10_odds_L40 hd h1 (fun s2 e2 => by cases e2) (fun t e2 => kb t (Sum.inr.inj e2)) trivial
def f_X10_odds_j120 (v8 : Int) (vs0 : Int) (M : zM) : Option (Int × zM) :=
  if zwl v8 = 0 then
    none
  else
    some ((Int.tdiv (zwl vs0) (zwl v8)), M)
theorem g_X10_odds_j120 {v8 : Int} {vs0 : Int} {M : zM} {q : Int × zM} {d : Nat} (hd : 1 ≤ d) (h : f_X10_odds_j120 v8 vs0 M = some q) : zG 104 d (120, [none, none, none, none, none, none, none, none, some (zl v8), none], [zl vs0], M) (some (zl q.1)) q.2 := by
  have hm := zmok_104
  unfold f_X10_odds_j120 at h
  refine zG_run hm 1 (cf' := (122, [none, none, none, none, none, none, none, none, some (zl v8), none], [zl v8, zl vs0], M)) rfl ?_
  by_cases c9 : zwl v8 = 0
  · rw [if_pos c9] at h
    cases h
  · rw [if_neg c9] at h
    refine zG_br hm rfl (cf' := (123, [none, none, none, none, none, none, none, none, some (zl v8), none], [zl (Int.tdiv (zwl vs0) (zwl v8))], M)) (if_neg c9) ?_
    cases h
    exact zG_rl hm rfl rfl
def f_X10_odds (v1 : Int) (v2 : Int) (v3 : Int) (M : zM) : Option (Int × zM) :=
  if zw v1 < 1 then
    some ((-1), M)
  else
    if zw (zshl 1 (M 11 0 6)) ≤ zw v1 then
      some ((-1), M)
    else
      (f_X10_within v2 0 3 M).bind fun p1 =>
        if ¬ zw p1.1 = 0 then
          (zlp (fun s : Int × Int × Int × zM => f_X10_odds_L40 v1 v2 v3 s.1 s.2.1 s.2.2.1 s.2.2.2) zF (1, 1, 0, p1.2)).bind fun y7 =>
            (f_X10_commonMeasure y7.1 y7.2.1 y7.2.2).bind fun p8 =>
              if zw v3 = 0 then
                f_X10_odds_j120 p8.1 y7.1 p8.2
              else
                f_X10_odds_j120 p8.1 y7.2.1 p8.2
        else
          some ((-1), p1.2)
theorem g_X10_odds {v1 : Int} {v2 : Int} {v3 : Int} {M : zM} {q : Int × zM} {d : Nat} (hd : 1 ≤ d) (h : f_X10_odds v1 v2 v3 M = some q) : zG 104 d (0, [some (zr 0 0), some (zi v1), some (zi v2), some (zi v3), none, none, none, none, none, none], [], M) (some (zl q.1)) q.2 := by
  have hm := zmok_104
  unfold f_X10_odds at h
  refine zG_run hm 2 (cf' := (2, [some (zr 0 0), some (zi v1), some (zi v2), some (zi v3), none, none, none, none, none, none], [zi 1, zi v1], M)) rfl ?_
  by_cases c13 : zw v1 < 1
  · rw [if_pos c13] at h
    refine zG_br hm rfl (cf' := (27, [some (zr 0 0), some (zi v1), some (zi v2), some (zi v3), none, none, none, none, none, none], [], M)) (if_pos c13) ?_
    refine zG_run hm 1 (cf' := (30, [some (zr 0 0), some (zi v1), some (zi v2), some (zi v3), none, none, none, none, none, none], [zl (-1)], M)) rfl ?_
    cases h
    exact zG_rl hm rfl rfl
  · rw [if_neg c13] at h
    refine zG_br hm rfl (cf' := (5, [some (zr 0 0), some (zi v1), some (zi v2), some (zi v3), none, none, none, none, none, none], [], M)) (if_neg c13) ?_
    refine zG_run hm 6 (cf' := (15, [some (zr 0 0), some (zi v1), some (zi v2), some (zi v3), none, none, none, none, none, none], [zi (zshl 1 (M 11 0 6)), zi v1], M)) rfl ?_
    by_cases c12 : zw (zshl 1 (M 11 0 6)) ≤ zw v1
    · rw [if_pos c12] at h
      refine zG_br hm rfl (cf' := (27, [some (zr 0 0), some (zi v1), some (zi v2), some (zi v3), none, none, none, none, none, none], [], M)) (if_pos c12) ?_
      refine zG_run hm 1 (cf' := (30, [some (zr 0 0), some (zi v1), some (zi v2), some (zi v3), none, none, none, none, none, none], [zl (-1)], M)) rfl ?_
      cases h
      exact zG_rl hm rfl rfl
    · rw [if_neg c12] at h
      refine zG_br hm rfl (cf' := (18, [some (zr 0 0), some (zi v1), some (zi v2), some (zi v3), none, none, none, none, none, none], [], M)) (if_neg c12) ?_
      refine zG_run hm 3 (cf' := (21, [some (zr 0 0), some (zi v1), some (zi v2), some (zi v3), none, none, none, none, none, none], [zi 3, zi 0, zi v2], M)) rfl ?_
      obtain ⟨p1, hp1, h⟩ := Option.bind_eq_some_iff.mp h
      refine zG_S hm zmok_108 rfl (as := [zi v2, zi 0, zi 3]) (rest := []) (st2 := [zi p1.1]) (pc2 := 24) rfl rfl (by omega) (met_X10_within (d := 0) (Nat.le_refl _) hp1) rfl ?_
      by_cases c11 : ¬ zw p1.1 = 0
      · rw [if_pos c11] at h
        refine zG_br hm rfl (cf' := (31, [some (zr 0 0), some (zi v1), some (zi v2), some (zi v3), none, none, none, none, none, none], [], p1.2)) (if_pos c11) ?_
        refine zG_run hm 6 (cf' := (40, [some (zr 0 0), some (zi v1), some (zi v2), some (zi v3), some (zl 1), none, some (zl 1), none, some (zi 0), none], [], p1.2)) rfl ?_
        refine zG_sub (lv' := [some (zr 0 0), some (zi v1), some (zi v2), some (zi v3), some (zl 1), none, some (zl 1), none, some (zi 0), none]) (zsb_s rfl (zsb_s rfl (zsb_s rfl (zsb_s rfl (zsb_s rfl (zsb_n (zsb_s rfl (zsb_n (zsb_s rfl (zsb_n zsb_0)))))))))) ?_
        obtain ⟨y7, hy7, h⟩ := Option.bind_eq_some_iff.mp h
        refine gl_X10_odds_L40 hd (fun t e2 => ?_) trivial zF (1, 1, 0, p1.2) hy7
        cases e2
        refine zG_run hm 2 (cf' := (104, [none, none, none, some (zi v3), some (zl y7.1), none, some (zl y7.2.1), none, none, none], [zl y7.2.1, zl y7.1], y7.2.2)) rfl ?_
        obtain ⟨p8, hp8, h⟩ := Option.bind_eq_some_iff.mp h
        refine zG_S hm zmok_111 rfl (as := [zl y7.1, zl y7.2.1]) (rest := []) (st2 := [zl p8.1]) (pc2 := 107) rfl rfl (by omega) (met_X10_commonMeasure (d := 0) (Nat.le_refl _) hp8) rfl ?_
        refine zG_run hm 2 (cf' := (110, [none, none, none, some (zi v3), some (zl y7.1), none, some (zl y7.2.1), none, some (zl p8.1), none], [zi v3], p8.2)) rfl ?_
        by_cases c10 : zw v3 = 0
        · rw [if_pos c10] at h
          refine zG_br hm rfl (cf' := (118, [none, none, none, some (zi v3), some (zl y7.1), none, some (zl y7.2.1), none, some (zl p8.1), none], [], p8.2)) (if_pos c10) ?_
          refine zG_run hm 1 (cf' := (120, [none, none, none, some (zi v3), some (zl y7.1), none, some (zl y7.2.1), none, some (zl p8.1), none], [zl y7.1], p8.2)) rfl ?_
          refine zG_sub (lv' := [none, none, none, none, none, none, none, none, some (zl p8.1), none]) (zsb_n (zsb_n (zsb_n (zsb_n (zsb_n (zsb_n (zsb_n (zsb_n (zsb_s rfl (zsb_n zsb_0)))))))))) ?_
          exact g_X10_odds_j120 hd h
        · rw [if_neg c10] at h
          refine zG_br hm rfl (cf' := (113, [none, none, none, some (zi v3), some (zl y7.1), none, some (zl y7.2.1), none, some (zl p8.1), none], [], p8.2)) (if_neg c10) ?_
          refine zG_run hm 2 (cf' := (120, [none, none, none, some (zi v3), some (zl y7.1), none, some (zl y7.2.1), none, some (zl p8.1), none], [zl y7.2.1], p8.2)) rfl ?_
          refine zG_sub (lv' := [none, none, none, none, none, none, none, none, some (zl p8.1), none]) (zsb_n (zsb_n (zsb_n (zsb_n (zsb_n (zsb_n (zsb_n (zsb_n (zsb_s rfl (zsb_n zsb_0)))))))))) ?_
          exact g_X10_odds_j120 hd h
      · rw [if_neg c11] at h
        refine zG_br hm rfl (cf' := (27, [some (zr 0 0), some (zi v1), some (zi v2), some (zi v3), none, none, none, none, none, none], [], p1.2)) (if_neg c11) ?_
        refine zG_run hm 1 (cf' := (30, [some (zr 0 0), some (zi v1), some (zi v2), some (zi v3), none, none, none, none, none, none], [zl (-1)], p1.2)) rfl ?_
        cases h
        exact zG_rl hm rfl rfl
theorem met_X10_odds {v1 : Int} {v2 : Int} {v3 : Int} {M : zM} {q : Int × zM} {d : Nat} (hd : 1 ≤ d) (h : f_X10_odds v1 v2 v3 M = some q) : zMet 104 d [zr 0 0, zi v1, zi v2, zi v3] M (some (zl q.1)) q.2 :=
  zMet_of (lv0 := [some (zr 0 0), some (zi v1), some (zi v2), some (zi v3), none, none, none, none, none, none]) zmok_104 rfl rfl (fun v hv => by cases hv; trivial) (g_X10_odds hd h)
def f_X11_power_L5 (v0 : Int) (v2 : Int) (v3 : Int) (v5 : Int) (M : zM) : Option ((Int × Int) ⊕ (Int)) :=
  if zw v2 ≤ zw v5 then
    some (.inr v3)
  else
    some (.inl ((v3 * v0), (v5 + 1)))
theorem g_X11_power_L5 {v0 : Int} {v2 : Int} {v3 : Int} {v5 : Int} {M : zM} {x : (Int × Int) ⊕ (Int)} {r : Option zV} {Mf : zM} {d : Nat} (hd : 0 ≤ d) (h : f_X11_power_L5 v0 v2 v3 v5 M = some x)
    (kc : ∀ s, x = .inl s → zG 222 d (5, [some (zl v0), none, some (zi v2), some (zl s.1), none, some (zi s.2)], [], M) r Mf)
    (kb : ∀ t, x = .inr t → zG 222 d (21, [none, none, none, some (zl t), none, none], [], M) r Mf) (kr : True) : zG 222 d (5, [some (zl v0), none, some (zi v2), some (zl v3), none, some (zi v5)], [], M) r Mf := by
  have hm := zmok_222
  unfold f_X11_power_L5 at h
  refine zG_run hm 2 (cf' := (8, [some (zl v0), none, some (zi v2), some (zl v3), none, some (zi v5)], [zi v2, zi v5], M)) rfl ?_
  by_cases c1 : zw v2 ≤ zw v5
  · rw [if_pos c1] at h
    refine zG_br hm rfl (cf' := (21, [some (zl v0), none, some (zi v2), some (zl v3), none, some (zi v5)], [], M)) (if_pos c1) ?_
    refine zG_sub (lv' := [none, none, none, some (zl v3), none, none]) (zsb_n (zsb_n (zsb_n (zsb_s rfl (zsb_n (zsb_n zsb_0)))))) ?_
    exact kb v3 (Option.some.inj h).symm
  · rw [if_neg c1] at h
    refine zG_br hm rfl (cf' := (11, [some (zl v0), none, some (zi v2), some (zl v3), none, some (zi v5)], [], M)) (if_neg c1) ?_
    refine zG_run hm 6 (cf' := (5, [some (zl v0), none, some (zi v2), some (zl (v3 * v0)), none, some (zi (v5 + 1))], [], M)) rfl ?_
    refine zG_sub (lv' := [some (zl v0), none, some (zi v2), some (zl (v3 * v0)), none, some (zi (v5 + 1))]) (zsb_s rfl (zsb_n (zsb_s rfl (zsb_s rfl (zsb_n (zsb_s rfl zsb_0)))))) ?_
    exact kc ((v3 * v0), (v5 + 1)) (Option.some.inj h).symm
theorem gl_X11_power_L5 {v0 : Int} {v2 : Int} {M : zM} {y : Int} {r : Option zV} {Mf : zM} {d : Nat} (hd : 0 ≤ d)
    (kb : ∀ t, y = t → zG 222 d (21, [none, none, none, some (zl t), none, none], [], M) r Mf) (kr : True) : ∀ (n : Nat) (s : Int × Int), zlp (fun s : Int × Int => f_X11_power_L5 v0 v2 s.1 s.2 M) n s = some y → zG 222 d (5, [some (zl v0), none, some (zi v2), some (zl s.1), none, some (zi s.2)], [], M) r Mf := by
  intro n
  induction n with
  | zero => intro s h; cases h
  | succ n ih =>
    intro s h
    rcases zlp_cases h with ⟨s', h1, h2⟩ | h1
    · exact g_X11_power_L5 hd h1 (fun s2 e2 => by cases e2; exact ih _ h2) (fun t e2 => by cases e2) trivial
    · exact g_X11_power_L5 hd h1 (fun s2 e2 => by cases e2) (fun t e2 => kb t (Sum.inr.inj e2)) trivial
def f_X11_power (v0 : Int) (v2 : Int) (M : zM) : Option (Int × zM) :=
  (zlp (fun s : Int × Int => f_X11_power_L5 v0 v2 s.1 s.2 M) zF (1, 0)).bind fun y2 =>
    some (y2, M)
theorem g_X11_power {v0 : Int} {v2 : Int} {M : zM} {q : Int × zM} {d : Nat} (hd : 0 ≤ d) (h : f_X11_power v0 v2 M = some q) : zG 222 d (0, [some (zl v0), none, some (zi v2), none, none, none], [], M) (some (zl q.1)) q.2 := by
  have hm := zmok_222
  unfold f_X11_power at h
  refine zG_run hm 4 (cf' := (5, [some (zl v0), none, some (zi v2), some (zl 1), none, some (zi 0)], [], M)) rfl ?_
  refine zG_sub (lv' := [some (zl v0), none, some (zi v2), some (zl 1), none, some (zi 0)]) (zsb_s rfl (zsb_n (zsb_s rfl (zsb_s rfl (zsb_n (zsb_s rfl zsb_0)))))) ?_
  obtain ⟨y2, hy2, h⟩ := Option.bind_eq_some_iff.mp h
  refine gl_X11_power_L5 hd (fun t e2 => ?_) trivial zF (1, 0) hy2
  cases e2
  refine zG_run hm 1 (cf' := (22, [none, none, none, some (zl y2), none, none], [zl y2], M)) rfl ?_
  cases h
  exact zG_rl hm rfl rfl
theorem met_X11_power {v0 : Int} {v2 : Int} {M : zM} {q : Int × zM} {d : Nat} (hd : 0 ≤ d) (h : f_X11_power v0 v2 M = some q) : zMet 222 d [zl v0, zi v2] M (some (zl q.1)) q.2 :=
  zMet_of (lv0 := [some (zl v0), none, some (zi v2), none, none, none]) zmok_222 rfl rfl (fun v hv => by cases hv; trivial) (g_X11_power hd h)
def f_X11_many_L4 (v1 : Int) (v2 : Int) (M : zM) : Option ((Int × Int) ⊕ (Int)) :=
  if zw v2 = 0 then
    some (.inr v1)
  else
    some (.inl ((v1 + (zand v2 1)), (zshr v2 1)))
theorem g_X11_many_L4 {v1 : Int} {v2 : Int} {M : zM} {x : (Int × Int) ⊕ (Int)} {r : Option zV} {Mf : zM} {d : Nat} (hd : 0 ≤ d) (h : f_X11_many_L4 v1 v2 M = some x)
    (kc : ∀ s, x = .inl s → zG 119 d (4, [none, some (zi s.1), some (zi s.2)], [], M) r Mf)
    (kb : ∀ t, x = .inr t → zG 119 d (21, [none, some (zi t), none], [], M) r Mf) (kr : True) : zG 119 d (4, [none, some (zi v1), some (zi v2)], [], M) r Mf := by
  have hm := zmok_119
  unfold f_X11_many_L4 at h
  refine zG_run hm 1 (cf' := (5, [none, some (zi v1), some (zi v2)], [zi v2], M)) rfl ?_
  by_cases c1 : zw v2 = 0
  · rw [if_pos c1] at h
    refine zG_br hm rfl (cf' := (21, [none, some (zi v1), some (zi v2)], [], M)) (if_pos c1) ?_
    refine zG_sub (lv' := [none, some (zi v1), none]) (zsb_n (zsb_s rfl (zsb_n zsb_0))) ?_
    exact kb v1 (Option.some.inj h).symm
  · rw [if_neg c1] at h
    refine zG_br hm rfl (cf' := (8, [none, some (zi v1), some (zi v2)], [], M)) (if_neg c1) ?_
    refine zG_run hm 11 (cf' := (4, [none, some (zi (v1 + (zand v2 1))), some (zi (zshr v2 1))], [], M)) rfl ?_
    refine zG_sub (lv' := [none, some (zi (v1 + (zand v2 1))), some (zi (zshr v2 1))]) (zsb_n (zsb_s rfl (zsb_s rfl zsb_0))) ?_
    exact kc ((v1 + (zand v2 1)), (zshr v2 1)) (Option.some.inj h).symm
theorem gl_X11_many_L4  {M : zM} {y : Int} {r : Option zV} {Mf : zM} {d : Nat} (hd : 0 ≤ d)
    (kb : ∀ t, y = t → zG 119 d (21, [none, some (zi t), none], [], M) r Mf) (kr : True) : ∀ (n : Nat) (s : Int × Int), zlp (fun s : Int × Int => f_X11_many_L4  s.1 s.2 M) n s = some y → zG 119 d (4, [none, some (zi s.1), some (zi s.2)], [], M) r Mf := by
  intro n
  induction n with
  | zero => intro s h; cases h
  | succ n ih =>
    intro s h
    rcases zlp_cases h with ⟨s', h1, h2⟩ | h1
    · exact g_X11_many_L4 hd h1 (fun s2 e2 => by cases e2; exact ih _ h2) (fun t e2 => by cases e2) trivial
    · exact g_X11_many_L4 hd h1 (fun s2 e2 => by cases e2) (fun t e2 => kb t (Sum.inr.inj e2)) trivial
def f_X11_many (v0 : Int) (M : zM) : Option (Int × zM) :=
  (zlp (fun s : Int × Int => f_X11_many_L4  s.1 s.2 M) zF (0, v0)).bind fun y2 =>
    some (y2, M)
theorem g_X11_many {v0 : Int} {M : zM} {q : Int × zM} {d : Nat} (hd : 0 ≤ d) (h : f_X11_many v0 M = some q) : zG 119 d (0, [some (zi v0), none, none], [], M) (some (zi q.1)) q.2 := by
  have hm := zmok_119
  unfold f_X11_many at h
  refine zG_run hm 4 (cf' := (4, [some (zi v0), some (zi 0), some (zi v0)], [], M)) rfl ?_
  refine zG_sub (lv' := [none, some (zi 0), some (zi v0)]) (zsb_n (zsb_s rfl (zsb_s rfl zsb_0))) ?_
  obtain ⟨y2, hy2, h⟩ := Option.bind_eq_some_iff.mp h
  refine gl_X11_many_L4 hd (fun t e2 => ?_) trivial zF (0, v0) hy2
  cases e2
  refine zG_run hm 1 (cf' := (22, [none, some (zi y2), none], [zi y2], M)) rfl ?_
  cases h
  exact zG_ri hm rfl rfl
theorem met_X11_many {v0 : Int} {M : zM} {q : Int × zM} {d : Nat} (hd : 0 ≤ d) (h : f_X11_many v0 M = some q) : zMet 119 d [zi v0] M (some (zi q.1)) q.2 :=
  zMet_of (lv0 := [some (zi v0), none, none]) zmok_119 rfl rfl (fun v hv => by cases hv; trivial) (g_X11_many hd h)
def f_X11_common_L6 (v4 : Int) (v6 : Int) (M : zM) : Option ((Int × Int) ⊕ (Int)) :=
  if zw (zlcmp (zwl v6) (0)) = 0 then
    some (.inr v4)
  else
    if zwl v6 = 0 then
      none
    else
      some (.inl (v6, (zrem (zwl v4) (zwl v6))))
theorem g_X11_common_L6 {v4 : Int} {v6 : Int} {M : zM} {x : (Int × Int) ⊕ (Int)} {r : Option zV} {Mf : zM} {d : Nat} (hd : 0 ≤ d) (h : f_X11_common_L6 v4 v6 M = some x)
    (kc : ∀ s, x = .inl s → zG 223 d (6, [none, none, none, none, some (zl s.1), none, some (zl s.2), none, none, none], [], M) r Mf)
    (kb : ∀ t, x = .inr t → zG 223 d (31, [none, none, none, none, some (zl t), none, none, none, none, none], [], M) r Mf) (kr : True) : zG 223 d (6, [none, none, none, none, some (zl v4), none, some (zl v6), none, none, none], [], M) r Mf := by
  have hm := zmok_223
  unfold f_X11_common_L6 at h
  refine zG_run hm 3 (cf' := (10, [none, none, none, none, some (zl v4), none, some (zl v6), none, none, none], [zi (zlcmp (zwl v6) (0))], M)) rfl ?_
  by_cases c2 : zw (zlcmp (zwl v6) (0)) = 0
  · rw [if_pos c2] at h
    refine zG_br hm rfl (cf' := (31, [none, none, none, none, some (zl v4), none, some (zl v6), none, none, none], [], M)) (if_pos c2) ?_
    refine zG_sub (lv' := [none, none, none, none, some (zl v4), none, none, none, none, none]) (zsb_n (zsb_n (zsb_n (zsb_n (zsb_s rfl (zsb_n (zsb_n (zsb_n (zsb_n (zsb_n zsb_0)))))))))) ?_
    exact kb v4 (Option.some.inj h).symm
  · rw [if_neg c2] at h
    refine zG_br hm rfl (cf' := (13, [none, none, none, none, some (zl v4), none, some (zl v6), none, none, none], [], M)) (if_neg c2) ?_
    refine zG_run hm 2 (cf' := (17, [none, none, none, none, some (zl v4), none, some (zl v6), none, none, none], [zl v6, zl v4], M)) rfl ?_
    by_cases c1 : zwl v6 = 0
    · rw [if_pos c1] at h
      cases h
    · rw [if_neg c1] at h
      refine zG_br hm rfl (cf' := (18, [none, none, none, none, some (zl v4), none, some (zl v6), none, none, none], [zl (zrem (zwl v4) (zwl v6))], M)) (if_neg c1) ?_
      refine zG_run hm 6 (cf' := (6, [none, none, none, none, some (zl v6), none, some (zl (zrem (zwl v4) (zwl v6))), none, some (zl (zrem (zwl v4) (zwl v6))), none], [], M)) rfl ?_
      refine zG_sub (lv' := [none, none, none, none, some (zl v6), none, some (zl (zrem (zwl v4) (zwl v6))), none, none, none]) (zsb_n (zsb_n (zsb_n (zsb_n (zsb_s rfl (zsb_n (zsb_s rfl (zsb_n (zsb_n (zsb_n zsb_0)))))))))) ?_
      exact kc (v6, (zrem (zwl v4) (zwl v6))) (Option.some.inj h).symm
theorem gl_X11_common_L6  {M : zM} {y : Int} {r : Option zV} {Mf : zM} {d : Nat} (hd : 0 ≤ d)
    (kb : ∀ t, y = t → zG 223 d (31, [none, none, none, none, some (zl t), none, none, none, none, none], [], M) r Mf) (kr : True) : ∀ (n : Nat) (s : Int × Int), zlp (fun s : Int × Int => f_X11_common_L6  s.1 s.2 M) n s = some y → zG 223 d (6, [none, none, none, none, some (zl s.1), none, some (zl s.2), none, none, none], [], M) r Mf := by
  intro n
  induction n with
  | zero => intro s h; cases h
  | succ n ih =>
    intro s h
    rcases zlp_cases h with ⟨s', h1, h2⟩ | h1
    · exact g_X11_common_L6 hd h1 (fun s2 e2 => by cases e2; exact ih _ h2) (fun t e2 => by cases e2) trivial
    · exact g_X11_common_L6 hd h1 (fun s2 e2 => by cases e2) (fun t e2 => kb t (Sum.inr.inj e2)) trivial
def f_X11_common (v0 : Int) (v2 : Int) (M : zM) : Option (Int × zM) :=
  (zlp (fun s : Int × Int => f_X11_common_L6  s.1 s.2 M) zF (v0, v2)).bind fun y3 =>
    some (y3, M)
theorem g_X11_common {v0 : Int} {v2 : Int} {M : zM} {q : Int × zM} {d : Nat} (hd : 0 ≤ d) (h : f_X11_common v0 v2 M = some q) : zG 223 d (0, [some (zl v0), none, some (zl v2), none, none, none, none, none, none, none], [], M) (some (zl q.1)) q.2 := by
  have hm := zmok_223
  unfold f_X11_common at h
  refine zG_run hm 4 (cf' := (6, [some (zl v0), none, some (zl v2), none, some (zl v0), none, some (zl v2), none, none, none], [], M)) rfl ?_
  refine zG_sub (lv' := [none, none, none, none, some (zl v0), none, some (zl v2), none, none, none]) (zsb_n (zsb_n (zsb_n (zsb_n (zsb_s rfl (zsb_n (zsb_s rfl (zsb_n (zsb_n (zsb_n zsb_0)))))))))) ?_
  obtain ⟨y3, hy3, h⟩ := Option.bind_eq_some_iff.mp h
  refine gl_X11_common_L6 hd (fun t e2 => ?_) trivial zF (v0, v2) hy3
  cases e2
  refine zG_run hm 1 (cf' := (33, [none, none, none, none, some (zl y3), none, none, none, none, none], [zl y3], M)) rfl ?_
  cases h
  exact zG_rl hm rfl rfl
theorem met_X11_common {v0 : Int} {v2 : Int} {M : zM} {q : Int × zM} {d : Nat} (hd : 0 ≤ d) (h : f_X11_common v0 v2 M = some q) : zMet 223 d [zl v0, zl v2] M (some (zl q.1)) q.2 :=
  zMet_of (lv0 := [some (zl v0), none, some (zl v2), none, none, none, none, none, none, none]) zmok_223 rfl rfl (fun v hv => by cases hv; trivial) (g_X11_common hd h)
def f_X11_odds_j78 (v1 : Int) (v2 : Int) (v3 : Int) (v6 : Int) (vs0 : Int) (vs1 : Int) (M : zM) : Option ((Int × Int × zM) ⊕ (Int × zM)) :=
  some (.inl ((vs1 * vs0), (v6 + 1), M))
theorem g_X11_odds_j78 {v1 : Int} {v2 : Int} {v3 : Int} {v6 : Int} {vs0 : Int} {vs1 : Int} {M : zM} {x : (Int × Int × zM) ⊕ (Int × zM)} {r : Option zV} {Mf : zM} {d : Nat} (hd : 1 ≤ d) (h : f_X11_odds_j78 v1 v2 v3 v6 vs0 vs1 M = some x)
    (kc : ∀ s, x = .inl s → zG 224 d (37, [some (zr 42 0), some (zi v1), some (zi v2), some (zi v3), some (zl s.1), none, some (zi s.2.1), none, none, none], [], s.2.2) r Mf)
    (kb : ∀ t, x = .inr t → zG 224 d (87, [none, some (zi v1), some (zi v2), some (zi v3), some (zl t.1), none, none, none, none, none], [], t.2) r Mf) (kr : True) : zG 224 d (78, [some (zr 42 0), some (zi v1), some (zi v2), some (zi v3), none, none, some (zi v6), none, none, none], [zl vs0, zl vs1], M) r Mf := by
  have hm := zmok_224
  unfold f_X11_odds_j78 at h
  refine zG_run hm 4 (cf' := (37, [some (zr 42 0), some (zi v1), some (zi v2), some (zi v3), some (zl (vs1 * vs0)), none, some (zi (v6 + 1)), none, none, none], [], M)) rfl ?_
  refine zG_sub (lv' := [some (zr 42 0), some (zi v1), some (zi v2), some (zi v3), some (zl (vs1 * vs0)), none, some (zi (v6 + 1)), none, none, none]) (zsb_s rfl (zsb_s rfl (zsb_s rfl (zsb_s rfl (zsb_s rfl (zsb_n (zsb_s rfl (zsb_n (zsb_n (zsb_n zsb_0)))))))))) ?_
  exact kc ((vs1 * vs0), (v6 + 1), M) (Option.some.inj h).symm
def f_X11_odds_L37 (v1 : Int) (v2 : Int) (v3 : Int) (v4 : Int) (v6 : Int) (M : zM) : Option ((Int × Int × zM) ⊕ (Int × zM)) :=
  if zw (M 43 0 0) ≤ zw v6 then
    some (.inr (v4, M))
  else
    (f_X11_has v1 v6 M).bind fun p3 =>
      if zw p3.1 = 0 then
        f_X11_odds_j78 v1 v2 v3 v6 1 v4 p3.2
      else
        if 0 ≤ zw (10 + v6) ∧ zw (10 + v6) < 5090 then
          (f_X11_power (zw (p3.2 43 0 (zix (10 + v6)))) v2 p3.2).bind fun p4 =>
            f_X11_odds_j78 v1 v2 v3 v6 p4.1 v4 p4.2
        else
          none
theorem g_X11_odds_L37 {v1 : Int} {v2 : Int} {v3 : Int} {v4 : Int} {v6 : Int} {M : zM} {x : (Int × Int × zM) ⊕ (Int × zM)} {r : Option zV} {Mf : zM} {d : Nat} (hd : 1 ≤ d) (h : f_X11_odds_L37 v1 v2 v3 v4 v6 M = some x)
    (kc : ∀ s, x = .inl s → zG 224 d (37, [some (zr 42 0), some (zi v1), some (zi v2), some (zi v3), some (zl s.1), none, some (zi s.2.1), none, none, none], [], s.2.2) r Mf)
    (kb : ∀ t, x = .inr t → zG 224 d (87, [none, some (zi v1), some (zi v2), some (zi v3), some (zl t.1), none, none, none, none, none], [], t.2) r Mf) (kr : True) : zG 224 d (37, [some (zr 42 0), some (zi v1), some (zi v2), some (zi v3), some (zl v4), none, some (zi v6), none, none, none], [], M) r Mf := by
  have hm := zmok_224
  unfold f_X11_odds_L37 at h
  refine zG_run hm 5 (cf' := (45, [some (zr 42 0), some (zi v1), some (zi v2), some (zi v3), some (zl v4), none, some (zi v6), none, none, none], [zi (M 43 0 0), zi v6], M)) rfl ?_
  by_cases c7 : zw (M 43 0 0) ≤ zw v6
  · rw [if_pos c7] at h
    refine zG_br hm rfl (cf' := (87, [some (zr 42 0), some (zi v1), some (zi v2), some (zi v3), some (zl v4), none, some (zi v6), none, none, none], [], M)) (if_pos c7) ?_
    refine zG_sub (lv' := [none, some (zi v1), some (zi v2), some (zi v3), some (zl v4), none, none, none, none, none]) (zsb_n (zsb_s rfl (zsb_s rfl (zsb_s rfl (zsb_s rfl (zsb_n (zsb_n (zsb_n (zsb_n (zsb_n zsb_0)))))))))) ?_
    exact kb (v4, M) (Option.some.inj h).symm
  · rw [if_neg c7] at h
    refine zG_br hm rfl (cf' := (48, [some (zr 42 0), some (zi v1), some (zi v2), some (zi v3), some (zl v4), none, some (zi v6), none, none, none], [], M)) (if_neg c7) ?_
    refine zG_run hm 3 (cf' := (53, [some (zr 42 0), some (zi v1), some (zi v2), some (zi v3), some (zl v4), none, some (zi v6), none, none, none], [zi v6, zi v1, zl v4], M)) rfl ?_
    obtain ⟨p3, hp3, h⟩ := Option.bind_eq_some_iff.mp h
    refine zG_S hm zmok_118 rfl (as := [zi v1, zi v6]) (rest := [zl v4]) (st2 := [zi p3.1, zl v4]) (pc2 := 56) rfl rfl (by omega) (met_X11_has (d := 0) (Nat.le_refl _) hp3) rfl ?_
    by_cases c6 : zw p3.1 = 0
    · rw [if_pos c6] at h
      refine zG_br hm rfl (cf' := (77, [some (zr 42 0), some (zi v1), some (zi v2), some (zi v3), some (zl v4), none, some (zi v6), none, none, none], [zl v4], p3.2)) (if_pos c6) ?_
      refine zG_run hm 1 (cf' := (78, [some (zr 42 0), some (zi v1), some (zi v2), some (zi v3), some (zl v4), none, some (zi v6), none, none, none], [zl 1, zl v4], p3.2)) rfl ?_
      refine zG_sub (lv' := [some (zr 42 0), some (zi v1), some (zi v2), some (zi v3), none, none, some (zi v6), none, none, none]) (zsb_s rfl (zsb_s rfl (zsb_s rfl (zsb_s rfl (zsb_n (zsb_n (zsb_s rfl (zsb_n (zsb_n (zsb_n zsb_0)))))))))) ?_
      exact g_X11_odds_j78 hd h kc kb kr
    · rw [if_neg c6] at h
      refine zG_br hm rfl (cf' := (59, [some (zr 42 0), some (zi v1), some (zi v2), some (zi v3), some (zl v4), none, some (zi v6), none, none, none], [zl v4], p3.2)) (if_neg c6) ?_
      refine zG_run hm 5 (cf' := (68, [some (zr 42 0), some (zi v1), some (zi v2), some (zi v3), some (zl v4), none, some (zi v6), none, none, none], [zi (10 + v6), zr 43 0, zl v4], p3.2)) rfl ?_
      by_cases c5 : 0 ≤ zw (10 + v6) ∧ zw (10 + v6) < 5090
      · rw [if_pos c5] at h
        refine zG_br hm rfl (cf' := (69, [some (zr 42 0), some (zi v1), some (zi v2), some (zi v3), some (zl v4), none, some (zi v6), none, none, none], [zi (p3.2 43 0 (zix (10 + v6))), zl v4], p3.2)) (if_pos c5) ?_
        refine zG_run hm 2 (cf' := (71, [some (zr 42 0), some (zi v1), some (zi v2), some (zi v3), some (zl v4), none, some (zi v6), none, none, none], [zi v2, zl (zw (p3.2 43 0 (zix (10 + v6)))), zl v4], p3.2)) rfl ?_
        obtain ⟨p4, hp4, h⟩ := Option.bind_eq_some_iff.mp h
        refine zG_S hm zmok_222 rfl (as := [zl (zw (p3.2 43 0 (zix (10 + v6)))), zi v2]) (rest := [zl v4]) (st2 := [zl p4.1, zl v4]) (pc2 := 74) rfl rfl (by omega) (met_X11_power (d := 0) (Nat.le_refl _) hp4) rfl ?_
        refine zG_run hm 1 (cf' := (78, [some (zr 42 0), some (zi v1), some (zi v2), some (zi v3), some (zl v4), none, some (zi v6), none, none, none], [zl p4.1, zl v4], p4.2)) rfl ?_
        refine zG_sub (lv' := [some (zr 42 0), some (zi v1), some (zi v2), some (zi v3), none, none, some (zi v6), none, none, none]) (zsb_s rfl (zsb_s rfl (zsb_s rfl (zsb_s rfl (zsb_n (zsb_n (zsb_s rfl (zsb_n (zsb_n (zsb_n zsb_0)))))))))) ?_
        exact g_X11_odds_j78 hd h kc kb kr
      · rw [if_neg c5] at h
        cases h
theorem gl_X11_odds_L37 {v1 : Int} {v2 : Int} {v3 : Int} {y : Int × zM} {r : Option zV} {Mf : zM} {d : Nat} (hd : 1 ≤ d)
    (kb : ∀ t, y = t → zG 224 d (87, [none, some (zi v1), some (zi v2), some (zi v3), some (zl t.1), none, none, none, none, none], [], t.2) r Mf) (kr : True) : ∀ (n : Nat) (s : Int × Int × zM), zlp (fun s : Int × Int × zM => f_X11_odds_L37 v1 v2 v3 s.1 s.2.1 s.2.2) n s = some y → zG 224 d (37, [some (zr 42 0), some (zi v1), some (zi v2), some (zi v3), some (zl s.1), none, some (zi s.2.1), none, none, none], [], s.2.2) r Mf := by
  intro n
  induction n with
  | zero => intro s h; cases h
  | succ n ih =>
    intro s h
    rcases zlp_cases h with ⟨s', h1, h2⟩ | h1
    · exact g_X11_odds_L37 hd h1 (fun s2 e2 => by cases e2; exact ih _ h2) (fun t e2 => by cases e2) trivial
    · exact g_X11_odds_L37 hd h1 (fun s2 e2 => by cases e2) (fun t e2 => kb t (Sum.inr.inj e2)) trivial
def f_X11_odds (v1 : Int) (v2 : Int) (v3 : Int) (M : zM) : Option (Int × zM) :=
  (f_X11_in v1 1 ((zshl 1 (M 43 0 0)) - 1) M).bind fun p1 =>
    if zw p1.1 = 0 then
      some ((-1), p1.2)
    else
      (f_X11_in v2 0 3 p1.2).bind fun p2 =>
        if ¬ zw p2.1 = 0 then
          (zlp (fun s : Int × Int × zM => f_X11_odds_L37 v1 v2 v3 s.1 s.2.1 s.2.2) zF (1, 0, p2.2)).bind fun y8 =>
            (f_X11_many v1 y8.2).bind fun p9 =>
              (f_X11_power 10 (v2 * p9.1) p9.2).bind fun p10 =>
                (f_X11_common p10.1 y8.1 p10.2).bind fun p11 =>
                  if zw v3 = 0 then
                    if zwl p11.1 = 0 then
                      none
                    else
                      some ((Int.tdiv (zwl y8.1) (zwl p11.1)), p11.2)
                  else
                    if zwl p11.1 = 0 then
                      none
                    else
                      some ((Int.tdiv (zwl p10.1) (zwl p11.1)), p11.2)
        else
          some ((-1), p2.2)
theorem g_X11_odds {v1 : Int} {v2 : Int} {v3 : Int} {M : zM} {q : Int × zM} {d : Nat} (hd : 1 ≤ d) (h : f_X11_odds v1 v2 v3 M = some q) : zG 224 d (0, [some (zr 42 0), some (zi v1), some (zi v2), some (zi v3), none, none, none, none, none, none], [], M) (some (zl q.1)) q.2 := by
  have hm := zmok_224
  unfold f_X11_odds at h
  refine zG_run hm 10 (cf' := (12, [some (zr 42 0), some (zi v1), some (zi v2), some (zi v3), none, none, none, none, none, none], [zi ((zshl 1 (M 43 0 0)) - 1), zi 1, zi v1], M)) rfl ?_
  obtain ⟨p1, hp1, h⟩ := Option.bind_eq_some_iff.mp h
  refine zG_S hm zmok_117 rfl (as := [zi v1, zi 1, zi ((zshl 1 (M 43 0 0)) - 1)]) (rest := []) (st2 := [zi p1.1]) (pc2 := 15) rfl rfl (by omega) (met_X11_in (d := 0) (Nat.le_refl _) hp1) rfl ?_
  by_cases c16 : zw p1.1 = 0
  · rw [if_pos c16] at h
    refine zG_br hm rfl (cf' := (27, [some (zr 42 0), some (zi v1), some (zi v2), some (zi v3), none, none, none, none, none, none], [], p1.2)) (if_pos c16) ?_
    refine zG_run hm 1 (cf' := (30, [some (zr 42 0), some (zi v1), some (zi v2), some (zi v3), none, none, none, none, none, none], [zl (-1)], p1.2)) rfl ?_
    cases h
    exact zG_rl hm rfl rfl
  · rw [if_neg c16] at h
    refine zG_br hm rfl (cf' := (18, [some (zr 42 0), some (zi v1), some (zi v2), some (zi v3), none, none, none, none, none, none], [], p1.2)) (if_neg c16) ?_
    refine zG_run hm 3 (cf' := (21, [some (zr 42 0), some (zi v1), some (zi v2), some (zi v3), none, none, none, none, none, none], [zi 3, zi 0, zi v2], p1.2)) rfl ?_
    obtain ⟨p2, hp2, h⟩ := Option.bind_eq_some_iff.mp h
    refine zG_S hm zmok_117 rfl (as := [zi v2, zi 0, zi 3]) (rest := []) (st2 := [zi p2.1]) (pc2 := 24) rfl rfl (by omega) (met_X11_in (d := 0) (Nat.le_refl _) hp2) rfl ?_
    by_cases c15 : ¬ zw p2.1 = 0
    · rw [if_pos c15] at h
      refine zG_br hm rfl (cf' := (31, [some (zr 42 0), some (zi v1), some (zi v2), some (zi v3), none, none, none, none, none, none], [], p2.2)) (if_pos c15) ?_
      refine zG_run hm 4 (cf' := (37, [some (zr 42 0), some (zi v1), some (zi v2), some (zi v3), some (zl 1), none, some (zi 0), none, none, none], [], p2.2)) rfl ?_
      refine zG_sub (lv' := [some (zr 42 0), some (zi v1), some (zi v2), some (zi v3), some (zl 1), none, some (zi 0), none, none, none]) (zsb_s rfl (zsb_s rfl (zsb_s rfl (zsb_s rfl (zsb_s rfl (zsb_n (zsb_s rfl (zsb_n (zsb_n (zsb_n zsb_0)))))))))) ?_
      obtain ⟨y8, hy8, h⟩ := Option.bind_eq_some_iff.mp h
      refine gl_X11_odds_L37 hd (fun t e2 => ?_) trivial zF (1, 0, p2.2) hy8
      cases e2
      refine zG_run hm 3 (cf' := (92, [none, some (zi v1), some (zi v2), some (zi v3), some (zl y8.1), none, none, none, none, none], [zi v1, zi v2, zl 10], y8.2)) rfl ?_
      obtain ⟨p9, hp9, h⟩ := Option.bind_eq_some_iff.mp h
      refine zG_S hm zmok_119 rfl (as := [zi v1]) (rest := [zi v2, zl 10]) (st2 := [zi p9.1, zi v2, zl 10]) (pc2 := 95) rfl rfl (by omega) (met_X11_many (d := 0) (Nat.le_refl _) hp9) rfl ?_
      refine zG_run hm 1 (cf' := (96, [none, some (zi v1), some (zi v2), some (zi v3), some (zl y8.1), none, none, none, none, none], [zi (v2 * p9.1), zl 10], p9.2)) rfl ?_
      obtain ⟨p10, hp10, h⟩ := Option.bind_eq_some_iff.mp h
      refine zG_S hm zmok_222 rfl (as := [zl 10, zi (v2 * p9.1)]) (rest := []) (st2 := [zl p10.1]) (pc2 := 99) rfl rfl (by omega) (met_X11_power (d := 0) (Nat.le_refl _) hp10) rfl ?_
      refine zG_run hm 3 (cf' := (105, [none, some (zi v1), some (zi v2), some (zi v3), some (zl y8.1), none, some (zl p10.1), none, none, none], [zl y8.1, zl p10.1], p10.2)) rfl ?_
      obtain ⟨p11, hp11, h⟩ := Option.bind_eq_some_iff.mp h
      refine zG_S hm zmok_223 rfl (as := [zl p10.1, zl y8.1]) (rest := []) (st2 := [zl p11.1]) (pc2 := 108) rfl rfl (by omega) (met_X11_common (d := 0) (Nat.le_refl _) hp11) rfl ?_
      refine zG_run hm 2 (cf' := (111, [none, some (zi v1), some (zi v2), some (zi v3), some (zl y8.1), none, some (zl p10.1), none, some (zl p11.1), none], [zi v3], p11.2)) rfl ?_
      by_cases c14 : zw v3 = 0
      · rw [if_pos c14] at h
        refine zG_br hm rfl (cf' := (122, [none, some (zi v1), some (zi v2), some (zi v3), some (zl y8.1), none, some (zl p10.1), none, some (zl p11.1), none], [], p11.2)) (if_pos c14) ?_
        refine zG_run hm 2 (cf' := (126, [none, some (zi v1), some (zi v2), some (zi v3), some (zl y8.1), none, some (zl p10.1), none, some (zl p11.1), none], [zl p11.1, zl y8.1], p11.2)) rfl ?_
        by_cases c12 : zwl p11.1 = 0
        · rw [if_pos c12] at h
          cases h
        · rw [if_neg c12] at h
          refine zG_br hm rfl (cf' := (127, [none, some (zi v1), some (zi v2), some (zi v3), some (zl y8.1), none, some (zl p10.1), none, some (zl p11.1), none], [zl (Int.tdiv (zwl y8.1) (zwl p11.1))], p11.2)) (if_neg c12) ?_
          cases h
          exact zG_rl hm rfl rfl
      · rw [if_neg c14] at h
        refine zG_br hm rfl (cf' := (114, [none, some (zi v1), some (zi v2), some (zi v3), some (zl y8.1), none, some (zl p10.1), none, some (zl p11.1), none], [], p11.2)) (if_neg c14) ?_
        refine zG_run hm 2 (cf' := (118, [none, some (zi v1), some (zi v2), some (zi v3), some (zl y8.1), none, some (zl p10.1), none, some (zl p11.1), none], [zl p11.1, zl p10.1], p11.2)) rfl ?_
        by_cases c13 : zwl p11.1 = 0
        · rw [if_pos c13] at h
          cases h
        · rw [if_neg c13] at h
          refine zG_br hm rfl (cf' := (119, [none, some (zi v1), some (zi v2), some (zi v3), some (zl y8.1), none, some (zl p10.1), none, some (zl p11.1), none], [zl (Int.tdiv (zwl p10.1) (zwl p11.1))], p11.2)) (if_neg c13) ?_
          refine zG_run hm 1 (cf' := (127, [none, some (zi v1), some (zi v2), some (zi v3), some (zl y8.1), none, some (zl p10.1), none, some (zl p11.1), none], [zl (Int.tdiv (zwl p10.1) (zwl p11.1))], p11.2)) rfl ?_
          cases h
          exact zG_rl hm rfl rfl
    · rw [if_neg c15] at h
      refine zG_br hm rfl (cf' := (27, [some (zr 42 0), some (zi v1), some (zi v2), some (zi v3), none, none, none, none, none, none], [], p2.2)) (if_neg c15) ?_
      refine zG_run hm 1 (cf' := (30, [some (zr 42 0), some (zi v1), some (zi v2), some (zi v3), none, none, none, none, none, none], [zl (-1)], p2.2)) rfl ?_
      cases h
      exact zG_rl hm rfl rfl
theorem met_X11_odds {v1 : Int} {v2 : Int} {v3 : Int} {M : zM} {q : Int × zM} {d : Nat} (hd : 1 ≤ d) (h : f_X11_odds v1 v2 v3 M = some q) : zMet 224 d [zr 42 0, zi v1, zi v2, zi v3] M (some (zl q.1)) q.2 :=
  zMet_of (lv0 := [some (zr 42 0), some (zi v1), some (zi v2), some (zi v3), none, none, none, none, none, none]) zmok_224 rfl rfl (fun v hv => by cases hv; trivial) (g_X11_odds hd h)
def f_X10_early_j159 (v1 : Int) (v2 : Int) (v4 : Int) (M : zM) : Option ((Int × Int × Int × zM) ⊕ (Int × zM)) :=
  some (.inl (v1, v2, (v4 + 1), M))
theorem g_X10_early_j159 {v1 : Int} {v2 : Int} {v4 : Int} {M : zM} {x : (Int × Int × Int × zM) ⊕ (Int × zM)} {r : Option zV} {Mf : zM} {d : Nat} (hd : 3 ≤ d) (h : f_X10_early_j159 v1 v2 v4 M = some x)
    (kc : ∀ s, x = .inl s → zG 105 d (9, [some (zr 0 0), some (zi s.1), some (zl s.2.1), none, some (zi s.2.2.1), none, none, none, none, none, none, none], [], s.2.2.2) r Mf)
    (kb : ∀ t, x = .inr t → zG 105 d (165, [none, some (zi t.1), none, none, none, none, none, none, none, none, none, none], [], t.2) r Mf) (kr : True) : zG 105 d (159, [some (zr 0 0), some (zi v1), some (zl v2), none, some (zi v4), none, none, none, none, none, none, none], [], M) r Mf := by
  have hm := zmok_105
  unfold f_X10_early_j159 at h
  refine zG_run hm 2 (cf' := (9, [some (zr 0 0), some (zi v1), some (zl v2), none, some (zi (v4 + 1)), none, none, none, none, none, none, none], [], M)) rfl ?_
  refine zG_sub (lv' := [some (zr 0 0), some (zi v1), some (zl v2), none, some (zi (v4 + 1)), none, none, none, none, none, none, none]) (zsb_s rfl (zsb_s rfl (zsb_s rfl (zsb_n (zsb_s rfl (zsb_n (zsb_n (zsb_n (zsb_n (zsb_n (zsb_n (zsb_n zsb_0)))))))))))) ?_
  exact kc (v1, v2, (v4 + 1), M) (Option.some.inj h).symm
def f_X10_early_L9 (v1 : Int) (v2 : Int) (v4 : Int) (M : zM) : Option ((Int × Int × Int × zM) ⊕ (Int × zM)) :=
  if zw (M 11 0 7) ≤ zw v4 then
    some (.inr (v1, M))
  else
    (f_X0_isKept 0 v4 M).bind fun p1 =>
      if zw p1.1 = 0 then
        f_X10_early_j159 v1 v2 v4 p1.2
      else
        if 0 ≤ zw v4 ∧ zw v4 < 8 then
          (f_X0_lawOf 0 v4 1 (-1) p1.2).bind fun p2 =>
            (f_X10_power 10 (if zw (Int.tdiv (zw (((if 0 < zw (p2.1 - ((p2.2 11 0 10) - (p2.2 16 (zix v4) 5))) then (p2.1 - ((p2.2 11 0 10) - (p2.2 16 (zix v4) 5))) else 0) + 9) - 1)) 9) < 6 then (Int.tdiv (zw (((if 0 < zw (p2.1 - ((p2.2 11 0 10) - (p2.2 16 (zix v4) 5))) then (p2.1 - ((p2.2 11 0 10) - (p2.2 16 (zix v4) 5))) else 0) + 9) - 1)) 9) else 6) p2.2).bind fun p3 =>
              if 0 ≤ zw (p3.2 16 (zix v4) 6) ∧ zw (p3.2 16 (zix v4) 6) < 6 then
                (f_X10_power (zw (p3.2 12 0 (zix (p3.2 16 (zix v4) 6)))) (if zw (Int.tdiv (zw (((if 0 < zw (p2.1 - ((p2.2 11 0 10) - (p2.2 16 (zix v4) 5))) then (p2.1 - ((p2.2 11 0 10) - (p2.2 16 (zix v4) 5))) else 0) + 9) - 1)) 9) < 6 then (Int.tdiv (zw (((if 0 < zw (p2.1 - ((p2.2 11 0 10) - (p2.2 16 (zix v4) 5))) then (p2.1 - ((p2.2 11 0 10) - (p2.2 16 (zix v4) 5))) else 0) + 9) - 1)) 9) else 6) p3.2).bind fun p4 =>
                  (f_X10_power 10 (6 - (if zw (Int.tdiv (zw (((if 0 < zw (p2.1 - ((p2.2 11 0 10) - (p2.2 16 (zix v4) 5))) then (p2.1 - ((p2.2 11 0 10) - (p2.2 16 (zix v4) 5))) else 0) + 9) - 1)) 9) < 6 then (Int.tdiv (zw (((if 0 < zw (p2.1 - ((p2.2 11 0 10) - (p2.2 16 (zix v4) 5))) then (p2.1 - ((p2.2 11 0 10) - (p2.2 16 (zix v4) 5))) else 0) + 9) - 1)) 9) else 6)) p4.2).bind fun p5 =>
                    if zw (zlcmp (zwl (((zw (p4.2 16 (zix v4) 3)) * (p3.1 - p4.1)) * p5.1)) (zwl v2)) ≤ 0 then
                      f_X10_early_j159 v1 v2 v4 p5.2
                    else
                      f_X10_early_j159 v4 (((zw (p4.2 16 (zix v4) 3)) * (p3.1 - p4.1)) * p5.1) v4 p5.2
              else
                none
        else
          none
theorem g_X10_early_L9 {v1 : Int} {v2 : Int} {v4 : Int} {M : zM} {x : (Int × Int × Int × zM) ⊕ (Int × zM)} {r : Option zV} {Mf : zM} {d : Nat} (hd : 3 ≤ d) (h : f_X10_early_L9 v1 v2 v4 M = some x)
    (kc : ∀ s, x = .inl s → zG 105 d (9, [some (zr 0 0), some (zi s.1), some (zl s.2.1), none, some (zi s.2.2.1), none, none, none, none, none, none, none], [], s.2.2.2) r Mf)
    (kb : ∀ t, x = .inr t → zG 105 d (165, [none, some (zi t.1), none, none, none, none, none, none, none, none, none, none], [], t.2) r Mf) (kr : True) : zG 105 d (9, [some (zr 0 0), some (zi v1), some (zl v2), none, some (zi v4), none, none, none, none, none, none, none], [], M) r Mf := by
  have hm := zmok_105
  unfold f_X10_early_L9 at h
  refine zG_run hm 4 (cf' := (18, [some (zr 0 0), some (zi v1), some (zl v2), none, some (zi v4), none, none, none, none, none, none, none], [zi (M 11 0 7), zi v4], M)) rfl ?_
  by_cases c10 : zw (M 11 0 7) ≤ zw v4
  · rw [if_pos c10] at h
    refine zG_br hm rfl (cf' := (165, [some (zr 0 0), some (zi v1), some (zl v2), none, some (zi v4), none, none, none, none, none, none, none], [], M)) (if_pos c10) ?_
    refine zG_sub (lv' := [none, some (zi v1), none, none, none, none, none, none, none, none, none, none]) (zsb_n (zsb_s rfl (zsb_n (zsb_n (zsb_n (zsb_n (zsb_n (zsb_n (zsb_n (zsb_n (zsb_n (zsb_n zsb_0)))))))))))) ?_
    exact kb (v1, M) (Option.some.inj h).symm
  · rw [if_neg c10] at h
    refine zG_br hm rfl (cf' := (21, [some (zr 0 0), some (zi v1), some (zl v2), none, some (zi v4), none, none, none, none, none, none, none], [], M)) (if_neg c10) ?_
    refine zG_run hm 3 (cf' := (27, [some (zr 0 0), some (zi v1), some (zl v2), none, some (zi v4), none, none, none, none, none, none, none], [zi v4, zr 11 0], M)) rfl ?_
    obtain ⟨p1, hp1, h⟩ := Option.bind_eq_some_iff.mp h
    refine zG_V hm zmok_5 rfl (as := [zi v4]) (rest := []) (st2 := [zi p1.1]) (pc2 := 30) rfl rfl (by omega) (met_X0_isKept (d := 1) (Nat.le_refl _) hp1) rfl ?_
    by_cases c9 : zw p1.1 = 0
    · rw [if_pos c9] at h
      refine zG_br hm rfl (cf' := (159, [some (zr 0 0), some (zi v1), some (zl v2), none, some (zi v4), none, none, none, none, none, none, none], [], p1.2)) (if_pos c9) ?_
      refine zG_sub (lv' := [some (zr 0 0), some (zi v1), some (zl v2), none, some (zi v4), none, none, none, none, none, none, none]) (zsb_s rfl (zsb_s rfl (zsb_s rfl (zsb_n (zsb_s rfl (zsb_n (zsb_n (zsb_n (zsb_n (zsb_n (zsb_n (zsb_n zsb_0)))))))))))) ?_
      exact g_X10_early_j159 hd h kc kb kr
    · rw [if_neg c9] at h
      refine zG_br hm rfl (cf' := (33, [some (zr 0 0), some (zi v1), some (zl v2), none, some (zi v4), none, none, none, none, none, none, none], [], p1.2)) (if_neg c9) ?_
      refine zG_run hm 4 (cf' := (42, [some (zr 0 0), some (zi v1), some (zl v2), none, some (zi v4), none, none, none, none, none, none, none], [zi v4, zr 14 0], p1.2)) rfl ?_
      by_cases c8 : 0 ≤ zw v4 ∧ zw v4 < 8
      · rw [if_pos c8] at h
        refine zG_br hm rfl (cf' := (43, [some (zr 0 0), some (zi v1), some (zl v2), none, some (zi v4), none, none, none, none, none, none, none], [zr 16 (zix v4)], p1.2)) (if_pos c8) ?_
        refine zG_run hm 7 (cf' := (54, [some (zr 0 0), some (zi v1), some (zl v2), none, some (zi v4), some (zr 16 (zix v4)), none, none, none, none, none, none], [zi (-1), zi 1, zi v4, zr 11 0, zi 0], p1.2)) rfl ?_
        obtain ⟨p2, hp2, h⟩ := Option.bind_eq_some_iff.mp h
        refine zG_V hm zmok_16 rfl (as := [zi v4, zi 1, zi (-1)]) (rest := [zi 0]) (st2 := [zi p2.1, zi 0]) (pc2 := 57) rfl rfl (by omega) (met_X0_lawOf (d := 2) (Nat.le_refl _) hp2) rfl ?_
        refine zG_run hm 7 (cf' := (71, [some (zr 0 0), some (zi v1), some (zl v2), none, some (zi v4), some (zr 16 (zix v4)), none, none, none, none, none, none], [zi (p2.1 - ((p2.2 11 0 10) - (p2.2 16 (zix v4) 5))), zi 0], p2.2)) rfl ?_
        refine zG_max hm rfl rfl ?_
        show zG 105 d (74, [some (zr 0 0), some (zi v1), some (zl v2), none, some (zi v4), some (zr 16 (zix v4)), none, none, none, none, none, none], [zi (if 0 < zw (p2.1 - ((p2.2 11 0 10) - (p2.2 16 (zix v4) 5))) then (p2.1 - ((p2.2 11 0 10) - (p2.2 16 (zix v4) 5))) else 0)], p2.2) _ _
        refine zG_run hm 9 (cf' := (88, [some (zr 0 0), some (zi v1), some (zl v2), none, some (zi v4), some (zr 16 (zix v4)), some (zi (if 0 < zw (p2.1 - ((p2.2 11 0 10) - (p2.2 16 (zix v4) 5))) then (p2.1 - ((p2.2 11 0 10) - (p2.2 16 (zix v4) 5))) else 0)), none, none, none, none, none], [zi (Int.tdiv (zw (((if 0 < zw (p2.1 - ((p2.2 11 0 10) - (p2.2 16 (zix v4) 5))) then (p2.1 - ((p2.2 11 0 10) - (p2.2 16 (zix v4) 5))) else 0) + 9) - 1)) 9), zi 6], p2.2)) rfl ?_
        refine zG_min hm rfl rfl ?_
        show zG 105 d (91, [some (zr 0 0), some (zi v1), some (zl v2), none, some (zi v4), some (zr 16 (zix v4)), some (zi (if 0 < zw (p2.1 - ((p2.2 11 0 10) - (p2.2 16 (zix v4) 5))) then (p2.1 - ((p2.2 11 0 10) - (p2.2 16 (zix v4) 5))) else 0)), none, none, none, none, none], [zi (if zw (Int.tdiv (zw (((if 0 < zw (p2.1 - ((p2.2 11 0 10) - (p2.2 16 (zix v4) 5))) then (p2.1 - ((p2.2 11 0 10) - (p2.2 16 (zix v4) 5))) else 0) + 9) - 1)) 9) < 6 then (Int.tdiv (zw (((if 0 < zw (p2.1 - ((p2.2 11 0 10) - (p2.2 16 (zix v4) 5))) then (p2.1 - ((p2.2 11 0 10) - (p2.2 16 (zix v4) 5))) else 0) + 9) - 1)) 9) else 6)], p2.2) _ _
        refine zG_run hm 3 (cf' := (98, [some (zr 0 0), some (zi v1), some (zl v2), none, some (zi v4), some (zr 16 (zix v4)), some (zi (if 0 < zw (p2.1 - ((p2.2 11 0 10) - (p2.2 16 (zix v4) 5))) then (p2.1 - ((p2.2 11 0 10) - (p2.2 16 (zix v4) 5))) else 0)), some (zi (if zw (Int.tdiv (zw (((if 0 < zw (p2.1 - ((p2.2 11 0 10) - (p2.2 16 (zix v4) 5))) then (p2.1 - ((p2.2 11 0 10) - (p2.2 16 (zix v4) 5))) else 0) + 9) - 1)) 9) < 6 then (Int.tdiv (zw (((if 0 < zw (p2.1 - ((p2.2 11 0 10) - (p2.2 16 (zix v4) 5))) then (p2.1 - ((p2.2 11 0 10) - (p2.2 16 (zix v4) 5))) else 0) + 9) - 1)) 9) else 6)), none, none, none, none], [zi (if zw (Int.tdiv (zw (((if 0 < zw (p2.1 - ((p2.2 11 0 10) - (p2.2 16 (zix v4) 5))) then (p2.1 - ((p2.2 11 0 10) - (p2.2 16 (zix v4) 5))) else 0) + 9) - 1)) 9) < 6 then (Int.tdiv (zw (((if 0 < zw (p2.1 - ((p2.2 11 0 10) - (p2.2 16 (zix v4) 5))) then (p2.1 - ((p2.2 11 0 10) - (p2.2 16 (zix v4) 5))) else 0) + 9) - 1)) 9) else 6), zl 10], p2.2)) rfl ?_
        obtain ⟨p3, hp3, h⟩ := Option.bind_eq_some_iff.mp h
        refine zG_S hm zmok_110 rfl (as := [zl 10, zi (if zw (Int.tdiv (zw (((if 0 < zw (p2.1 - ((p2.2 11 0 10) - (p2.2 16 (zix v4) 5))) then (p2.1 - ((p2.2 11 0 10) - (p2.2 16 (zix v4) 5))) else 0) + 9) - 1)) 9) < 6 then (Int.tdiv (zw (((if 0 < zw (p2.1 - ((p2.2 11 0 10) - (p2.2 16 (zix v4) 5))) then (p2.1 - ((p2.2 11 0 10) - (p2.2 16 (zix v4) 5))) else 0) + 9) - 1)) 9) else 6)]) (rest := []) (st2 := [zl p3.1]) (pc2 := 101) rfl rfl (by omega) (met_X10_power (d := 0) (Nat.le_refl _) hp3) rfl ?_
        refine zG_run hm 5 (cf' := (113, [some (zr 0 0), some (zi v1), some (zl v2), none, some (zi v4), some (zr 16 (zix v4)), some (zi (if 0 < zw (p2.1 - ((p2.2 11 0 10) - (p2.2 16 (zix v4) 5))) then (p2.1 - ((p2.2 11 0 10) - (p2.2 16 (zix v4) 5))) else 0)), some (zi (if zw (Int.tdiv (zw (((if 0 < zw (p2.1 - ((p2.2 11 0 10) - (p2.2 16 (zix v4) 5))) then (p2.1 - ((p2.2 11 0 10) - (p2.2 16 (zix v4) 5))) else 0) + 9) - 1)) 9) < 6 then (Int.tdiv (zw (((if 0 < zw (p2.1 - ((p2.2 11 0 10) - (p2.2 16 (zix v4) 5))) then (p2.1 - ((p2.2 11 0 10) - (p2.2 16 (zix v4) 5))) else 0) + 9) - 1)) 9) else 6)), none, none, none, none], [zi (p3.2 16 (zix v4) 6), zr 12 0, zl p3.1], p3.2)) rfl ?_
        by_cases c7 : 0 ≤ zw (p3.2 16 (zix v4) 6) ∧ zw (p3.2 16 (zix v4) 6) < 6
        · rw [if_pos c7] at h
          refine zG_br hm rfl (cf' := (114, [some (zr 0 0), some (zi v1), some (zl v2), none, some (zi v4), some (zr 16 (zix v4)), some (zi (if 0 < zw (p2.1 - ((p2.2 11 0 10) - (p2.2 16 (zix v4) 5))) then (p2.1 - ((p2.2 11 0 10) - (p2.2 16 (zix v4) 5))) else 0)), some (zi (if zw (Int.tdiv (zw (((if 0 < zw (p2.1 - ((p2.2 11 0 10) - (p2.2 16 (zix v4) 5))) then (p2.1 - ((p2.2 11 0 10) - (p2.2 16 (zix v4) 5))) else 0) + 9) - 1)) 9) < 6 then (Int.tdiv (zw (((if 0 < zw (p2.1 - ((p2.2 11 0 10) - (p2.2 16 (zix v4) 5))) then (p2.1 - ((p2.2 11 0 10) - (p2.2 16 (zix v4) 5))) else 0) + 9) - 1)) 9) else 6)), none, none, none, none], [zi (p3.2 12 0 (zix (p3.2 16 (zix v4) 6))), zl p3.1], p3.2)) (if_pos c7) ?_
          refine zG_run hm 2 (cf' := (117, [some (zr 0 0), some (zi v1), some (zl v2), none, some (zi v4), some (zr 16 (zix v4)), some (zi (if 0 < zw (p2.1 - ((p2.2 11 0 10) - (p2.2 16 (zix v4) 5))) then (p2.1 - ((p2.2 11 0 10) - (p2.2 16 (zix v4) 5))) else 0)), some (zi (if zw (Int.tdiv (zw (((if 0 < zw (p2.1 - ((p2.2 11 0 10) - (p2.2 16 (zix v4) 5))) then (p2.1 - ((p2.2 11 0 10) - (p2.2 16 (zix v4) 5))) else 0) + 9) - 1)) 9) < 6 then (Int.tdiv (zw (((if 0 < zw (p2.1 - ((p2.2 11 0 10) - (p2.2 16 (zix v4) 5))) then (p2.1 - ((p2.2 11 0 10) - (p2.2 16 (zix v4) 5))) else 0) + 9) - 1)) 9) else 6)), none, none, none, none], [zi (if zw (Int.tdiv (zw (((if 0 < zw (p2.1 - ((p2.2 11 0 10) - (p2.2 16 (zix v4) 5))) then (p2.1 - ((p2.2 11 0 10) - (p2.2 16 (zix v4) 5))) else 0) + 9) - 1)) 9) < 6 then (Int.tdiv (zw (((if 0 < zw (p2.1 - ((p2.2 11 0 10) - (p2.2 16 (zix v4) 5))) then (p2.1 - ((p2.2 11 0 10) - (p2.2 16 (zix v4) 5))) else 0) + 9) - 1)) 9) else 6), zl (zw (p3.2 12 0 (zix (p3.2 16 (zix v4) 6)))), zl p3.1], p3.2)) rfl ?_
          obtain ⟨p4, hp4, h⟩ := Option.bind_eq_some_iff.mp h
          refine zG_S hm zmok_110 rfl (as := [zl (zw (p3.2 12 0 (zix (p3.2 16 (zix v4) 6)))), zi (if zw (Int.tdiv (zw (((if 0 < zw (p2.1 - ((p2.2 11 0 10) - (p2.2 16 (zix v4) 5))) then (p2.1 - ((p2.2 11 0 10) - (p2.2 16 (zix v4) 5))) else 0) + 9) - 1)) 9) < 6 then (Int.tdiv (zw (((if 0 < zw (p2.1 - ((p2.2 11 0 10) - (p2.2 16 (zix v4) 5))) then (p2.1 - ((p2.2 11 0 10) - (p2.2 16 (zix v4) 5))) else 0) + 9) - 1)) 9) else 6)]) (rest := [zl p3.1]) (st2 := [zl p4.1, zl p3.1]) (pc2 := 120) rfl rfl (by omega) (met_X10_power (d := 0) (Nat.le_refl _) hp4) rfl ?_
          refine zG_run hm 11 (cf' := (140, [some (zr 0 0), some (zi v1), some (zl v2), none, some (zi v4), some (zr 16 (zix v4)), some (zi (if 0 < zw (p2.1 - ((p2.2 11 0 10) - (p2.2 16 (zix v4) 5))) then (p2.1 - ((p2.2 11 0 10) - (p2.2 16 (zix v4) 5))) else 0)), some (zi (if zw (Int.tdiv (zw (((if 0 < zw (p2.1 - ((p2.2 11 0 10) - (p2.2 16 (zix v4) 5))) then (p2.1 - ((p2.2 11 0 10) - (p2.2 16 (zix v4) 5))) else 0) + 9) - 1)) 9) < 6 then (Int.tdiv (zw (((if 0 < zw (p2.1 - ((p2.2 11 0 10) - (p2.2 16 (zix v4) 5))) then (p2.1 - ((p2.2 11 0 10) - (p2.2 16 (zix v4) 5))) else 0) + 9) - 1)) 9) else 6)), some (zl (p3.1 - p4.1)), none, none, none], [zi (6 - (if zw (Int.tdiv (zw (((if 0 < zw (p2.1 - ((p2.2 11 0 10) - (p2.2 16 (zix v4) 5))) then (p2.1 - ((p2.2 11 0 10) - (p2.2 16 (zix v4) 5))) else 0) + 9) - 1)) 9) < 6 then (Int.tdiv (zw (((if 0 < zw (p2.1 - ((p2.2 11 0 10) - (p2.2 16 (zix v4) 5))) then (p2.1 - ((p2.2 11 0 10) - (p2.2 16 (zix v4) 5))) else 0) + 9) - 1)) 9) else 6)), zl 10, zl ((zw (p4.2 16 (zix v4) 3)) * (p3.1 - p4.1))], p4.2)) rfl ?_
          obtain ⟨p5, hp5, h⟩ := Option.bind_eq_some_iff.mp h
          refine zG_S hm zmok_110 rfl (as := [zl 10, zi (6 - (if zw (Int.tdiv (zw (((if 0 < zw (p2.1 - ((p2.2 11 0 10) - (p2.2 16 (zix v4) 5))) then (p2.1 - ((p2.2 11 0 10) - (p2.2 16 (zix v4) 5))) else 0) + 9) - 1)) 9) < 6 then (Int.tdiv (zw (((if 0 < zw (p2.1 - ((p2.2 11 0 10) - (p2.2 16 (zix v4) 5))) then (p2.1 - ((p2.2 11 0 10) - (p2.2 16 (zix v4) 5))) else 0) + 9) - 1)) 9) else 6))]) (rest := [zl ((zw (p4.2 16 (zix v4) 3)) * (p3.1 - p4.1))]) (st2 := [zl p5.1, zl ((zw (p4.2 16 (zix v4) 3)) * (p3.1 - p4.1))]) (pc2 := 143) rfl rfl (by omega) (met_X10_power (d := 0) (Nat.le_refl _) hp5) rfl ?_
          refine zG_run hm 5 (cf' := (150, [some (zr 0 0), some (zi v1), some (zl v2), none, some (zi v4), some (zr 16 (zix v4)), some (zi (if 0 < zw (p2.1 - ((p2.2 11 0 10) - (p2.2 16 (zix v4) 5))) then (p2.1 - ((p2.2 11 0 10) - (p2.2 16 (zix v4) 5))) else 0)), some (zi (if zw (Int.tdiv (zw (((if 0 < zw (p2.1 - ((p2.2 11 0 10) - (p2.2 16 (zix v4) 5))) then (p2.1 - ((p2.2 11 0 10) - (p2.2 16 (zix v4) 5))) else 0) + 9) - 1)) 9) < 6 then (Int.tdiv (zw (((if 0 < zw (p2.1 - ((p2.2 11 0 10) - (p2.2 16 (zix v4) 5))) then (p2.1 - ((p2.2 11 0 10) - (p2.2 16 (zix v4) 5))) else 0) + 9) - 1)) 9) else 6)), some (zl (p3.1 - p4.1)), none, some (zl (((zw (p4.2 16 (zix v4) 3)) * (p3.1 - p4.1)) * p5.1)), none], [zi (zlcmp (zwl (((zw (p4.2 16 (zix v4) 3)) * (p3.1 - p4.1)) * p5.1)) (zwl v2))], p5.2)) rfl ?_
          by_cases c6 : zw (zlcmp (zwl (((zw (p4.2 16 (zix v4) 3)) * (p3.1 - p4.1)) * p5.1)) (zwl v2)) ≤ 0
          · rw [if_pos c6] at h
            refine zG_br hm rfl (cf' := (159, [some (zr 0 0), some (zi v1), some (zl v2), none, some (zi v4), some (zr 16 (zix v4)), some (zi (if 0 < zw (p2.1 - ((p2.2 11 0 10) - (p2.2 16 (zix v4) 5))) then (p2.1 - ((p2.2 11 0 10) - (p2.2 16 (zix v4) 5))) else 0)), some (zi (if zw (Int.tdiv (zw (((if 0 < zw (p2.1 - ((p2.2 11 0 10) - (p2.2 16 (zix v4) 5))) then (p2.1 - ((p2.2 11 0 10) - (p2.2 16 (zix v4) 5))) else 0) + 9) - 1)) 9) < 6 then (Int.tdiv (zw (((if 0 < zw (p2.1 - ((p2.2 11 0 10) - (p2.2 16 (zix v4) 5))) then (p2.1 - ((p2.2 11 0 10) - (p2.2 16 (zix v4) 5))) else 0) + 9) - 1)) 9) else 6)), some (zl (p3.1 - p4.1)), none, some (zl (((zw (p4.2 16 (zix v4) 3)) * (p3.1 - p4.1)) * p5.1)), none], [], p5.2)) (if_pos c6) ?_
            refine zG_sub (lv' := [some (zr 0 0), some (zi v1), some (zl v2), none, some (zi v4), none, none, none, none, none, none, none]) (zsb_s rfl (zsb_s rfl (zsb_s rfl (zsb_n (zsb_s rfl (zsb_n (zsb_n (zsb_n (zsb_n (zsb_n (zsb_n (zsb_n zsb_0)))))))))))) ?_
            exact g_X10_early_j159 hd h kc kb kr
          · rw [if_neg c6] at h
            refine zG_br hm rfl (cf' := (153, [some (zr 0 0), some (zi v1), some (zl v2), none, some (zi v4), some (zr 16 (zix v4)), some (zi (if 0 < zw (p2.1 - ((p2.2 11 0 10) - (p2.2 16 (zix v4) 5))) then (p2.1 - ((p2.2 11 0 10) - (p2.2 16 (zix v4) 5))) else 0)), some (zi (if zw (Int.tdiv (zw (((if 0 < zw (p2.1 - ((p2.2 11 0 10) - (p2.2 16 (zix v4) 5))) then (p2.1 - ((p2.2 11 0 10) - (p2.2 16 (zix v4) 5))) else 0) + 9) - 1)) 9) < 6 then (Int.tdiv (zw (((if 0 < zw (p2.1 - ((p2.2 11 0 10) - (p2.2 16 (zix v4) 5))) then (p2.1 - ((p2.2 11 0 10) - (p2.2 16 (zix v4) 5))) else 0) + 9) - 1)) 9) else 6)), some (zl (p3.1 - p4.1)), none, some (zl (((zw (p4.2 16 (zix v4) 3)) * (p3.1 - p4.1)) * p5.1)), none], [], p5.2)) (if_neg c6) ?_
            refine zG_run hm 4 (cf' := (159, [some (zr 0 0), some (zi v4), some (zl (((zw (p4.2 16 (zix v4) 3)) * (p3.1 - p4.1)) * p5.1)), none, some (zi v4), some (zr 16 (zix v4)), some (zi (if 0 < zw (p2.1 - ((p2.2 11 0 10) - (p2.2 16 (zix v4) 5))) then (p2.1 - ((p2.2 11 0 10) - (p2.2 16 (zix v4) 5))) else 0)), some (zi (if zw (Int.tdiv (zw (((if 0 < zw (p2.1 - ((p2.2 11 0 10) - (p2.2 16 (zix v4) 5))) then (p2.1 - ((p2.2 11 0 10) - (p2.2 16 (zix v4) 5))) else 0) + 9) - 1)) 9) < 6 then (Int.tdiv (zw (((if 0 < zw (p2.1 - ((p2.2 11 0 10) - (p2.2 16 (zix v4) 5))) then (p2.1 - ((p2.2 11 0 10) - (p2.2 16 (zix v4) 5))) else 0) + 9) - 1)) 9) else 6)), some (zl (p3.1 - p4.1)), none, some (zl (((zw (p4.2 16 (zix v4) 3)) * (p3.1 - p4.1)) * p5.1)), none], [], p5.2)) rfl ?_
            refine zG_sub (lv' := [some (zr 0 0), some (zi v4), some (zl (((zw (p4.2 16 (zix v4) 3)) * (p3.1 - p4.1)) * p5.1)), none, some (zi v4), none, none, none, none, none, none, none]) (zsb_s rfl (zsb_s rfl (zsb_s rfl (zsb_n (zsb_s rfl (zsb_n (zsb_n (zsb_n (zsb_n (zsb_n (zsb_n (zsb_n zsb_0)))))))))))) ?_
            exact g_X10_early_j159 hd h kc kb kr
        · rw [if_neg c7] at h
          cases h
      · rw [if_neg c8] at h
        cases h
theorem gl_X10_early_L9  {y : Int × zM} {r : Option zV} {Mf : zM} {d : Nat} (hd : 3 ≤ d)
    (kb : ∀ t, y = t → zG 105 d (165, [none, some (zi t.1), none, none, none, none, none, none, none, none, none, none], [], t.2) r Mf) (kr : True) : ∀ (n : Nat) (s : Int × Int × Int × zM), zlp (fun s : Int × Int × Int × zM => f_X10_early_L9  s.1 s.2.1 s.2.2.1 s.2.2.2) n s = some y → zG 105 d (9, [some (zr 0 0), some (zi s.1), some (zl s.2.1), none, some (zi s.2.2.1), none, none, none, none, none, none, none], [], s.2.2.2) r Mf := by
  intro n
  induction n with
  | zero => intro s h; cases h
  | succ n ih =>
    intro s h
    rcases zlp_cases h with ⟨s', h1, h2⟩ | h1
    · exact g_X10_early_L9 hd h1 (fun s2 e2 => by cases e2; exact ih _ h2) (fun t e2 => by cases e2) trivial
    · exact g_X10_early_L9 hd h1 (fun s2 e2 => by cases e2) (fun t e2 => kb t (Sum.inr.inj e2)) trivial
def f_X10_early  (M : zM) : Option (Int × zM) :=
  (zlp (fun s : Int × Int × Int × zM => f_X10_early_L9  s.1 s.2.1 s.2.2.1 s.2.2.2) zF ((-1), (-1), 0, M)).bind fun y11 =>
    some (y11.1, y11.2)
theorem g_X10_early  {M : zM} {q : Int × zM} {d : Nat} (hd : 3 ≤ d) (h : f_X10_early  M = some q) : zG 105 d (0, [some (zr 0 0), none, none, none, none, none, none, none, none, none, none, none], [], M) (some (zi q.1)) q.2 := by
  have hm := zmok_105
  unfold f_X10_early at h
  refine zG_run hm 6 (cf' := (9, [some (zr 0 0), some (zi (-1)), some (zl (-1)), none, some (zi 0), none, none, none, none, none, none, none], [], M)) rfl ?_
  refine zG_sub (lv' := [some (zr 0 0), some (zi (-1)), some (zl (-1)), none, some (zi 0), none, none, none, none, none, none, none]) (zsb_s rfl (zsb_s rfl (zsb_s rfl (zsb_n (zsb_s rfl (zsb_n (zsb_n (zsb_n (zsb_n (zsb_n (zsb_n (zsb_n zsb_0)))))))))))) ?_
  obtain ⟨y11, hy11, h⟩ := Option.bind_eq_some_iff.mp h
  refine gl_X10_early_L9 hd (fun t e2 => ?_) trivial zF ((-1), (-1), 0, M) hy11
  cases e2
  refine zG_run hm 1 (cf' := (166, [none, some (zi y11.1), none, none, none, none, none, none, none, none, none, none], [zi y11.1], y11.2)) rfl ?_
  cases h
  exact zG_ri hm rfl rfl
theorem met_X10_early  {M : zM} {q : Int × zM} {d : Nat} (hd : 3 ≤ d) (h : f_X10_early  M = some q) : zMet 105 d [zr 0 0] M (some (zi q.1)) q.2 :=
  zMet_of (lv0 := [some (zr 0 0), none, none, none, none, none, none, none, none, none, none, none]) zmok_105 rfl rfl (fun v hv => by cases hv; trivial) (g_X10_early hd h)
def f_X11_early_j173 (v1 : Int) (v2 : Int) (v4 : Int) (M : zM) : Option ((Int × Int × Int × zM) ⊕ (Int × zM)) :=
  some (.inl (v1, v2, (v4 + 1), M))
theorem g_X11_early_j173 {v1 : Int} {v2 : Int} {v4 : Int} {M : zM} {x : (Int × Int × Int × zM) ⊕ (Int × zM)} {r : Option zV} {Mf : zM} {d : Nat} (hd : 4 ≤ d) (h : f_X11_early_j173 v1 v2 v4 M = some x)
    (kc : ∀ s, x = .inl s → zG 225 d (11, [some (zr 42 0), some (zi s.1), some (zl s.2.1), none, some (zi s.2.2.1), none, none, none, none], [], s.2.2.2) r Mf)
    (kb : ∀ t, x = .inr t → zG 225 d (179, [none, some (zi t.1), none, none, none, none, none, none, none], [], t.2) r Mf) (kr : True) : zG 225 d (173, [some (zr 42 0), some (zi v1), some (zl v2), none, some (zi v4), none, none, none, none], [], M) r Mf := by
  have hm := zmok_225
  unfold f_X11_early_j173 at h
  refine zG_run hm 2 (cf' := (11, [some (zr 42 0), some (zi v1), some (zl v2), none, some (zi (v4 + 1)), none, none, none, none], [], M)) rfl ?_
  refine zG_sub (lv' := [some (zr 42 0), some (zi v1), some (zl v2), none, some (zi (v4 + 1)), none, none, none, none]) (zsb_s rfl (zsb_s rfl (zsb_s rfl (zsb_n (zsb_s rfl (zsb_n (zsb_n (zsb_n (zsb_n zsb_0))))))))) ?_
  exact kc (v1, v2, (v4 + 1), M) (Option.some.inj h).symm
def f_X11_early_j167 (v4 : Int) (v7 : Int) (M : zM) : Option ((Int × Int × Int × zM) ⊕ (Int × zM)) :=
  f_X11_early_j173 v4 v7 v4 M
theorem g_X11_early_j167 {v4 : Int} {v7 : Int} {M : zM} {x : (Int × Int × Int × zM) ⊕ (Int × zM)} {r : Option zV} {Mf : zM} {d : Nat} (hd : 4 ≤ d) (h : f_X11_early_j167 v4 v7 M = some x)
    (kc : ∀ s, x = .inl s → zG 225 d (11, [some (zr 42 0), some (zi s.1), some (zl s.2.1), none, some (zi s.2.2.1), none, none, none, none], [], s.2.2.2) r Mf)
    (kb : ∀ t, x = .inr t → zG 225 d (179, [none, some (zi t.1), none, none, none, none, none, none, none], [], t.2) r Mf) (kr : True) : zG 225 d (167, [some (zr 42 0), none, none, none, some (zi v4), none, none, some (zl v7), none], [], M) r Mf := by
  have hm := zmok_225
  unfold f_X11_early_j167 at h
  refine zG_run hm 4 (cf' := (173, [some (zr 42 0), some (zi v4), some (zl v7), none, some (zi v4), none, none, some (zl v7), none], [], M)) rfl ?_
  refine zG_sub (lv' := [some (zr 42 0), some (zi v4), some (zl v7), none, some (zi v4), none, none, none, none]) (zsb_s rfl (zsb_s rfl (zsb_s rfl (zsb_n (zsb_s rfl (zsb_n (zsb_n (zsb_n (zsb_n zsb_0))))))))) ?_
  exact g_X11_early_j173 hd h kc kb kr
def f_X11_early_j94 (v1 : Int) (v2 : Int) (v4 : Int) (vs0 : Int) (M : zM) : Option ((Int × Int × Int × zM) ⊕ (Int × zM)) :=
  if 0 ≤ zw (6 + v4) ∧ zw (6 + v4) < 161 then
    (f_X11_power 10 vs0 M).bind fun p4 =>
      if 0 ≤ zw (30 + v4) ∧ zw (30 + v4) < 161 then
        if 0 ≤ zw (10 + (p4.2 68 0 (zix (30 + v4)))) ∧ zw (10 + (p4.2 68 0 (zix (30 + v4)))) < 5090 then
          (f_X11_power (zw (p4.2 43 0 (zix (10 + (p4.2 68 0 (zix (30 + v4))))))) vs0 p4.2).bind fun p5 =>
            (f_X11_power 10 (6 - vs0) p5.2).bind fun p6 =>
              if zw v1 = (-1) then
                f_X11_early_j167 v4 (((zw (M 68 0 (zix (6 + v4)))) * (p4.1 - p5.1)) * p6.1) p6.2
              else
                if zw (zlcmp (zwl (((zw (M 68 0 (zix (6 + v4)))) * (p4.1 - p5.1)) * p6.1)) (zwl v2)) ≤ 0 then
                  f_X11_early_j173 v1 v2 v4 p6.2
                else
                  f_X11_early_j167 v4 (((zw (M 68 0 (zix (6 + v4)))) * (p4.1 - p5.1)) * p6.1) p6.2
        else
          none
      else
        none
  else
    none
theorem g_X11_early_j94 {v1 : Int} {v2 : Int} {v4 : Int} {vs0 : Int} {M : zM} {x : (Int × Int × Int × zM) ⊕ (Int × zM)} {r : Option zV} {Mf : zM} {d : Nat} (hd : 4 ≤ d) (h : f_X11_early_j94 v1 v2 v4 vs0 M = some x)
    (kc : ∀ s, x = .inl s → zG 225 d (11, [some (zr 42 0), some (zi s.1), some (zl s.2.1), none, some (zi s.2.2.1), none, none, none, none], [], s.2.2.2) r Mf)
    (kb : ∀ t, x = .inr t → zG 225 d (179, [none, some (zi t.1), none, none, none, none, none, none, none], [], t.2) r Mf) (kr : True) : zG 225 d (94, [some (zr 42 0), some (zi v1), some (zl v2), none, some (zi v4), none, none, none, none], [zi vs0], M) r Mf := by
  have hm := zmok_225
  unfold f_X11_early_j94 at h
  refine zG_run hm 6 (cf' := (105, [some (zr 42 0), some (zi v1), some (zl v2), none, some (zi v4), none, some (zi vs0), none, none], [zi (6 + v4), zr 68 0], M)) rfl ?_
  by_cases c11 : 0 ≤ zw (6 + v4) ∧ zw (6 + v4) < 161
  · rw [if_pos c11] at h
    refine zG_br hm rfl (cf' := (106, [some (zr 42 0), some (zi v1), some (zl v2), none, some (zi v4), none, some (zi vs0), none, none], [zi (M 68 0 (zix (6 + v4)))], M)) (if_pos c11) ?_
    refine zG_run hm 3 (cf' := (112, [some (zr 42 0), some (zi v1), some (zl v2), none, some (zi v4), none, some (zi vs0), none, none], [zi vs0, zl 10, zl (zw (M 68 0 (zix (6 + v4))))], M)) rfl ?_
    obtain ⟨p4, hp4, h⟩ := Option.bind_eq_some_iff.mp h
    refine zG_S hm zmok_222 rfl (as := [zl 10, zi vs0]) (rest := [zl (zw (M 68 0 (zix (6 + v4))))]) (st2 := [zl p4.1, zl (zw (M 68 0 (zix (6 + v4))))]) (pc2 := 115) rfl rfl (by omega) (met_X11_power (d := 0) (Nat.le_refl _) hp4) rfl ?_
    refine zG_run hm 8 (cf' := (130, [some (zr 42 0), some (zi v1), some (zl v2), none, some (zi v4), none, some (zi vs0), none, none], [zi (30 + v4), zr 68 0, zi 10, zr 43 0, zl p4.1, zl (zw (M 68 0 (zix (6 + v4))))], p4.2)) rfl ?_
    by_cases c10 : 0 ≤ zw (30 + v4) ∧ zw (30 + v4) < 161
    · rw [if_pos c10] at h
      refine zG_br hm rfl (cf' := (131, [some (zr 42 0), some (zi v1), some (zl v2), none, some (zi v4), none, some (zi vs0), none, none], [zi (p4.2 68 0 (zix (30 + v4))), zi 10, zr 43 0, zl p4.1, zl (zw (M 68 0 (zix (6 + v4))))], p4.2)) (if_pos c10) ?_
      refine zG_run hm 1 (cf' := (132, [some (zr 42 0), some (zi v1), some (zl v2), none, some (zi v4), none, some (zi vs0), none, none], [zi (10 + (p4.2 68 0 (zix (30 + v4)))), zr 43 0, zl p4.1, zl (zw (M 68 0 (zix (6 + v4))))], p4.2)) rfl ?_
      by_cases c9 : 0 ≤ zw (10 + (p4.2 68 0 (zix (30 + v4)))) ∧ zw (10 + (p4.2 68 0 (zix (30 + v4)))) < 5090
      · rw [if_pos c9] at h
        refine zG_br hm rfl (cf' := (133, [some (zr 42 0), some (zi v1), some (zl v2), none, some (zi v4), none, some (zi vs0), none, none], [zi (p4.2 43 0 (zix (10 + (p4.2 68 0 (zix (30 + v4)))))), zl p4.1, zl (zw (M 68 0 (zix (6 + v4))))], p4.2)) (if_pos c9) ?_
        refine zG_run hm 2 (cf' := (136, [some (zr 42 0), some (zi v1), some (zl v2), none, some (zi v4), none, some (zi vs0), none, none], [zi vs0, zl (zw (p4.2 43 0 (zix (10 + (p4.2 68 0 (zix (30 + v4))))))), zl p4.1, zl (zw (M 68 0 (zix (6 + v4))))], p4.2)) rfl ?_
        obtain ⟨p5, hp5, h⟩ := Option.bind_eq_some_iff.mp h
        refine zG_S hm zmok_222 rfl (as := [zl (zw (p4.2 43 0 (zix (10 + (p4.2 68 0 (zix (30 + v4))))))), zi vs0]) (rest := [zl p4.1, zl (zw (M 68 0 (zix (6 + v4))))]) (st2 := [zl p5.1, zl p4.1, zl (zw (M 68 0 (zix (6 + v4))))]) (pc2 := 139) rfl rfl (by omega) (met_X11_power (d := 0) (Nat.le_refl _) hp5) rfl ?_
        refine zG_run hm 6 (cf' := (149, [some (zr 42 0), some (zi v1), some (zl v2), none, some (zi v4), none, some (zi vs0), none, none], [zi (6 - vs0), zl 10, zl ((zw (M 68 0 (zix (6 + v4)))) * (p4.1 - p5.1))], p5.2)) rfl ?_
        obtain ⟨p6, hp6, h⟩ := Option.bind_eq_some_iff.mp h
        refine zG_S hm zmok_222 rfl (as := [zl 10, zi (6 - vs0)]) (rest := [zl ((zw (M 68 0 (zix (6 + v4)))) * (p4.1 - p5.1))]) (st2 := [zl p6.1, zl ((zw (M 68 0 (zix (6 + v4)))) * (p4.1 - p5.1))]) (pc2 := 152) rfl rfl (by omega) (met_X11_power (d := 0) (Nat.le_refl _) hp6) rfl ?_
        refine zG_run hm 4 (cf' := (157, [some (zr 42 0), some (zi v1), some (zl v2), none, some (zi v4), none, some (zi vs0), some (zl (((zw (M 68 0 (zix (6 + v4)))) * (p4.1 - p5.1)) * p6.1)), none], [zi (-1), zi v1], p6.2)) rfl ?_
        by_cases c8 : zw v1 = (-1)
        · rw [if_pos c8] at h
          refine zG_br hm rfl (cf' := (167, [some (zr 42 0), some (zi v1), some (zl v2), none, some (zi v4), none, some (zi vs0), some (zl (((zw (M 68 0 (zix (6 + v4)))) * (p4.1 - p5.1)) * p6.1)), none], [], p6.2)) (if_pos c8) ?_
          refine zG_sub (lv' := [some (zr 42 0), none, none, none, some (zi v4), none, none, some (zl (((zw (M 68 0 (zix (6 + v4)))) * (p4.1 - p5.1)) * p6.1)), none]) (zsb_s rfl (zsb_n (zsb_n (zsb_n (zsb_s rfl (zsb_n (zsb_n (zsb_s rfl (zsb_n zsb_0))))))))) ?_
          exact g_X11_early_j167 hd h kc kb kr
        · rw [if_neg c8] at h
          refine zG_br hm rfl (cf' := (160, [some (zr 42 0), some (zi v1), some (zl v2), none, some (zi v4), none, some (zi vs0), some (zl (((zw (M 68 0 (zix (6 + v4)))) * (p4.1 - p5.1)) * p6.1)), none], [], p6.2)) (if_neg c8) ?_
          refine zG_run hm 3 (cf' := (164, [some (zr 42 0), some (zi v1), some (zl v2), none, some (zi v4), none, some (zi vs0), some (zl (((zw (M 68 0 (zix (6 + v4)))) * (p4.1 - p5.1)) * p6.1)), none], [zi (zlcmp (zwl (((zw (M 68 0 (zix (6 + v4)))) * (p4.1 - p5.1)) * p6.1)) (zwl v2))], p6.2)) rfl ?_
          by_cases c7 : zw (zlcmp (zwl (((zw (M 68 0 (zix (6 + v4)))) * (p4.1 - p5.1)) * p6.1)) (zwl v2)) ≤ 0
          · rw [if_pos c7] at h
            refine zG_br hm rfl (cf' := (173, [some (zr 42 0), some (zi v1), some (zl v2), none, some (zi v4), none, some (zi vs0), some (zl (((zw (M 68 0 (zix (6 + v4)))) * (p4.1 - p5.1)) * p6.1)), none], [], p6.2)) (if_pos c7) ?_
            refine zG_sub (lv' := [some (zr 42 0), some (zi v1), some (zl v2), none, some (zi v4), none, none, none, none]) (zsb_s rfl (zsb_s rfl (zsb_s rfl (zsb_n (zsb_s rfl (zsb_n (zsb_n (zsb_n (zsb_n zsb_0))))))))) ?_
            exact g_X11_early_j173 hd h kc kb kr
          · rw [if_neg c7] at h
            refine zG_br hm rfl (cf' := (167, [some (zr 42 0), some (zi v1), some (zl v2), none, some (zi v4), none, some (zi vs0), some (zl (((zw (M 68 0 (zix (6 + v4)))) * (p4.1 - p5.1)) * p6.1)), none], [], p6.2)) (if_neg c7) ?_
            refine zG_sub (lv' := [some (zr 42 0), none, none, none, some (zi v4), none, none, some (zl (((zw (M 68 0 (zix (6 + v4)))) * (p4.1 - p5.1)) * p6.1)), none]) (zsb_s rfl (zsb_n (zsb_n (zsb_n (zsb_s rfl (zsb_n (zsb_n (zsb_s rfl (zsb_n zsb_0))))))))) ?_
            exact g_X11_early_j167 hd h kc kb kr
      · rw [if_neg c9] at h
        cases h
    · rw [if_neg c10] at h
      cases h
  · rw [if_neg c11] at h
    cases h
def f_X11_early_L11 (v1 : Int) (v2 : Int) (v4 : Int) (M : zM) : Option ((Int × Int × Int × zM) ⊕ (Int × zM)) :=
  if zw (M 43 0 1) ≤ zw v4 then
    some (.inr (v1, M))
  else
    (f_X11_isKept v4 M).bind fun p2 =>
      if zw p2.1 = 0 then
        f_X11_early_j173 v1 v2 v4 p2.2
      else
        (f_X11_afterOf v4 p2.2).bind fun p3 =>
          if 0 ≤ zw (22 + v4) ∧ zw (22 + v4) < 161 then
            if 1 ≤ zw (p3.1 - ((p3.2 68 0 38) - (p3.2 68 0 (zix (22 + v4))))) then
              if zw (Int.tdiv (zw ((p3.1 - ((p3.2 68 0 38) - (p3.2 68 0 (zix (22 + v4))))) + 8)) 9) ≤ 6 then
                f_X11_early_j94 v1 v2 v4 (Int.tdiv (zw ((p3.1 - ((p3.2 68 0 38) - (p3.2 68 0 (zix (22 + v4))))) + 8)) 9) p3.2
              else
                f_X11_early_j94 v1 v2 v4 6 p3.2
            else
              f_X11_early_j94 v1 v2 v4 0 p3.2
          else
            none
theorem g_X11_early_L11 {v1 : Int} {v2 : Int} {v4 : Int} {M : zM} {x : (Int × Int × Int × zM) ⊕ (Int × zM)} {r : Option zV} {Mf : zM} {d : Nat} (hd : 4 ≤ d) (h : f_X11_early_L11 v1 v2 v4 M = some x)
    (kc : ∀ s, x = .inl s → zG 225 d (11, [some (zr 42 0), some (zi s.1), some (zl s.2.1), none, some (zi s.2.2.1), none, none, none, none], [], s.2.2.2) r Mf)
    (kb : ∀ t, x = .inr t → zG 225 d (179, [none, some (zi t.1), none, none, none, none, none, none, none], [], t.2) r Mf) (kr : True) : zG 225 d (11, [some (zr 42 0), some (zi v1), some (zl v2), none, some (zi v4), none, none, none, none], [], M) r Mf := by
  have hm := zmok_225
  unfold f_X11_early_L11 at h
  refine zG_run hm 5 (cf' := (19, [some (zr 42 0), some (zi v1), some (zl v2), none, some (zi v4), none, none, none, none], [zi (M 43 0 1), zi v4], M)) rfl ?_
  by_cases c16 : zw (M 43 0 1) ≤ zw v4
  · rw [if_pos c16] at h
    refine zG_br hm rfl (cf' := (179, [some (zr 42 0), some (zi v1), some (zl v2), none, some (zi v4), none, none, none, none], [], M)) (if_pos c16) ?_
    refine zG_sub (lv' := [none, some (zi v1), none, none, none, none, none, none, none]) (zsb_n (zsb_s rfl (zsb_n (zsb_n (zsb_n (zsb_n (zsb_n (zsb_n (zsb_n zsb_0))))))))) ?_
    exact kb (v1, M) (Option.some.inj h).symm
  · rw [if_neg c16] at h
    refine zG_br hm rfl (cf' := (22, [some (zr 42 0), some (zi v1), some (zl v2), none, some (zi v4), none, none, none, none], [], M)) (if_neg c16) ?_
    refine zG_run hm 2 (cf' := (25, [some (zr 42 0), some (zi v1), some (zl v2), none, some (zi v4), none, none, none, none], [zi v4, zr 42 0], M)) rfl ?_
    obtain ⟨p2, hp2, h⟩ := Option.bind_eq_some_iff.mp h
    refine zG_V hm zmok_173 rfl (as := [zi v4]) (rest := []) (st2 := [zi p2.1]) (pc2 := 28) rfl rfl (by omega) (met_X11_isKept (d := 0) (Nat.le_refl _) hp2) rfl ?_
    by_cases c15 : zw p2.1 = 0
    · rw [if_pos c15] at h
      refine zG_br hm rfl (cf' := (173, [some (zr 42 0), some (zi v1), some (zl v2), none, some (zi v4), none, none, none, none], [], p2.2)) (if_pos c15) ?_
      refine zG_sub (lv' := [some (zr 42 0), some (zi v1), some (zl v2), none, some (zi v4), none, none, none, none]) (zsb_s rfl (zsb_s rfl (zsb_s rfl (zsb_n (zsb_s rfl (zsb_n (zsb_n (zsb_n (zsb_n zsb_0))))))))) ?_
      exact g_X11_early_j173 hd h kc kb kr
    · rw [if_neg c15] at h
      refine zG_br hm rfl (cf' := (31, [some (zr 42 0), some (zi v1), some (zl v2), none, some (zi v4), none, none, none, none], [], p2.2)) (if_neg c15) ?_
      refine zG_run hm 2 (cf' := (34, [some (zr 42 0), some (zi v1), some (zl v2), none, some (zi v4), none, none, none, none], [zi v4, zr 42 0], p2.2)) rfl ?_
      obtain ⟨p3, hp3, h⟩ := Option.bind_eq_some_iff.mp h
      refine zG_V hm zmok_176 rfl (as := [zi v4]) (rest := []) (st2 := [zi p3.1]) (pc2 := 37) rfl rfl (by omega) (met_X11_afterOf (d := 3) (Nat.le_refl _) hp3) rfl ?_
      refine zG_run hm 9 (cf' := (53, [some (zr 42 0), some (zi v1), some (zl v2), none, some (zi v4), none, none, none, none], [zi (22 + v4), zr 68 0, zi (p3.2 68 0 38), zi p3.1], p3.2)) rfl ?_
      by_cases c14 : 0 ≤ zw (22 + v4) ∧ zw (22 + v4) < 161
      · rw [if_pos c14] at h
        refine zG_br hm rfl (cf' := (54, [some (zr 42 0), some (zi v1), some (zl v2), none, some (zi v4), none, none, none, none], [zi (p3.2 68 0 (zix (22 + v4))), zi (p3.2 68 0 38), zi p3.1], p3.2)) (if_pos c14) ?_
        refine zG_run hm 5 (cf' := (61, [some (zr 42 0), some (zi v1), some (zl v2), none, some (zi v4), some (zi (p3.1 - ((p3.2 68 0 38) - (p3.2 68 0 (zix (22 + v4)))))), none, none, none], [zi 1, zi (p3.1 - ((p3.2 68 0 38) - (p3.2 68 0 (zix (22 + v4)))))], p3.2)) rfl ?_
        by_cases c13 : 1 ≤ zw (p3.1 - ((p3.2 68 0 38) - (p3.2 68 0 (zix (22 + v4)))))
        · rw [if_pos c13] at h
          refine zG_br hm rfl (cf' := (68, [some (zr 42 0), some (zi v1), some (zl v2), none, some (zi v4), some (zi (p3.1 - ((p3.2 68 0 38) - (p3.2 68 0 (zix (22 + v4)))))), none, none, none], [], p3.2)) (if_pos c13) ?_
          refine zG_run hm 6 (cf' := (78, [some (zr 42 0), some (zi v1), some (zl v2), none, some (zi v4), some (zi (p3.1 - ((p3.2 68 0 38) - (p3.2 68 0 (zix (22 + v4)))))), none, none, none], [zi 6, zi (Int.tdiv (zw ((p3.1 - ((p3.2 68 0 38) - (p3.2 68 0 (zix (22 + v4))))) + 8)) 9)], p3.2)) rfl ?_
          by_cases c12 : zw (Int.tdiv (zw ((p3.1 - ((p3.2 68 0 38) - (p3.2 68 0 (zix (22 + v4))))) + 8)) 9) ≤ 6
          · rw [if_pos c12] at h
            refine zG_br hm rfl (cf' := (86, [some (zr 42 0), some (zi v1), some (zl v2), none, some (zi v4), some (zi (p3.1 - ((p3.2 68 0 38) - (p3.2 68 0 (zix (22 + v4)))))), none, none, none], [], p3.2)) (if_pos c12) ?_
            refine zG_run hm 5 (cf' := (94, [some (zr 42 0), some (zi v1), some (zl v2), none, some (zi v4), some (zi (p3.1 - ((p3.2 68 0 38) - (p3.2 68 0 (zix (22 + v4)))))), none, none, none], [zi (Int.tdiv (zw ((p3.1 - ((p3.2 68 0 38) - (p3.2 68 0 (zix (22 + v4))))) + 8)) 9)], p3.2)) rfl ?_
            refine zG_sub (lv' := [some (zr 42 0), some (zi v1), some (zl v2), none, some (zi v4), none, none, none, none]) (zsb_s rfl (zsb_s rfl (zsb_s rfl (zsb_n (zsb_s rfl (zsb_n (zsb_n (zsb_n (zsb_n zsb_0))))))))) ?_
            exact g_X11_early_j94 hd h kc kb kr
          · rw [if_neg c12] at h
            refine zG_br hm rfl (cf' := (81, [some (zr 42 0), some (zi v1), some (zl v2), none, some (zi v4), some (zi (p3.1 - ((p3.2 68 0 38) - (p3.2 68 0 (zix (22 + v4)))))), none, none, none], [], p3.2)) (if_neg c12) ?_
            refine zG_run hm 2 (cf' := (94, [some (zr 42 0), some (zi v1), some (zl v2), none, some (zi v4), some (zi (p3.1 - ((p3.2 68 0 38) - (p3.2 68 0 (zix (22 + v4)))))), none, none, none], [zi 6], p3.2)) rfl ?_
            refine zG_sub (lv' := [some (zr 42 0), some (zi v1), some (zl v2), none, some (zi v4), none, none, none, none]) (zsb_s rfl (zsb_s rfl (zsb_s rfl (zsb_n (zsb_s rfl (zsb_n (zsb_n (zsb_n (zsb_n zsb_0))))))))) ?_
            exact g_X11_early_j94 hd h kc kb kr
        · rw [if_neg c13] at h
          refine zG_br hm rfl (cf' := (64, [some (zr 42 0), some (zi v1), some (zl v2), none, some (zi v4), some (zi (p3.1 - ((p3.2 68 0 38) - (p3.2 68 0 (zix (22 + v4)))))), none, none, none], [], p3.2)) (if_neg c13) ?_
          refine zG_run hm 2 (cf' := (94, [some (zr 42 0), some (zi v1), some (zl v2), none, some (zi v4), some (zi (p3.1 - ((p3.2 68 0 38) - (p3.2 68 0 (zix (22 + v4)))))), none, none, none], [zi 0], p3.2)) rfl ?_
          refine zG_sub (lv' := [some (zr 42 0), some (zi v1), some (zl v2), none, some (zi v4), none, none, none, none]) (zsb_s rfl (zsb_s rfl (zsb_s rfl (zsb_n (zsb_s rfl (zsb_n (zsb_n (zsb_n (zsb_n zsb_0))))))))) ?_
          exact g_X11_early_j94 hd h kc kb kr
      · rw [if_neg c14] at h
        cases h
theorem gl_X11_early_L11  {y : Int × zM} {r : Option zV} {Mf : zM} {d : Nat} (hd : 4 ≤ d)
    (kb : ∀ t, y = t → zG 225 d (179, [none, some (zi t.1), none, none, none, none, none, none, none], [], t.2) r Mf) (kr : True) : ∀ (n : Nat) (s : Int × Int × Int × zM), zlp (fun s : Int × Int × Int × zM => f_X11_early_L11  s.1 s.2.1 s.2.2.1 s.2.2.2) n s = some y → zG 225 d (11, [some (zr 42 0), some (zi s.1), some (zl s.2.1), none, some (zi s.2.2.1), none, none, none, none], [], s.2.2.2) r Mf := by
  intro n
  induction n with
  | zero => intro s h; cases h
  | succ n ih =>
    intro s h
    rcases zlp_cases h with ⟨s', h1, h2⟩ | h1
    · exact g_X11_early_L11 hd h1 (fun s2 e2 => by cases e2; exact ih _ h2) (fun t e2 => by cases e2) trivial
    · exact g_X11_early_L11 hd h1 (fun s2 e2 => by cases e2) (fun t e2 => kb t (Sum.inr.inj e2)) trivial
def f_X11_early  (M : zM) : Option (Int × zM) :=
  (f_X11_laysNow  M).bind fun p1 =>
    (zlp (fun s : Int × Int × Int × zM => f_X11_early_L11  s.1 s.2.1 s.2.2.1 s.2.2.2) zF ((-1), 0, 0, p1)).bind fun y17 =>
      some (y17.1, y17.2)
theorem g_X11_early  {M : zM} {q : Int × zM} {d : Nat} (hd : 4 ≤ d) (h : f_X11_early  M = some q) : zG 225 d (0, [some (zr 42 0), none, none, none, none, none, none, none, none], [], M) (some (zi q.1)) q.2 := by
  have hm := zmok_225
  unfold f_X11_early at h
  refine zG_run hm 1 (cf' := (1, [some (zr 42 0), none, none, none, none, none, none, none, none], [zr 42 0], M)) rfl ?_
  obtain ⟨p1, hp1, h⟩ := Option.bind_eq_some_iff.mp h
  refine zG_V hm zmok_171 rfl (as := []) (rest := []) (st2 := []) (pc2 := 4) rfl rfl (by omega) (met_X11_laysNow (d := 0) (Nat.le_refl _) hp1) rfl ?_
  refine zG_run hm 6 (cf' := (11, [some (zr 42 0), some (zi (-1)), some (zl 0), none, some (zi 0), none, none, none, none], [], p1)) rfl ?_
  refine zG_sub (lv' := [some (zr 42 0), some (zi (-1)), some (zl 0), none, some (zi 0), none, none, none, none]) (zsb_s rfl (zsb_s rfl (zsb_s rfl (zsb_n (zsb_s rfl (zsb_n (zsb_n (zsb_n (zsb_n zsb_0))))))))) ?_
  obtain ⟨y17, hy17, h⟩ := Option.bind_eq_some_iff.mp h
  refine gl_X11_early_L11 hd (fun t e2 => ?_) trivial zF ((-1), 0, 0, p1) hy17
  cases e2
  refine zG_run hm 1 (cf' := (180, [none, some (zi y17.1), none, none, none, none, none, none, none], [zi y17.1], y17.2)) rfl ?_
  cases h
  exact zG_ri hm rfl rfl
theorem met_X11_early  {M : zM} {q : Int × zM} {d : Nat} (hd : 4 ≤ d) (h : f_X11_early  M = some q) : zMet 225 d [zr 42 0] M (some (zi q.1)) q.2 :=
  zMet_of (lv0 := [some (zr 42 0), none, none, none, none, none, none, none, none]) zmok_225 rfl rfl (fun v hv => by cases hv; trivial) (g_X11_early hd h)
def f_X5_copy_L2 (n0 : Nat) (n1 : Nat) (v2 : Int) (M : zM) : Option ((Int × zM) ⊕ (zM)) :=
  if 30 ≤ zw v2 then
    some (.inr M)
  else
    if 0 ≤ zw v2 ∧ zw v2 < 30 then
      if 0 ≤ zw v2 ∧ zw v2 < 30 then
        zlet (zcopy M 22 ((zix v2) + 30 * n1) 0 22 ((zix v2) + 30 * n0) 0 73) fun M1 =>
        some (.inl ((v2 + 1), M1))
      else
        none
    else
      none
theorem g_X5_copy_L2 {n0 : Nat} {n1 : Nat} {v2 : Int} {M : zM} {x : (Int × zM) ⊕ (zM)} {r : Option zV} {Mf : zM} {d : Nat} (hd : 0 ≤ d) (h : f_X5_copy_L2 n0 n1 v2 M = some x)
    (kc : ∀ s, x = .inl s → zG 52 d (2, [some (zr 20 n0), some (zr 20 n1), some (zi s.1)], [], s.2) r Mf)
    (kb : ∀ t, x = .inr t → zG 52 d (33, [some (zr 20 n0), some (zr 20 n1), none], [], t) r Mf) (kr : True) : zG 52 d (2, [some (zr 20 n0), some (zr 20 n1), some (zi v2)], [], M) r Mf := by
  have hm := zmok_52
  unfold f_X5_copy_L2 at h
  refine zG_run hm 2 (cf' := (5, [some (zr 20 n0), some (zr 20 n1), some (zi v2)], [zi 30, zi v2], M)) rfl ?_
  by_cases c4 : 30 ≤ zw v2
  · rw [if_pos c4] at h
    refine zG_br hm rfl (cf' := (33, [some (zr 20 n0), some (zr 20 n1), some (zi v2)], [], M)) (if_pos c4) ?_
    refine zG_sub (lv' := [some (zr 20 n0), some (zr 20 n1), none]) (zsb_s rfl (zsb_s rfl (zsb_n zsb_0))) ?_
    exact kb M (Option.some.inj h).symm
  · rw [if_neg c4] at h
    refine zG_br hm rfl (cf' := (8, [some (zr 20 n0), some (zr 20 n1), some (zi v2)], [], M)) (if_neg c4) ?_
    refine zG_run hm 3 (cf' := (13, [some (zr 20 n0), some (zr 20 n1), some (zi v2)], [zi v2, zr 21 n1], M)) rfl ?_
    by_cases c3 : 0 ≤ zw v2 ∧ zw v2 < 30
    · rw [if_pos c3] at h
      refine zG_br hm rfl (cf' := (14, [some (zr 20 n0), some (zr 20 n1), some (zi v2)], [zr 22 ((zix v2) + 30 * n1)], M)) (if_pos c3) ?_
      refine zG_run hm 4 (cf' := (20, [some (zr 20 n0), some (zr 20 n1), some (zi v2)], [zi v2, zr 21 n0, zi 0, zr 22 ((zix v2) + 30 * n1)], M)) rfl ?_
      by_cases c2 : 0 ≤ zw v2 ∧ zw v2 < 30
      · rw [if_pos c2] at h
        refine zG_br hm rfl (cf' := (21, [some (zr 20 n0), some (zr 20 n1), some (zi v2)], [zr 22 ((zix v2) + 30 * n0), zi 0, zr 22 ((zix v2) + 30 * n1)], M)) (if_pos c2) ?_
        refine zG_run hm 2 (cf' := (24, [some (zr 20 n0), some (zr 20 n1), some (zi v2)], [zi 73, zi 0, zr 22 ((zix v2) + 30 * n0), zi 0, zr 22 ((zix v2) + 30 * n1)], M)) rfl ?_
        refine zG_copy hm rfl 0 (Or.inl rfl) rfl (by decide) (by decide) (by decide) rfl rfl rfl ?_
        show zG 52 d (27, [some (zr 20 n0), some (zr 20 n1), some (zi v2)], [], (zcopy M 22 ((zix v2) + 30 * n1) 0 22 ((zix v2) + 30 * n0) 0 73)) _ _
        obtain ⟨M1, eM1, h⟩ := zlet_of h
        rw [eM1]
        refine zG_run hm 2 (cf' := (2, [some (zr 20 n0), some (zr 20 n1), some (zi (v2 + 1))], [], M1)) rfl ?_
        refine zG_sub (lv' := [some (zr 20 n0), some (zr 20 n1), some (zi (v2 + 1))]) (zsb_s rfl (zsb_s rfl (zsb_s rfl zsb_0))) ?_
        exact kc ((v2 + 1), M1) (Option.some.inj h).symm
      · rw [if_neg c2] at h
        cases h
    · rw [if_neg c3] at h
      cases h
theorem gl_X5_copy_L2 {n0 : Nat} {n1 : Nat} {y : zM} {r : Option zV} {Mf : zM} {d : Nat} (hd : 0 ≤ d)
    (kb : ∀ t, y = t → zG 52 d (33, [some (zr 20 n0), some (zr 20 n1), none], [], t) r Mf) (kr : True) : ∀ (n : Nat) (s : Int × zM), zlp (fun s : Int × zM => f_X5_copy_L2 n0 n1 s.1 s.2) n s = some y → zG 52 d (2, [some (zr 20 n0), some (zr 20 n1), some (zi s.1)], [], s.2) r Mf := by
  intro n
  induction n with
  | zero => intro s h; cases h
  | succ n ih =>
    intro s h
    rcases zlp_cases h with ⟨s', h1, h2⟩ | h1
    · exact g_X5_copy_L2 hd h1 (fun s2 e2 => by cases e2; exact ih _ h2) (fun t e2 => by cases e2) trivial
    · exact g_X5_copy_L2 hd h1 (fun s2 e2 => by cases e2) (fun t e2 => kb t (Sum.inr.inj e2)) trivial
def f_X5_copy (n0 : Nat) (n1 : Nat) (M : zM) : Option (zM) :=
  (zlp (fun s : Int × zM => f_X5_copy_L2 n0 n1 s.1 s.2) zF (0, M)).bind fun y5 =>
    zlet (zput y5 20 n0 1 (y5 20 n1 1)) fun M6 =>
    zlet (zput M6 20 n0 2 (M6 20 n1 2)) fun M7 =>
    some M7
theorem g_X5_copy {n0 : Nat} {n1 : Nat} {M : zM} {q : zM} {d : Nat} (hd : 0 ≤ d) (h : f_X5_copy n0 n1 M = some q) : zG 52 d (0, [some (zr 20 n0), some (zr 20 n1), none], [], M) none q := by
  have hm := zmok_52
  unfold f_X5_copy at h
  refine zG_run hm 2 (cf' := (2, [some (zr 20 n0), some (zr 20 n1), some (zi 0)], [], M)) rfl ?_
  refine zG_sub (lv' := [some (zr 20 n0), some (zr 20 n1), some (zi 0)]) (zsb_s rfl (zsb_s rfl (zsb_s rfl zsb_0))) ?_
  obtain ⟨y5, hy5, h⟩ := Option.bind_eq_some_iff.mp h
  refine gl_X5_copy_L2 hd (fun t e2 => ?_) trivial zF (0, M) hy5
  cases e2
  refine zG_run hm 4 (cf' := (41, [some (zr 20 n0), some (zr 20 n1), none], [], (zput y5 20 n0 1 (y5 20 n1 1)))) rfl ?_
  obtain ⟨M6, eM6, h⟩ := zlet_of h
  rw [eM6]
  refine zG_run hm 4 (cf' := (49, [some (zr 20 n0), some (zr 20 n1), none], [], (zput M6 20 n0 2 (M6 20 n1 2)))) rfl ?_
  obtain ⟨M7, eM7, h⟩ := zlet_of h
  rw [eM7]
  cases h
  exact zG_rv hm rfl rfl
theorem met_X5_copy {n0 : Nat} {n1 : Nat} {M : zM} {q : zM} {d : Nat} (hd : 0 ≤ d) (h : f_X5_copy n0 n1 M = some q) : zMet 52 d [zr 20 n0, zr 20 n1] M none q :=
  zMet_of (lv0 := [some (zr 20 n0), some (zr 20 n1), none]) zmok_52 rfl rfl (fun v hv => by cases hv) (g_X5_copy hd h)
def f_X9_copy (n0 : Nat) (n1 : Nat) (M : zM) : Option (zM) :=
  zlet (zcopy M 24 n1 0 24 n0 0 8) fun M1 =>
  zlet (zcopy M1 25 n1 0 25 n0 0 8) fun M2 =>
  zlet (zcopy M2 26 n1 0 26 n0 0 9) fun M3 =>
  zlet (zcopy M3 28 n1 0 28 n0 0 9) fun M4 =>
  zlet (zcopy M4 29 n1 0 29 n0 0 9) fun M5 =>
  zlet (zcopy M5 30 n1 0 30 n0 0 9) fun M6 =>
  zlet (zput M6 23 n0 7 (M6 23 n1 7)) fun M7 =>
  zlet (zput M7 23 n0 8 (M7 23 n1 8)) fun M8 =>
  zlet (zput M8 23 n0 9 (M8 23 n1 9)) fun M9 =>
  some M9
theorem g_X9_copy {n0 : Nat} {n1 : Nat} {M : zM} {q : zM} {d : Nat} (hd : 0 ≤ d) (h : f_X9_copy n0 n1 M = some q) : zG 61 d (0, [some (zr 23 n0), some (zr 23 n1)], [], M) none q := by
  have hm := zmok_61
  unfold f_X9_copy at h
  refine zG_run hm 7 (cf' := (12, [some (zr 23 n0), some (zr 23 n1)], [zi 8, zi 0, zr 24 n0, zi 0, zr 24 n1], M)) rfl ?_
  refine zG_copy hm rfl 0 (Or.inl rfl) rfl (by decide) (by decide) (by decide) rfl rfl rfl ?_
  show zG 61 d (15, [some (zr 23 n0), some (zr 23 n1)], [], (zcopy M 24 n1 0 24 n0 0 8)) _ _
  obtain ⟨M1, eM1, h⟩ := zlet_of h
  rw [eM1]
  refine zG_run hm 7 (cf' := (27, [some (zr 23 n0), some (zr 23 n1)], [zi 8, zi 0, zr 25 n0, zi 0, zr 25 n1], M1)) rfl ?_
  refine zG_copy hm rfl 0 (Or.inl rfl) rfl (by decide) (by decide) (by decide) rfl rfl rfl ?_
  show zG 61 d (30, [some (zr 23 n0), some (zr 23 n1)], [], (zcopy M1 25 n1 0 25 n0 0 8)) _ _
  obtain ⟨M2, eM2, h⟩ := zlet_of h
  rw [eM2]
  refine zG_run hm 7 (cf' := (42, [some (zr 23 n0), some (zr 23 n1)], [zi 9, zi 0, zr 26 n0, zi 0, zr 26 n1], M2)) rfl ?_
  refine zG_copy hm rfl 0 (Or.inl rfl) rfl (by decide) (by decide) (by decide) rfl rfl rfl ?_
  show zG 61 d (45, [some (zr 23 n0), some (zr 23 n1)], [], (zcopy M2 26 n1 0 26 n0 0 9)) _ _
  obtain ⟨M3, eM3, h⟩ := zlet_of h
  rw [eM3]
  refine zG_run hm 7 (cf' := (57, [some (zr 23 n0), some (zr 23 n1)], [zi 9, zi 0, zr 28 n0, zi 0, zr 28 n1], M3)) rfl ?_
  refine zG_copy hm rfl 0 (Or.inl rfl) rfl (by decide) (by decide) (by decide) rfl rfl rfl ?_
  show zG 61 d (60, [some (zr 23 n0), some (zr 23 n1)], [], (zcopy M3 28 n1 0 28 n0 0 9)) _ _
  obtain ⟨M4, eM4, h⟩ := zlet_of h
  rw [eM4]
  refine zG_run hm 7 (cf' := (72, [some (zr 23 n0), some (zr 23 n1)], [zi 9, zi 0, zr 29 n0, zi 0, zr 29 n1], M4)) rfl ?_
  refine zG_copy hm rfl 0 (Or.inl rfl) rfl (by decide) (by decide) (by decide) rfl rfl rfl ?_
  show zG 61 d (75, [some (zr 23 n0), some (zr 23 n1)], [], (zcopy M4 29 n1 0 29 n0 0 9)) _ _
  obtain ⟨M5, eM5, h⟩ := zlet_of h
  rw [eM5]
  refine zG_run hm 7 (cf' := (87, [some (zr 23 n0), some (zr 23 n1)], [zi 9, zi 0, zr 30 n0, zi 0, zr 30 n1], M5)) rfl ?_
  refine zG_copy hm rfl 2 (Or.inr rfl) rfl (by decide) (by decide) (by decide) rfl rfl rfl ?_
  show zG 61 d (90, [some (zr 23 n0), some (zr 23 n1)], [], (zcopy M5 30 n1 0 30 n0 0 9)) _ _
  obtain ⟨M6, eM6, h⟩ := zlet_of h
  rw [eM6]
  refine zG_run hm 4 (cf' := (98, [some (zr 23 n0), some (zr 23 n1)], [], (zput M6 23 n0 7 (M6 23 n1 7)))) rfl ?_
  obtain ⟨M7, eM7, h⟩ := zlet_of h
  rw [eM7]
  refine zG_run hm 4 (cf' := (106, [some (zr 23 n0), some (zr 23 n1)], [], (zput M7 23 n0 8 (M7 23 n1 8)))) rfl ?_
  obtain ⟨M8, eM8, h⟩ := zlet_of h
  rw [eM8]
  refine zG_run hm 4 (cf' := (114, [some (zr 23 n0), some (zr 23 n1)], [], (zput M8 23 n0 9 (M8 23 n1 9)))) rfl ?_
  obtain ⟨M9, eM9, h⟩ := zlet_of h
  rw [eM9]
  cases h
  exact zG_rv hm rfl rfl
theorem met_X9_copy {n0 : Nat} {n1 : Nat} {M : zM} {q : zM} {d : Nat} (hd : 0 ≤ d) (h : f_X9_copy n0 n1 M = some q) : zMet 61 d [zr 23 n0, zr 23 n1] M none q :=
  zMet_of (lv0 := [some (zr 23 n0), some (zr 23 n1)]) zmok_61 rfl rfl (fun v hv => by cases hv) (g_X9_copy hd h)
def f_X10_image  (M : zM) : Option (Int × zM) :=
  (f_X0_copy 1 0 M).bind fun p1 =>
    (f_X5_copy 1 0 p1).bind fun p2 =>
      (f_X9_copy 1 0 p2).bind fun p3 =>
        some ((p3 11 0 10), p3)
theorem g_X10_image  {M : zM} {q : Int × zM} {d : Nat} (hd : 2 ≤ d) (h : f_X10_image  M = some q) : zG 106 d (0, [some (zr 0 0)], [], M) (some (zi q.1)) q.2 := by
  have hm := zmok_106
  unfold f_X10_image at h
  refine zG_run hm 4 (cf' := (8, [some (zr 0 0)], [zr 11 0, zr 11 1], M)) rfl ?_
  obtain ⟨p1, hp1, h⟩ := Option.bind_eq_some_iff.mp h
  refine zG_V hm zmok_0 rfl (as := [zr 11 0]) (rest := []) (st2 := []) (pc2 := 11) rfl rfl (by omega) (met_X0_copy (d := 1) (Nat.le_refl _) hp1) rfl ?_
  refine zG_run hm 4 (cf' := (19, [some (zr 0 0)], [zr 20 0, zr 20 1], p1)) rfl ?_
  obtain ⟨p2, hp2, h⟩ := Option.bind_eq_some_iff.mp h
  refine zG_V hm zmok_52 rfl (as := [zr 20 0]) (rest := []) (st2 := []) (pc2 := 22) rfl rfl (by omega) (met_X5_copy (d := 0) (Nat.le_refl _) hp2) rfl ?_
  refine zG_run hm 4 (cf' := (30, [some (zr 0 0)], [zr 23 0, zr 23 1], p2)) rfl ?_
  obtain ⟨p3, hp3, h⟩ := Option.bind_eq_some_iff.mp h
  refine zG_V hm zmok_61 rfl (as := [zr 23 0]) (rest := []) (st2 := []) (pc2 := 33) rfl rfl (by omega) (met_X9_copy (d := 0) (Nat.le_refl _) hp3) rfl ?_
  refine zG_run hm 3 (cf' := (40, [some (zr 0 0)], [zi (p3 11 0 10)], p3)) rfl ?_
  cases h
  exact zG_ri hm rfl rfl
theorem met_X10_image  {M : zM} {q : Int × zM} {d : Nat} (hd : 2 ≤ d) (h : f_X10_image  M = some q) : zMet 106 d [zr 0 0] M (some (zi q.1)) q.2 :=
  zMet_of (lv0 := [some (zr 0 0)]) zmok_106 rfl rfl (fun v hv => by cases hv; trivial) (g_X10_image hd h)
def f_X11_copies_j40 (v1 : Int) (v2 : Int) (M : zM) : Option ((Int × zM) ⊕ (zM)) :=
  some (.inl ((v2 + 1), M))
theorem g_X11_copies_j40 {v1 : Int} {v2 : Int} {M : zM} {x : (Int × zM) ⊕ (zM)} {r : Option zV} {Mf : zM} {d : Nat} (hd : 0 ≤ d) (h : f_X11_copies_j40 v1 v2 M = some x)
    (kc : ∀ s, x = .inl s → zG 121 d (2, [some (zr 42 0), some (zi v1), some (zi s.1)], [], s.2) r Mf)
    (kb : ∀ t, x = .inr t → zG 121 d (46, [none, none, none], [], t) r Mf) (kr : True) : zG 121 d (40, [some (zr 42 0), some (zi v1), some (zi v2)], [], M) r Mf := by
  have hm := zmok_121
  unfold f_X11_copies_j40 at h
  refine zG_run hm 2 (cf' := (2, [some (zr 42 0), some (zi v1), some (zi (v2 + 1))], [], M)) rfl ?_
  refine zG_sub (lv' := [some (zr 42 0), some (zi v1), some (zi (v2 + 1))]) (zsb_s rfl (zsb_s rfl (zsb_s rfl zsb_0))) ?_
  exact kc ((v2 + 1), M) (Option.some.inj h).symm
def f_X11_copies_L2 (v1 : Int) (v2 : Int) (M : zM) : Option ((Int × zM) ⊕ (zM)) :=
  if 5090 ≤ zw v2 then
    some (.inr M)
  else
    if zw v1 = 0 then
      if 0 ≤ zw v2 ∧ zw v2 < 5090 then
        if 0 ≤ zw v2 ∧ zw v2 < 5090 then
          zlet (zput M 43 0 (zix v2) (M 44 0 (zix v2))) fun M1 =>
          f_X11_copies_j40 v1 v2 M1
        else
          none
      else
        none
    else
      if 0 ≤ zw v2 ∧ zw v2 < 5090 then
        if 0 ≤ zw v2 ∧ zw v2 < 5090 then
          zlet (zput M 44 0 (zix v2) (M 43 0 (zix v2))) fun M4 =>
          f_X11_copies_j40 v1 v2 M4
        else
          none
      else
        none
theorem g_X11_copies_L2 {v1 : Int} {v2 : Int} {M : zM} {x : (Int × zM) ⊕ (zM)} {r : Option zV} {Mf : zM} {d : Nat} (hd : 0 ≤ d) (h : f_X11_copies_L2 v1 v2 M = some x)
    (kc : ∀ s, x = .inl s → zG 121 d (2, [some (zr 42 0), some (zi v1), some (zi s.1)], [], s.2) r Mf)
    (kb : ∀ t, x = .inr t → zG 121 d (46, [none, none, none], [], t) r Mf) (kr : True) : zG 121 d (2, [some (zr 42 0), some (zi v1), some (zi v2)], [], M) r Mf := by
  have hm := zmok_121
  unfold f_X11_copies_L2 at h
  refine zG_run hm 2 (cf' := (6, [some (zr 42 0), some (zi v1), some (zi v2)], [zi 5090, zi v2], M)) rfl ?_
  by_cases c8 : 5090 ≤ zw v2
  · rw [if_pos c8] at h
    refine zG_br hm rfl (cf' := (46, [some (zr 42 0), some (zi v1), some (zi v2)], [], M)) (if_pos c8) ?_
    refine zG_sub (lv' := [none, none, none]) (zsb_n (zsb_n (zsb_n zsb_0))) ?_
    exact kb M (Option.some.inj h).symm
  · rw [if_neg c8] at h
    refine zG_br hm rfl (cf' := (9, [some (zr 42 0), some (zi v1), some (zi v2)], [], M)) (if_neg c8) ?_
    refine zG_run hm 1 (cf' := (10, [some (zr 42 0), some (zi v1), some (zi v2)], [zi v1], M)) rfl ?_
    by_cases c7 : zw v1 = 0
    · rw [if_pos c7] at h
      refine zG_br hm rfl (cf' := (28, [some (zr 42 0), some (zi v1), some (zi v2)], [], M)) (if_pos c7) ?_
      refine zG_run hm 6 (cf' := (38, [some (zr 42 0), some (zi v1), some (zi v2)], [zi v2, zr 44 0, zi v2, zr 43 0], M)) rfl ?_
      by_cases c3 : 0 ≤ zw v2 ∧ zw v2 < 5090
      · rw [if_pos c3] at h
        refine zG_br hm rfl (cf' := (39, [some (zr 42 0), some (zi v1), some (zi v2)], [zi (M 44 0 (zix v2)), zi v2, zr 43 0], M)) (if_pos c3) ?_
        by_cases c2 : 0 ≤ zw v2 ∧ zw v2 < 5090
        · rw [if_pos c2] at h
          refine zG_br hm rfl (cf' := (40, [some (zr 42 0), some (zi v1), some (zi v2)], [], (zput M 43 0 (zix v2) (M 44 0 (zix v2))))) (if_pos c2) ?_
          obtain ⟨M1, eM1, h⟩ := zlet_of h
          rw [eM1]
          refine zG_sub (lv' := [some (zr 42 0), some (zi v1), some (zi v2)]) (zsb_s rfl (zsb_s rfl (zsb_s rfl zsb_0))) ?_
          exact g_X11_copies_j40 hd h kc kb kr
        · rw [if_neg c2] at h
          cases h
      · rw [if_neg c3] at h
        cases h
    · rw [if_neg c7] at h
      refine zG_br hm rfl (cf' := (13, [some (zr 42 0), some (zi v1), some (zi v2)], [], M)) (if_neg c7) ?_
      refine zG_run hm 6 (cf' := (23, [some (zr 42 0), some (zi v1), some (zi v2)], [zi v2, zr 43 0, zi v2, zr 44 0], M)) rfl ?_
      by_cases c6 : 0 ≤ zw v2 ∧ zw v2 < 5090
      · rw [if_pos c6] at h
        refine zG_br hm rfl (cf' := (24, [some (zr 42 0), some (zi v1), some (zi v2)], [zi (M 43 0 (zix v2)), zi v2, zr 44 0], M)) (if_pos c6) ?_
        by_cases c5 : 0 ≤ zw v2 ∧ zw v2 < 5090
        · rw [if_pos c5] at h
          refine zG_br hm rfl (cf' := (25, [some (zr 42 0), some (zi v1), some (zi v2)], [], (zput M 44 0 (zix v2) (M 43 0 (zix v2))))) (if_pos c5) ?_
          obtain ⟨M4, eM4, h⟩ := zlet_of h
          rw [eM4]
          refine zG_run hm 1 (cf' := (40, [some (zr 42 0), some (zi v1), some (zi v2)], [], M4)) rfl ?_
          refine zG_sub (lv' := [some (zr 42 0), some (zi v1), some (zi v2)]) (zsb_s rfl (zsb_s rfl (zsb_s rfl zsb_0))) ?_
          exact g_X11_copies_j40 hd h kc kb kr
        · rw [if_neg c5] at h
          cases h
      · rw [if_neg c6] at h
        cases h
theorem gl_X11_copies_L2 {v1 : Int} {y : zM} {r : Option zV} {Mf : zM} {d : Nat} (hd : 0 ≤ d)
    (kb : ∀ t, y = t → zG 121 d (46, [none, none, none], [], t) r Mf) (kr : True) : ∀ (n : Nat) (s : Int × zM), zlp (fun s : Int × zM => f_X11_copies_L2 v1 s.1 s.2) n s = some y → zG 121 d (2, [some (zr 42 0), some (zi v1), some (zi s.1)], [], s.2) r Mf := by
  intro n
  induction n with
  | zero => intro s h; cases h
  | succ n ih =>
    intro s h
    rcases zlp_cases h with ⟨s', h1, h2⟩ | h1
    · exact g_X11_copies_L2 hd h1 (fun s2 e2 => by cases e2; exact ih _ h2) (fun t e2 => by cases e2) trivial
    · exact g_X11_copies_L2 hd h1 (fun s2 e2 => by cases e2) (fun t e2 => kb t (Sum.inr.inj e2)) trivial
def f_X11_copies (v1 : Int) (M : zM) : Option (zM) :=
  (zlp (fun s : Int × zM => f_X11_copies_L2 v1 s.1 s.2) zF (0, M)).bind fun y9 =>
    some y9
theorem g_X11_copies {v1 : Int} {M : zM} {q : zM} {d : Nat} (hd : 0 ≤ d) (h : f_X11_copies v1 M = some q) : zG 121 d (0, [some (zr 42 0), some (zi v1), none], [], M) none q := by
  have hm := zmok_121
  unfold f_X11_copies at h
  refine zG_run hm 2 (cf' := (2, [some (zr 42 0), some (zi v1), some (zi 0)], [], M)) rfl ?_
  refine zG_sub (lv' := [some (zr 42 0), some (zi v1), some (zi 0)]) (zsb_s rfl (zsb_s rfl (zsb_s rfl zsb_0))) ?_
  obtain ⟨y9, hy9, h⟩ := Option.bind_eq_some_iff.mp h
  refine gl_X11_copies_L2 hd (fun t e2 => ?_) trivial zF (0, M) hy9
  cases e2
  cases h
  exact zG_rv hm rfl rfl
theorem met_X11_copies {v1 : Int} {M : zM} {q : zM} {d : Nat} (hd : 0 ≤ d) (h : f_X11_copies v1 M = some q) : zMet 121 d [zr 42 0, zi v1] M none q :=
  zMet_of (lv0 := [some (zr 42 0), some (zi v1), none]) zmok_121 rfl rfl (fun v hv => by cases hv) (g_X11_copies hd h)
def f_X11_image  (M : zM) : Option (Int × zM) :=
  (f_X11_copies 1 M).bind fun p1 =>
    some ((p1 43 0 128), p1)
theorem g_X11_image  {M : zM} {q : Int × zM} {d : Nat} (hd : 1 ≤ d) (h : f_X11_image  M = some q) : zG 226 d (0, [some (zr 42 0)], [], M) (some (zi q.1)) q.2 := by
  have hm := zmok_226
  unfold f_X11_image at h
  refine zG_run hm 2 (cf' := (2, [some (zr 42 0)], [zi 1, zr 42 0], M)) rfl ?_
  obtain ⟨p1, hp1, h⟩ := Option.bind_eq_some_iff.mp h
  refine zG_V hm zmok_121 rfl (as := [zi 1]) (rest := []) (st2 := []) (pc2 := 5) rfl rfl (by omega) (met_X11_copies (d := 0) (Nat.le_refl _) hp1) rfl ?_
  refine zG_run hm 4 (cf' := (13, [some (zr 42 0)], [zi (p1 43 0 128)], p1)) rfl ?_
  cases h
  exact zG_ri hm rfl rfl
theorem met_X11_image  {M : zM} {q : Int × zM} {d : Nat} (hd : 1 ≤ d) (h : f_X11_image  M = some q) : zMet 226 d [zr 42 0] M (some (zi q.1)) q.2 :=
  zMet_of (lv0 := [some (zr 42 0)]) zmok_226 rfl rfl (fun v hv => by cases hv; trivial) (g_X11_image hd h)
def f_X10_back  (M : zM) : Option (Int × zM) :=
  (f_X0_copy 0 1 M).bind fun p1 =>
    (f_X5_copy 0 1 p1).bind fun p2 =>
      (f_X9_copy 0 1 p2).bind fun p3 =>
        some ((p3 11 0 10), p3)
theorem g_X10_back  {M : zM} {q : Int × zM} {d : Nat} (hd : 2 ≤ d) (h : f_X10_back  M = some q) : zG 107 d (0, [some (zr 0 0)], [], M) (some (zi q.1)) q.2 := by
  have hm := zmok_107
  unfold f_X10_back at h
  refine zG_run hm 4 (cf' := (8, [some (zr 0 0)], [zr 11 1, zr 11 0], M)) rfl ?_
  obtain ⟨p1, hp1, h⟩ := Option.bind_eq_some_iff.mp h
  refine zG_V hm zmok_0 rfl (as := [zr 11 1]) (rest := []) (st2 := []) (pc2 := 11) rfl rfl (by omega) (met_X0_copy (d := 1) (Nat.le_refl _) hp1) rfl ?_
  refine zG_run hm 4 (cf' := (19, [some (zr 0 0)], [zr 20 1, zr 20 0], p1)) rfl ?_
  obtain ⟨p2, hp2, h⟩ := Option.bind_eq_some_iff.mp h
  refine zG_V hm zmok_52 rfl (as := [zr 20 1]) (rest := []) (st2 := []) (pc2 := 22) rfl rfl (by omega) (met_X5_copy (d := 0) (Nat.le_refl _) hp2) rfl ?_
  refine zG_run hm 4 (cf' := (30, [some (zr 0 0)], [zr 23 1, zr 23 0], p2)) rfl ?_
  obtain ⟨p3, hp3, h⟩ := Option.bind_eq_some_iff.mp h
  refine zG_V hm zmok_61 rfl (as := [zr 23 1]) (rest := []) (st2 := []) (pc2 := 33) rfl rfl (by omega) (met_X9_copy (d := 0) (Nat.le_refl _) hp3) rfl ?_
  refine zG_run hm 3 (cf' := (40, [some (zr 0 0)], [zi (p3 11 0 10)], p3)) rfl ?_
  cases h
  exact zG_ri hm rfl rfl
theorem met_X10_back  {M : zM} {q : Int × zM} {d : Nat} (hd : 2 ≤ d) (h : f_X10_back  M = some q) : zMet 107 d [zr 0 0] M (some (zi q.1)) q.2 :=
  zMet_of (lv0 := [some (zr 0 0)]) zmok_107 rfl rfl (fun v hv => by cases hv; trivial) (g_X10_back hd h)
def f_X11_back  (M : zM) : Option (Int × zM) :=
  (f_X11_copies 0 M).bind fun p1 =>
    some ((p1 43 0 128), p1)
theorem g_X11_back  {M : zM} {q : Int × zM} {d : Nat} (hd : 1 ≤ d) (h : f_X11_back  M = some q) : zG 227 d (0, [some (zr 42 0)], [], M) (some (zi q.1)) q.2 := by
  have hm := zmok_227
  unfold f_X11_back at h
  refine zG_run hm 2 (cf' := (2, [some (zr 42 0)], [zi 0, zr 42 0], M)) rfl ?_
  obtain ⟨p1, hp1, h⟩ := Option.bind_eq_some_iff.mp h
  refine zG_V hm zmok_121 rfl (as := [zi 0]) (rest := []) (st2 := []) (pc2 := 5) rfl rfl (by omega) (met_X11_copies (d := 0) (Nat.le_refl _) hp1) rfl ?_
  refine zG_run hm 4 (cf' := (13, [some (zr 42 0)], [zi (p1 43 0 128)], p1)) rfl ?_
  cases h
  exact zG_ri hm rfl rfl
theorem met_X11_back  {M : zM} {q : Int × zM} {d : Nat} (hd : 1 ≤ d) (h : f_X11_back  M = some q) : zMet 227 d [zr 42 0] M (some (zi q.1)) q.2 :=
  zMet_of (lv0 := [some (zr 42 0)]) zmok_227 rfl rfl (fun v hv => by cases hv; trivial) (g_X11_back hd h)
def f_X10_about (v1 : Int) (M : zM) : Option (Int × zM) :=
  if zw v1 = 0 then
    some ((M 11 0 6), M)
  else
    if zw v1 = 1 then
      some ((M 11 0 7), M)
    else
      if zw v1 = 2 then
        some ((M 11 0 9), M)
      else
        if zw v1 = 3 then
          some ((M 11 0 10), M)
        else
          if zw v1 = 4 then
            some ((M 11 0 11), M)
          else
            if zw v1 = 5 then
              some ((M 11 0 12), M)
            else
              if zw v1 = 6 then
                some ((M 11 0 13), M)
              else
                if zw v1 = 7 then
                  some ((M 20 0 1), M)
                else
                  if zw v1 = 8 then
                    some ((M 23 0 7), M)
                  else
                    if zw v1 = 9 then
                      some ((M 23 0 8), M)
                    else
                      if zw v1 = 10 then
                        some ((M 23 0 9), M)
                      else
                        if zw v1 = 11 then
                          some ((M 35 0 1), M)
                        else
                          some ((-2), M)
theorem g_X10_about {v1 : Int} {M : zM} {q : Int × zM} {d : Nat} (hd : 0 ≤ d) (h : f_X10_about v1 M = some q) : zG 86 d (0, [some (zr 0 0), some (zi v1)], [], M) (some (zi q.1)) q.2 := by
  have hm := zmok_86
  unfold f_X10_about at h
  refine zG_run hm 1 (cf' := (1, [some (zr 0 0), some (zi v1)], [zi v1], M)) rfl ?_
  by_cases c1 : zw v1 = 0
  · rw [if_pos c1] at h
    refine zG_tIn hm rfl (tgt := 64) (off := 63) c1 (by decide) rfl (by decide) ?_
    refine zG_run hm 3 (cf' := (71, [some (zr 0 0), some (zi v1)], [zi (M 11 0 6)], M)) rfl ?_
    cases h
    exact zG_ri hm rfl rfl
  · rw [if_neg c1] at h
    by_cases c2 : zw v1 = 1
    · rw [if_pos c2] at h
      refine zG_tIn hm rfl (tgt := 72) (off := 71) c2 (by decide) rfl (by decide) ?_
      refine zG_run hm 3 (cf' := (79, [some (zr 0 0), some (zi v1)], [zi (M 11 0 7)], M)) rfl ?_
      cases h
      exact zG_ri hm rfl rfl
    · rw [if_neg c2] at h
      by_cases c3 : zw v1 = 2
      · rw [if_pos c3] at h
        refine zG_tIn hm rfl (tgt := 80) (off := 79) c3 (by decide) rfl (by decide) ?_
        refine zG_run hm 3 (cf' := (87, [some (zr 0 0), some (zi v1)], [zi (M 11 0 9)], M)) rfl ?_
        cases h
        exact zG_ri hm rfl rfl
      · rw [if_neg c3] at h
        by_cases c4 : zw v1 = 3
        · rw [if_pos c4] at h
          refine zG_tIn hm rfl (tgt := 88) (off := 87) c4 (by decide) rfl (by decide) ?_
          refine zG_run hm 3 (cf' := (95, [some (zr 0 0), some (zi v1)], [zi (M 11 0 10)], M)) rfl ?_
          cases h
          exact zG_ri hm rfl rfl
        · rw [if_neg c4] at h
          by_cases c5 : zw v1 = 4
          · rw [if_pos c5] at h
            refine zG_tIn hm rfl (tgt := 96) (off := 95) c5 (by decide) rfl (by decide) ?_
            refine zG_run hm 3 (cf' := (103, [some (zr 0 0), some (zi v1)], [zi (M 11 0 11)], M)) rfl ?_
            cases h
            exact zG_ri hm rfl rfl
          · rw [if_neg c5] at h
            by_cases c6 : zw v1 = 5
            · rw [if_pos c6] at h
              refine zG_tIn hm rfl (tgt := 104) (off := 103) c6 (by decide) rfl (by decide) ?_
              refine zG_run hm 3 (cf' := (111, [some (zr 0 0), some (zi v1)], [zi (M 11 0 12)], M)) rfl ?_
              cases h
              exact zG_ri hm rfl rfl
            · rw [if_neg c6] at h
              by_cases c7 : zw v1 = 6
              · rw [if_pos c7] at h
                refine zG_tIn hm rfl (tgt := 112) (off := 111) c7 (by decide) rfl (by decide) ?_
                refine zG_run hm 3 (cf' := (119, [some (zr 0 0), some (zi v1)], [zi (M 11 0 13)], M)) rfl ?_
                cases h
                exact zG_ri hm rfl rfl
              · rw [if_neg c7] at h
                by_cases c8 : zw v1 = 7
                · rw [if_pos c8] at h
                  refine zG_tIn hm rfl (tgt := 120) (off := 119) c8 (by decide) rfl (by decide) ?_
                  refine zG_run hm 3 (cf' := (127, [some (zr 0 0), some (zi v1)], [zi (M 20 0 1)], M)) rfl ?_
                  cases h
                  exact zG_ri hm rfl rfl
                · rw [if_neg c8] at h
                  by_cases c9 : zw v1 = 8
                  · rw [if_pos c9] at h
                    refine zG_tIn hm rfl (tgt := 128) (off := 127) c9 (by decide) rfl (by decide) ?_
                    refine zG_run hm 3 (cf' := (135, [some (zr 0 0), some (zi v1)], [zi (M 23 0 7)], M)) rfl ?_
                    cases h
                    exact zG_ri hm rfl rfl
                  · rw [if_neg c9] at h
                    by_cases c10 : zw v1 = 9
                    · rw [if_pos c10] at h
                      refine zG_tIn hm rfl (tgt := 136) (off := 135) c10 (by decide) rfl (by decide) ?_
                      refine zG_run hm 3 (cf' := (143, [some (zr 0 0), some (zi v1)], [zi (M 23 0 8)], M)) rfl ?_
                      cases h
                      exact zG_ri hm rfl rfl
                    · rw [if_neg c10] at h
                      by_cases c11 : zw v1 = 10
                      · rw [if_pos c11] at h
                        refine zG_tIn hm rfl (tgt := 144) (off := 143) c11 (by decide) rfl (by decide) ?_
                        refine zG_run hm 3 (cf' := (151, [some (zr 0 0), some (zi v1)], [zi (M 23 0 9)], M)) rfl ?_
                        cases h
                        exact zG_ri hm rfl rfl
                      · rw [if_neg c11] at h
                        by_cases c12 : zw v1 = 11
                        · rw [if_pos c12] at h
                          refine zG_tIn hm rfl (tgt := 152) (off := 151) c12 (by decide) rfl (by decide) ?_
                          refine zG_run hm 3 (cf' := (159, [some (zr 0 0), some (zi v1)], [zi (M 35 0 1)], M)) rfl ?_
                          cases h
                          exact zG_ri hm rfl rfl
                        · rw [if_neg c12] at h
                          refine zG_tOut hm rfl (tgt := 160) (by omega) (by decide) ?_
                          refine zG_run hm 1 (cf' := (162, [some (zr 0 0), some (zi v1)], [zi (-2)], M)) rfl ?_
                          cases h
                          exact zG_ri hm rfl rfl
theorem met_X10_about {v1 : Int} {M : zM} {q : Int × zM} {d : Nat} (hd : 0 ≤ d) (h : f_X10_about v1 M = some q) : zMet 86 d [zr 0 0, zi v1] M (some (zi q.1)) q.2 :=
  zMet_of (lv0 := [some (zr 0 0), some (zi v1)]) zmok_86 rfl rfl (fun v hv => by cases hv; trivial) (g_X10_about hd h)
def f_X11_about (v1 : Int) (M : zM) : Option (Int × zM) :=
  if zw v1 = 0 then
    some ((M 43 0 0), M)
  else
    if zw v1 = 1 then
      some ((M 43 0 1), M)
    else
      if zw v1 = 2 then
        some ((M 43 0 2), M)
      else
        if zw v1 = 3 then
          some ((M 43 0 128), M)
        else
          if zw v1 = 4 then
            some ((M 43 0 129), M)
          else
            if zw v1 = 5 then
              some ((M 43 0 3), M)
            else
              if zw v1 = 6 then
                some ((M 43 0 4), M)
              else
                if zw v1 = 7 then
                  some ((M 43 0 5), M)
                else
                  if zw v1 = 8 then
                    some ((M 43 0 6), M)
                  else
                    if zw v1 = 9 then
                      some ((M 43 0 7), M)
                    else
                      if zw v1 = 10 then
                        some ((M 43 0 8), M)
                      else
                        if zw v1 = 11 then
                          some ((M 42 0 3), M)
                        else
                          some ((-2), M)
theorem g_X11_about {v1 : Int} {M : zM} {q : Int × zM} {d : Nat} (hd : 0 ≤ d) (h : f_X11_about v1 M = some q) : zG 228 d (0, [some (zr 42 0), some (zi v1)], [], M) (some (zi q.1)) q.2 := by
  have hm := zmok_228
  unfold f_X11_about at h
  refine zG_run hm 1 (cf' := (1, [some (zr 42 0), some (zi v1)], [zi v1], M)) rfl ?_
  by_cases c1 : zw v1 = 0
  · rw [if_pos c1] at h
    refine zG_tIn hm rfl (tgt := 64) (off := 63) c1 (by decide) rfl (by decide) ?_
    refine zG_run hm 4 (cf' := (70, [some (zr 42 0), some (zi v1)], [zi (M 43 0 0)], M)) rfl ?_
    cases h
    exact zG_ri hm rfl rfl
  · rw [if_neg c1] at h
    by_cases c2 : zw v1 = 1
    · rw [if_pos c2] at h
      refine zG_tIn hm rfl (tgt := 71) (off := 70) c2 (by decide) rfl (by decide) ?_
      refine zG_run hm 4 (cf' := (77, [some (zr 42 0), some (zi v1)], [zi (M 43 0 1)], M)) rfl ?_
      cases h
      exact zG_ri hm rfl rfl
    · rw [if_neg c2] at h
      by_cases c3 : zw v1 = 2
      · rw [if_pos c3] at h
        refine zG_tIn hm rfl (tgt := 78) (off := 77) c3 (by decide) rfl (by decide) ?_
        refine zG_run hm 4 (cf' := (84, [some (zr 42 0), some (zi v1)], [zi (M 43 0 2)], M)) rfl ?_
        cases h
        exact zG_ri hm rfl rfl
      · rw [if_neg c3] at h
        by_cases c4 : zw v1 = 3
        · rw [if_pos c4] at h
          refine zG_tIn hm rfl (tgt := 85) (off := 84) c4 (by decide) rfl (by decide) ?_
          refine zG_run hm 4 (cf' := (93, [some (zr 42 0), some (zi v1)], [zi (M 43 0 128)], M)) rfl ?_
          cases h
          exact zG_ri hm rfl rfl
        · rw [if_neg c4] at h
          by_cases c5 : zw v1 = 4
          · rw [if_pos c5] at h
            refine zG_tIn hm rfl (tgt := 94) (off := 93) c5 (by decide) rfl (by decide) ?_
            refine zG_run hm 4 (cf' := (102, [some (zr 42 0), some (zi v1)], [zi (M 43 0 129)], M)) rfl ?_
            cases h
            exact zG_ri hm rfl rfl
          · rw [if_neg c5] at h
            by_cases c6 : zw v1 = 5
            · rw [if_pos c6] at h
              refine zG_tIn hm rfl (tgt := 103) (off := 102) c6 (by decide) rfl (by decide) ?_
              refine zG_run hm 4 (cf' := (109, [some (zr 42 0), some (zi v1)], [zi (M 43 0 3)], M)) rfl ?_
              cases h
              exact zG_ri hm rfl rfl
            · rw [if_neg c6] at h
              by_cases c7 : zw v1 = 6
              · rw [if_pos c7] at h
                refine zG_tIn hm rfl (tgt := 110) (off := 109) c7 (by decide) rfl (by decide) ?_
                refine zG_run hm 4 (cf' := (116, [some (zr 42 0), some (zi v1)], [zi (M 43 0 4)], M)) rfl ?_
                cases h
                exact zG_ri hm rfl rfl
              · rw [if_neg c7] at h
                by_cases c8 : zw v1 = 7
                · rw [if_pos c8] at h
                  refine zG_tIn hm rfl (tgt := 117) (off := 116) c8 (by decide) rfl (by decide) ?_
                  refine zG_run hm 4 (cf' := (123, [some (zr 42 0), some (zi v1)], [zi (M 43 0 5)], M)) rfl ?_
                  cases h
                  exact zG_ri hm rfl rfl
                · rw [if_neg c8] at h
                  by_cases c9 : zw v1 = 8
                  · rw [if_pos c9] at h
                    refine zG_tIn hm rfl (tgt := 124) (off := 123) c9 (by decide) rfl (by decide) ?_
                    refine zG_run hm 4 (cf' := (131, [some (zr 42 0), some (zi v1)], [zi (M 43 0 6)], M)) rfl ?_
                    cases h
                    exact zG_ri hm rfl rfl
                  · rw [if_neg c9] at h
                    by_cases c10 : zw v1 = 9
                    · rw [if_pos c10] at h
                      refine zG_tIn hm rfl (tgt := 132) (off := 131) c10 (by decide) rfl (by decide) ?_
                      refine zG_run hm 4 (cf' := (139, [some (zr 42 0), some (zi v1)], [zi (M 43 0 7)], M)) rfl ?_
                      cases h
                      exact zG_ri hm rfl rfl
                    · rw [if_neg c10] at h
                      by_cases c11 : zw v1 = 10
                      · rw [if_pos c11] at h
                        refine zG_tIn hm rfl (tgt := 140) (off := 139) c11 (by decide) rfl (by decide) ?_
                        refine zG_run hm 4 (cf' := (147, [some (zr 42 0), some (zi v1)], [zi (M 43 0 8)], M)) rfl ?_
                        cases h
                        exact zG_ri hm rfl rfl
                      · rw [if_neg c11] at h
                        by_cases c12 : zw v1 = 11
                        · rw [if_pos c12] at h
                          refine zG_tIn hm rfl (tgt := 148) (off := 147) c12 (by decide) rfl (by decide) ?_
                          refine zG_run hm 2 (cf' := (152, [some (zr 42 0), some (zi v1)], [zi (M 42 0 3)], M)) rfl ?_
                          cases h
                          exact zG_ri hm rfl rfl
                        · rw [if_neg c12] at h
                          refine zG_tOut hm rfl (tgt := 153) (by omega) (by decide) ?_
                          refine zG_run hm 1 (cf' := (155, [some (zr 42 0), some (zi v1)], [zi (-2)], M)) rfl ?_
                          cases h
                          exact zG_ri hm rfl rfl
theorem met_X11_about {v1 : Int} {M : zM} {q : Int × zM} {d : Nat} (hd : 0 ≤ d) (h : f_X11_about v1 M = some q) : zMet 228 d [zr 42 0, zi v1] M (some (zi q.1)) q.2 :=
  zMet_of (lv0 := [some (zr 42 0), some (zi v1)]) zmok_228 rfl rfl (fun v hv => by cases hv; trivial) (g_X11_about hd h)
