def f_X0_bulkOf_L4 (n0 : Nat) (v1 : Int) (v2 : Int) (v3 : Int) (M : zM) : Option ((Int × Int) ⊕ (Int)) :=
  if zw (M 11 n0 7) ≤ zw v3 then
    some (.inr v2)
  else
    if 0 ≤ zw v3 ∧ zw v3 < 8 then
      some (.inl ((v2 + ((zand (zshr v1 v3) 1) * (M 16 ((zix v3) + 8 * n0) 2))), (v3 + 1)))
    else
      none
theorem g_X0_bulkOf_L4 {n0 : Nat} {v1 : Int} {v2 : Int} {v3 : Int} {M : zM} {x : (Int × Int) ⊕ (Int)} {r : Option zV} {Mf : zM} {d : Nat} (hd : 0 ≤ d) (h : f_X0_bulkOf_L4 n0 v1 v2 v3 M = some x)
    (kc : ∀ s, x = .inl s → zG 10 d (4, [some (zr 11 n0), some (zi v1), some (zi s.1), some (zi s.2)], [], M) r Mf)
    (kb : ∀ t, x = .inr t → zG 10 d (36, [none, none, some (zi t), none], [], M) r Mf) (kr : True) : zG 10 d (4, [some (zr 11 n0), some (zi v1), some (zi v2), some (zi v3)], [], M) r Mf := by
  have hm := zmok_10
  unfold f_X0_bulkOf_L4 at h
  refine zG_run hm 3 (cf' := (9, [some (zr 11 n0), some (zi v1), some (zi v2), some (zi v3)], [zi (M 11 n0 7), zi v3], M)) rfl ?_
  by_cases c2 : zw (M 11 n0 7) ≤ zw v3
  · rw [if_pos c2] at h
    refine zG_br hm rfl (cf' := (36, [some (zr 11 n0), some (zi v1), some (zi v2), some (zi v3)], [], M)) (if_pos c2) ?_
    refine zG_sub (lv' := [none, none, some (zi v2), none]) (zsb_n (zsb_n (zsb_s rfl (zsb_n zsb_0)))) ?_
    exact kb _ (Option.some.inj h).symm
  · rw [if_neg c2] at h
    refine zG_br hm rfl (cf' := (12, [some (zr 11 n0), some (zi v1), some (zi v2), some (zi v3)], [], M)) (if_neg c2) ?_
    refine zG_run hm 9 (cf' := (23, [some (zr 11 n0), some (zi v1), some (zi v2), some (zi v3)], [zi v3, zr 14 n0, zi (zand (zshr v1 v3) 1), zi v2], M)) rfl ?_
    by_cases c1 : 0 ≤ zw v3 ∧ zw v3 < 8
    · rw [if_pos c1] at h
      refine zG_br hm rfl (cf' := (24, [some (zr 11 n0), some (zi v1), some (zi v2), some (zi v3)], [zr 16 ((zix v3) + 8 * n0), zi (zand (zshr v1 v3) 1), zi v2], M)) (if_pos c1) ?_
      refine zG_run hm 6 (cf' := (4, [some (zr 11 n0), some (zi v1), some (zi (v2 + ((zand (zshr v1 v3) 1) * (M 16 ((zix v3) + 8 * n0) 2)))), some (zi (v3 + 1))], [], M)) rfl ?_
      refine zG_sub (lv' := [some (zr 11 n0), some (zi v1), some (zi (v2 + ((zand (zshr v1 v3) 1) * (M 16 ((zix v3) + 8 * n0) 2)))), some (zi (v3 + 1))]) (zsb_s rfl (zsb_s rfl (zsb_s rfl (zsb_s rfl zsb_0)))) ?_
      exact kc _ (Option.some.inj h).symm
    · rw [if_neg c1] at h
      cases h
theorem gl_X0_bulkOf_L4 {n0 : Nat} {v1 : Int} {M : zM} {y : Int} {r : Option zV} {Mf : zM} {d : Nat} (hd : 0 ≤ d)
    (kb : ∀ t, y = t → zG 10 d (36, [none, none, some (zi t), none], [], M) r Mf) (kr : True) : ∀ (n : Nat) (s : Int × Int), zlp (fun s : Int × Int => f_X0_bulkOf_L4 n0 v1 s.1 s.2 M) n s = some y → zG 10 d (4, [some (zr 11 n0), some (zi v1), some (zi s.1), some (zi s.2)], [], M) r Mf := by
  intro n
  induction n with
  | zero => intro s h; cases h
  | succ n ih =>
    intro s h
    rcases zlp_cases h with ⟨s', h1, h2⟩ | h1
    · exact g_X0_bulkOf_L4 hd h1 (fun s2 e2 => by cases e2; exact ih _ h2) (fun t e2 => by cases e2) trivial
    · exact g_X0_bulkOf_L4 hd h1 (fun s2 e2 => by cases e2) (fun t e2 => kb t (Sum.inr.inj e2)) trivial
def f_X0_bulkOf (n0 : Nat) (v1 : Int) (M : zM) : Option (Int × zM) :=
  (zlp (fun s : Int × Int => f_X0_bulkOf_L4 n0 v1 s.1 s.2 M) zF (0, 0)).bind fun y3 =>
    some (y3, M)
theorem g_X0_bulkOf {n0 : Nat} {v1 : Int} {M : zM} {q : Int × zM} {d : Nat} (hd : 0 ≤ d) (h : f_X0_bulkOf n0 v1 M = some q) : zG 10 d (0, [some (zr 11 n0), some (zi v1), none, none], [], M) (some (zi q.1)) q.2 := by
  have hm := zmok_10
  unfold f_X0_bulkOf at h
  refine zG_run hm 4 (cf' := (4, [some (zr 11 n0), some (zi v1), some (zi 0), some (zi 0)], [], M)) rfl ?_
  refine zG_sub (lv' := [some (zr 11 n0), some (zi v1), some (zi 0), some (zi 0)]) (zsb_s rfl (zsb_s rfl (zsb_s rfl (zsb_s rfl zsb_0)))) ?_
  obtain ⟨y3, hy3, h⟩ := Option.bind_eq_some_iff.mp h
  refine gl_X0_bulkOf_L4 hd (fun t e2 => ?_) trivial zF _ hy3
  cases e2
  refine zG_run hm 1 (cf' := (37, [none, none, some (zi y3), none], [zi y3], M)) rfl ?_
  cases h
  exact zG_ri hm rfl rfl
theorem met_X0_bulkOf {n0 : Nat} {v1 : Int} {M : zM} {q : Int × zM} {d : Nat} (hd : 0 ≤ d) (h : f_X0_bulkOf n0 v1 M = some q) : zMet 10 d [zr 11 n0, zi v1] M (some (zi q.1)) q.2 :=
  zMet_of (lv0 := [some (zr 11 n0), some (zi v1), none, none]) zmok_10 rfl rfl (fun v hv => by cases hv; trivial) (g_X0_bulkOf hd h)
def f_X0_hasThing (n0 : Nat) (v1 : Int) (M : zM) : Option (Int × zM) :=
  if zw v1 < 0 then
    some (0, M)
  else
    if zw (M 11 n0 7) ≤ zw v1 then
      some (0, M)
    else
      some (1, M)
theorem g_X0_hasThing {n0 : Nat} {v1 : Int} {M : zM} {q : Int × zM} {d : Nat} (hd : 0 ≤ d) (h : f_X0_hasThing n0 v1 M = some q) : zG 4 d (0, [some (zr 11 n0), some (zi v1)], [], M) (some (zi q.1)) q.2 := by
  have hm := zmok_4
  unfold f_X0_hasThing at h
  refine zG_run hm 1 (cf' := (1, [some (zr 11 n0), some (zi v1)], [zi v1], M)) rfl ?_
  by_cases c2 : zw v1 < 0
  · rw [if_pos c2] at h
    refine zG_br hm rfl (cf' := (16, [some (zr 11 n0), some (zi v1)], [], M)) (if_pos c2) ?_
    refine zG_run hm 1 (cf' := (17, [some (zr 11 n0), some (zi v1)], [zi 0], M)) rfl ?_
    cases h
    exact zG_rz hm rfl rfl (Or.inl rfl)
  · rw [if_neg c2] at h
    refine zG_br hm rfl (cf' := (4, [some (zr 11 n0), some (zi v1)], [], M)) (if_neg c2) ?_
    refine zG_run hm 3 (cf' := (9, [some (zr 11 n0), some (zi v1)], [zi (M 11 n0 7), zi v1], M)) rfl ?_
    by_cases c1 : zw (M 11 n0 7) ≤ zw v1
    · rw [if_pos c1] at h
      refine zG_br hm rfl (cf' := (16, [some (zr 11 n0), some (zi v1)], [], M)) (if_pos c1) ?_
      refine zG_run hm 1 (cf' := (17, [some (zr 11 n0), some (zi v1)], [zi 0], M)) rfl ?_
      cases h
      exact zG_rz hm rfl rfl (Or.inl rfl)
    · rw [if_neg c1] at h
      refine zG_br hm rfl (cf' := (12, [some (zr 11 n0), some (zi v1)], [], M)) (if_neg c1) ?_
      refine zG_run hm 2 (cf' := (17, [some (zr 11 n0), some (zi v1)], [zi 1], M)) rfl ?_
      cases h
      exact zG_rz hm rfl rfl (Or.inr rfl)
theorem met_X0_hasThing {n0 : Nat} {v1 : Int} {M : zM} {q : Int × zM} {d : Nat} (hd : 0 ≤ d) (h : f_X0_hasThing n0 v1 M = some q) : zMet 4 d [zr 11 n0, zi v1] M (some (zi q.1)) q.2 :=
  zMet_of (lv0 := [some (zr 11 n0), some (zi v1)]) zmok_4 rfl rfl (fun v hv => by cases hv; trivial) (g_X0_hasThing hd h)
def f_X0_thingsWith_j31 (n0 : Nat) (v1 : Int) (v2 : Int) (v3 : Int) (M : zM) : Option ((Int × Int) ⊕ (Int)) :=
  some (.inl (v2, (v3 + 1)))
theorem g_X0_thingsWith_j31 {n0 : Nat} {v1 : Int} {v2 : Int} {v3 : Int} {M : zM} {x : (Int × Int) ⊕ (Int)} {r : Option zV} {Mf : zM} {d : Nat} (hd : 0 ≤ d) (h : f_X0_thingsWith_j31 n0 v1 v2 v3 M = some x)
    (kc : ∀ s, x = .inl s → zG 9 d (4, [some (zr 11 n0), some (zi v1), some (zi s.1), some (zi s.2)], [], M) r Mf)
    (kb : ∀ t, x = .inr t → zG 9 d (37, [none, none, some (zi t), none], [], M) r Mf) (kr : True) : zG 9 d (31, [some (zr 11 n0), some (zi v1), some (zi v2), some (zi v3)], [], M) r Mf := by
  have hm := zmok_9
  unfold f_X0_thingsWith_j31 at h
  refine zG_run hm 2 (cf' := (4, [some (zr 11 n0), some (zi v1), some (zi v2), some (zi (v3 + 1))], [], M)) rfl ?_
  refine zG_sub (lv' := [some (zr 11 n0), some (zi v1), some (zi v2), some (zi (v3 + 1))]) (zsb_s rfl (zsb_s rfl (zsb_s rfl (zsb_s rfl zsb_0)))) ?_
  exact kc _ (Option.some.inj h).symm
def f_X0_thingsWith_L4 (n0 : Nat) (v1 : Int) (v2 : Int) (v3 : Int) (M : zM) : Option ((Int × Int) ⊕ (Int)) :=
  if zw (M 11 n0 7) ≤ zw v3 then
    some (.inr v2)
  else
    if 0 ≤ zw v3 ∧ zw v3 < 8 then
      if ¬ zw (M 16 ((zix v3) + 8 * n0) 4) = zw v1 then
        f_X0_thingsWith_j31 n0 v1 v2 v3 M
      else
        f_X0_thingsWith_j31 n0 v1 (zor v2 (zshl 1 v3)) v3 M
    else
      none
theorem g_X0_thingsWith_L4 {n0 : Nat} {v1 : Int} {v2 : Int} {v3 : Int} {M : zM} {x : (Int × Int) ⊕ (Int)} {r : Option zV} {Mf : zM} {d : Nat} (hd : 0 ≤ d) (h : f_X0_thingsWith_L4 n0 v1 v2 v3 M = some x)
    (kc : ∀ s, x = .inl s → zG 9 d (4, [some (zr 11 n0), some (zi v1), some (zi s.1), some (zi s.2)], [], M) r Mf)
    (kb : ∀ t, x = .inr t → zG 9 d (37, [none, none, some (zi t), none], [], M) r Mf) (kr : True) : zG 9 d (4, [some (zr 11 n0), some (zi v1), some (zi v2), some (zi v3)], [], M) r Mf := by
  have hm := zmok_9
  unfold f_X0_thingsWith_L4 at h
  refine zG_run hm 3 (cf' := (9, [some (zr 11 n0), some (zi v1), some (zi v2), some (zi v3)], [zi (M 11 n0 7), zi v3], M)) rfl ?_
  by_cases c3 : zw (M 11 n0 7) ≤ zw v3
  · rw [if_pos c3] at h
    refine zG_br hm rfl (cf' := (37, [some (zr 11 n0), some (zi v1), some (zi v2), some (zi v3)], [], M)) (if_pos c3) ?_
    refine zG_sub (lv' := [none, none, some (zi v2), none]) (zsb_n (zsb_n (zsb_s rfl (zsb_n zsb_0)))) ?_
    exact kb _ (Option.some.inj h).symm
  · rw [if_neg c3] at h
    refine zG_br hm rfl (cf' := (12, [some (zr 11 n0), some (zi v1), some (zi v2), some (zi v3)], [], M)) (if_neg c3) ?_
    refine zG_run hm 3 (cf' := (17, [some (zr 11 n0), some (zi v1), some (zi v2), some (zi v3)], [zi v3, zr 14 n0], M)) rfl ?_
    by_cases c2 : 0 ≤ zw v3 ∧ zw v3 < 8
    · rw [if_pos c2] at h
      refine zG_br hm rfl (cf' := (18, [some (zr 11 n0), some (zi v1), some (zi v2), some (zi v3)], [zr 16 ((zix v3) + 8 * n0)], M)) (if_pos c2) ?_
      refine zG_run hm 2 (cf' := (22, [some (zr 11 n0), some (zi v1), some (zi v2), some (zi v3)], [zi v1, zi (M 16 ((zix v3) + 8 * n0) 4)], M)) rfl ?_
      by_cases c1 : ¬ zw (M 16 ((zix v3) + 8 * n0) 4) = zw v1
      · rw [if_pos c1] at h
        refine zG_br hm rfl (cf' := (31, [some (zr 11 n0), some (zi v1), some (zi v2), some (zi v3)], [], M)) (if_pos c1) ?_
        refine zG_sub (lv' := [some (zr 11 n0), some (zi v1), some (zi v2), some (zi v3)]) (zsb_s rfl (zsb_s rfl (zsb_s rfl (zsb_s rfl zsb_0)))) ?_
        exact g_X0_thingsWith_j31 hd h kc kb kr
      · rw [if_neg c1] at h
        refine zG_br hm rfl (cf' := (25, [some (zr 11 n0), some (zi v1), some (zi v2), some (zi v3)], [], M)) (if_neg c1) ?_
        refine zG_run hm 6 (cf' := (31, [some (zr 11 n0), some (zi v1), some (zi (zor v2 (zshl 1 v3))), some (zi v3)], [], M)) rfl ?_
        refine zG_sub (lv' := [some (zr 11 n0), some (zi v1), some (zi (zor v2 (zshl 1 v3))), some (zi v3)]) (zsb_s rfl (zsb_s rfl (zsb_s rfl (zsb_s rfl zsb_0)))) ?_
        exact g_X0_thingsWith_j31 hd h kc kb kr
    · rw [if_neg c2] at h
      cases h
theorem gl_X0_thingsWith_L4 {n0 : Nat} {v1 : Int} {M : zM} {y : Int} {r : Option zV} {Mf : zM} {d : Nat} (hd : 0 ≤ d)
    (kb : ∀ t, y = t → zG 9 d (37, [none, none, some (zi t), none], [], M) r Mf) (kr : True) : ∀ (n : Nat) (s : Int × Int), zlp (fun s : Int × Int => f_X0_thingsWith_L4 n0 v1 s.1 s.2 M) n s = some y → zG 9 d (4, [some (zr 11 n0), some (zi v1), some (zi s.1), some (zi s.2)], [], M) r Mf := by
  intro n
  induction n with
  | zero => intro s h; cases h
  | succ n ih =>
    intro s h
    rcases zlp_cases h with ⟨s', h1, h2⟩ | h1
    · exact g_X0_thingsWith_L4 hd h1 (fun s2 e2 => by cases e2; exact ih _ h2) (fun t e2 => by cases e2) trivial
    · exact g_X0_thingsWith_L4 hd h1 (fun s2 e2 => by cases e2) (fun t e2 => kb t (Sum.inr.inj e2)) trivial
def f_X0_thingsWith (n0 : Nat) (v1 : Int) (M : zM) : Option (Int × zM) :=
  (zlp (fun s : Int × Int => f_X0_thingsWith_L4 n0 v1 s.1 s.2 M) zF (0, 0)).bind fun y4 =>
    some (y4, M)
theorem g_X0_thingsWith {n0 : Nat} {v1 : Int} {M : zM} {q : Int × zM} {d : Nat} (hd : 0 ≤ d) (h : f_X0_thingsWith n0 v1 M = some q) : zG 9 d (0, [some (zr 11 n0), some (zi v1), none, none], [], M) (some (zi q.1)) q.2 := by
  have hm := zmok_9
  unfold f_X0_thingsWith at h
  refine zG_run hm 4 (cf' := (4, [some (zr 11 n0), some (zi v1), some (zi 0), some (zi 0)], [], M)) rfl ?_
  refine zG_sub (lv' := [some (zr 11 n0), some (zi v1), some (zi 0), some (zi 0)]) (zsb_s rfl (zsb_s rfl (zsb_s rfl (zsb_s rfl zsb_0)))) ?_
  obtain ⟨y4, hy4, h⟩ := Option.bind_eq_some_iff.mp h
  refine gl_X0_thingsWith_L4 hd (fun t e2 => ?_) trivial zF _ hy4
  cases e2
  refine zG_run hm 1 (cf' := (38, [none, none, some (zi y4), none], [zi y4], M)) rfl ?_
  cases h
  exact zG_ri hm rfl rfl
theorem met_X0_thingsWith {n0 : Nat} {v1 : Int} {M : zM} {q : Int × zM} {d : Nat} (hd : 0 ≤ d) (h : f_X0_thingsWith n0 v1 M = some q) : zMet 9 d [zr 11 n0, zi v1] M (some (zi q.1)) q.2 :=
  zMet_of (lv0 := [some (zr 11 n0), some (zi v1), none, none]) zmok_9 rfl rfl (fun v hv => by cases hv; trivial) (g_X0_thingsWith hd h)
def f_X0_keptBulk (n0 : Nat) (M : zM) : Option (Int × zM) :=
  (f_X0_thingsWith n0 (-1) M).bind fun p1 =>
    (f_X0_bulkOf n0 p1.1 p1.2).bind fun p2 =>
      some (p2.1, p2.2)
theorem g_X0_keptBulk {n0 : Nat} {M : zM} {q : Int × zM} {d : Nat} (hd : 1 ≤ d) (h : f_X0_keptBulk n0 M = some q) : zG 8 d (0, [some (zr 11 n0)], [], M) (some (zi q.1)) q.2 := by
  have hm := zmok_8
  unfold f_X0_keptBulk at h
  refine zG_run hm 3 (cf' := (3, [some (zr 11 n0)], [zi (-1), zr 11 n0, zr 11 n0], M)) rfl ?_
  obtain ⟨p1, hp1, h⟩ := Option.bind_eq_some_iff.mp h
  refine zG_V hm zmok_9 rfl (as := [zi (-1)]) (rest := [zr 11 n0]) (st2 := [zi p1.1, zr 11 n0]) (pc2 := 6) rfl rfl (by omega) (met_X0_thingsWith (d := 0) (Nat.le_refl _) hp1) rfl ?_
  obtain ⟨p2, hp2, h⟩ := Option.bind_eq_some_iff.mp h
  refine zG_V hm zmok_10 rfl (as := [zi p1.1]) (rest := []) (st2 := [zi p2.1]) (pc2 := 9) rfl rfl (by omega) (met_X0_bulkOf (d := 0) (Nat.le_refl _) hp2) rfl ?_
  cases h
  exact zG_ri hm rfl rfl
theorem met_X0_keptBulk {n0 : Nat} {M : zM} {q : Int × zM} {d : Nat} (hd : 1 ≤ d) (h : f_X0_keptBulk n0 M = some q) : zMet 8 d [zr 11 n0] M (some (zi q.1)) q.2 :=
  zMet_of (lv0 := [some (zr 11 n0)]) zmok_8 rfl rfl (fun v hv => by cases hv; trivial) (g_X0_keptBulk hd h)
def f_X0_canTake (n0 : Nat) (v1 : Int) (M : zM) : Option (Int × zM) :=
  (f_X0_hasThing n0 v1 M).bind fun p1 =>
    if zw p1.1 = 0 then
      some (0, p1.2)
    else
      if 0 ≤ zw v1 ∧ zw v1 < 8 then
        if zw (p1.2 16 ((zix v1) + 8 * n0) 4) = (-1) then
          some (0, p1.2)
        else
          (f_X0_keptBulk n0 p1.2).bind fun p2 =>
            if 0 ≤ zw v1 ∧ zw v1 < 8 then
              if zw (p2.2 11 n0 9) < zw (p2.1 + (p2.2 16 ((zix v1) + 8 * n0) 2)) then
                some (0, p2.2)
              else
                some (1, p2.2)
            else
              none
      else
        none
theorem g_X0_canTake {n0 : Nat} {v1 : Int} {M : zM} {q : Int × zM} {d : Nat} (hd : 2 ≤ d) (h : f_X0_canTake n0 v1 M = some q) : zG 6 d (0, [some (zr 11 n0), some (zi v1)], [], M) (some (zi q.1)) q.2 := by
  have hm := zmok_6
  unfold f_X0_canTake at h
  refine zG_run hm 2 (cf' := (2, [some (zr 11 n0), some (zi v1)], [zi v1, zr 11 n0], M)) rfl ?_
  obtain ⟨p1, hp1, h⟩ := Option.bind_eq_some_iff.mp h
  refine zG_V hm zmok_4 rfl (as := [zi v1]) (rest := []) (st2 := [zi p1.1]) (pc2 := 5) rfl rfl (by omega) (met_X0_hasThing (d := 0) (Nat.le_refl _) hp1) rfl ?_
  by_cases c7 : zw p1.1 = 0
  · rw [if_pos c7] at h
    refine zG_br hm rfl (cf' := (46, [some (zr 11 n0), some (zi v1)], [], p1.2)) (if_pos c7) ?_
    refine zG_run hm 1 (cf' := (47, [some (zr 11 n0), some (zi v1)], [zi 0], p1.2)) rfl ?_
    cases h
    exact zG_rz hm rfl rfl (Or.inl rfl)
  · rw [if_neg c7] at h
    refine zG_br hm rfl (cf' := (8, [some (zr 11 n0), some (zi v1)], [], p1.2)) (if_neg c7) ?_
    refine zG_run hm 3 (cf' := (13, [some (zr 11 n0), some (zi v1)], [zi v1, zr 14 n0], p1.2)) rfl ?_
    by_cases c6 : 0 ≤ zw v1 ∧ zw v1 < 8
    · rw [if_pos c6] at h
      refine zG_br hm rfl (cf' := (14, [some (zr 11 n0), some (zi v1)], [zr 16 ((zix v1) + 8 * n0)], p1.2)) (if_pos c6) ?_
      refine zG_run hm 2 (cf' := (18, [some (zr 11 n0), some (zi v1)], [zi (-1), zi (p1.2 16 ((zix v1) + 8 * n0) 4)], p1.2)) rfl ?_
      by_cases c5 : zw (p1.2 16 ((zix v1) + 8 * n0) 4) = (-1)
      · rw [if_pos c5] at h
        refine zG_br hm rfl (cf' := (46, [some (zr 11 n0), some (zi v1)], [], p1.2)) (if_pos c5) ?_
        refine zG_run hm 1 (cf' := (47, [some (zr 11 n0), some (zi v1)], [zi 0], p1.2)) rfl ?_
        cases h
        exact zG_rz hm rfl rfl (Or.inl rfl)
      · rw [if_neg c5] at h
        refine zG_br hm rfl (cf' := (21, [some (zr 11 n0), some (zi v1)], [], p1.2)) (if_neg c5) ?_
        refine zG_run hm 1 (cf' := (22, [some (zr 11 n0), some (zi v1)], [zr 11 n0], p1.2)) rfl ?_
        obtain ⟨p2, hp2, h⟩ := Option.bind_eq_some_iff.mp h
        refine zG_V hm zmok_8 rfl (as := []) (rest := []) (st2 := [zi p2.1]) (pc2 := 25) rfl rfl (by omega) (met_X0_keptBulk (d := 1) (Nat.le_refl _) hp2) rfl ?_
        refine zG_run hm 3 (cf' := (30, [some (zr 11 n0), some (zi v1)], [zi v1, zr 14 n0, zi p2.1], p2.2)) rfl ?_
        by_cases c4 : 0 ≤ zw v1 ∧ zw v1 < 8
        · rw [if_pos c4] at h
          refine zG_br hm rfl (cf' := (31, [some (zr 11 n0), some (zi v1)], [zr 16 ((zix v1) + 8 * n0), zi p2.1], p2.2)) (if_pos c4) ?_
          refine zG_run hm 4 (cf' := (39, [some (zr 11 n0), some (zi v1)], [zi (p2.2 11 n0 9), zi (p2.1 + (p2.2 16 ((zix v1) + 8 * n0) 2))], p2.2)) rfl ?_
          by_cases c3 : zw (p2.2 11 n0 9) < zw (p2.1 + (p2.2 16 ((zix v1) + 8 * n0) 2))
          · rw [if_pos c3] at h
            refine zG_br hm rfl (cf' := (46, [some (zr 11 n0), some (zi v1)], [], p2.2)) (if_pos c3) ?_
            refine zG_run hm 1 (cf' := (47, [some (zr 11 n0), some (zi v1)], [zi 0], p2.2)) rfl ?_
            cases h
            exact zG_rz hm rfl rfl (Or.inl rfl)
          · rw [if_neg c3] at h
            refine zG_br hm rfl (cf' := (42, [some (zr 11 n0), some (zi v1)], [], p2.2)) (if_neg c3) ?_
            refine zG_run hm 2 (cf' := (47, [some (zr 11 n0), some (zi v1)], [zi 1], p2.2)) rfl ?_
            cases h
            exact zG_rz hm rfl rfl (Or.inr rfl)
        · rw [if_neg c4] at h
          cases h
    · rw [if_neg c6] at h
      cases h
theorem met_X0_canTake {n0 : Nat} {v1 : Int} {M : zM} {q : Int × zM} {d : Nat} (hd : 2 ≤ d) (h : f_X0_canTake n0 v1 M = some q) : zMet 6 d [zr 11 n0, zi v1] M (some (zi q.1)) q.2 :=
  zMet_of (lv0 := [some (zr 11 n0), some (zi v1)]) zmok_6 rfl rfl (fun v hv => by cases hv; trivial) (g_X0_canTake hd h)
def f_X8_copy (n0 : Nat) (n1 : Nat) (M : zM) : Option (zM) :=
  zlet (zput M 16 n0 0 (M 16 n1 0)) fun M1 =>
  zlet (zput M1 16 n0 1 (M1 16 n1 1)) fun M2 =>
  zlet (zput M2 16 n0 2 (M2 16 n1 2)) fun M3 =>
  zlet (zput M3 16 n0 3 (M3 16 n1 3)) fun M4 =>
  zlet (zput M4 16 n0 4 (M4 16 n1 4)) fun M5 =>
  zlet (zput M5 16 n0 5 (M5 16 n1 5)) fun M6 =>
  zlet (zput M6 16 n0 6 (M6 16 n1 6)) fun M7 =>
  some M7
theorem g_X8_copy {n0 : Nat} {n1 : Nat} {M : zM} {q : zM} {d : Nat} (hd : 0 ≤ d) (h : f_X8_copy n0 n1 M = some q) : zG 60 d (0, [some (zr 16 n0), some (zr 16 n1)], [], M) none q := by
  have hm := zmok_60
  unfold f_X8_copy at h
  refine zG_run hm 4 (cf' := (8, [some (zr 16 n0), some (zr 16 n1)], [], (zput M 16 n0 0 (M 16 n1 0)))) rfl ?_
  obtain ⟨M1, eM1, h⟩ := zlet_of h
  rw [eM1]
  refine zG_run hm 4 (cf' := (16, [some (zr 16 n0), some (zr 16 n1)], [], (zput M1 16 n0 1 (M1 16 n1 1)))) rfl ?_
  obtain ⟨M2, eM2, h⟩ := zlet_of h
  rw [eM2]
  refine zG_run hm 4 (cf' := (24, [some (zr 16 n0), some (zr 16 n1)], [], (zput M2 16 n0 2 (M2 16 n1 2)))) rfl ?_
  obtain ⟨M3, eM3, h⟩ := zlet_of h
  rw [eM3]
  refine zG_run hm 4 (cf' := (32, [some (zr 16 n0), some (zr 16 n1)], [], (zput M3 16 n0 3 (M3 16 n1 3)))) rfl ?_
  obtain ⟨M4, eM4, h⟩ := zlet_of h
  rw [eM4]
  refine zG_run hm 4 (cf' := (40, [some (zr 16 n0), some (zr 16 n1)], [], (zput M4 16 n0 4 (M4 16 n1 4)))) rfl ?_
  obtain ⟨M5, eM5, h⟩ := zlet_of h
  rw [eM5]
  refine zG_run hm 4 (cf' := (48, [some (zr 16 n0), some (zr 16 n1)], [], (zput M5 16 n0 5 (M5 16 n1 5)))) rfl ?_
  obtain ⟨M6, eM6, h⟩ := zlet_of h
  rw [eM6]
  refine zG_run hm 4 (cf' := (56, [some (zr 16 n0), some (zr 16 n1)], [], (zput M6 16 n0 6 (M6 16 n1 6)))) rfl ?_
  obtain ⟨M7, eM7, h⟩ := zlet_of h
  rw [eM7]
  cases h
  exact zG_rv hm rfl rfl
theorem met_X8_copy {n0 : Nat} {n1 : Nat} {M : zM} {q : zM} {d : Nat} (hd : 0 ≤ d) (h : f_X8_copy n0 n1 M = some q) : zMet 60 d [zr 16 n0, zr 16 n1] M none q :=
  zMet_of (lv0 := [some (zr 16 n0), some (zr 16 n1)]) zmok_60 rfl rfl (fun v hv => by cases hv) (g_X8_copy hd h)
def f_X0_copy_L47 (n0 : Nat) (n1 : Nat) (v2 : Int) (M : zM) : Option ((Int × zM) ⊕ (zM)) :=
  if 8 ≤ zw v2 then
    some (.inr M)
  else
    if 0 ≤ zw v2 ∧ zw v2 < 8 then
      if 0 ≤ zw v2 ∧ zw v2 < 8 then
        (f_X8_copy ((zix v2) + 8 * n0) ((zix v2) + 8 * n1) M).bind fun p4 =>
          some (.inl ((v2 + 1), p4))
      else
        none
    else
      none
theorem g_X0_copy_L47 {n0 : Nat} {n1 : Nat} {v2 : Int} {M : zM} {x : (Int × zM) ⊕ (zM)} {r : Option zV} {Mf : zM} {d : Nat} (hd : 1 ≤ d) (h : f_X0_copy_L47 n0 n1 v2 M = some x)
    (kc : ∀ s, x = .inl s → zG 0 d (47, [some (zr 11 n0), some (zr 11 n1), some (zi s.1)], [], s.2) r Mf)
    (kb : ∀ t, x = .inr t → zG 0 d (74, [some (zr 11 n0), some (zr 11 n1), none], [], t) r Mf) (kr : True) : zG 0 d (47, [some (zr 11 n0), some (zr 11 n1), some (zi v2)], [], M) r Mf := by
  have hm := zmok_0
  unfold f_X0_copy_L47 at h
  refine zG_run hm 2 (cf' := (50, [some (zr 11 n0), some (zr 11 n1), some (zi v2)], [zi 8, zi v2], M)) rfl ?_
  by_cases c7 : 8 ≤ zw v2
  · rw [if_pos c7] at h
    refine zG_br hm rfl (cf' := (74, [some (zr 11 n0), some (zr 11 n1), some (zi v2)], [], M)) (if_pos c7) ?_
    refine zG_sub (lv' := [some (zr 11 n0), some (zr 11 n1), none]) (zsb_s rfl (zsb_s rfl (zsb_n zsb_0))) ?_
    exact kb _ (Option.some.inj h).symm
  · rw [if_neg c7] at h
    refine zG_br hm rfl (cf' := (53, [some (zr 11 n0), some (zr 11 n1), some (zi v2)], [], M)) (if_neg c7) ?_
    refine zG_run hm 3 (cf' := (58, [some (zr 11 n0), some (zr 11 n1), some (zi v2)], [zi v2, zr 14 n0], M)) rfl ?_
    by_cases c6 : 0 ≤ zw v2 ∧ zw v2 < 8
    · rw [if_pos c6] at h
      refine zG_br hm rfl (cf' := (59, [some (zr 11 n0), some (zr 11 n1), some (zi v2)], [zr 16 ((zix v2) + 8 * n0)], M)) (if_pos c6) ?_
      refine zG_run hm 3 (cf' := (64, [some (zr 11 n0), some (zr 11 n1), some (zi v2)], [zi v2, zr 14 n1, zr 16 ((zix v2) + 8 * n0)], M)) rfl ?_
      by_cases c5 : 0 ≤ zw v2 ∧ zw v2 < 8
      · rw [if_pos c5] at h
        refine zG_br hm rfl (cf' := (65, [some (zr 11 n0), some (zr 11 n1), some (zi v2)], [zr 16 ((zix v2) + 8 * n1), zr 16 ((zix v2) + 8 * n0)], M)) (if_pos c5) ?_
        obtain ⟨p4, hp4, h⟩ := Option.bind_eq_some_iff.mp h
        refine zG_V hm zmok_60 rfl (as := [zr 16 ((zix v2) + 8 * n1)]) (rest := []) (st2 := []) (pc2 := 68) rfl rfl (by omega) (met_X8_copy (d := 0) (Nat.le_refl _) hp4) rfl ?_
        refine zG_run hm 2 (cf' := (47, [some (zr 11 n0), some (zr 11 n1), some (zi (v2 + 1))], [], p4)) rfl ?_
        refine zG_sub (lv' := [some (zr 11 n0), some (zr 11 n1), some (zi (v2 + 1))]) (zsb_s rfl (zsb_s rfl (zsb_s rfl zsb_0))) ?_
        exact kc _ (Option.some.inj h).symm
      · rw [if_neg c5] at h
        cases h
    · rw [if_neg c6] at h
      cases h
theorem gl_X0_copy_L47 {n0 : Nat} {n1 : Nat} {y : zM} {r : Option zV} {Mf : zM} {d : Nat} (hd : 1 ≤ d)
    (kb : ∀ t, y = t → zG 0 d (74, [some (zr 11 n0), some (zr 11 n1), none], [], t) r Mf) (kr : True) : ∀ (n : Nat) (s : Int × zM), zlp (fun s : Int × zM => f_X0_copy_L47 n0 n1 s.1 s.2) n s = some y → zG 0 d (47, [some (zr 11 n0), some (zr 11 n1), some (zi s.1)], [], s.2) r Mf := by
  intro n
  induction n with
  | zero => intro s h; cases h
  | succ n ih =>
    intro s h
    rcases zlp_cases h with ⟨s', h1, h2⟩ | h1
    · exact g_X0_copy_L47 hd h1 (fun s2 e2 => by cases e2; exact ih _ h2) (fun t e2 => by cases e2) trivial
    · exact g_X0_copy_L47 hd h1 (fun s2 e2 => by cases e2) (fun t e2 => kb t (Sum.inr.inj e2)) trivial
def f_X0_copy (n0 : Nat) (n1 : Nat) (M : zM) : Option (zM) :=
  zlet (zcopy M 12 n1 0 12 n0 0 6) fun M1 =>
  zlet (zcopy M1 13 n1 0 13 n0 0 6) fun M2 =>
  zlet (zcopy M2 15 n1 0 15 n0 0 30) fun M3 =>
  (zlp (fun s : Int × zM => f_X0_copy_L47 n0 n1 s.1 s.2) zF (0, M3)).bind fun y8 =>
    zlet (zput y8 11 n0 6 (y8 11 n1 6)) fun M9 =>
    zlet (zput M9 11 n0 7 (M9 11 n1 7)) fun M10 =>
    zlet (zput M10 11 n0 8 (M10 11 n1 8)) fun M11 =>
    zlet (zput M11 11 n0 9 (M11 11 n1 9)) fun M12 =>
    zlet (zput M12 11 n0 10 (M12 11 n1 10)) fun M13 =>
    zlet (zput M13 11 n0 11 (M13 11 n1 11)) fun M14 =>
    zlet (zput M14 11 n0 12 (M14 11 n1 12)) fun M15 =>
    zlet (zput M15 11 n0 13 (M15 11 n1 13)) fun M16 =>
    some M16
theorem g_X0_copy {n0 : Nat} {n1 : Nat} {M : zM} {q : zM} {d : Nat} (hd : 1 ≤ d) (h : f_X0_copy n0 n1 M = some q) : zG 0 d (0, [some (zr 11 n0), some (zr 11 n1), none], [], M) none q := by
  have hm := zmok_0
  unfold f_X0_copy at h
  refine zG_run hm 7 (cf' := (12, [some (zr 11 n0), some (zr 11 n1), none], [zi 6, zi 0, zr 12 n0, zi 0, zr 12 n1], M)) rfl ?_
  refine zG_copy hm rfl 0 (Or.inl rfl) rfl (by decide) (by decide) (by decide) rfl rfl rfl ?_
  show zG 0 d (15, [some (zr 11 n0), some (zr 11 n1), none], [], (zcopy M 12 n1 0 12 n0 0 6)) _ _
  obtain ⟨M1, eM1, h⟩ := zlet_of h
  rw [eM1]
  refine zG_run hm 7 (cf' := (27, [some (zr 11 n0), some (zr 11 n1), none], [zi 6, zi 0, zr 13 n0, zi 0, zr 13 n1], M1)) rfl ?_
  refine zG_copy hm rfl 0 (Or.inl rfl) rfl (by decide) (by decide) (by decide) rfl rfl rfl ?_
  show zG 0 d (30, [some (zr 11 n0), some (zr 11 n1), none], [], (zcopy M1 13 n1 0 13 n0 0 6)) _ _
  obtain ⟨M2, eM2, h⟩ := zlet_of h
  rw [eM2]
  refine zG_run hm 7 (cf' := (42, [some (zr 11 n0), some (zr 11 n1), none], [zi 30, zi 0, zr 15 n0, zi 0, zr 15 n1], M2)) rfl ?_
  refine zG_copy hm rfl 0 (Or.inl rfl) rfl (by decide) (by decide) (by decide) rfl rfl rfl ?_
  show zG 0 d (45, [some (zr 11 n0), some (zr 11 n1), none], [], (zcopy M2 15 n1 0 15 n0 0 30)) _ _
  obtain ⟨M3, eM3, h⟩ := zlet_of h
  rw [eM3]
  refine zG_run hm 2 (cf' := (47, [some (zr 11 n0), some (zr 11 n1), some (zi 0)], [], M3)) rfl ?_
  refine zG_sub (lv' := [some (zr 11 n0), some (zr 11 n1), some (zi 0)]) (zsb_s rfl (zsb_s rfl (zsb_s rfl zsb_0))) ?_
  obtain ⟨y8, hy8, h⟩ := Option.bind_eq_some_iff.mp h
  refine gl_X0_copy_L47 hd (fun t e2 => ?_) trivial zF _ hy8
  cases e2
  refine zG_run hm 4 (cf' := (82, [some (zr 11 n0), some (zr 11 n1), none], [], (zput y8 11 n0 6 (y8 11 n1 6)))) rfl ?_
  obtain ⟨M9, eM9, h⟩ := zlet_of h
  rw [eM9]
  refine zG_run hm 4 (cf' := (90, [some (zr 11 n0), some (zr 11 n1), none], [], (zput M9 11 n0 7 (M9 11 n1 7)))) rfl ?_
  obtain ⟨M10, eM10, h⟩ := zlet_of h
  rw [eM10]
  refine zG_run hm 4 (cf' := (98, [some (zr 11 n0), some (zr 11 n1), none], [], (zput M10 11 n0 8 (M10 11 n1 8)))) rfl ?_
  obtain ⟨M11, eM11, h⟩ := zlet_of h
  rw [eM11]
  refine zG_run hm 4 (cf' := (106, [some (zr 11 n0), some (zr 11 n1), none], [], (zput M11 11 n0 9 (M11 11 n1 9)))) rfl ?_
  obtain ⟨M12, eM12, h⟩ := zlet_of h
  rw [eM12]
  refine zG_run hm 4 (cf' := (114, [some (zr 11 n0), some (zr 11 n1), none], [], (zput M12 11 n0 10 (M12 11 n1 10)))) rfl ?_
  obtain ⟨M13, eM13, h⟩ := zlet_of h
  rw [eM13]
  refine zG_run hm 4 (cf' := (122, [some (zr 11 n0), some (zr 11 n1), none], [], (zput M13 11 n0 11 (M13 11 n1 11)))) rfl ?_
  obtain ⟨M14, eM14, h⟩ := zlet_of h
  rw [eM14]
  refine zG_run hm 4 (cf' := (130, [some (zr 11 n0), some (zr 11 n1), none], [], (zput M14 11 n0 12 (M14 11 n1 12)))) rfl ?_
  obtain ⟨M15, eM15, h⟩ := zlet_of h
  rw [eM15]
  refine zG_run hm 4 (cf' := (138, [some (zr 11 n0), some (zr 11 n1), none], [], (zput M15 11 n0 13 (M15 11 n1 13)))) rfl ?_
  obtain ⟨M16, eM16, h⟩ := zlet_of h
  rw [eM16]
  cases h
  exact zG_rv hm rfl rfl
theorem met_X0_copy {n0 : Nat} {n1 : Nat} {M : zM} {q : zM} {d : Nat} (hd : 1 ≤ d) (h : f_X0_copy n0 n1 M = some q) : zMet 0 d [zr 11 n0, zr 11 n1] M none q :=
  zMet_of (lv0 := [some (zr 11 n0), some (zr 11 n1), none]) zmok_0 rfl rfl (fun v hv => by cases hv) (g_X0_copy hd h)
def f_X9_middle_L14 (n0 : Nat) (v1 : Int) (v2 : Int) (v3 : Int) (M : zM) : Option ((Int × Int × zM) ⊕ (Int × zM)) :=
  if zw v3 ≤ 0 then
    some (.inr (v2, M))
  else
    if 0 ≤ zw (v3 - 1) ∧ zw (v3 - 1) < 9 then
      if 0 ≤ zw v1 ∧ zw v1 < 9 then
        if zw (M 27 n0 (zix (v3 - 1))) ≤ zw (M 26 n0 (zix v1)) then
          some (.inr (v2, M))
        else
          if 0 ≤ zw (v3 - 1) ∧ zw (v3 - 1) < 9 then
            if 0 ≤ zw v3 ∧ zw v3 < 9 then
              zlet (zput M 27 n0 (zix v3) (M 27 n0 (zix (v3 - 1)))) fun M1 =>
              some (.inl ((v3 - 1), (v3 + (-1)), M1))
            else
              none
          else
            none
      else
        none
    else
      none
theorem g_X9_middle_L14 {n0 : Nat} {v1 : Int} {v2 : Int} {v3 : Int} {M : zM} {x : (Int × Int × zM) ⊕ (Int × zM)} {r : Option zV} {Mf : zM} {d : Nat} (hd : 0 ≤ d) (h : f_X9_middle_L14 n0 v1 v2 v3 M = some x)
    (kc : ∀ s, x = .inl s → zG 64 d (14, [some (zr 23 n0), some (zi v1), some (zi s.1), some (zi s.2.1)], [], s.2.2) r Mf)
    (kb : ∀ t, x = .inr t → zG 64 d (59, [some (zr 23 n0), some (zi v1), some (zi t.1), none], [], t.2) r Mf) (kr : True) : zG 64 d (14, [some (zr 23 n0), some (zi v1), some (zi v2), some (zi v3)], [], M) r Mf := by
  have hm := zmok_64
  unfold f_X9_middle_L14 at h
  refine zG_run hm 1 (cf' := (15, [some (zr 23 n0), some (zi v1), some (zi v2), some (zi v3)], [zi v3], M)) rfl ?_
  by_cases c7 : zw v3 ≤ 0
  · rw [if_pos c7] at h
    refine zG_br hm rfl (cf' := (59, [some (zr 23 n0), some (zi v1), some (zi v2), some (zi v3)], [], M)) (if_pos c7) ?_
    refine zG_sub (lv' := [some (zr 23 n0), some (zi v1), some (zi v2), none]) (zsb_s rfl (zsb_s rfl (zsb_s rfl (zsb_n zsb_0)))) ?_
    exact kb _ (Option.some.inj h).symm
  · rw [if_neg c7] at h
    refine zG_br hm rfl (cf' := (18, [some (zr 23 n0), some (zi v1), some (zi v2), some (zi v3)], [], M)) (if_neg c7) ?_
    refine zG_run hm 5 (cf' := (25, [some (zr 23 n0), some (zi v1), some (zi v2), some (zi v3)], [zi (v3 - 1), zr 27 n0], M)) rfl ?_
    by_cases c6 : 0 ≤ zw (v3 - 1) ∧ zw (v3 - 1) < 9
    · rw [if_pos c6] at h
      refine zG_br hm rfl (cf' := (26, [some (zr 23 n0), some (zi v1), some (zi v2), some (zi v3)], [zi (M 27 n0 (zix (v3 - 1)))], M)) (if_pos c6) ?_
      refine zG_run hm 3 (cf' := (31, [some (zr 23 n0), some (zi v1), some (zi v2), some (zi v3)], [zi v1, zr 26 n0, zi (M 27 n0 (zix (v3 - 1)))], M)) rfl ?_
      by_cases c5 : 0 ≤ zw v1 ∧ zw v1 < 9
      · rw [if_pos c5] at h
        refine zG_br hm rfl (cf' := (32, [some (zr 23 n0), some (zi v1), some (zi v2), some (zi v3)], [zi (M 26 n0 (zix v1)), zi (M 27 n0 (zix (v3 - 1)))], M)) (if_pos c5) ?_
        by_cases c4 : zw (M 27 n0 (zix (v3 - 1))) ≤ zw (M 26 n0 (zix v1))
        · rw [if_pos c4] at h
          refine zG_br hm rfl (cf' := (59, [some (zr 23 n0), some (zi v1), some (zi v2), some (zi v3)], [], M)) (if_pos c4) ?_
          refine zG_sub (lv' := [some (zr 23 n0), some (zi v1), some (zi v2), none]) (zsb_s rfl (zsb_s rfl (zsb_s rfl (zsb_n zsb_0)))) ?_
          exact kb _ (Option.some.inj h).symm
        · rw [if_neg c4] at h
          refine zG_br hm rfl (cf' := (35, [some (zr 23 n0), some (zi v1), some (zi v2), some (zi v3)], [], M)) (if_neg c4) ?_
          refine zG_run hm 8 (cf' := (47, [some (zr 23 n0), some (zi v1), some (zi v2), some (zi v3)], [zi (v3 - 1), zr 27 n0, zi v3, zr 27 n0], M)) rfl ?_
          by_cases c3 : 0 ≤ zw (v3 - 1) ∧ zw (v3 - 1) < 9
          · rw [if_pos c3] at h
            refine zG_br hm rfl (cf' := (48, [some (zr 23 n0), some (zi v1), some (zi v2), some (zi v3)], [zi (M 27 n0 (zix (v3 - 1))), zi v3, zr 27 n0], M)) (if_pos c3) ?_
            by_cases c2 : 0 ≤ zw v3 ∧ zw v3 < 9
            · rw [if_pos c2] at h
              refine zG_br hm rfl (cf' := (49, [some (zr 23 n0), some (zi v1), some (zi v2), some (zi v3)], [], (zput M 27 n0 (zix v3) (M 27 n0 (zix (v3 - 1)))))) (if_pos c2) ?_
              obtain ⟨M1, eM1, h⟩ := zlet_of h
              rw [eM1]
              refine zG_run hm 6 (cf' := (14, [some (zr 23 n0), some (zi v1), some (zi (v3 - 1)), some (zi (v3 + (-1)))], [], M1)) rfl ?_
              refine zG_sub (lv' := [some (zr 23 n0), some (zi v1), some (zi (v3 - 1)), some (zi (v3 + (-1)))]) (zsb_s rfl (zsb_s rfl (zsb_s rfl (zsb_s rfl zsb_0)))) ?_
              exact kc _ (Option.some.inj h).symm
            · rw [if_neg c2] at h
              cases h
          · rw [if_neg c3] at h
            cases h
      · rw [if_neg c5] at h
        cases h
    · rw [if_neg c6] at h
      cases h
theorem gl_X9_middle_L14 {n0 : Nat} {v1 : Int} {y : Int × zM} {r : Option zV} {Mf : zM} {d : Nat} (hd : 0 ≤ d)
    (kb : ∀ t, y = t → zG 64 d (59, [some (zr 23 n0), some (zi v1), some (zi t.1), none], [], t.2) r Mf) (kr : True) : ∀ (n : Nat) (s : Int × Int × zM), zlp (fun s : Int × Int × zM => f_X9_middle_L14 n0 v1 s.1 s.2.1 s.2.2) n s = some y → zG 64 d (14, [some (zr 23 n0), some (zi v1), some (zi s.1), some (zi s.2.1)], [], s.2.2) r Mf := by
  intro n
  induction n with
  | zero => intro s h; cases h
  | succ n ih =>
    intro s h
    rcases zlp_cases h with ⟨s', h1, h2⟩ | h1
    · exact g_X9_middle_L14 hd h1 (fun s2 e2 => by cases e2; exact ih _ h2) (fun t e2 => by cases e2) trivial
    · exact g_X9_middle_L14 hd h1 (fun s2 e2 => by cases e2) (fun t e2 => kb t (Sum.inr.inj e2)) trivial
def f_X9_middle_j59 (n0 : Nat) (v1 : Int) (v2 : Int) (M : zM) : Option ((Int × zM) ⊕ (zM)) :=
  if 0 ≤ zw v1 ∧ zw v1 < 9 then
    if 0 ≤ zw v2 ∧ zw v2 < 9 then
      zlet (zput M 27 n0 (zix v2) (M 26 n0 (zix v1))) fun M9 =>
      some (.inl ((v1 + 1), M9))
    else
      none
  else
    none
theorem g_X9_middle_j59 {n0 : Nat} {v1 : Int} {v2 : Int} {M : zM} {x : (Int × zM) ⊕ (zM)} {r : Option zV} {Mf : zM} {d : Nat} (hd : 0 ≤ d) (h : f_X9_middle_j59 n0 v1 v2 M = some x)
    (kc : ∀ s, x = .inl s → zG 64 d (2, [some (zr 23 n0), some (zi s.1), none, none], [], s.2) r Mf)
    (kb : ∀ t, x = .inr t → zG 64 d (77, [some (zr 23 n0), none, none, none], [], t) r Mf) (kr : True) : zG 64 d (59, [some (zr 23 n0), some (zi v1), some (zi v2), none], [], M) r Mf := by
  have hm := zmok_64
  unfold f_X9_middle_j59 at h
  refine zG_run hm 6 (cf' := (69, [some (zr 23 n0), some (zi v1), some (zi v2), none], [zi v1, zr 26 n0, zi v2, zr 27 n0], M)) rfl ?_
  by_cases c11 : 0 ≤ zw v1 ∧ zw v1 < 9
  · rw [if_pos c11] at h
    refine zG_br hm rfl (cf' := (70, [some (zr 23 n0), some (zi v1), some (zi v2), none], [zi (M 26 n0 (zix v1)), zi v2, zr 27 n0], M)) (if_pos c11) ?_
    by_cases c10 : 0 ≤ zw v2 ∧ zw v2 < 9
    · rw [if_pos c10] at h
      refine zG_br hm rfl (cf' := (71, [some (zr 23 n0), some (zi v1), some (zi v2), none], [], (zput M 27 n0 (zix v2) (M 26 n0 (zix v1))))) (if_pos c10) ?_
      obtain ⟨M9, eM9, h⟩ := zlet_of h
      rw [eM9]
      refine zG_run hm 2 (cf' := (2, [some (zr 23 n0), some (zi (v1 + 1)), some (zi v2), none], [], M9)) rfl ?_
      refine zG_sub (lv' := [some (zr 23 n0), some (zi (v1 + 1)), none, none]) (zsb_s rfl (zsb_s rfl (zsb_n (zsb_n zsb_0)))) ?_
      exact kc _ (Option.some.inj h).symm
    · rw [if_neg c10] at h
      cases h
  · rw [if_neg c11] at h
    cases h
def f_X9_middle_L2 (n0 : Nat) (v1 : Int) (M : zM) : Option ((Int × zM) ⊕ (zM)) :=
  if zw (M 23 n0 8) ≤ zw v1 then
    some (.inr M)
  else
    (zlp (fun s : Int × Int × zM => f_X9_middle_L14 n0 v1 s.1 s.2.1 s.2.2) zF (v1, v1, M)).bind fun y8 =>
      f_X9_middle_j59 n0 v1 y8.1 y8.2
theorem g_X9_middle_L2 {n0 : Nat} {v1 : Int} {M : zM} {x : (Int × zM) ⊕ (zM)} {r : Option zV} {Mf : zM} {d : Nat} (hd : 0 ≤ d) (h : f_X9_middle_L2 n0 v1 M = some x)
    (kc : ∀ s, x = .inl s → zG 64 d (2, [some (zr 23 n0), some (zi s.1), none, none], [], s.2) r Mf)
    (kb : ∀ t, x = .inr t → zG 64 d (77, [some (zr 23 n0), none, none, none], [], t) r Mf) (kr : True) : zG 64 d (2, [some (zr 23 n0), some (zi v1), none, none], [], M) r Mf := by
  have hm := zmok_64
  unfold f_X9_middle_L2 at h
  refine zG_run hm 3 (cf' := (7, [some (zr 23 n0), some (zi v1), none, none], [zi (M 23 n0 8), zi v1], M)) rfl ?_
  by_cases c12 : zw (M 23 n0 8) ≤ zw v1
  · rw [if_pos c12] at h
    refine zG_br hm rfl (cf' := (77, [some (zr 23 n0), some (zi v1), none, none], [], M)) (if_pos c12) ?_
    refine zG_sub (lv' := [some (zr 23 n0), none, none, none]) (zsb_s rfl (zsb_n (zsb_n (zsb_n zsb_0)))) ?_
    exact kb _ (Option.some.inj h).symm
  · rw [if_neg c12] at h
    refine zG_br hm rfl (cf' := (10, [some (zr 23 n0), some (zi v1), none, none], [], M)) (if_neg c12) ?_
    refine zG_run hm 4 (cf' := (14, [some (zr 23 n0), some (zi v1), some (zi v1), some (zi v1)], [], M)) rfl ?_
    refine zG_sub (lv' := [some (zr 23 n0), some (zi v1), some (zi v1), some (zi v1)]) (zsb_s rfl (zsb_s rfl (zsb_s rfl (zsb_s rfl zsb_0)))) ?_
    obtain ⟨y8, hy8, h⟩ := Option.bind_eq_some_iff.mp h
    refine gl_X9_middle_L14 hd (fun t e2 => ?_) trivial zF _ hy8
    cases e2
    refine zG_sub (lv' := [some (zr 23 n0), some (zi v1), some (zi y8.1), none]) (zsb_s rfl (zsb_s rfl (zsb_s rfl (zsb_n zsb_0)))) ?_
    exact g_X9_middle_j59 hd h kc kb kr
theorem gl_X9_middle_L2 {n0 : Nat} {y : zM} {r : Option zV} {Mf : zM} {d : Nat} (hd : 0 ≤ d)
    (kb : ∀ t, y = t → zG 64 d (77, [some (zr 23 n0), none, none, none], [], t) r Mf) (kr : True) : ∀ (n : Nat) (s : Int × zM), zlp (fun s : Int × zM => f_X9_middle_L2 n0 s.1 s.2) n s = some y → zG 64 d (2, [some (zr 23 n0), some (zi s.1), none, none], [], s.2) r Mf := by
  intro n
  induction n with
  | zero => intro s h; cases h
  | succ n ih =>
    intro s h
    rcases zlp_cases h with ⟨s', h1, h2⟩ | h1
    · exact g_X9_middle_L2 hd h1 (fun s2 e2 => by cases e2; exact ih _ h2) (fun t e2 => by cases e2) trivial
    · exact g_X9_middle_L2 hd h1 (fun s2 e2 => by cases e2) (fun t e2 => kb t (Sum.inr.inj e2)) trivial
def f_X9_middle (n0 : Nat) (M : zM) : Option (Int × zM) :=
  (zlp (fun s : Int × zM => f_X9_middle_L2 n0 s.1 s.2) zF (0, M)).bind fun y13 =>
    if ¬ zw (y13 23 n0 8) = 0 then
      if 0 ≤ zw (Int.tdiv (zw ((y13 23 n0 8) - 1)) 2) ∧ zw (Int.tdiv (zw ((y13 23 n0 8) - 1)) 2) < 9 then
        some ((y13 27 n0 (zix (Int.tdiv (zw ((y13 23 n0 8) - 1)) 2))), y13)
      else
        none
    else
      some ((-1), y13)
theorem g_X9_middle {n0 : Nat} {M : zM} {q : Int × zM} {d : Nat} (hd : 0 ≤ d) (h : f_X9_middle n0 M = some q) : zG 64 d (0, [some (zr 23 n0), none, none, none], [], M) (some (zi q.1)) q.2 := by
  have hm := zmok_64
  unfold f_X9_middle at h
  refine zG_run hm 2 (cf' := (2, [some (zr 23 n0), some (zi 0), none, none], [], M)) rfl ?_
  refine zG_sub (lv' := [some (zr 23 n0), some (zi 0), none, none]) (zsb_s rfl (zsb_s rfl (zsb_n (zsb_n zsb_0)))) ?_
  obtain ⟨y13, hy13, h⟩ := Option.bind_eq_some_iff.mp h
  refine gl_X9_middle_L2 hd (fun t e2 => ?_) trivial zF _ hy13
  cases e2
  refine zG_run hm 2 (cf' := (81, [some (zr 23 n0), none, none, none], [zi (y13 23 n0 8)], y13)) rfl ?_
  by_cases c15 : ¬ zw (y13 23 n0 8) = 0
  · rw [if_pos c15] at h
    refine zG_br hm rfl (cf' := (88, [some (zr 23 n0), none, none, none], [], y13)) (if_pos c15) ?_
    refine zG_run hm 8 (cf' := (100, [some (zr 23 n0), none, none, none], [zi (Int.tdiv (zw ((y13 23 n0 8) - 1)) 2), zr 27 n0], y13)) rfl ?_
    by_cases c14 : 0 ≤ zw (Int.tdiv (zw ((y13 23 n0 8) - 1)) 2) ∧ zw (Int.tdiv (zw ((y13 23 n0 8) - 1)) 2) < 9
    · rw [if_pos c14] at h
      refine zG_br hm rfl (cf' := (101, [some (zr 23 n0), none, none, none], [zi (y13 27 n0 (zix (Int.tdiv (zw ((y13 23 n0 8) - 1)) 2)))], y13)) (if_pos c14) ?_
      cases h
      exact zG_ri hm rfl rfl
    · rw [if_neg c14] at h
      cases h
  · rw [if_neg c15] at h
    refine zG_br hm rfl (cf' := (84, [some (zr 23 n0), none, none, none], [], y13)) (if_neg c15) ?_
    refine zG_run hm 2 (cf' := (101, [some (zr 23 n0), none, none, none], [zi (-1)], y13)) rfl ?_
    cases h
    exact zG_ri hm rfl rfl
theorem met_X9_middle {n0 : Nat} {M : zM} {q : Int × zM} {d : Nat} (hd : 0 ≤ d) (h : f_X9_middle n0 M = some q) : zMet 64 d [zr 23 n0] M (some (zi q.1)) q.2 :=
  zMet_of (lv0 := [some (zr 23 n0), none, none, none]) zmok_64 rfl rfl (fun v hv => by cases hv; trivial) (g_X9_middle hd h)
def f_X9_allFit_j35 (n0 : Nat) (v1 : Int) (v2 : Int) (v3 : Int) (vs0 : Int) (M : zM) : Option ((Int) ⊕ ((Int × zM) ⊕ (Unit))) :=
  if 0 ≤ zw v3 ∧ zw v3 < 9 then
    if zw vs0 = zw (M 30 n0 (zix v3) % 2) then
      some (.inl (v3 + 1))
    else
      some (.inr (.inl (0, M)))
  else
    none
theorem g_X9_allFit_j35 {n0 : Nat} {v1 : Int} {v2 : Int} {v3 : Int} {vs0 : Int} {M : zM} {x : (Int) ⊕ ((Int × zM) ⊕ (Unit))} {r : Option zV} {Mf : zM} {d : Nat} (hd : 0 ≤ d) (h : f_X9_allFit_j35 n0 v1 v2 v3 vs0 M = some x)
    (kc : ∀ s, x = .inl s → zG 65 d (2, [some (zr 23 n0), some (zi v1), some (zi v2), some (zi s), none], [], M) r Mf)
    (kb : ∀ t, x = .inr (.inr t) → zG 65 d (56, [none, none, none, none, none], [], M) r Mf) (kr : ∀ q, x = .inr (.inl q) → r = some (zi q.1) ∧ Mf = q.2) : zG 65 d (35, [some (zr 23 n0), some (zi v1), some (zi v2), some (zi v3), none], [zi vs0], M) r Mf := by
  have hm := zmok_65
  unfold f_X9_allFit_j35 at h
  refine zG_run hm 5 (cf' := (44, [some (zr 23 n0), some (zi v1), some (zi v2), some (zi v3), some (zi vs0)], [zi v3, zr 30 n0, zi vs0], M)) rfl ?_
  by_cases c2 : 0 ≤ zw v3 ∧ zw v3 < 9
  · rw [if_pos c2] at h
    refine zG_br hm rfl (cf' := (45, [some (zr 23 n0), some (zi v1), some (zi v2), some (zi v3), some (zi vs0)], [zi (M 30 n0 (zix v3) % 2), zi vs0], M)) (if_pos c2) ?_
    by_cases c1 : zw vs0 = zw (M 30 n0 (zix v3) % 2)
    · rw [if_pos c1] at h
      refine zG_br hm rfl (cf' := (50, [some (zr 23 n0), some (zi v1), some (zi v2), some (zi v3), some (zi vs0)], [], M)) (if_pos c1) ?_
      refine zG_run hm 2 (cf' := (2, [some (zr 23 n0), some (zi v1), some (zi v2), some (zi (v3 + 1)), some (zi vs0)], [], M)) rfl ?_
      refine zG_sub (lv' := [some (zr 23 n0), some (zi v1), some (zi v2), some (zi (v3 + 1)), none]) (zsb_s rfl (zsb_s rfl (zsb_s rfl (zsb_s rfl (zsb_n zsb_0))))) ?_
      exact kc _ (Option.some.inj h).symm
    · rw [if_neg c1] at h
      refine zG_br hm rfl (cf' := (48, [some (zr 23 n0), some (zi v1), some (zi v2), some (zi v3), some (zi vs0)], [], M)) (if_neg c1) ?_
      refine zG_run hm 1 (cf' := (49, [some (zr 23 n0), some (zi v1), some (zi v2), some (zi v3), some (zi vs0)], [zi 0], M)) rfl ?_
      obtain ⟨rfl, rfl⟩ := kr _ (Option.some.inj h).symm
      exact zG_rz hm rfl rfl (Or.inl rfl)
  · rw [if_neg c2] at h
    cases h
def f_X9_allFit_j34 (n0 : Nat) (v1 : Int) (v2 : Int) (v3 : Int) (M : zM) : Option ((Int) ⊕ ((Int × zM) ⊕ (Unit))) :=
  f_X9_allFit_j35 n0 v1 v2 v3 0 M
theorem g_X9_allFit_j34 {n0 : Nat} {v1 : Int} {v2 : Int} {v3 : Int} {M : zM} {x : (Int) ⊕ ((Int × zM) ⊕ (Unit))} {r : Option zV} {Mf : zM} {d : Nat} (hd : 0 ≤ d) (h : f_X9_allFit_j34 n0 v1 v2 v3 M = some x)
    (kc : ∀ s, x = .inl s → zG 65 d (2, [some (zr 23 n0), some (zi v1), some (zi v2), some (zi s), none], [], M) r Mf)
    (kb : ∀ t, x = .inr (.inr t) → zG 65 d (56, [none, none, none, none, none], [], M) r Mf) (kr : ∀ q, x = .inr (.inl q) → r = some (zi q.1) ∧ Mf = q.2) : zG 65 d (34, [some (zr 23 n0), some (zi v1), some (zi v2), some (zi v3), none], [], M) r Mf := by
  have hm := zmok_65
  unfold f_X9_allFit_j34 at h
  refine zG_run hm 1 (cf' := (35, [some (zr 23 n0), some (zi v1), some (zi v2), some (zi v3), none], [zi 0], M)) rfl ?_
  refine zG_sub (lv' := [some (zr 23 n0), some (zi v1), some (zi v2), some (zi v3), none]) (zsb_s rfl (zsb_s rfl (zsb_s rfl (zsb_s rfl (zsb_n zsb_0))))) ?_
  exact g_X9_allFit_j35 hd h kc kb kr
def f_X9_allFit_L2 (n0 : Nat) (v1 : Int) (v2 : Int) (v3 : Int) (M : zM) : Option ((Int) ⊕ ((Int × zM) ⊕ (Unit))) :=
  if zw (M 23 n0 9) ≤ zw v3 then
    some (.inr (.inr ()))
  else
    if 0 ≤ zw v3 ∧ zw v3 < 9 then
      if zw (M 28 n0 (zix v3)) < zw v1 then
        f_X9_allFit_j34 n0 v1 v2 v3 M
      else
        if 0 ≤ zw v3 ∧ zw v3 < 9 then
          if zw (M 29 n0 (zix v3)) < zw v2 then
            f_X9_allFit_j34 n0 v1 v2 v3 M
          else
            f_X9_allFit_j35 n0 v1 v2 v3 1 M
        else
          none
    else
      none
theorem g_X9_allFit_L2 {n0 : Nat} {v1 : Int} {v2 : Int} {v3 : Int} {M : zM} {x : (Int) ⊕ ((Int × zM) ⊕ (Unit))} {r : Option zV} {Mf : zM} {d : Nat} (hd : 0 ≤ d) (h : f_X9_allFit_L2 n0 v1 v2 v3 M = some x)
    (kc : ∀ s, x = .inl s → zG 65 d (2, [some (zr 23 n0), some (zi v1), some (zi v2), some (zi s), none], [], M) r Mf)
    (kb : ∀ t, x = .inr (.inr t) → zG 65 d (56, [none, none, none, none, none], [], M) r Mf) (kr : ∀ q, x = .inr (.inl q) → r = some (zi q.1) ∧ Mf = q.2) : zG 65 d (2, [some (zr 23 n0), some (zi v1), some (zi v2), some (zi v3), none], [], M) r Mf := by
  have hm := zmok_65
  unfold f_X9_allFit_L2 at h
  refine zG_run hm 3 (cf' := (7, [some (zr 23 n0), some (zi v1), some (zi v2), some (zi v3), none], [zi (M 23 n0 9), zi v3], M)) rfl ?_
  by_cases c7 : zw (M 23 n0 9) ≤ zw v3
  · rw [if_pos c7] at h
    refine zG_br hm rfl (cf' := (56, [some (zr 23 n0), some (zi v1), some (zi v2), some (zi v3), none], [], M)) (if_pos c7) ?_
    refine zG_sub (lv' := [none, none, none, none, none]) (zsb_n (zsb_n (zsb_n (zsb_n (zsb_n zsb_0))))) ?_
    exact kb _ (Option.some.inj h).symm
  · rw [if_neg c7] at h
    refine zG_br hm rfl (cf' := (10, [some (zr 23 n0), some (zi v1), some (zi v2), some (zi v3), none], [], M)) (if_neg c7) ?_
    refine zG_run hm 3 (cf' := (15, [some (zr 23 n0), some (zi v1), some (zi v2), some (zi v3), none], [zi v3, zr 28 n0], M)) rfl ?_
    by_cases c6 : 0 ≤ zw v3 ∧ zw v3 < 9
    · rw [if_pos c6] at h
      refine zG_br hm rfl (cf' := (16, [some (zr 23 n0), some (zi v1), some (zi v2), some (zi v3), none], [zi (M 28 n0 (zix v3))], M)) (if_pos c6) ?_
      refine zG_run hm 1 (cf' := (17, [some (zr 23 n0), some (zi v1), some (zi v2), some (zi v3), none], [zi v1, zi (M 28 n0 (zix v3))], M)) rfl ?_
      by_cases c5 : zw (M 28 n0 (zix v3)) < zw v1
      · rw [if_pos c5] at h
        refine zG_br hm rfl (cf' := (34, [some (zr 23 n0), some (zi v1), some (zi v2), some (zi v3), none], [], M)) (if_pos c5) ?_
        refine zG_sub (lv' := [some (zr 23 n0), some (zi v1), some (zi v2), some (zi v3), none]) (zsb_s rfl (zsb_s rfl (zsb_s rfl (zsb_s rfl (zsb_n zsb_0))))) ?_
        exact g_X9_allFit_j34 hd h kc kb kr
      · rw [if_neg c5] at h
        refine zG_br hm rfl (cf' := (20, [some (zr 23 n0), some (zi v1), some (zi v2), some (zi v3), none], [], M)) (if_neg c5) ?_
        refine zG_run hm 3 (cf' := (25, [some (zr 23 n0), some (zi v1), some (zi v2), some (zi v3), none], [zi v3, zr 29 n0], M)) rfl ?_
        by_cases c4 : 0 ≤ zw v3 ∧ zw v3 < 9
        · rw [if_pos c4] at h
          refine zG_br hm rfl (cf' := (26, [some (zr 23 n0), some (zi v1), some (zi v2), some (zi v3), none], [zi (M 29 n0 (zix v3))], M)) (if_pos c4) ?_
          refine zG_run hm 1 (cf' := (27, [some (zr 23 n0), some (zi v1), some (zi v2), some (zi v3), none], [zi v2, zi (M 29 n0 (zix v3))], M)) rfl ?_
          by_cases c3 : zw (M 29 n0 (zix v3)) < zw v2
          · rw [if_pos c3] at h
            refine zG_br hm rfl (cf' := (34, [some (zr 23 n0), some (zi v1), some (zi v2), some (zi v3), none], [], M)) (if_pos c3) ?_
            refine zG_sub (lv' := [some (zr 23 n0), some (zi v1), some (zi v2), some (zi v3), none]) (zsb_s rfl (zsb_s rfl (zsb_s rfl (zsb_s rfl (zsb_n zsb_0))))) ?_
            exact g_X9_allFit_j34 hd h kc kb kr
          · rw [if_neg c3] at h
            refine zG_br hm rfl (cf' := (30, [some (zr 23 n0), some (zi v1), some (zi v2), some (zi v3), none], [], M)) (if_neg c3) ?_
            refine zG_run hm 2 (cf' := (35, [some (zr 23 n0), some (zi v1), some (zi v2), some (zi v3), none], [zi 1], M)) rfl ?_
            refine zG_sub (lv' := [some (zr 23 n0), some (zi v1), some (zi v2), some (zi v3), none]) (zsb_s rfl (zsb_s rfl (zsb_s rfl (zsb_s rfl (zsb_n zsb_0))))) ?_
            exact g_X9_allFit_j35 hd h kc kb kr
        · rw [if_neg c4] at h
          cases h
    · rw [if_neg c6] at h
      cases h
theorem gl_X9_allFit_L2 {n0 : Nat} {v1 : Int} {v2 : Int} {M : zM} {y : (Int × zM) ⊕ (Unit)} {r : Option zV} {Mf : zM} {d : Nat} (hd : 0 ≤ d)
    (kb : ∀ t, y = .inr t → zG 65 d (56, [none, none, none, none, none], [], M) r Mf) (kr : ∀ q, y = .inl q → r = some (zi q.1) ∧ Mf = q.2) : ∀ (n : Nat) (s : Int), zlp (fun s : Int => f_X9_allFit_L2 n0 v1 v2 s M) n s = some y → zG 65 d (2, [some (zr 23 n0), some (zi v1), some (zi v2), some (zi s), none], [], M) r Mf := by
  intro n
  induction n with
  | zero => intro s h; cases h
  | succ n ih =>
    intro s h
    rcases zlp_cases h with ⟨s', h1, h2⟩ | h1
    · exact g_X9_allFit_L2 hd h1 (fun s2 e2 => by cases e2; exact ih _ h2) (fun t e2 => by cases e2) (fun q e2 => by cases e2)
    · exact g_X9_allFit_L2 hd h1 (fun s2 e2 => by cases e2) (fun t e2 => kb t (Sum.inr.inj e2)) (fun q e2 => kr q (Sum.inr.inj e2))
def f_X9_allFit (n0 : Nat) (v1 : Int) (v2 : Int) (M : zM) : Option (Int × zM) :=
  (zlp (fun s : Int => f_X9_allFit_L2 n0 v1 v2 s M) zF 0).bind fun y8 =>
    match y8 with
    | .inl q10 => some q10
    | .inr t9 =>
      some (1, M)
theorem g_X9_allFit {n0 : Nat} {v1 : Int} {v2 : Int} {M : zM} {q : Int × zM} {d : Nat} (hd : 0 ≤ d) (h : f_X9_allFit n0 v1 v2 M = some q) : zG 65 d (0, [some (zr 23 n0), some (zi v1), some (zi v2), none, none], [], M) (some (zi q.1)) q.2 := by
  have hm := zmok_65
  unfold f_X9_allFit at h
  refine zG_run hm 2 (cf' := (2, [some (zr 23 n0), some (zi v1), some (zi v2), some (zi 0), none], [], M)) rfl ?_
  refine zG_sub (lv' := [some (zr 23 n0), some (zi v1), some (zi v2), some (zi 0), none]) (zsb_s rfl (zsb_s rfl (zsb_s rfl (zsb_s rfl (zsb_n zsb_0))))) ?_
  obtain ⟨y8, hy8, h⟩ := Option.bind_eq_some_iff.mp h
  refine gl_X9_allFit_L2 hd (fun t9 e2 => ?_) (fun q e2 => ?_) zF _ hy8
  · cases e2
    refine zG_run hm 1 (cf' := (57, [none, none, none, none, none], [zi 1], M)) rfl ?_
    cases h
    exact zG_rz hm rfl rfl (Or.inr rfl)
  · cases e2
    cases h
    exact ⟨rfl, rfl⟩
theorem met_X9_allFit {n0 : Nat} {v1 : Int} {v2 : Int} {M : zM} {q : Int × zM} {d : Nat} (hd : 0 ≤ d) (h : f_X9_allFit n0 v1 v2 M = some q) : zMet 65 d [zr 23 n0, zi v1, zi v2] M (some (zi q.1)) q.2 :=
  zMet_of (lv0 := [some (zr 23 n0), some (zi v1), some (zi v2), none, none]) zmok_65 rfl rfl (fun v hv => by cases hv; trivial) (g_X9_allFit hd h)
def f_X10_rule_L10 (v1 : Int) (v2 : Int) (M : zM) : Option ((Int × zM) ⊕ ((Int × zM) ⊕ (zM))) :=
  if 10 < zw v2 then
    some (.inr (.inr M))
  else
    (f_X9_allFit 0 v1 v2 M).bind fun p1 =>
      if zw p1.1 = 0 then
        some (.inl ((v2 + 1), p1.2))
      else
        some (.inr (.inl (((v1 * 100) + v2), p1.2)))
theorem g_X10_rule_L10 {v1 : Int} {v2 : Int} {M : zM} {x : (Int × zM) ⊕ ((Int × zM) ⊕ (zM))} {r : Option zV} {Mf : zM} {d : Nat} (hd : 1 ≤ d) (h : f_X10_rule_L10 v1 v2 M = some x)
    (kc : ∀ s, x = .inl s → zG 103 d (10, [some (zr 0 0), some (zi v1), some (zi s.1)], [], s.2) r Mf)
    (kb : ∀ t, x = .inr (.inr t) → zG 103 d (41, [some (zr 0 0), some (zi v1), none], [], t) r Mf) (kr : ∀ q, x = .inr (.inl q) → r = some (zi q.1) ∧ Mf = q.2) : zG 103 d (10, [some (zr 0 0), some (zi v1), some (zi v2)], [], M) r Mf := by
  have hm := zmok_103
  unfold f_X10_rule_L10 at h
  refine zG_run hm 2 (cf' := (13, [some (zr 0 0), some (zi v1), some (zi v2)], [zi 10, zi v2], M)) rfl ?_
  by_cases c3 : 10 < zw v2
  · rw [if_pos c3] at h
    refine zG_br hm rfl (cf' := (41, [some (zr 0 0), some (zi v1), some (zi v2)], [], M)) (if_pos c3) ?_
    refine zG_sub (lv' := [some (zr 0 0), some (zi v1), none]) (zsb_s rfl (zsb_s rfl (zsb_n zsb_0))) ?_
    exact kb _ (Option.some.inj h).symm
  · rw [if_neg c3] at h
    refine zG_br hm rfl (cf' := (16, [some (zr 0 0), some (zi v1), some (zi v2)], [], M)) (if_neg c3) ?_
    refine zG_run hm 4 (cf' := (22, [some (zr 0 0), some (zi v1), some (zi v2)], [zi v2, zi v1, zr 23 0], M)) rfl ?_
    obtain ⟨p1, hp1, h⟩ := Option.bind_eq_some_iff.mp h
    refine zG_V hm zmok_65 rfl (as := [zi v1, zi v2]) (rest := []) (st2 := [zi p1.1]) (pc2 := 25) rfl rfl (by omega) (met_X9_allFit (d := 0) (Nat.le_refl _) hp1) rfl ?_
    by_cases c2 : zw p1.1 = 0
    · rw [if_pos c2] at h
      refine zG_br hm rfl (cf' := (35, [some (zr 0 0), some (zi v1), some (zi v2)], [], p1.2)) (if_pos c2) ?_
      refine zG_run hm 2 (cf' := (10, [some (zr 0 0), some (zi v1), some (zi (v2 + 1))], [], p1.2)) rfl ?_
      refine zG_sub (lv' := [some (zr 0 0), some (zi v1), some (zi (v2 + 1))]) (zsb_s rfl (zsb_s rfl (zsb_s rfl zsb_0))) ?_
      exact kc _ (Option.some.inj h).symm
    · rw [if_neg c2] at h
      refine zG_br hm rfl (cf' := (28, [some (zr 0 0), some (zi v1), some (zi v2)], [], p1.2)) (if_neg c2) ?_
      refine zG_run hm 5 (cf' := (34, [some (zr 0 0), some (zi v1), some (zi v2)], [zi ((v1 * 100) + v2)], p1.2)) rfl ?_
      obtain ⟨rfl, rfl⟩ := kr _ (Option.some.inj h).symm
      exact zG_ri hm rfl rfl
theorem gl_X10_rule_L10 {v1 : Int} {y : (Int × zM) ⊕ (zM)} {r : Option zV} {Mf : zM} {d : Nat} (hd : 1 ≤ d)
    (kb : ∀ t, y = .inr t → zG 103 d (41, [some (zr 0 0), some (zi v1), none], [], t) r Mf) (kr : ∀ q, y = .inl q → r = some (zi q.1) ∧ Mf = q.2) : ∀ (n : Nat) (s : Int × zM), zlp (fun s : Int × zM => f_X10_rule_L10 v1 s.1 s.2) n s = some y → zG 103 d (10, [some (zr 0 0), some (zi v1), some (zi s.1)], [], s.2) r Mf := by
  intro n
  induction n with
  | zero => intro s h; cases h
  | succ n ih =>
    intro s h
    rcases zlp_cases h with ⟨s', h1, h2⟩ | h1
    · exact g_X10_rule_L10 hd h1 (fun s2 e2 => by cases e2; exact ih _ h2) (fun t e2 => by cases e2) (fun q e2 => by cases e2)
    · exact g_X10_rule_L10 hd h1 (fun s2 e2 => by cases e2) (fun t e2 => kb t (Sum.inr.inj e2)) (fun q e2 => kr q (Sum.inr.inj e2))
def f_X10_rule_L2 (v1 : Int) (M : zM) : Option ((Int × zM) ⊕ ((Int × zM) ⊕ (zM))) :=
  if 100 < zw v1 then
    some (.inr (.inr M))
  else
    (zlp (fun s : Int × zM => f_X10_rule_L10 v1 s.1 s.2) zF (1, M)).bind fun y4 =>
      match y4 with
      | .inl q6 => some (.inr (.inl q6))
      | .inr t5 =>
        some (.inl ((v1 + 1), t5))
theorem g_X10_rule_L2 {v1 : Int} {M : zM} {x : (Int × zM) ⊕ ((Int × zM) ⊕ (zM))} {r : Option zV} {Mf : zM} {d : Nat} (hd : 1 ≤ d) (h : f_X10_rule_L2 v1 M = some x)
    (kc : ∀ s, x = .inl s → zG 103 d (2, [some (zr 0 0), some (zi s.1), none], [], s.2) r Mf)
    (kb : ∀ t, x = .inr (.inr t) → zG 103 d (47, [none, none, none], [], t) r Mf) (kr : ∀ q, x = .inr (.inl q) → r = some (zi q.1) ∧ Mf = q.2) : zG 103 d (2, [some (zr 0 0), some (zi v1), none], [], M) r Mf := by
  have hm := zmok_103
  unfold f_X10_rule_L2 at h
  refine zG_run hm 2 (cf' := (5, [some (zr 0 0), some (zi v1), none], [zi 100, zi v1], M)) rfl ?_
  by_cases c7 : 100 < zw v1
  · rw [if_pos c7] at h
    refine zG_br hm rfl (cf' := (47, [some (zr 0 0), some (zi v1), none], [], M)) (if_pos c7) ?_
    refine zG_sub (lv' := [none, none, none]) (zsb_n (zsb_n (zsb_n zsb_0))) ?_
    exact kb _ (Option.some.inj h).symm
  · rw [if_neg c7] at h
    refine zG_br hm rfl (cf' := (8, [some (zr 0 0), some (zi v1), none], [], M)) (if_neg c7) ?_
    refine zG_run hm 2 (cf' := (10, [some (zr 0 0), some (zi v1), some (zi 1)], [], M)) rfl ?_
    refine zG_sub (lv' := [some (zr 0 0), some (zi v1), some (zi 1)]) (zsb_s rfl (zsb_s rfl (zsb_s rfl zsb_0))) ?_
    obtain ⟨y4, hy4, h⟩ := Option.bind_eq_some_iff.mp h
    refine gl_X10_rule_L10 hd (fun t5 e2 => ?_) (fun q e2 => ?_) zF _ hy4
    · cases e2
      refine zG_run hm 2 (cf' := (2, [some (zr 0 0), some (zi (v1 + 1)), none], [], t5)) rfl ?_
      refine zG_sub (lv' := [some (zr 0 0), some (zi (v1 + 1)), none]) (zsb_s rfl (zsb_s rfl (zsb_n zsb_0))) ?_
      exact kc _ (Option.some.inj h).symm
    · cases e2
      exact kr _ (Option.some.inj h).symm
theorem gl_X10_rule_L2  {y : (Int × zM) ⊕ (zM)} {r : Option zV} {Mf : zM} {d : Nat} (hd : 1 ≤ d)
    (kb : ∀ t, y = .inr t → zG 103 d (47, [none, none, none], [], t) r Mf) (kr : ∀ q, y = .inl q → r = some (zi q.1) ∧ Mf = q.2) : ∀ (n : Nat) (s : Int × zM), zlp (fun s : Int × zM => f_X10_rule_L2  s.1 s.2) n s = some y → zG 103 d (2, [some (zr 0 0), some (zi s.1), none], [], s.2) r Mf := by
  intro n
  induction n with
  | zero => intro s h; cases h
  | succ n ih =>
    intro s h
    rcases zlp_cases h with ⟨s', h1, h2⟩ | h1
    · exact g_X10_rule_L2 hd h1 (fun s2 e2 => by cases e2; exact ih _ h2) (fun t e2 => by cases e2) (fun q e2 => by cases e2)
    · exact g_X10_rule_L2 hd h1 (fun s2 e2 => by cases e2) (fun t e2 => kb t (Sum.inr.inj e2)) (fun q e2 => kr q (Sum.inr.inj e2))
def f_X10_rule  (M : zM) : Option (Int × zM) :=
  (zlp (fun s : Int × zM => f_X10_rule_L2  s.1 s.2) zF (0, M)).bind fun y8 =>
    match y8 with
    | .inl q10 => some q10
    | .inr t9 =>
      some ((-1), t9)
theorem g_X10_rule  {M : zM} {q : Int × zM} {d : Nat} (hd : 1 ≤ d) (h : f_X10_rule  M = some q) : zG 103 d (0, [some (zr 0 0), none, none], [], M) (some (zi q.1)) q.2 := by
  have hm := zmok_103
  unfold f_X10_rule at h
  refine zG_run hm 2 (cf' := (2, [some (zr 0 0), some (zi 0), none], [], M)) rfl ?_
  refine zG_sub (lv' := [some (zr 0 0), some (zi 0), none]) (zsb_s rfl (zsb_s rfl (zsb_n zsb_0))) ?_
  obtain ⟨y8, hy8, h⟩ := Option.bind_eq_some_iff.mp h
  refine gl_X10_rule_L2 hd (fun t9 e2 => ?_) (fun q e2 => ?_) zF _ hy8
  · cases e2
    refine zG_run hm 1 (cf' := (48, [none, none, none], [zi (-1)], t9)) rfl ?_
    cases h
    exact zG_ri hm rfl rfl
  · cases e2
    cases h
    exact ⟨rfl, rfl⟩
theorem met_X10_rule  {M : zM} {q : Int × zM} {d : Nat} (hd : 1 ≤ d) (h : f_X10_rule  M = some q) : zMet 103 d [zr 0 0] M (some (zi q.1)) q.2 :=
  zMet_of (lv0 := [some (zr 0 0), none, none]) zmok_103 rfl rfl (fun v hv => by cases hv; trivial) (g_X10_rule hd h)
def f_X11_wasTold_j31 (v1 : Int) (v3 : Int) (vs0 : Int) (M : zM) : Option ((Int × Int) ⊕ (Int)) :=
  some (.inl (vs0, (v3 + 1)))
theorem g_X11_wasTold_j31 {v1 : Int} {v3 : Int} {vs0 : Int} {M : zM} {x : (Int × Int) ⊕ (Int)} {r : Option zV} {Mf : zM} {d : Nat} (hd : 0 ≤ d) (h : f_X11_wasTold_j31 v1 v3 vs0 M = some x)
    (kc : ∀ s, x = .inl s → zG 159 d (4, [some (zr 42 0), some (zi v1), some (zi s.1), some (zi s.2)], [], M) r Mf)
    (kb : ∀ t, x = .inr t → zG 159 d (38, [none, none, some (zi t), none], [], M) r Mf) (kr : True) : zG 159 d (31, [some (zr 42 0), some (zi v1), none, some (zi v3)], [zi vs0], M) r Mf := by
  have hm := zmok_159
  unfold f_X11_wasTold_j31 at h
  refine zG_run hm 3 (cf' := (4, [some (zr 42 0), some (zi v1), some (zi vs0), some (zi (v3 + 1))], [], M)) rfl ?_
  refine zG_sub (lv' := [some (zr 42 0), some (zi v1), some (zi vs0), some (zi (v3 + 1))]) (zsb_s rfl (zsb_s rfl (zsb_s rfl (zsb_s rfl zsb_0)))) ?_
  exact kc _ (Option.some.inj h).symm
def f_X11_wasTold_j26 (v1 : Int) (v3 : Int) (M : zM) : Option ((Int × Int) ⊕ (Int)) :=
  f_X11_wasTold_j31 v1 v3 1 M
theorem g_X11_wasTold_j26 {v1 : Int} {v3 : Int} {M : zM} {x : (Int × Int) ⊕ (Int)} {r : Option zV} {Mf : zM} {d : Nat} (hd : 0 ≤ d) (h : f_X11_wasTold_j26 v1 v3 M = some x)
    (kc : ∀ s, x = .inl s → zG 159 d (4, [some (zr 42 0), some (zi v1), some (zi s.1), some (zi s.2)], [], M) r Mf)
    (kb : ∀ t, x = .inr t → zG 159 d (38, [none, none, some (zi t), none], [], M) r Mf) (kr : True) : zG 159 d (26, [some (zr 42 0), some (zi v1), none, some (zi v3)], [], M) r Mf := by
  have hm := zmok_159
  unfold f_X11_wasTold_j26 at h
  refine zG_run hm 2 (cf' := (31, [some (zr 42 0), some (zi v1), none, some (zi v3)], [zi 1], M)) rfl ?_
  refine zG_sub (lv' := [some (zr 42 0), some (zi v1), none, some (zi v3)]) (zsb_s rfl (zsb_s rfl (zsb_n (zsb_s rfl zsb_0)))) ?_
  exact g_X11_wasTold_j31 hd h kc kb kr
def f_X11_wasTold_L4 (v1 : Int) (v2 : Int) (v3 : Int) (M : zM) : Option ((Int × Int) ⊕ (Int)) :=
  if zw (M 42 0 30) ≤ zw v3 then
    some (.inr v2)
  else
    if ¬ zw v2 = 0 then
      f_X11_wasTold_j26 v1 v3 M
    else
      if 0 ≤ zw v3 ∧ zw v3 < 24 then
        if ¬ zw (M 59 0 (zix v3)) = zw v1 then
          f_X11_wasTold_j31 v1 v3 0 M
        else
          f_X11_wasTold_j26 v1 v3 M
      else
        none
theorem g_X11_wasTold_L4 {v1 : Int} {v2 : Int} {v3 : Int} {M : zM} {x : (Int × Int) ⊕ (Int)} {r : Option zV} {Mf : zM} {d : Nat} (hd : 0 ≤ d) (h : f_X11_wasTold_L4 v1 v2 v3 M = some x)
    (kc : ∀ s, x = .inl s → zG 159 d (4, [some (zr 42 0), some (zi v1), some (zi s.1), some (zi s.2)], [], M) r Mf)
    (kb : ∀ t, x = .inr t → zG 159 d (38, [none, none, some (zi t), none], [], M) r Mf) (kr : True) : zG 159 d (4, [some (zr 42 0), some (zi v1), some (zi v2), some (zi v3)], [], M) r Mf := by
  have hm := zmok_159
  unfold f_X11_wasTold_L4 at h
  refine zG_run hm 3 (cf' := (9, [some (zr 42 0), some (zi v1), some (zi v2), some (zi v3)], [zi (M 42 0 30), zi v3], M)) rfl ?_
  by_cases c4 : zw (M 42 0 30) ≤ zw v3
  · rw [if_pos c4] at h
    refine zG_br hm rfl (cf' := (38, [some (zr 42 0), some (zi v1), some (zi v2), some (zi v3)], [], M)) (if_pos c4) ?_
    refine zG_sub (lv' := [none, none, some (zi v2), none]) (zsb_n (zsb_n (zsb_s rfl (zsb_n zsb_0)))) ?_
    exact kb _ (Option.some.inj h).symm
  · rw [if_neg c4] at h
    refine zG_br hm rfl (cf' := (12, [some (zr 42 0), some (zi v1), some (zi v2), some (zi v3)], [], M)) (if_neg c4) ?_
    refine zG_run hm 1 (cf' := (13, [some (zr 42 0), some (zi v1), some (zi v2), some (zi v3)], [zi v2], M)) rfl ?_
    by_cases c3 : ¬ zw v2 = 0
    · rw [if_pos c3] at h
      refine zG_br hm rfl (cf' := (26, [some (zr 42 0), some (zi v1), some (zi v2), some (zi v3)], [], M)) (if_pos c3) ?_
      refine zG_sub (lv' := [some (zr 42 0), some (zi v1), none, some (zi v3)]) (zsb_s rfl (zsb_s rfl (zsb_n (zsb_s rfl zsb_0)))) ?_
      exact g_X11_wasTold_j26 hd h kc kb kr
    · rw [if_neg c3] at h
      refine zG_br hm rfl (cf' := (16, [some (zr 42 0), some (zi v1), some (zi v2), some (zi v3)], [], M)) (if_neg c3) ?_
      refine zG_run hm 3 (cf' := (21, [some (zr 42 0), some (zi v1), some (zi v2), some (zi v3)], [zi v3, zr 59 0], M)) rfl ?_
      by_cases c2 : 0 ≤ zw v3 ∧ zw v3 < 24
      · rw [if_pos c2] at h
        refine zG_br hm rfl (cf' := (22, [some (zr 42 0), some (zi v1), some (zi v2), some (zi v3)], [zi (M 59 0 (zix v3))], M)) (if_pos c2) ?_
        refine zG_run hm 1 (cf' := (23, [some (zr 42 0), some (zi v1), some (zi v2), some (zi v3)], [zi v1, zi (M 59 0 (zix v3))], M)) rfl ?_
        by_cases c1 : ¬ zw (M 59 0 (zix v3)) = zw v1
        · rw [if_pos c1] at h
          refine zG_br hm rfl (cf' := (30, [some (zr 42 0), some (zi v1), some (zi v2), some (zi v3)], [], M)) (if_pos c1) ?_
          refine zG_run hm 1 (cf' := (31, [some (zr 42 0), some (zi v1), some (zi v2), some (zi v3)], [zi 0], M)) rfl ?_
          refine zG_sub (lv' := [some (zr 42 0), some (zi v1), none, some (zi v3)]) (zsb_s rfl (zsb_s rfl (zsb_n (zsb_s rfl zsb_0)))) ?_
          exact g_X11_wasTold_j31 hd h kc kb kr
        · rw [if_neg c1] at h
          refine zG_br hm rfl (cf' := (26, [some (zr 42 0), some (zi v1), some (zi v2), some (zi v3)], [], M)) (if_neg c1) ?_
          refine zG_sub (lv' := [some (zr 42 0), some (zi v1), none, some (zi v3)]) (zsb_s rfl (zsb_s rfl (zsb_n (zsb_s rfl zsb_0)))) ?_
          exact g_X11_wasTold_j26 hd h kc kb kr
      · rw [if_neg c2] at h
        cases h
theorem gl_X11_wasTold_L4 {v1 : Int} {M : zM} {y : Int} {r : Option zV} {Mf : zM} {d : Nat} (hd : 0 ≤ d)
    (kb : ∀ t, y = t → zG 159 d (38, [none, none, some (zi t), none], [], M) r Mf) (kr : True) : ∀ (n : Nat) (s : Int × Int), zlp (fun s : Int × Int => f_X11_wasTold_L4 v1 s.1 s.2 M) n s = some y → zG 159 d (4, [some (zr 42 0), some (zi v1), some (zi s.1), some (zi s.2)], [], M) r Mf := by
  intro n
  induction n with
  | zero => intro s h; cases h
  | succ n ih =>
    intro s h
    rcases zlp_cases h with ⟨s', h1, h2⟩ | h1
    · exact g_X11_wasTold_L4 hd h1 (fun s2 e2 => by cases e2; exact ih _ h2) (fun t e2 => by cases e2) trivial
    · exact g_X11_wasTold_L4 hd h1 (fun s2 e2 => by cases e2) (fun t e2 => kb t (Sum.inr.inj e2)) trivial
def f_X11_wasTold (v1 : Int) (M : zM) : Option (Int × zM) :=
  (zlp (fun s : Int × Int => f_X11_wasTold_L4 v1 s.1 s.2 M) zF (0, 0)).bind fun y5 =>
    if y5 = 0 ∨ y5 = 1 then
      some (y5, M)
    else
      none
theorem g_X11_wasTold {v1 : Int} {M : zM} {q : Int × zM} {d : Nat} (hd : 0 ≤ d) (h : f_X11_wasTold v1 M = some q) : zG 159 d (0, [some (zr 42 0), some (zi v1), none, none], [], M) (some (zi q.1)) q.2 := by
  have hm := zmok_159
  unfold f_X11_wasTold at h
  refine zG_run hm 4 (cf' := (4, [some (zr 42 0), some (zi v1), some (zi 0), some (zi 0)], [], M)) rfl ?_
  refine zG_sub (lv' := [some (zr 42 0), some (zi v1), some (zi 0), some (zi 0)]) (zsb_s rfl (zsb_s rfl (zsb_s rfl (zsb_s rfl zsb_0)))) ?_
  obtain ⟨y5, hy5, h⟩ := Option.bind_eq_some_iff.mp h
  refine gl_X11_wasTold_L4 hd (fun t e2 => ?_) trivial zF _ hy5
  cases e2
  refine zG_run hm 1 (cf' := (39, [none, none, some (zi y5), none], [zi y5], M)) rfl ?_
  by_cases hz : y5 = 0 ∨ y5 = 1
  · rw [if_pos hz] at h
    cases h
    exact zG_rz hm rfl rfl hz
  · rw [if_neg hz] at h
    cases h
theorem met_X11_wasTold {v1 : Int} {M : zM} {q : Int × zM} {d : Nat} (hd : 0 ≤ d) (h : f_X11_wasTold v1 M = some q) : zMet 159 d [zr 42 0, zi v1] M (some (zi q.1)) q.2 :=
  zMet_of (lv0 := [some (zr 42 0), some (zi v1), none, none]) zmok_159 rfl rfl (fun v hv => by cases hv; trivial) (g_X11_wasTold hd h)
