/-! methods, decompiled: 0 -/
def f_X10_owner (v1 : Int) (M : zM) : Option (Int × zM) :=
  if zw v1 < 0 then
    some ((-1), M)
  else
    if 10 < zw v1 then
      some ((-1), M)
    else
      if zw (M 11 0 6) < 6 then
        if 0 ≤ zw (M 11 0 6) ∧ zw (M 11 0 6) < 6 then
          zlet (zput M 12 0 (zix (M 11 0 6)) v1) fun M1 =>
          if 0 ≤ zw (M1 11 0 6) ∧ zw (M1 11 0 6) < 6 then
            zlet (zput M1 13 0 (zix (M1 11 0 6)) 0) fun M2 =>
            zlet (zput M2 11 0 6 ((M2 11 0 6) + 1)) fun M3 =>
            some (((M3 11 0 6) - 1), M3)
          else
            none
        else
          none
      else
        some ((-1), M)
theorem g_X10_owner {v1 : Int} {M : zM} {q : Int × zM} {d : Nat} (hd : 0 ≤ d) (h : f_X10_owner v1 M = some q) : zG 66 d (0, [some (zr 0 0), some (zi v1)], [], M) (some (zi q.1)) q.2 := by
  have hm := zmok_66
  unfold f_X10_owner at h
  refine zG_run hm 1 (cf' := (1, [some (zr 0 0), some (zi v1)], [zi v1], M)) rfl ?_
  by_cases c8 : zw v1 < 0
  · rw [if_pos c8] at h
    refine zG_br hm rfl (cf' := (22, [some (zr 0 0), some (zi v1)], [], M)) (if_pos c8) ?_
    refine zG_run hm 1 (cf' := (23, [some (zr 0 0), some (zi v1)], [zi (-1)], M)) rfl ?_
    cases h
    exact zG_ri hm rfl rfl
  · rw [if_neg c8] at h
    refine zG_br hm rfl (cf' := (4, [some (zr 0 0), some (zi v1)], [], M)) (if_neg c8) ?_
    refine zG_run hm 2 (cf' := (7, [some (zr 0 0), some (zi v1)], [zi 10, zi v1], M)) rfl ?_
    by_cases c7 : 10 < zw v1
    · rw [if_pos c7] at h
      refine zG_br hm rfl (cf' := (22, [some (zr 0 0), some (zi v1)], [], M)) (if_pos c7) ?_
      refine zG_run hm 1 (cf' := (23, [some (zr 0 0), some (zi v1)], [zi (-1)], M)) rfl ?_
      cases h
      exact zG_ri hm rfl rfl
    · rw [if_neg c7] at h
      refine zG_br hm rfl (cf' := (10, [some (zr 0 0), some (zi v1)], [], M)) (if_neg c7) ?_
      refine zG_run hm 4 (cf' := (19, [some (zr 0 0), some (zi v1)], [zi 6, zi (M 11 0 6)], M)) rfl ?_
      by_cases c6 : zw (M 11 0 6) < 6
      · rw [if_pos c6] at h
        refine zG_br hm rfl (cf' := (24, [some (zr 0 0), some (zi v1)], [], M)) (if_pos c6) ?_
        refine zG_run hm 7 (cf' := (39, [some (zr 0 0), some (zi v1)], [zi v1, zi (M 11 0 6), zr 12 0], M)) rfl ?_
        by_cases c5 : 0 ≤ zw (M 11 0 6) ∧ zw (M 11 0 6) < 6
        · rw [if_pos c5] at h
          refine zG_br hm rfl (cf' := (40, [some (zr 0 0), some (zi v1)], [], (zput M 12 0 (zix (M 11 0 6)) v1))) (if_pos c5) ?_
          obtain ⟨M1, eM1, h⟩ := zlet_of h
          rw [eM1]
          refine zG_run hm 7 (cf' := (55, [some (zr 0 0), some (zi v1)], [zi 0, zi (M1 11 0 6), zr 13 0], M1)) rfl ?_
          by_cases c4 : 0 ≤ zw (M1 11 0 6) ∧ zw (M1 11 0 6) < 6
          · rw [if_pos c4] at h
            refine zG_br hm rfl (cf' := (56, [some (zr 0 0), some (zi v1)], [], (zput M1 13 0 (zix (M1 11 0 6)) 0))) (if_pos c4) ?_
            obtain ⟨M2, eM2, h⟩ := zlet_of h
            rw [eM2]
            refine zG_run hm 7 (cf' := (69, [some (zr 0 0), some (zi v1)], [], (zput M2 11 0 6 ((M2 11 0 6) + 1)))) rfl ?_
            obtain ⟨M3, eM3, h⟩ := zlet_of h
            rw [eM3]
            refine zG_run hm 5 (cf' := (78, [some (zr 0 0), some (zi v1)], [zi ((M3 11 0 6) - 1)], M3)) rfl ?_
            cases h
            exact zG_ri hm rfl rfl
          · rw [if_neg c4] at h
            cases h
        · rw [if_neg c5] at h
          cases h
      · rw [if_neg c6] at h
        refine zG_br hm rfl (cf' := (22, [some (zr 0 0), some (zi v1)], [], M)) (if_neg c6) ?_
        refine zG_run hm 1 (cf' := (23, [some (zr 0 0), some (zi v1)], [zi (-1)], M)) rfl ?_
        cases h
        exact zG_ri hm rfl rfl
theorem met_X10_owner {v1 : Int} {M : zM} {q : Int × zM} {d : Nat} (hd : 0 ≤ d) (h : f_X10_owner v1 M = some q) : zMet 66 d [zr 0 0, zi v1] M (some (zi q.1)) q.2 :=
  zMet_of (lv0 := [some (zr 0 0), some (zi v1)]) zmok_66 rfl rfl (fun v hv => by cases hv; trivial) (g_X10_owner hd h)
def f_X11_in (v0 : Int) (v1 : Int) (v2 : Int) (M : zM) : Option (Int × zM) :=
  if zw v0 < zw v1 then
    some (0, M)
  else
    if zw v2 < zw v0 then
      some (0, M)
    else
      some (1, M)
theorem g_X11_in {v0 : Int} {v1 : Int} {v2 : Int} {M : zM} {q : Int × zM} {d : Nat} (hd : 0 ≤ d) (h : f_X11_in v0 v1 v2 M = some q) : zG 117 d (0, [some (zi v0), some (zi v1), some (zi v2)], [], M) (some (zi q.1)) q.2 := by
  have hm := zmok_117
  unfold f_X11_in at h
  refine zG_run hm 2 (cf' := (2, [some (zi v0), some (zi v1), some (zi v2)], [zi v1, zi v0], M)) rfl ?_
  by_cases c2 : zw v0 < zw v1
  · rw [if_pos c2] at h
    refine zG_br hm rfl (cf' := (14, [some (zi v0), some (zi v1), some (zi v2)], [], M)) (if_pos c2) ?_
    refine zG_run hm 1 (cf' := (15, [some (zi v0), some (zi v1), some (zi v2)], [zi 0], M)) rfl ?_
    cases h
    exact zG_rz hm rfl rfl (Or.inl rfl)
  · rw [if_neg c2] at h
    refine zG_br hm rfl (cf' := (5, [some (zi v0), some (zi v1), some (zi v2)], [], M)) (if_neg c2) ?_
    refine zG_run hm 2 (cf' := (7, [some (zi v0), some (zi v1), some (zi v2)], [zi v2, zi v0], M)) rfl ?_
    by_cases c1 : zw v2 < zw v0
    · rw [if_pos c1] at h
      refine zG_br hm rfl (cf' := (14, [some (zi v0), some (zi v1), some (zi v2)], [], M)) (if_pos c1) ?_
      refine zG_run hm 1 (cf' := (15, [some (zi v0), some (zi v1), some (zi v2)], [zi 0], M)) rfl ?_
      cases h
      exact zG_rz hm rfl rfl (Or.inl rfl)
    · rw [if_neg c1] at h
      refine zG_br hm rfl (cf' := (10, [some (zi v0), some (zi v1), some (zi v2)], [], M)) (if_neg c1) ?_
      refine zG_run hm 2 (cf' := (15, [some (zi v0), some (zi v1), some (zi v2)], [zi 1], M)) rfl ?_
      cases h
      exact zG_rz hm rfl rfl (Or.inr rfl)
theorem met_X11_in {v0 : Int} {v1 : Int} {v2 : Int} {M : zM} {q : Int × zM} {d : Nat} (hd : 0 ≤ d) (h : f_X11_in v0 v1 v2 M = some q) : zMet 117 d [zi v0, zi v1, zi v2] M (some (zi q.1)) q.2 :=
  zMet_of (lv0 := [some (zi v0), some (zi v1), some (zi v2)]) zmok_117 rfl rfl (fun v hv => by cases hv; trivial) (g_X11_in hd h)
def f_X11_owner (v1 : Int) (M : zM) : Option (Int × zM) :=
  (f_X11_in v1 0 10 M).bind fun p1 =>
    if zw p1.1 = 0 then
      some ((-1), p1.2)
    else
      if ¬ zw (M 43 0 0) = 6 then
        if 0 ≤ zw (10 + (M 43 0 0)) ∧ zw (10 + (M 43 0 0)) < 5090 then
          zlet (zput p1.2 43 0 (zix (10 + (M 43 0 0))) v1) fun M2 =>
          zlet (zput M2 43 0 0 ((M2 43 0 0) + 1)) fun M3 =>
          some ((M 43 0 0), M3)
        else
          none
      else
        some ((-1), p1.2)
theorem g_X11_owner {v1 : Int} {M : zM} {q : Int × zM} {d : Nat} (hd : 1 ≤ d) (h : f_X11_owner v1 M = some q) : zG 124 d (0, [some (zr 42 0), some (zi v1), none], [], M) (some (zi q.1)) q.2 := by
  have hm := zmok_124
  unfold f_X11_owner at h
  refine zG_run hm 8 (cf' := (11, [some (zr 42 0), some (zi v1), some (zi (M 43 0 0))], [zi 10, zi 0, zi v1], M)) rfl ?_
  obtain ⟨p1, hp1, h⟩ := Option.bind_eq_some_iff.mp h
  refine zG_S hm zmok_117 rfl (as := [zi v1, zi 0, zi 10]) (rest := []) (st2 := [zi p1.1]) (pc2 := 14) rfl rfl (by omega) (met_X11_in (d := 0) (Nat.le_refl _) hp1) rfl ?_
  by_cases c6 : zw p1.1 = 0
  · rw [if_pos c6] at h
    refine zG_br hm rfl (cf' := (23, [some (zr 42 0), some (zi v1), some (zi (M 43 0 0))], [], p1.2)) (if_pos c6) ?_
    refine zG_run hm 1 (cf' := (24, [some (zr 42 0), some (zi v1), some (zi (M 43 0 0))], [zi (-1)], p1.2)) rfl ?_
    cases h
    exact zG_ri hm rfl rfl
  · rw [if_neg c6] at h
    refine zG_br hm rfl (cf' := (17, [some (zr 42 0), some (zi v1), some (zi (M 43 0 0))], [], p1.2)) (if_neg c6) ?_
    refine zG_run hm 2 (cf' := (20, [some (zr 42 0), some (zi v1), some (zi (M 43 0 0))], [zi 6, zi (M 43 0 0)], p1.2)) rfl ?_
    by_cases c5 : ¬ zw (M 43 0 0) = 6
    · rw [if_pos c5] at h
      refine zG_br hm rfl (cf' := (25, [some (zr 42 0), some (zi v1), some (zi (M 43 0 0))], [], p1.2)) (if_pos c5) ?_
      refine zG_run hm 6 (cf' := (34, [some (zr 42 0), some (zi v1), some (zi (M 43 0 0))], [zi v1, zi (10 + (M 43 0 0)), zr 43 0], p1.2)) rfl ?_
      by_cases c4 : 0 ≤ zw (10 + (M 43 0 0)) ∧ zw (10 + (M 43 0 0)) < 5090
      · rw [if_pos c4] at h
        refine zG_br hm rfl (cf' := (35, [some (zr 42 0), some (zi v1), some (zi (M 43 0 0))], [], (zput p1.2 43 0 (zix (10 + (M 43 0 0))) v1))) (if_pos c4) ?_
        obtain ⟨M2, eM2, h⟩ := zlet_of h
        rw [eM2]
        refine zG_run hm 8 (cf' := (45, [some (zr 42 0), some (zi v1), some (zi (M 43 0 0))], [], (zput M2 43 0 0 ((M2 43 0 0) + 1)))) rfl ?_
        obtain ⟨M3, eM3, h⟩ := zlet_of h
        rw [eM3]
        refine zG_run hm 1 (cf' := (46, [some (zr 42 0), some (zi v1), some (zi (M 43 0 0))], [zi (M 43 0 0)], M3)) rfl ?_
        cases h
        exact zG_ri hm rfl rfl
      · rw [if_neg c4] at h
        cases h
    · rw [if_neg c5] at h
      refine zG_br hm rfl (cf' := (23, [some (zr 42 0), some (zi v1), some (zi (M 43 0 0))], [], p1.2)) (if_neg c5) ?_
      refine zG_run hm 1 (cf' := (24, [some (zr 42 0), some (zi v1), some (zi (M 43 0 0))], [zi (-1)], p1.2)) rfl ?_
      cases h
      exact zG_ri hm rfl rfl
theorem met_X11_owner {v1 : Int} {M : zM} {q : Int × zM} {d : Nat} (hd : 1 ≤ d) (h : f_X11_owner v1 M = some q) : zMet 124 d [zr 42 0, zi v1] M (some (zi q.1)) q.2 :=
  zMet_of (lv0 := [some (zr 42 0), some (zi v1), none]) zmok_124 rfl rfl (fun v hv => by cases hv; trivial) (g_X11_owner hd h)
def f_X10_within (v0 : Int) (v1 : Int) (v2 : Int) (M : zM) : Option (Int × zM) :=
  if zw v0 < zw v1 then
    some (0, M)
  else
    if zw v2 < zw v0 then
      some (0, M)
    else
      some (1, M)
theorem g_X10_within {v0 : Int} {v1 : Int} {v2 : Int} {M : zM} {q : Int × zM} {d : Nat} (hd : 0 ≤ d) (h : f_X10_within v0 v1 v2 M = some q) : zG 108 d (0, [some (zi v0), some (zi v1), some (zi v2)], [], M) (some (zi q.1)) q.2 := by
  have hm := zmok_108
  unfold f_X10_within at h
  refine zG_run hm 2 (cf' := (2, [some (zi v0), some (zi v1), some (zi v2)], [zi v1, zi v0], M)) rfl ?_
  by_cases c2 : zw v0 < zw v1
  · rw [if_pos c2] at h
    refine zG_br hm rfl (cf' := (14, [some (zi v0), some (zi v1), some (zi v2)], [], M)) (if_pos c2) ?_
    refine zG_run hm 1 (cf' := (15, [some (zi v0), some (zi v1), some (zi v2)], [zi 0], M)) rfl ?_
    cases h
    exact zG_rz hm rfl rfl (Or.inl rfl)
  · rw [if_neg c2] at h
    refine zG_br hm rfl (cf' := (5, [some (zi v0), some (zi v1), some (zi v2)], [], M)) (if_neg c2) ?_
    refine zG_run hm 2 (cf' := (7, [some (zi v0), some (zi v1), some (zi v2)], [zi v2, zi v0], M)) rfl ?_
    by_cases c1 : zw v2 < zw v0
    · rw [if_pos c1] at h
      refine zG_br hm rfl (cf' := (14, [some (zi v0), some (zi v1), some (zi v2)], [], M)) (if_pos c1) ?_
      refine zG_run hm 1 (cf' := (15, [some (zi v0), some (zi v1), some (zi v2)], [zi 0], M)) rfl ?_
      cases h
      exact zG_rz hm rfl rfl (Or.inl rfl)
    · rw [if_neg c1] at h
      refine zG_br hm rfl (cf' := (10, [some (zi v0), some (zi v1), some (zi v2)], [], M)) (if_neg c1) ?_
      refine zG_run hm 2 (cf' := (15, [some (zi v0), some (zi v1), some (zi v2)], [zi 1], M)) rfl ?_
      cases h
      exact zG_rz hm rfl rfl (Or.inr rfl)
theorem met_X10_within {v0 : Int} {v1 : Int} {v2 : Int} {M : zM} {q : Int × zM} {d : Nat} (hd : 0 ≤ d) (h : f_X10_within v0 v1 v2 M = some q) : zMet 108 d [zi v0, zi v1, zi v2] M (some (zi q.1)) q.2 :=
  zMet_of (lv0 := [some (zi v0), some (zi v1), some (zi v2)]) zmok_108 rfl rfl (fun v hv => by cases hv; trivial) (g_X10_within hd h)
def f_X8_beAsTold (n0 : Nat) (M : zM) : Option (zM) :=
  zlet (zput M 16 n0 3 (M 16 n0 0)) fun M1 =>
  zlet (zput M1 16 n0 4 (M1 16 n0 1)) fun M2 =>
  zlet (zput M2 16 n0 5 0) fun M3 =>
  zlet (zput M3 16 n0 6 (M3 16 n0 1)) fun M4 =>
  some M4
theorem g_X8_beAsTold {n0 : Nat} {M : zM} {q : zM} {d : Nat} (hd : 0 ≤ d) (h : f_X8_beAsTold n0 M = some q) : zG 59 d (0, [some (zr 16 n0)], [], M) none q := by
  have hm := zmok_59
  unfold f_X8_beAsTold at h
  refine zG_run hm 4 (cf' := (8, [some (zr 16 n0)], [], (zput M 16 n0 3 (M 16 n0 0)))) rfl ?_
  obtain ⟨M1, eM1, h⟩ := zlet_of h
  rw [eM1]
  refine zG_run hm 4 (cf' := (16, [some (zr 16 n0)], [], (zput M1 16 n0 4 (M1 16 n0 1)))) rfl ?_
  obtain ⟨M2, eM2, h⟩ := zlet_of h
  rw [eM2]
  refine zG_run hm 3 (cf' := (21, [some (zr 16 n0)], [], (zput M2 16 n0 5 0))) rfl ?_
  obtain ⟨M3, eM3, h⟩ := zlet_of h
  rw [eM3]
  refine zG_run hm 4 (cf' := (29, [some (zr 16 n0)], [], (zput M3 16 n0 6 (M3 16 n0 1)))) rfl ?_
  obtain ⟨M4, eM4, h⟩ := zlet_of h
  rw [eM4]
  cases h
  exact zG_rv hm rfl rfl
theorem met_X8_beAsTold {n0 : Nat} {M : zM} {q : zM} {d : Nat} (hd : 0 ≤ d) (h : f_X8_beAsTold n0 M = some q) : zMet 59 d [zr 16 n0] M none q :=
  zMet_of (lv0 := [some (zr 16 n0)]) zmok_59 rfl rfl (fun v hv => by cases hv) (g_X8_beAsTold hd h)
def f_X8_tell (n0 : Nat) (v1 : Int) (v2 : Int) (v3 : Int) (M : zM) : Option (zM) :=
  zlet (zput M 16 n0 0 v1) fun M1 =>
  zlet (zput M1 16 n0 1 v2) fun M2 =>
  zlet (zput M2 16 n0 2 v3) fun M3 =>
  (f_X8_beAsTold n0 M3).bind fun p4 =>
    some p4
theorem g_X8_tell {n0 : Nat} {v1 : Int} {v2 : Int} {v3 : Int} {M : zM} {q : zM} {d : Nat} (hd : 1 ≤ d) (h : f_X8_tell n0 v1 v2 v3 M = some q) : zG 58 d (0, [some (zr 16 n0), some (zi v1), some (zi v2), some (zi v3)], [], M) none q := by
  have hm := zmok_58
  unfold f_X8_tell at h
  refine zG_run hm 3 (cf' := (5, [some (zr 16 n0), some (zi v1), some (zi v2), some (zi v3)], [], (zput M 16 n0 0 v1))) rfl ?_
  obtain ⟨M1, eM1, h⟩ := zlet_of h
  rw [eM1]
  refine zG_run hm 3 (cf' := (10, [some (zr 16 n0), some (zi v1), some (zi v2), some (zi v3)], [], (zput M1 16 n0 1 v2))) rfl ?_
  obtain ⟨M2, eM2, h⟩ := zlet_of h
  rw [eM2]
  refine zG_run hm 3 (cf' := (15, [some (zr 16 n0), some (zi v1), some (zi v2), some (zi v3)], [], (zput M2 16 n0 2 v3))) rfl ?_
  obtain ⟨M3, eM3, h⟩ := zlet_of h
  rw [eM3]
  refine zG_run hm 1 (cf' := (16, [some (zr 16 n0), some (zi v1), some (zi v2), some (zi v3)], [zr 16 n0], M3)) rfl ?_
  obtain ⟨p4, hp4, h⟩ := Option.bind_eq_some_iff.mp h
  refine zG_V hm zmok_59 rfl (as := []) (rest := []) (st2 := []) (pc2 := 19) rfl rfl (by omega) (met_X8_beAsTold (d := 0) (Nat.le_refl _) hp4) rfl ?_
  cases h
  exact zG_rv hm rfl rfl
theorem met_X8_tell {n0 : Nat} {v1 : Int} {v2 : Int} {v3 : Int} {M : zM} {q : zM} {d : Nat} (hd : 1 ≤ d) (h : f_X8_tell n0 v1 v2 v3 M = some q) : zMet 58 d [zr 16 n0, zi v1, zi v2, zi v3] M none q :=
  zMet_of (lv0 := [some (zr 16 n0), some (zi v1), some (zi v2), some (zi v3)]) zmok_58 rfl rfl (fun v hv => by cases hv) (g_X8_tell hd h)
def f_X0_hasOwner (n0 : Nat) (v1 : Int) (M : zM) : Option (Int × zM) :=
  if zw v1 < 0 then
    some (0, M)
  else
    if zw (M 11 n0 6) ≤ zw v1 then
      some (0, M)
    else
      some (1, M)
theorem g_X0_hasOwner {n0 : Nat} {v1 : Int} {M : zM} {q : Int × zM} {d : Nat} (hd : 0 ≤ d) (h : f_X0_hasOwner n0 v1 M = some q) : zG 3 d (0, [some (zr 11 n0), some (zi v1)], [], M) (some (zi q.1)) q.2 := by
  have hm := zmok_3
  unfold f_X0_hasOwner at h
  refine zG_run hm 1 (cf' := (1, [some (zr 11 n0), some (zi v1)], [zi v1], M)) rfl ?_
  by_cases c2 : zw v1 < 0
  · rw [if_pos c2] at h
    refine zG_br hm rfl (cf' := (16, [some (zr 11 n0), some (zi v1)], [], M)) (if_pos c2) ?_
    refine zG_run hm 1 (cf' := (17, [some (zr 11 n0), some (zi v1)], [zi 0], M)) rfl ?_
    cases h
    exact zG_rz hm rfl rfl (Or.inl rfl)
  · rw [if_neg c2] at h
    refine zG_br hm rfl (cf' := (4, [some (zr 11 n0), some (zi v1)], [], M)) (if_neg c2) ?_
    refine zG_run hm 3 (cf' := (9, [some (zr 11 n0), some (zi v1)], [zi (M 11 n0 6), zi v1], M)) rfl ?_
    by_cases c1 : zw (M 11 n0 6) ≤ zw v1
    · rw [if_pos c1] at h
      refine zG_br hm rfl (cf' := (16, [some (zr 11 n0), some (zi v1)], [], M)) (if_pos c1) ?_
      refine zG_run hm 1 (cf' := (17, [some (zr 11 n0), some (zi v1)], [zi 0], M)) rfl ?_
      cases h
      exact zG_rz hm rfl rfl (Or.inl rfl)
    · rw [if_neg c1] at h
      refine zG_br hm rfl (cf' := (12, [some (zr 11 n0), some (zi v1)], [], M)) (if_neg c1) ?_
      refine zG_run hm 2 (cf' := (17, [some (zr 11 n0), some (zi v1)], [zi 1], M)) rfl ?_
      cases h
      exact zG_rz hm rfl rfl (Or.inr rfl)
theorem met_X0_hasOwner {n0 : Nat} {v1 : Int} {M : zM} {q : Int × zM} {d : Nat} (hd : 0 ≤ d) (h : f_X0_hasOwner n0 v1 M = some q) : zMet 3 d [zr 11 n0, zi v1] M (some (zi q.1)) q.2 :=
  zMet_of (lv0 := [some (zr 11 n0), some (zi v1)]) zmok_3 rfl rfl (fun v hv => by cases hv; trivial) (g_X0_hasOwner hd h)
def f_X10_thing_j36 (v1 : Int) (v2 : Int) (v3 : Int) (vs0 : Int) (M : zM) : Option (Int × zM) :=
  if zw vs0 = 0 then
    some ((-1), M)
  else
    if zw (M 11 0 7) < 8 then
      if 0 ≤ zw (M 11 0 7) ∧ zw (M 11 0 7) < 8 then
        (f_X8_tell (zix (M 11 0 7)) v1 v2 v3 M).bind fun p2 =>
          zlet (zput p2 11 0 7 ((p2 11 0 7) + 1)) fun M3 =>
          some (((M3 11 0 7) - 1), M3)
      else
        none
    else
      some ((-1), M)
theorem g_X10_thing_j36 {v1 : Int} {v2 : Int} {v3 : Int} {vs0 : Int} {M : zM} {q : Int × zM} {d : Nat} (hd : 2 ≤ d) (h : f_X10_thing_j36 v1 v2 v3 vs0 M = some q) : zG 67 d (36, [some (zr 0 0), some (zi v1), some (zi v2), some (zi v3), none], [zi vs0], M) (some (zi q.1)) q.2 := by
  have hm := zmok_67
  unfold f_X10_thing_j36 at h
  refine zG_run hm 2 (cf' := (40, [some (zr 0 0), some (zi v1), some (zi v2), some (zi v3), some (zi vs0)], [zi vs0], M)) rfl ?_
  by_cases c6 : zw vs0 = 0
  · rw [if_pos c6] at h
    refine zG_br hm rfl (cf' := (55, [some (zr 0 0), some (zi v1), some (zi v2), some (zi v3), some (zi vs0)], [], M)) (if_pos c6) ?_
    refine zG_run hm 1 (cf' := (56, [some (zr 0 0), some (zi v1), some (zi v2), some (zi v3), some (zi vs0)], [zi (-1)], M)) rfl ?_
    cases h
    exact zG_ri hm rfl rfl
  · rw [if_neg c6] at h
    refine zG_br hm rfl (cf' := (43, [some (zr 0 0), some (zi v1), some (zi v2), some (zi v3), some (zi vs0)], [], M)) (if_neg c6) ?_
    refine zG_run hm 4 (cf' := (52, [some (zr 0 0), some (zi v1), some (zi v2), some (zi v3), some (zi vs0)], [zi 8, zi (M 11 0 7)], M)) rfl ?_
    by_cases c5 : zw (M 11 0 7) < 8
    · rw [if_pos c5] at h
      refine zG_br hm rfl (cf' := (57, [some (zr 0 0), some (zi v1), some (zi v2), some (zi v3), some (zi vs0)], [], M)) (if_pos c5) ?_
      refine zG_run hm 6 (cf' := (71, [some (zr 0 0), some (zi v1), some (zi v2), some (zi v3), some (zi vs0)], [zi (M 11 0 7), zr 14 0], M)) rfl ?_
      by_cases c4 : 0 ≤ zw (M 11 0 7) ∧ zw (M 11 0 7) < 8
      · rw [if_pos c4] at h
        refine zG_br hm rfl (cf' := (72, [some (zr 0 0), some (zi v1), some (zi v2), some (zi v3), some (zi vs0)], [zr 16 (zix (M 11 0 7))], M)) (if_pos c4) ?_
        refine zG_run hm 3 (cf' := (75, [some (zr 0 0), some (zi v1), some (zi v2), some (zi v3), some (zi vs0)], [zi v3, zi v2, zi v1, zr 16 (zix (M 11 0 7))], M)) rfl ?_
        obtain ⟨p2, hp2, h⟩ := Option.bind_eq_some_iff.mp h
        refine zG_V hm zmok_58 rfl (as := [zi v1, zi v2, zi v3]) (rest := []) (st2 := []) (pc2 := 78) rfl rfl (by omega) (met_X8_tell (d := 1) (Nat.le_refl _) hp2) rfl ?_
        refine zG_run hm 7 (cf' := (91, [some (zr 0 0), some (zi v1), some (zi v2), some (zi v3), some (zi vs0)], [], (zput p2 11 0 7 ((p2 11 0 7) + 1)))) rfl ?_
        obtain ⟨M3, eM3, h⟩ := zlet_of h
        rw [eM3]
        refine zG_run hm 5 (cf' := (100, [some (zr 0 0), some (zi v1), some (zi v2), some (zi v3), some (zi vs0)], [zi ((M3 11 0 7) - 1)], M3)) rfl ?_
        cases h
        exact zG_ri hm rfl rfl
      · rw [if_neg c4] at h
        cases h
    · rw [if_neg c5] at h
      refine zG_br hm rfl (cf' := (55, [some (zr 0 0), some (zi v1), some (zi v2), some (zi v3), some (zi vs0)], [], M)) (if_neg c5) ?_
      refine zG_run hm 1 (cf' := (56, [some (zr 0 0), some (zi v1), some (zi v2), some (zi v3), some (zi vs0)], [zi (-1)], M)) rfl ?_
      cases h
      exact zG_ri hm rfl rfl
def f_X10_thing_j35 (v1 : Int) (v2 : Int) (v3 : Int) (M : zM) : Option (Int × zM) :=
  f_X10_thing_j36 v1 v2 v3 0 M
theorem g_X10_thing_j35 {v1 : Int} {v2 : Int} {v3 : Int} {M : zM} {q : Int × zM} {d : Nat} (hd : 2 ≤ d) (h : f_X10_thing_j35 v1 v2 v3 M = some q) : zG 67 d (35, [some (zr 0 0), some (zi v1), some (zi v2), some (zi v3), none], [], M) (some (zi q.1)) q.2 := by
  have hm := zmok_67
  unfold f_X10_thing_j35 at h
  refine zG_run hm 1 (cf' := (36, [some (zr 0 0), some (zi v1), some (zi v2), some (zi v3), none], [zi 0], M)) rfl ?_
  refine zG_sub (lv' := [some (zr 0 0), some (zi v1), some (zi v2), some (zi v3), none]) (zsb_s rfl (zsb_s rfl (zsb_s rfl (zsb_s rfl (zsb_n zsb_0))))) ?_
  exact g_X10_thing_j36 hd h
def f_X10_thing (v1 : Int) (v2 : Int) (v3 : Int) (M : zM) : Option (Int × zM) :=
  (f_X10_within v1 0 99 M).bind fun p1 =>
    if zw p1.1 = 0 then
      f_X10_thing_j35 v1 v2 v3 p1.2
    else
      (f_X0_hasOwner 0 v2 p1.2).bind fun p7 =>
        if zw p7.1 = 0 then
          f_X10_thing_j35 v1 v2 v3 p7.2
        else
          (f_X10_within v3 1 9 p7.2).bind fun p8 =>
            if zw p8.1 = 0 then
              f_X10_thing_j35 v1 v2 v3 p8.2
            else
              f_X10_thing_j36 v1 v2 v3 1 p8.2
theorem g_X10_thing {v1 : Int} {v2 : Int} {v3 : Int} {M : zM} {q : Int × zM} {d : Nat} (hd : 2 ≤ d) (h : f_X10_thing v1 v2 v3 M = some q) : zG 67 d (0, [some (zr 0 0), some (zi v1), some (zi v2), some (zi v3), none], [], M) (some (zi q.1)) q.2 := by
  have hm := zmok_67
  unfold f_X10_thing at h
  refine zG_run hm 3 (cf' := (4, [some (zr 0 0), some (zi v1), some (zi v2), some (zi v3), none], [zi 99, zi 0, zi v1], M)) rfl ?_
  obtain ⟨p1, hp1, h⟩ := Option.bind_eq_some_iff.mp h
  refine zG_S hm zmok_108 rfl (as := [zi v1, zi 0, zi 99]) (rest := []) (st2 := [zi p1.1]) (pc2 := 7) rfl rfl (by omega) (met_X10_within (d := 0) (Nat.le_refl _) hp1) rfl ?_
  by_cases c11 : zw p1.1 = 0
  · rw [if_pos c11] at h
    refine zG_br hm rfl (cf' := (35, [some (zr 0 0), some (zi v1), some (zi v2), some (zi v3), none], [], p1.2)) (if_pos c11) ?_
    refine zG_sub (lv' := [some (zr 0 0), some (zi v1), some (zi v2), some (zi v3), none]) (zsb_s rfl (zsb_s rfl (zsb_s rfl (zsb_s rfl (zsb_n zsb_0))))) ?_
    exact g_X10_thing_j35 hd h
  · rw [if_neg c11] at h
    refine zG_br hm rfl (cf' := (10, [some (zr 0 0), some (zi v1), some (zi v2), some (zi v3), none], [], p1.2)) (if_neg c11) ?_
    refine zG_run hm 3 (cf' := (15, [some (zr 0 0), some (zi v1), some (zi v2), some (zi v3), none], [zi v2, zr 11 0], p1.2)) rfl ?_
    obtain ⟨p7, hp7, h⟩ := Option.bind_eq_some_iff.mp h
    refine zG_V hm zmok_3 rfl (as := [zi v2]) (rest := []) (st2 := [zi p7.1]) (pc2 := 18) rfl rfl (by omega) (met_X0_hasOwner (d := 0) (Nat.le_refl _) hp7) rfl ?_
    by_cases c10 : zw p7.1 = 0
    · rw [if_pos c10] at h
      refine zG_br hm rfl (cf' := (35, [some (zr 0 0), some (zi v1), some (zi v2), some (zi v3), none], [], p7.2)) (if_pos c10) ?_
      refine zG_sub (lv' := [some (zr 0 0), some (zi v1), some (zi v2), some (zi v3), none]) (zsb_s rfl (zsb_s rfl (zsb_s rfl (zsb_s rfl (zsb_n zsb_0))))) ?_
      exact g_X10_thing_j35 hd h
    · rw [if_neg c10] at h
      refine zG_br hm rfl (cf' := (21, [some (zr 0 0), some (zi v1), some (zi v2), some (zi v3), none], [], p7.2)) (if_neg c10) ?_
      refine zG_run hm 3 (cf' := (25, [some (zr 0 0), some (zi v1), some (zi v2), some (zi v3), none], [zi 9, zi 1, zi v3], p7.2)) rfl ?_
      obtain ⟨p8, hp8, h⟩ := Option.bind_eq_some_iff.mp h
      refine zG_S hm zmok_108 rfl (as := [zi v3, zi 1, zi 9]) (rest := []) (st2 := [zi p8.1]) (pc2 := 28) rfl rfl (by omega) (met_X10_within (d := 0) (Nat.le_refl _) hp8) rfl ?_
      by_cases c9 : zw p8.1 = 0
      · rw [if_pos c9] at h
        refine zG_br hm rfl (cf' := (35, [some (zr 0 0), some (zi v1), some (zi v2), some (zi v3), none], [], p8.2)) (if_pos c9) ?_
        refine zG_sub (lv' := [some (zr 0 0), some (zi v1), some (zi v2), some (zi v3), none]) (zsb_s rfl (zsb_s rfl (zsb_s rfl (zsb_s rfl (zsb_n zsb_0))))) ?_
        exact g_X10_thing_j35 hd h
      · rw [if_neg c9] at h
        refine zG_br hm rfl (cf' := (31, [some (zr 0 0), some (zi v1), some (zi v2), some (zi v3), none], [], p8.2)) (if_neg c9) ?_
        refine zG_run hm 2 (cf' := (36, [some (zr 0 0), some (zi v1), some (zi v2), some (zi v3), none], [zi 1], p8.2)) rfl ?_
        refine zG_sub (lv' := [some (zr 0 0), some (zi v1), some (zi v2), some (zi v3), none]) (zsb_s rfl (zsb_s rfl (zsb_s rfl (zsb_s rfl (zsb_n zsb_0))))) ?_
        exact g_X10_thing_j36 hd h
theorem met_X10_thing {v1 : Int} {v2 : Int} {v3 : Int} {M : zM} {q : Int × zM} {d : Nat} (hd : 2 ≤ d) (h : f_X10_thing v1 v2 v3 M = some q) : zMet 67 d [zr 0 0, zi v1, zi v2, zi v3] M (some (zi q.1)) q.2 :=
  zMet_of (lv0 := [some (zr 0 0), some (zi v1), some (zi v2), some (zi v3), none]) zmok_67 rfl rfl (fun v hv => by cases hv; trivial) (g_X10_thing hd h)
def f_X11_isOwner (v1 : Int) (M : zM) : Option (Int × zM) :=
  (f_X11_in v1 0 ((M 43 0 0) - 1) M).bind fun p1 =>
    if p1.1 = 0 ∨ p1.1 = 1 then
      some (p1.1, p1.2)
    else
      none
theorem g_X11_isOwner {v1 : Int} {M : zM} {q : Int × zM} {d : Nat} (hd : 1 ≤ d) (h : f_X11_isOwner v1 M = some q) : zG 122 d (0, [some (zr 42 0), some (zi v1)], [], M) (some (zi q.1)) q.2 := by
  have hm := zmok_122
  unfold f_X11_isOwner at h
  refine zG_run hm 8 (cf' := (10, [some (zr 42 0), some (zi v1)], [zi ((M 43 0 0) - 1), zi 0, zi v1], M)) rfl ?_
  obtain ⟨p1, hp1, h⟩ := Option.bind_eq_some_iff.mp h
  refine zG_S hm zmok_117 rfl (as := [zi v1, zi 0, zi ((M 43 0 0) - 1)]) (rest := []) (st2 := [zi p1.1]) (pc2 := 13) rfl rfl (by omega) (met_X11_in (d := 0) (Nat.le_refl _) hp1) rfl ?_
  by_cases hz : p1.1 = 0 ∨ p1.1 = 1
  · rw [if_pos hz] at h
    cases h
    exact zG_rz hm rfl rfl hz
  · rw [if_neg hz] at h
    cases h
theorem met_X11_isOwner {v1 : Int} {M : zM} {q : Int × zM} {d : Nat} (hd : 1 ≤ d) (h : f_X11_isOwner v1 M = some q) : zMet 122 d [zr 42 0, zi v1] M (some (zi q.1)) q.2 :=
  zMet_of (lv0 := [some (zr 42 0), some (zi v1)]) zmok_122 rfl rfl (fun v hv => by cases hv; trivial) (g_X11_isOwner hd h)
def f_X11_tells_L12 (v1 : Int) (v2 : Int) (v3 : Int) (M : zM) : Option ((Int × zM) ⊕ (zM)) :=
  if zw (M 43 0 5) ≤ zw v3 then
    some (.inr M)
  else
    if 0 ≤ zw ((260 + (161 * v3)) + v1) ∧ zw ((260 + (161 * v3)) + v1) < 5090 then
      zlet (zput M 43 0 (zix ((260 + (161 * v3)) + v1)) v2) fun M2 =>
      some (.inl ((v3 + 1), M2))
    else
      none
theorem g_X11_tells_L12 {v1 : Int} {v2 : Int} {v3 : Int} {M : zM} {x : (Int × zM) ⊕ (zM)} {r : Option zV} {Mf : zM} {d : Nat} (hd : 0 ≤ d) (h : f_X11_tells_L12 v1 v2 v3 M = some x)
    (kc : ∀ s, x = .inl s → zG 125 d (12, [some (zr 42 0), some (zi v1), some (zi v2), some (zi s.1)], [], s.2) r Mf)
    (kb : ∀ t, x = .inr t → zG 125 d (45, [none, none, none, none], [], t) r Mf) (kr : True) : zG 125 d (12, [some (zr 42 0), some (zi v1), some (zi v2), some (zi v3)], [], M) r Mf := by
  have hm := zmok_125
  unfold f_X11_tells_L12 at h
  refine zG_run hm 5 (cf' := (19, [some (zr 42 0), some (zi v1), some (zi v2), some (zi v3)], [zi (M 43 0 5), zi v3], M)) rfl ?_
  by_cases c4 : zw (M 43 0 5) ≤ zw v3
  · rw [if_pos c4] at h
    refine zG_br hm rfl (cf' := (45, [some (zr 42 0), some (zi v1), some (zi v2), some (zi v3)], [], M)) (if_pos c4) ?_
    refine zG_sub (lv' := [none, none, none, none]) (zsb_n (zsb_n (zsb_n (zsb_n zsb_0)))) ?_
    exact kb M (Option.some.inj h).symm
  · rw [if_neg c4] at h
    refine zG_br hm rfl (cf' := (22, [some (zr 42 0), some (zi v1), some (zi v2), some (zi v3)], [], M)) (if_neg c4) ?_
    refine zG_run hm 10 (cf' := (38, [some (zr 42 0), some (zi v1), some (zi v2), some (zi v3)], [zi v2, zi ((260 + (161 * v3)) + v1), zr 43 0], M)) rfl ?_
    by_cases c3 : 0 ≤ zw ((260 + (161 * v3)) + v1) ∧ zw ((260 + (161 * v3)) + v1) < 5090
    · rw [if_pos c3] at h
      refine zG_br hm rfl (cf' := (39, [some (zr 42 0), some (zi v1), some (zi v2), some (zi v3)], [], (zput M 43 0 (zix ((260 + (161 * v3)) + v1)) v2))) (if_pos c3) ?_
      obtain ⟨M2, eM2, h⟩ := zlet_of h
      rw [eM2]
      refine zG_run hm 2 (cf' := (12, [some (zr 42 0), some (zi v1), some (zi v2), some (zi (v3 + 1))], [], M2)) rfl ?_
      refine zG_sub (lv' := [some (zr 42 0), some (zi v1), some (zi v2), some (zi (v3 + 1))]) (zsb_s rfl (zsb_s rfl (zsb_s rfl (zsb_s rfl zsb_0)))) ?_
      exact kc ((v3 + 1), M2) (Option.some.inj h).symm
    · rw [if_neg c3] at h
      cases h
theorem gl_X11_tells_L12 {v1 : Int} {v2 : Int} {y : zM} {r : Option zV} {Mf : zM} {d : Nat} (hd : 0 ≤ d)
    (kb : ∀ t, y = t → zG 125 d (45, [none, none, none, none], [], t) r Mf) (kr : True) : ∀ (n : Nat) (s : Int × zM), zlp (fun s : Int × zM => f_X11_tells_L12 v1 v2 s.1 s.2) n s = some y → zG 125 d (12, [some (zr 42 0), some (zi v1), some (zi v2), some (zi s.1)], [], s.2) r Mf := by
  intro n
  induction n with
  | zero => intro s h; cases h
  | succ n ih =>
    intro s h
    rcases zlp_cases h with ⟨s', h1, h2⟩ | h1
    · exact g_X11_tells_L12 hd h1 (fun s2 e2 => by cases e2; exact ih _ h2) (fun t e2 => by cases e2) trivial
    · exact g_X11_tells_L12 hd h1 (fun s2 e2 => by cases e2) (fun t e2 => kb t (Sum.inr.inj e2)) trivial
def f_X11_tells (v1 : Int) (v2 : Int) (M : zM) : Option (zM) :=
  if 0 ≤ zw (90 + v1) ∧ zw (90 + v1) < 5090 then
    zlet (zput M 43 0 (zix (90 + v1)) v2) fun M1 =>
    (zlp (fun s : Int × zM => f_X11_tells_L12 v1 v2 s.1 s.2) zF (0, M1)).bind fun y5 =>
      some y5
  else
    none
theorem g_X11_tells {v1 : Int} {v2 : Int} {M : zM} {q : zM} {d : Nat} (hd : 0 ≤ d) (h : f_X11_tells v1 v2 M = some q) : zG 125 d (0, [some (zr 42 0), some (zi v1), some (zi v2), none], [], M) none q := by
  have hm := zmok_125
  unfold f_X11_tells at h
  refine zG_run hm 6 (cf' := (9, [some (zr 42 0), some (zi v1), some (zi v2), none], [zi v2, zi (90 + v1), zr 43 0], M)) rfl ?_
  by_cases c6 : 0 ≤ zw (90 + v1) ∧ zw (90 + v1) < 5090
  · rw [if_pos c6] at h
    refine zG_br hm rfl (cf' := (10, [some (zr 42 0), some (zi v1), some (zi v2), none], [], (zput M 43 0 (zix (90 + v1)) v2))) (if_pos c6) ?_
    obtain ⟨M1, eM1, h⟩ := zlet_of h
    rw [eM1]
    refine zG_run hm 2 (cf' := (12, [some (zr 42 0), some (zi v1), some (zi v2), some (zi 0)], [], M1)) rfl ?_
    refine zG_sub (lv' := [some (zr 42 0), some (zi v1), some (zi v2), some (zi 0)]) (zsb_s rfl (zsb_s rfl (zsb_s rfl (zsb_s rfl zsb_0)))) ?_
    obtain ⟨y5, hy5, h⟩ := Option.bind_eq_some_iff.mp h
    refine gl_X11_tells_L12 hd (fun t e2 => ?_) trivial zF (0, M1) hy5
    cases e2
    cases h
    exact zG_rv hm rfl rfl
  · rw [if_neg c6] at h
    cases h
theorem met_X11_tells {v1 : Int} {v2 : Int} {M : zM} {q : zM} {d : Nat} (hd : 0 ≤ d) (h : f_X11_tells v1 v2 M = some q) : zMet 125 d [zr 42 0, zi v1, zi v2] M none q :=
  zMet_of (lv0 := [some (zr 42 0), some (zi v1), some (zi v2), none]) zmok_125 rfl rfl (fun v hv => by cases hv) (g_X11_tells hd h)
def f_X11_thing (v1 : Int) (v2 : Int) (v3 : Int) (M : zM) : Option (Int × zM) :=
  (f_X11_in v1 0 99 M).bind fun p1 =>
    if zw p1.1 = 0 then
      some ((-1), p1.2)
    else
      (f_X11_isOwner v2 p1.2).bind fun p2 =>
        if zw p2.1 = 0 then
          some ((-1), p2.2)
        else
          (f_X11_in v3 1 9 p2.2).bind fun p3 =>
            if zw p3.1 = 0 then
              some ((-1), p3.2)
            else
              if ¬ zw (M 43 0 1) = 8 then
                if 0 ≤ zw (16 + (M 43 0 1)) ∧ zw (16 + (M 43 0 1)) < 5090 then
                  zlet (zput p3.2 43 0 (zix (16 + (M 43 0 1))) v2) fun M4 =>
                  if 0 ≤ zw (24 + (M 43 0 1)) ∧ zw (24 + (M 43 0 1)) < 5090 then
                    zlet (zput M4 43 0 (zix (24 + (M 43 0 1))) v3) fun M5 =>
                    (f_X11_tells (6 + (M 43 0 1)) v1 M5).bind fun p6 =>
                      (f_X11_tells (14 + (M 43 0 1)) v2 p6).bind fun p7 =>
                        (f_X11_tells (22 + (M 43 0 1)) (-1) p7).bind fun p8 =>
                          (f_X11_tells (30 + (M 43 0 1)) (-1) p8).bind fun p9 =>
                            zlet (zput p9 43 0 1 ((p9 43 0 1) + 1)) fun M10 =>
                            some ((M 43 0 1), M10)
                  else
                    none
                else
                  none
              else
                some ((-1), p3.2)
theorem g_X11_thing {v1 : Int} {v2 : Int} {v3 : Int} {M : zM} {q : Int × zM} {d : Nat} (hd : 2 ≤ d) (h : f_X11_thing v1 v2 v3 M = some q) : zG 126 d (0, [some (zr 42 0), some (zi v1), some (zi v2), some (zi v3), none], [], M) (some (zi q.1)) q.2 := by
  have hm := zmok_126
  unfold f_X11_thing at h
  refine zG_run hm 8 (cf' := (12, [some (zr 42 0), some (zi v1), some (zi v2), some (zi v3), some (zi (M 43 0 1))], [zi 99, zi 0, zi v1], M)) rfl ?_
  obtain ⟨p1, hp1, h⟩ := Option.bind_eq_some_iff.mp h
  refine zG_S hm zmok_117 rfl (as := [zi v1, zi 0, zi 99]) (rest := []) (st2 := [zi p1.1]) (pc2 := 15) rfl rfl (by omega) (met_X11_in (d := 0) (Nat.le_refl _) hp1) rfl ?_
  by_cases c16 : zw p1.1 = 0
  · rw [if_pos c16] at h
    refine zG_br hm rfl (cf' := (43, [some (zr 42 0), some (zi v1), some (zi v2), some (zi v3), some (zi (M 43 0 1))], [], p1.2)) (if_pos c16) ?_
    refine zG_run hm 1 (cf' := (44, [some (zr 42 0), some (zi v1), some (zi v2), some (zi v3), some (zi (M 43 0 1))], [zi (-1)], p1.2)) rfl ?_
    cases h
    exact zG_ri hm rfl rfl
  · rw [if_neg c16] at h
    refine zG_br hm rfl (cf' := (18, [some (zr 42 0), some (zi v1), some (zi v2), some (zi v3), some (zi (M 43 0 1))], [], p1.2)) (if_neg c16) ?_
    refine zG_run hm 2 (cf' := (20, [some (zr 42 0), some (zi v1), some (zi v2), some (zi v3), some (zi (M 43 0 1))], [zi v2, zr 42 0], p1.2)) rfl ?_
    obtain ⟨p2, hp2, h⟩ := Option.bind_eq_some_iff.mp h
    refine zG_V hm zmok_122 rfl (as := [zi v2]) (rest := []) (st2 := [zi p2.1]) (pc2 := 23) rfl rfl (by omega) (met_X11_isOwner (d := 1) (Nat.le_refl _) hp2) rfl ?_
    by_cases c15 : zw p2.1 = 0
    · rw [if_pos c15] at h
      refine zG_br hm rfl (cf' := (43, [some (zr 42 0), some (zi v1), some (zi v2), some (zi v3), some (zi (M 43 0 1))], [], p2.2)) (if_pos c15) ?_
      refine zG_run hm 1 (cf' := (44, [some (zr 42 0), some (zi v1), some (zi v2), some (zi v3), some (zi (M 43 0 1))], [zi (-1)], p2.2)) rfl ?_
      cases h
      exact zG_ri hm rfl rfl
    · rw [if_neg c15] at h
      refine zG_br hm rfl (cf' := (26, [some (zr 42 0), some (zi v1), some (zi v2), some (zi v3), some (zi (M 43 0 1))], [], p2.2)) (if_neg c15) ?_
      refine zG_run hm 3 (cf' := (30, [some (zr 42 0), some (zi v1), some (zi v2), some (zi v3), some (zi (M 43 0 1))], [zi 9, zi 1, zi v3], p2.2)) rfl ?_
      obtain ⟨p3, hp3, h⟩ := Option.bind_eq_some_iff.mp h
      refine zG_S hm zmok_117 rfl (as := [zi v3, zi 1, zi 9]) (rest := []) (st2 := [zi p3.1]) (pc2 := 33) rfl rfl (by omega) (met_X11_in (d := 0) (Nat.le_refl _) hp3) rfl ?_
      by_cases c14 : zw p3.1 = 0
      · rw [if_pos c14] at h
        refine zG_br hm rfl (cf' := (43, [some (zr 42 0), some (zi v1), some (zi v2), some (zi v3), some (zi (M 43 0 1))], [], p3.2)) (if_pos c14) ?_
        refine zG_run hm 1 (cf' := (44, [some (zr 42 0), some (zi v1), some (zi v2), some (zi v3), some (zi (M 43 0 1))], [zi (-1)], p3.2)) rfl ?_
        cases h
        exact zG_ri hm rfl rfl
      · rw [if_neg c14] at h
        refine zG_br hm rfl (cf' := (36, [some (zr 42 0), some (zi v1), some (zi v2), some (zi v3), some (zi (M 43 0 1))], [], p3.2)) (if_neg c14) ?_
        refine zG_run hm 2 (cf' := (40, [some (zr 42 0), some (zi v1), some (zi v2), some (zi v3), some (zi (M 43 0 1))], [zi 8, zi (M 43 0 1)], p3.2)) rfl ?_
        by_cases c13 : ¬ zw (M 43 0 1) = 8
        · rw [if_pos c13] at h
          refine zG_br hm rfl (cf' := (45, [some (zr 42 0), some (zi v1), some (zi v2), some (zi v3), some (zi (M 43 0 1))], [], p3.2)) (if_pos c13) ?_
          refine zG_run hm 6 (cf' := (55, [some (zr 42 0), some (zi v1), some (zi v2), some (zi v3), some (zi (M 43 0 1))], [zi v2, zi (16 + (M 43 0 1)), zr 43 0], p3.2)) rfl ?_
          by_cases c12 : 0 ≤ zw (16 + (M 43 0 1)) ∧ zw (16 + (M 43 0 1)) < 5090
          · rw [if_pos c12] at h
            refine zG_br hm rfl (cf' := (56, [some (zr 42 0), some (zi v1), some (zi v2), some (zi v3), some (zi (M 43 0 1))], [], (zput p3.2 43 0 (zix (16 + (M 43 0 1))) v2))) (if_pos c12) ?_
            obtain ⟨M4, eM4, h⟩ := zlet_of h
            rw [eM4]
            refine zG_run hm 6 (cf' := (66, [some (zr 42 0), some (zi v1), some (zi v2), some (zi v3), some (zi (M 43 0 1))], [zi v3, zi (24 + (M 43 0 1)), zr 43 0], M4)) rfl ?_
            by_cases c11 : 0 ≤ zw (24 + (M 43 0 1)) ∧ zw (24 + (M 43 0 1)) < 5090
            · rw [if_pos c11] at h
              refine zG_br hm rfl (cf' := (67, [some (zr 42 0), some (zi v1), some (zi v2), some (zi v3), some (zi (M 43 0 1))], [], (zput M4 43 0 (zix (24 + (M 43 0 1))) v3))) (if_pos c11) ?_
              obtain ⟨M5, eM5, h⟩ := zlet_of h
              rw [eM5]
              refine zG_run hm 5 (cf' := (74, [some (zr 42 0), some (zi v1), some (zi v2), some (zi v3), some (zi (M 43 0 1))], [zi v1, zi (6 + (M 43 0 1)), zr 42 0], M5)) rfl ?_
              obtain ⟨p6, hp6, h⟩ := Option.bind_eq_some_iff.mp h
              refine zG_V hm zmok_125 rfl (as := [zi (6 + (M 43 0 1)), zi v1]) (rest := []) (st2 := []) (pc2 := 77) rfl rfl (by omega) (met_X11_tells (d := 0) (Nat.le_refl _) hp6) rfl ?_
              refine zG_run hm 5 (cf' := (84, [some (zr 42 0), some (zi v1), some (zi v2), some (zi v3), some (zi (M 43 0 1))], [zi v2, zi (14 + (M 43 0 1)), zr 42 0], p6)) rfl ?_
              obtain ⟨p7, hp7, h⟩ := Option.bind_eq_some_iff.mp h
              refine zG_V hm zmok_125 rfl (as := [zi (14 + (M 43 0 1)), zi v2]) (rest := []) (st2 := []) (pc2 := 87) rfl rfl (by omega) (met_X11_tells (d := 0) (Nat.le_refl _) hp7) rfl ?_
              refine zG_run hm 5 (cf' := (94, [some (zr 42 0), some (zi v1), some (zi v2), some (zi v3), some (zi (M 43 0 1))], [zi (-1), zi (22 + (M 43 0 1)), zr 42 0], p7)) rfl ?_
              obtain ⟨p8, hp8, h⟩ := Option.bind_eq_some_iff.mp h
              refine zG_V hm zmok_125 rfl (as := [zi (22 + (M 43 0 1)), zi (-1)]) (rest := []) (st2 := []) (pc2 := 97) rfl rfl (by omega) (met_X11_tells (d := 0) (Nat.le_refl _) hp8) rfl ?_
              refine zG_run hm 5 (cf' := (104, [some (zr 42 0), some (zi v1), some (zi v2), some (zi v3), some (zi (M 43 0 1))], [zi (-1), zi (30 + (M 43 0 1)), zr 42 0], p8)) rfl ?_
              obtain ⟨p9, hp9, h⟩ := Option.bind_eq_some_iff.mp h
              refine zG_V hm zmok_125 rfl (as := [zi (30 + (M 43 0 1)), zi (-1)]) (rest := []) (st2 := []) (pc2 := 107) rfl rfl (by omega) (met_X11_tells (d := 0) (Nat.le_refl _) hp9) rfl ?_
              refine zG_run hm 8 (cf' := (117, [some (zr 42 0), some (zi v1), some (zi v2), some (zi v3), some (zi (M 43 0 1))], [], (zput p9 43 0 1 ((p9 43 0 1) + 1)))) rfl ?_
              obtain ⟨M10, eM10, h⟩ := zlet_of h
              rw [eM10]
              refine zG_run hm 1 (cf' := (119, [some (zr 42 0), some (zi v1), some (zi v2), some (zi v3), some (zi (M 43 0 1))], [zi (M 43 0 1)], M10)) rfl ?_
              cases h
              exact zG_ri hm rfl rfl
            · rw [if_neg c11] at h
              cases h
          · rw [if_neg c12] at h
            cases h
        · rw [if_neg c13] at h
          refine zG_br hm rfl (cf' := (43, [some (zr 42 0), some (zi v1), some (zi v2), some (zi v3), some (zi (M 43 0 1))], [], p3.2)) (if_neg c13) ?_
          refine zG_run hm 1 (cf' := (44, [some (zr 42 0), some (zi v1), some (zi v2), some (zi v3), some (zi (M 43 0 1))], [zi (-1)], p3.2)) rfl ?_
          cases h
          exact zG_ri hm rfl rfl
theorem met_X11_thing {v1 : Int} {v2 : Int} {v3 : Int} {M : zM} {q : Int × zM} {d : Nat} (hd : 2 ≤ d) (h : f_X11_thing v1 v2 v3 M = some q) : zMet 126 d [zr 42 0, zi v1, zi v2, zi v3] M (some (zi q.1)) q.2 :=
  zMet_of (lv0 := [some (zr 42 0), some (zi v1), some (zi v2), some (zi v3), none]) zmok_126 rfl rfl (fun v hv => by cases hv; trivial) (g_X11_thing hd h)
def f_X10_room (v1 : Int) (M : zM) : Option (Int × zM) :=
  (f_X10_within v1 0 99 M).bind fun p1 =>
    if ¬ zw p1.1 = 0 then
      zlet (zput p1.2 11 0 9 v1) fun M2 =>
      some (1, M2)
    else
      some (0, p1.2)
theorem g_X10_room {v1 : Int} {M : zM} {q : Int × zM} {d : Nat} (hd : 1 ≤ d) (h : f_X10_room v1 M = some q) : zG 68 d (0, [some (zr 0 0), some (zi v1)], [], M) (some (zi q.1)) q.2 := by
  have hm := zmok_68
  unfold f_X10_room at h
  refine zG_run hm 3 (cf' := (4, [some (zr 0 0), some (zi v1)], [zi 99, zi 0, zi v1], M)) rfl ?_
  obtain ⟨p1, hp1, h⟩ := Option.bind_eq_some_iff.mp h
  refine zG_S hm zmok_108 rfl (as := [zi v1, zi 0, zi 99]) (rest := []) (st2 := [zi p1.1]) (pc2 := 7) rfl rfl (by omega) (met_X10_within (d := 0) (Nat.le_refl _) hp1) rfl ?_
  by_cases c3 : ¬ zw p1.1 = 0
  · rw [if_pos c3] at h
    refine zG_br hm rfl (cf' := (12, [some (zr 0 0), some (zi v1)], [], p1.2)) (if_pos c3) ?_
    refine zG_run hm 4 (cf' := (20, [some (zr 0 0), some (zi v1)], [], (zput p1.2 11 0 9 v1))) rfl ?_
    obtain ⟨M2, eM2, h⟩ := zlet_of h
    rw [eM2]
    refine zG_run hm 1 (cf' := (21, [some (zr 0 0), some (zi v1)], [zi 1], M2)) rfl ?_
    cases h
    exact zG_rz hm rfl rfl (Or.inr rfl)
  · rw [if_neg c3] at h
    refine zG_br hm rfl (cf' := (10, [some (zr 0 0), some (zi v1)], [], p1.2)) (if_neg c3) ?_
    refine zG_run hm 1 (cf' := (11, [some (zr 0 0), some (zi v1)], [zi 0], p1.2)) rfl ?_
    cases h
    exact zG_rz hm rfl rfl (Or.inl rfl)
theorem met_X10_room {v1 : Int} {M : zM} {q : Int × zM} {d : Nat} (hd : 1 ≤ d) (h : f_X10_room v1 M = some q) : zMet 68 d [zr 0 0, zi v1] M (some (zi q.1)) q.2 :=
  zMet_of (lv0 := [some (zr 0 0), some (zi v1)]) zmok_68 rfl rfl (fun v hv => by cases hv; trivial) (g_X10_room hd h)
def f_X11_room (v1 : Int) (M : zM) : Option (Int × zM) :=
  (f_X11_in v1 0 99 M).bind fun p1 =>
    if ¬ zw p1.1 = 0 then
      zlet (zput p1.2 43 0 2 v1) fun M2 =>
      some (1, M2)
    else
      some (0, p1.2)
theorem g_X11_room {v1 : Int} {M : zM} {q : Int × zM} {d : Nat} (hd : 1 ≤ d) (h : f_X11_room v1 M = some q) : zG 127 d (0, [some (zr 42 0), some (zi v1)], [], M) (some (zi q.1)) q.2 := by
  have hm := zmok_127
  unfold f_X11_room at h
  refine zG_run hm 3 (cf' := (4, [some (zr 42 0), some (zi v1)], [zi 99, zi 0, zi v1], M)) rfl ?_
  obtain ⟨p1, hp1, h⟩ := Option.bind_eq_some_iff.mp h
  refine zG_S hm zmok_117 rfl (as := [zi v1, zi 0, zi 99]) (rest := []) (st2 := [zi p1.1]) (pc2 := 7) rfl rfl (by omega) (met_X11_in (d := 0) (Nat.le_refl _) hp1) rfl ?_
  by_cases c3 : ¬ zw p1.1 = 0
  · rw [if_pos c3] at h
    refine zG_br hm rfl (cf' := (12, [some (zr 42 0), some (zi v1)], [], p1.2)) (if_pos c3) ?_
    refine zG_run hm 5 (cf' := (19, [some (zr 42 0), some (zi v1)], [], (zput p1.2 43 0 2 v1))) rfl ?_
    obtain ⟨M2, eM2, h⟩ := zlet_of h
    rw [eM2]
    refine zG_run hm 1 (cf' := (20, [some (zr 42 0), some (zi v1)], [zi 1], M2)) rfl ?_
    cases h
    exact zG_rz hm rfl rfl (Or.inr rfl)
  · rw [if_neg c3] at h
    refine zG_br hm rfl (cf' := (10, [some (zr 42 0), some (zi v1)], [], p1.2)) (if_neg c3) ?_
    refine zG_run hm 1 (cf' := (11, [some (zr 42 0), some (zi v1)], [zi 0], p1.2)) rfl ?_
    cases h
    exact zG_rz hm rfl rfl (Or.inl rfl)
theorem met_X11_room {v1 : Int} {M : zM} {q : Int × zM} {d : Nat} (hd : 1 ≤ d) (h : f_X11_room v1 M = some q) : zMet 127 d [zr 42 0, zi v1] M (some (zi q.1)) q.2 :=
  zMet_of (lv0 := [some (zr 42 0), some (zi v1)]) zmok_127 rfl rfl (fun v hv => by cases hv; trivial) (g_X11_room hd h)
def f_X0_hasThing (n0 : Nat) (v1 : Int) (M : zM) : Option (Int × zM) :=
  if zw v1 < 0 then
    some (0, M)
  else
    if zw (M 11 n0 7) ≤ zw v1 then
      some (0, M)
    else
      some (1, M)
theorem g_X0_hasThing {n0 : Nat} {v1 : Int} {M : zM} {q : Int × zM} {d : Nat} (hd : 0 ≤ d) (h : f_X0_hasThing n0 v1 M = some q) : zG 4 d (0, [some (zr 11 n0), some (zi v1)], [], M) (some (zi q.1)) q.2 := by
  have hm := zmok_4
  unfold f_X0_hasThing at h
  refine zG_run hm 1 (cf' := (1, [some (zr 11 n0), some (zi v1)], [zi v1], M)) rfl ?_
  by_cases c2 : zw v1 < 0
  · rw [if_pos c2] at h
    refine zG_br hm rfl (cf' := (16, [some (zr 11 n0), some (zi v1)], [], M)) (if_pos c2) ?_
    refine zG_run hm 1 (cf' := (17, [some (zr 11 n0), some (zi v1)], [zi 0], M)) rfl ?_
    cases h
    exact zG_rz hm rfl rfl (Or.inl rfl)
  · rw [if_neg c2] at h
    refine zG_br hm rfl (cf' := (4, [some (zr 11 n0), some (zi v1)], [], M)) (if_neg c2) ?_
    refine zG_run hm 3 (cf' := (9, [some (zr 11 n0), some (zi v1)], [zi (M 11 n0 7), zi v1], M)) rfl ?_
    by_cases c1 : zw (M 11 n0 7) ≤ zw v1
    · rw [if_pos c1] at h
      refine zG_br hm rfl (cf' := (16, [some (zr 11 n0), some (zi v1)], [], M)) (if_pos c1) ?_
      refine zG_run hm 1 (cf' := (17, [some (zr 11 n0), some (zi v1)], [zi 0], M)) rfl ?_
      cases h
      exact zG_rz hm rfl rfl (Or.inl rfl)
    · rw [if_neg c1] at h
      refine zG_br hm rfl (cf' := (12, [some (zr 11 n0), some (zi v1)], [], M)) (if_neg c1) ?_
      refine zG_run hm 2 (cf' := (17, [some (zr 11 n0), some (zi v1)], [zi 1], M)) rfl ?_
      cases h
      exact zG_rz hm rfl rfl (Or.inr rfl)
theorem met_X0_hasThing {n0 : Nat} {v1 : Int} {M : zM} {q : Int × zM} {d : Nat} (hd : 0 ≤ d) (h : f_X0_hasThing n0 v1 M = some q) : zMet 4 d [zr 11 n0, zi v1] M (some (zi q.1)) q.2 :=
  zMet_of (lv0 := [some (zr 11 n0), some (zi v1)]) zmok_4 rfl rfl (fun v hv => by cases hv; trivial) (g_X0_hasThing hd h)
def f_X0_thingsWith_j31 (n0 : Nat) (v1 : Int) (v2 : Int) (v3 : Int) (M : zM) : Option ((Int × Int) ⊕ (Int)) :=
  some (.inl (v2, (v3 + 1)))
theorem g_X0_thingsWith_j31 {n0 : Nat} {v1 : Int} {v2 : Int} {v3 : Int} {M : zM} {x : (Int × Int) ⊕ (Int)} {r : Option zV} {Mf : zM} {d : Nat} (hd : 0 ≤ d) (h : f_X0_thingsWith_j31 n0 v1 v2 v3 M = some x)
    (kc : ∀ s, x = .inl s → zG 9 d (4, [some (zr 11 n0), some (zi v1), some (zi s.1), some (zi s.2)], [], M) r Mf)
    (kb : ∀ t, x = .inr t → zG 9 d (37, [none, none, some (zi t), none], [], M) r Mf) (kr : True) : zG 9 d (31, [some (zr 11 n0), some (zi v1), some (zi v2), some (zi v3)], [], M) r Mf := by
  have hm := zmok_9
  unfold f_X0_thingsWith_j31 at h
  refine zG_run hm 2 (cf' := (4, [some (zr 11 n0), some (zi v1), some (zi v2), some (zi (v3 + 1))], [], M)) rfl ?_
  refine zG_sub (lv' := [some (zr 11 n0), some (zi v1), some (zi v2), some (zi (v3 + 1))]) (zsb_s rfl (zsb_s rfl (zsb_s rfl (zsb_s rfl zsb_0)))) ?_
  exact kc (v2, (v3 + 1)) (Option.some.inj h).symm
def f_X0_thingsWith_L4 (n0 : Nat) (v1 : Int) (v2 : Int) (v3 : Int) (M : zM) : Option ((Int × Int) ⊕ (Int)) :=
  if zw (M 11 n0 7) ≤ zw v3 then
    some (.inr v2)
  else
    if 0 ≤ zw v3 ∧ zw v3 < 8 then
      if ¬ zw (M 16 ((zix v3) + 8 * n0) 4) = zw v1 then
        f_X0_thingsWith_j31 n0 v1 v2 v3 M
      else
        f_X0_thingsWith_j31 n0 v1 (zor v2 (zshl 1 v3)) v3 M
    else
      none
theorem g_X0_thingsWith_L4 {n0 : Nat} {v1 : Int} {v2 : Int} {v3 : Int} {M : zM} {x : (Int × Int) ⊕ (Int)} {r : Option zV} {Mf : zM} {d : Nat} (hd : 0 ≤ d) (h : f_X0_thingsWith_L4 n0 v1 v2 v3 M = some x)
    (kc : ∀ s, x = .inl s → zG 9 d (4, [some (zr 11 n0), some (zi v1), some (zi s.1), some (zi s.2)], [], M) r Mf)
    (kb : ∀ t, x = .inr t → zG 9 d (37, [none, none, some (zi t), none], [], M) r Mf) (kr : True) : zG 9 d (4, [some (zr 11 n0), some (zi v1), some (zi v2), some (zi v3)], [], M) r Mf := by
  have hm := zmok_9
  unfold f_X0_thingsWith_L4 at h
  refine zG_run hm 3 (cf' := (9, [some (zr 11 n0), some (zi v1), some (zi v2), some (zi v3)], [zi (M 11 n0 7), zi v3], M)) rfl ?_
  by_cases c3 : zw (M 11 n0 7) ≤ zw v3
  · rw [if_pos c3] at h
    refine zG_br hm rfl (cf' := (37, [some (zr 11 n0), some (zi v1), some (zi v2), some (zi v3)], [], M)) (if_pos c3) ?_
    refine zG_sub (lv' := [none, none, some (zi v2), none]) (zsb_n (zsb_n (zsb_s rfl (zsb_n zsb_0)))) ?_
    exact kb v2 (Option.some.inj h).symm
  · rw [if_neg c3] at h
    refine zG_br hm rfl (cf' := (12, [some (zr 11 n0), some (zi v1), some (zi v2), some (zi v3)], [], M)) (if_neg c3) ?_
    refine zG_run hm 3 (cf' := (17, [some (zr 11 n0), some (zi v1), some (zi v2), some (zi v3)], [zi v3, zr 14 n0], M)) rfl ?_
    by_cases c2 : 0 ≤ zw v3 ∧ zw v3 < 8
    · rw [if_pos c2] at h
      refine zG_br hm rfl (cf' := (18, [some (zr 11 n0), some (zi v1), some (zi v2), some (zi v3)], [zr 16 ((zix v3) + 8 * n0)], M)) (if_pos c2) ?_
      refine zG_run hm 2 (cf' := (22, [some (zr 11 n0), some (zi v1), some (zi v2), some (zi v3)], [zi v1, zi (M 16 ((zix v3) + 8 * n0) 4)], M)) rfl ?_
      by_cases c1 : ¬ zw (M 16 ((zix v3) + 8 * n0) 4) = zw v1
      · rw [if_pos c1] at h
        refine zG_br hm rfl (cf' := (31, [some (zr 11 n0), some (zi v1), some (zi v2), some (zi v3)], [], M)) (if_pos c1) ?_
        refine zG_sub (lv' := [some (zr 11 n0), some (zi v1), some (zi v2), some (zi v3)]) (zsb_s rfl (zsb_s rfl (zsb_s rfl (zsb_s rfl zsb_0)))) ?_
        exact g_X0_thingsWith_j31 hd h kc kb kr
      · rw [if_neg c1] at h
        refine zG_br hm rfl (cf' := (25, [some (zr 11 n0), some (zi v1), some (zi v2), some (zi v3)], [], M)) (if_neg c1) ?_
        refine zG_run hm 6 (cf' := (31, [some (zr 11 n0), some (zi v1), some (zi (zor v2 (zshl 1 v3))), some (zi v3)], [], M)) rfl ?_
        refine zG_sub (lv' := [some (zr 11 n0), some (zi v1), some (zi (zor v2 (zshl 1 v3))), some (zi v3)]) (zsb_s rfl (zsb_s rfl (zsb_s rfl (zsb_s rfl zsb_0)))) ?_
        exact g_X0_thingsWith_j31 hd h kc kb kr
    · rw [if_neg c2] at h
      cases h
theorem gl_X0_thingsWith_L4 {n0 : Nat} {v1 : Int} {M : zM} {y : Int} {r : Option zV} {Mf : zM} {d : Nat} (hd : 0 ≤ d)
    (kb : ∀ t, y = t → zG 9 d (37, [none, none, some (zi t), none], [], M) r Mf) (kr : True) : ∀ (n : Nat) (s : Int × Int), zlp (fun s : Int × Int => f_X0_thingsWith_L4 n0 v1 s.1 s.2 M) n s = some y → zG 9 d (4, [some (zr 11 n0), some (zi v1), some (zi s.1), some (zi s.2)], [], M) r Mf := by
  intro n
  induction n with
  | zero => intro s h; cases h
  | succ n ih =>
    intro s h
    rcases zlp_cases h with ⟨s', h1, h2⟩ | h1
    · exact g_X0_thingsWith_L4 hd h1 (fun s2 e2 => by cases e2; exact ih _ h2) (fun t e2 => by cases e2) trivial
    · exact g_X0_thingsWith_L4 hd h1 (fun s2 e2 => by cases e2) (fun t e2 => kb t (Sum.inr.inj e2)) trivial
def f_X0_thingsWith (n0 : Nat) (v1 : Int) (M : zM) : Option (Int × zM) :=
  (zlp (fun s : Int × Int => f_X0_thingsWith_L4 n0 v1 s.1 s.2 M) zF (0, 0)).bind fun y4 =>
    some (y4, M)
theorem g_X0_thingsWith {n0 : Nat} {v1 : Int} {M : zM} {q : Int × zM} {d : Nat} (hd : 0 ≤ d) (h : f_X0_thingsWith n0 v1 M = some q) : zG 9 d (0, [some (zr 11 n0), some (zi v1), none, none], [], M) (some (zi q.1)) q.2 := by
  have hm := zmok_9
  unfold f_X0_thingsWith at h
  refine zG_run hm 4 (cf' := (4, [some (zr 11 n0), some (zi v1), some (zi 0), some (zi 0)], [], M)) rfl ?_
  refine zG_sub (lv' := [some (zr 11 n0), some (zi v1), some (zi 0), some (zi 0)]) (zsb_s rfl (zsb_s rfl (zsb_s rfl (zsb_s rfl zsb_0)))) ?_
  obtain ⟨y4, hy4, h⟩ := Option.bind_eq_some_iff.mp h
  refine gl_X0_thingsWith_L4 hd (fun t e2 => ?_) trivial zF (0, 0) hy4
  cases e2
  refine zG_run hm 1 (cf' := (38, [none, none, some (zi y4), none], [zi y4], M)) rfl ?_
  cases h
  exact zG_ri hm rfl rfl
theorem met_X0_thingsWith {n0 : Nat} {v1 : Int} {M : zM} {q : Int × zM} {d : Nat} (hd : 0 ≤ d) (h : f_X0_thingsWith n0 v1 M = some q) : zMet 9 d [zr 11 n0, zi v1] M (some (zi q.1)) q.2 :=
  zMet_of (lv0 := [some (zr 11 n0), some (zi v1), none, none]) zmok_9 rfl rfl (fun v hv => by cases hv; trivial) (g_X0_thingsWith hd h)
def f_X0_bulkOf_L4 (n0 : Nat) (v1 : Int) (v2 : Int) (v3 : Int) (M : zM) : Option ((Int × Int) ⊕ (Int)) :=
  if zw (M 11 n0 7) ≤ zw v3 then
    some (.inr v2)
  else
    if 0 ≤ zw v3 ∧ zw v3 < 8 then
      some (.inl ((v2 + ((zand (zshr v1 v3) 1) * (M 16 ((zix v3) + 8 * n0) 2))), (v3 + 1)))
    else
      none
theorem g_X0_bulkOf_L4 {n0 : Nat} {v1 : Int} {v2 : Int} {v3 : Int} {M : zM} {x : (Int × Int) ⊕ (Int)} {r : Option zV} {Mf : zM} {d : Nat} (hd : 0 ≤ d) (h : f_X0_bulkOf_L4 n0 v1 v2 v3 M = some x)
    (kc : ∀ s, x = .inl s → zG 10 d (4, [some (zr 11 n0), some (zi v1), some (zi s.1), some (zi s.2)], [], M) r Mf)
    (kb : ∀ t, x = .inr t → zG 10 d (36, [none, none, some (zi t), none], [], M) r Mf) (kr : True) : zG 10 d (4, [some (zr 11 n0), some (zi v1), some (zi v2), some (zi v3)], [], M) r Mf := by
  have hm := zmok_10
  unfold f_X0_bulkOf_L4 at h
  refine zG_run hm 3 (cf' := (9, [some (zr 11 n0), some (zi v1), some (zi v2), some (zi v3)], [zi (M 11 n0 7), zi v3], M)) rfl ?_
  by_cases c2 : zw (M 11 n0 7) ≤ zw v3
  · rw [if_pos c2] at h
    refine zG_br hm rfl (cf' := (36, [some (zr 11 n0), some (zi v1), some (zi v2), some (zi v3)], [], M)) (if_pos c2) ?_
    refine zG_sub (lv' := [none, none, some (zi v2), none]) (zsb_n (zsb_n (zsb_s rfl (zsb_n zsb_0)))) ?_
    exact kb v2 (Option.some.inj h).symm
  · rw [if_neg c2] at h
    refine zG_br hm rfl (cf' := (12, [some (zr 11 n0), some (zi v1), some (zi v2), some (zi v3)], [], M)) (if_neg c2) ?_
    refine zG_run hm 9 (cf' := (23, [some (zr 11 n0), some (zi v1), some (zi v2), some (zi v3)], [zi v3, zr 14 n0, zi (zand (zshr v1 v3) 1), zi v2], M)) rfl ?_
    by_cases c1 : 0 ≤ zw v3 ∧ zw v3 < 8
    · rw [if_pos c1] at h
      refine zG_br hm rfl (cf' := (24, [some (zr 11 n0), some (zi v1), some (zi v2), some (zi v3)], [zr 16 ((zix v3) + 8 * n0), zi (zand (zshr v1 v3) 1), zi v2], M)) (if_pos c1) ?_
      refine zG_run hm 6 (cf' := (4, [some (zr 11 n0), some (zi v1), some (zi (v2 + ((zand (zshr v1 v3) 1) * (M 16 ((zix v3) + 8 * n0) 2)))), some (zi (v3 + 1))], [], M)) rfl ?_
      refine zG_sub (lv' := [some (zr 11 n0), some (zi v1), some (zi (v2 + ((zand (zshr v1 v3) 1) * (M 16 ((zix v3) + 8 * n0) 2)))), some (zi (v3 + 1))]) (zsb_s rfl (zsb_s rfl (zsb_s rfl (zsb_s rfl zsb_0)))) ?_
      exact kc ((v2 + ((zand (zshr v1 v3) 1) * (M 16 ((zix v3) + 8 * n0) 2))), (v3 + 1)) (Option.some.inj h).symm
    · rw [if_neg c1] at h
      cases h
theorem gl_X0_bulkOf_L4 {n0 : Nat} {v1 : Int} {M : zM} {y : Int} {r : Option zV} {Mf : zM} {d : Nat} (hd : 0 ≤ d)
    (kb : ∀ t, y = t → zG 10 d (36, [none, none, some (zi t), none], [], M) r Mf) (kr : True) : ∀ (n : Nat) (s : Int × Int), zlp (fun s : Int × Int => f_X0_bulkOf_L4 n0 v1 s.1 s.2 M) n s = some y → zG 10 d (4, [some (zr 11 n0), some (zi v1), some (zi s.1), some (zi s.2)], [], M) r Mf := by
  intro n
  induction n with
  | zero => intro s h; cases h
  | succ n ih =>
    intro s h
    rcases zlp_cases h with ⟨s', h1, h2⟩ | h1
    · exact g_X0_bulkOf_L4 hd h1 (fun s2 e2 => by cases e2; exact ih _ h2) (fun t e2 => by cases e2) trivial
    · exact g_X0_bulkOf_L4 hd h1 (fun s2 e2 => by cases e2) (fun t e2 => kb t (Sum.inr.inj e2)) trivial
def f_X0_bulkOf (n0 : Nat) (v1 : Int) (M : zM) : Option (Int × zM) :=
  (zlp (fun s : Int × Int => f_X0_bulkOf_L4 n0 v1 s.1 s.2 M) zF (0, 0)).bind fun y3 =>
    some (y3, M)
theorem g_X0_bulkOf {n0 : Nat} {v1 : Int} {M : zM} {q : Int × zM} {d : Nat} (hd : 0 ≤ d) (h : f_X0_bulkOf n0 v1 M = some q) : zG 10 d (0, [some (zr 11 n0), some (zi v1), none, none], [], M) (some (zi q.1)) q.2 := by
  have hm := zmok_10
  unfold f_X0_bulkOf at h
  refine zG_run hm 4 (cf' := (4, [some (zr 11 n0), some (zi v1), some (zi 0), some (zi 0)], [], M)) rfl ?_
  refine zG_sub (lv' := [some (zr 11 n0), some (zi v1), some (zi 0), some (zi 0)]) (zsb_s rfl (zsb_s rfl (zsb_s rfl (zsb_s rfl zsb_0)))) ?_
  obtain ⟨y3, hy3, h⟩ := Option.bind_eq_some_iff.mp h
  refine gl_X0_bulkOf_L4 hd (fun t e2 => ?_) trivial zF (0, 0) hy3
  cases e2
  refine zG_run hm 1 (cf' := (37, [none, none, some (zi y3), none], [zi y3], M)) rfl ?_
  cases h
  exact zG_ri hm rfl rfl
theorem met_X0_bulkOf {n0 : Nat} {v1 : Int} {M : zM} {q : Int × zM} {d : Nat} (hd : 0 ≤ d) (h : f_X0_bulkOf n0 v1 M = some q) : zMet 10 d [zr 11 n0, zi v1] M (some (zi q.1)) q.2 :=
  zMet_of (lv0 := [some (zr 11 n0), some (zi v1), none, none]) zmok_10 rfl rfl (fun v hv => by cases hv; trivial) (g_X0_bulkOf hd h)
def f_X0_keptBulk (n0 : Nat) (M : zM) : Option (Int × zM) :=
  (f_X0_thingsWith n0 (-1) M).bind fun p1 =>
    (f_X0_bulkOf n0 p1.1 p1.2).bind fun p2 =>
      some (p2.1, p2.2)
theorem g_X0_keptBulk {n0 : Nat} {M : zM} {q : Int × zM} {d : Nat} (hd : 1 ≤ d) (h : f_X0_keptBulk n0 M = some q) : zG 8 d (0, [some (zr 11 n0)], [], M) (some (zi q.1)) q.2 := by
  have hm := zmok_8
  unfold f_X0_keptBulk at h
  refine zG_run hm 3 (cf' := (3, [some (zr 11 n0)], [zi (-1), zr 11 n0, zr 11 n0], M)) rfl ?_
  obtain ⟨p1, hp1, h⟩ := Option.bind_eq_some_iff.mp h
  refine zG_V hm zmok_9 rfl (as := [zi (-1)]) (rest := [zr 11 n0]) (st2 := [zi p1.1, zr 11 n0]) (pc2 := 6) rfl rfl (by omega) (met_X0_thingsWith (d := 0) (Nat.le_refl _) hp1) rfl ?_
  obtain ⟨p2, hp2, h⟩ := Option.bind_eq_some_iff.mp h
  refine zG_V hm zmok_10 rfl (as := [zi p1.1]) (rest := []) (st2 := [zi p2.1]) (pc2 := 9) rfl rfl (by omega) (met_X0_bulkOf (d := 0) (Nat.le_refl _) hp2) rfl ?_
  cases h
  exact zG_ri hm rfl rfl
theorem met_X0_keptBulk {n0 : Nat} {M : zM} {q : Int × zM} {d : Nat} (hd : 1 ≤ d) (h : f_X0_keptBulk n0 M = some q) : zMet 8 d [zr 11 n0] M (some (zi q.1)) q.2 :=
  zMet_of (lv0 := [some (zr 11 n0)]) zmok_8 rfl rfl (fun v hv => by cases hv; trivial) (g_X0_keptBulk hd h)
def f_X0_canTake (n0 : Nat) (v1 : Int) (M : zM) : Option (Int × zM) :=
  (f_X0_hasThing n0 v1 M).bind fun p1 =>
    if zw p1.1 = 0 then
      some (0, p1.2)
    else
      if 0 ≤ zw v1 ∧ zw v1 < 8 then
        if zw (p1.2 16 ((zix v1) + 8 * n0) 4) = (-1) then
          some (0, p1.2)
        else
          (f_X0_keptBulk n0 p1.2).bind fun p2 =>
            if 0 ≤ zw v1 ∧ zw v1 < 8 then
              if zw (p2.2 11 n0 9) < zw (p2.1 + (p2.2 16 ((zix v1) + 8 * n0) 2)) then
                some (0, p2.2)
              else
                some (1, p2.2)
            else
              none
      else
        none
theorem g_X0_canTake {n0 : Nat} {v1 : Int} {M : zM} {q : Int × zM} {d : Nat} (hd : 2 ≤ d) (h : f_X0_canTake n0 v1 M = some q) : zG 6 d (0, [some (zr 11 n0), some (zi v1)], [], M) (some (zi q.1)) q.2 := by
  have hm := zmok_6
  unfold f_X0_canTake at h
  refine zG_run hm 2 (cf' := (2, [some (zr 11 n0), some (zi v1)], [zi v1, zr 11 n0], M)) rfl ?_
  obtain ⟨p1, hp1, h⟩ := Option.bind_eq_some_iff.mp h
  refine zG_V hm zmok_4 rfl (as := [zi v1]) (rest := []) (st2 := [zi p1.1]) (pc2 := 5) rfl rfl (by omega) (met_X0_hasThing (d := 0) (Nat.le_refl _) hp1) rfl ?_
  by_cases c7 : zw p1.1 = 0
  · rw [if_pos c7] at h
    refine zG_br hm rfl (cf' := (46, [some (zr 11 n0), some (zi v1)], [], p1.2)) (if_pos c7) ?_
    refine zG_run hm 1 (cf' := (47, [some (zr 11 n0), some (zi v1)], [zi 0], p1.2)) rfl ?_
    cases h
    exact zG_rz hm rfl rfl (Or.inl rfl)
  · rw [if_neg c7] at h
    refine zG_br hm rfl (cf' := (8, [some (zr 11 n0), some (zi v1)], [], p1.2)) (if_neg c7) ?_
    refine zG_run hm 3 (cf' := (13, [some (zr 11 n0), some (zi v1)], [zi v1, zr 14 n0], p1.2)) rfl ?_
    by_cases c6 : 0 ≤ zw v1 ∧ zw v1 < 8
    · rw [if_pos c6] at h
      refine zG_br hm rfl (cf' := (14, [some (zr 11 n0), some (zi v1)], [zr 16 ((zix v1) + 8 * n0)], p1.2)) (if_pos c6) ?_
      refine zG_run hm 2 (cf' := (18, [some (zr 11 n0), some (zi v1)], [zi (-1), zi (p1.2 16 ((zix v1) + 8 * n0) 4)], p1.2)) rfl ?_
      by_cases c5 : zw (p1.2 16 ((zix v1) + 8 * n0) 4) = (-1)
      · rw [if_pos c5] at h
        refine zG_br hm rfl (cf' := (46, [some (zr 11 n0), some (zi v1)], [], p1.2)) (if_pos c5) ?_
        refine zG_run hm 1 (cf' := (47, [some (zr 11 n0), some (zi v1)], [zi 0], p1.2)) rfl ?_
        cases h
        exact zG_rz hm rfl rfl (Or.inl rfl)
      · rw [if_neg c5] at h
        refine zG_br hm rfl (cf' := (21, [some (zr 11 n0), some (zi v1)], [], p1.2)) (if_neg c5) ?_
        refine zG_run hm 1 (cf' := (22, [some (zr 11 n0), some (zi v1)], [zr 11 n0], p1.2)) rfl ?_
        obtain ⟨p2, hp2, h⟩ := Option.bind_eq_some_iff.mp h
        refine zG_V hm zmok_8 rfl (as := []) (rest := []) (st2 := [zi p2.1]) (pc2 := 25) rfl rfl (by omega) (met_X0_keptBulk (d := 1) (Nat.le_refl _) hp2) rfl ?_
        refine zG_run hm 3 (cf' := (30, [some (zr 11 n0), some (zi v1)], [zi v1, zr 14 n0, zi p2.1], p2.2)) rfl ?_
        by_cases c4 : 0 ≤ zw v1 ∧ zw v1 < 8
        · rw [if_pos c4] at h
          refine zG_br hm rfl (cf' := (31, [some (zr 11 n0), some (zi v1)], [zr 16 ((zix v1) + 8 * n0), zi p2.1], p2.2)) (if_pos c4) ?_
          refine zG_run hm 4 (cf' := (39, [some (zr 11 n0), some (zi v1)], [zi (p2.2 11 n0 9), zi (p2.1 + (p2.2 16 ((zix v1) + 8 * n0) 2))], p2.2)) rfl ?_
          by_cases c3 : zw (p2.2 11 n0 9) < zw (p2.1 + (p2.2 16 ((zix v1) + 8 * n0) 2))
          · rw [if_pos c3] at h
            refine zG_br hm rfl (cf' := (46, [some (zr 11 n0), some (zi v1)], [], p2.2)) (if_pos c3) ?_
            refine zG_run hm 1 (cf' := (47, [some (zr 11 n0), some (zi v1)], [zi 0], p2.2)) rfl ?_
            cases h
            exact zG_rz hm rfl rfl (Or.inl rfl)
          · rw [if_neg c3] at h
            refine zG_br hm rfl (cf' := (42, [some (zr 11 n0), some (zi v1)], [], p2.2)) (if_neg c3) ?_
            refine zG_run hm 2 (cf' := (47, [some (zr 11 n0), some (zi v1)], [zi 1], p2.2)) rfl ?_
            cases h
            exact zG_rz hm rfl rfl (Or.inr rfl)
        · rw [if_neg c4] at h
          cases h
    · rw [if_neg c6] at h
      cases h
theorem met_X0_canTake {n0 : Nat} {v1 : Int} {M : zM} {q : Int × zM} {d : Nat} (hd : 2 ≤ d) (h : f_X0_canTake n0 v1 M = some q) : zMet 6 d [zr 11 n0, zi v1] M (some (zi q.1)) q.2 :=
  zMet_of (lv0 := [some (zr 11 n0), some (zi v1)]) zmok_6 rfl rfl (fun v hv => by cases hv; trivial) (g_X0_canTake hd h)
def f_X0_save_L65 (n0 : Nat) (n1 : Nat) (v2 : Int) (v3 : Int) (M : zM) : Option ((Int × zM) ⊕ (zM)) :=
  if 8 ≤ zw v3 then
    some (.inr M)
  else
    if 0 ≤ zw v3 ∧ zw v3 < 8 then
      if 0 ≤ zw (v2 + (4 * v3)) ∧ zw (v2 + (4 * v3)) < 73 then
        zlet (zput M 22 n1 (zix (v2 + (4 * v3))) (M 16 ((zix v3) + 8 * n0) 3)) fun M8 =>
        if 0 ≤ zw v3 ∧ zw v3 < 8 then
          if 0 ≤ zw ((v2 + (4 * v3)) + 1) ∧ zw ((v2 + (4 * v3)) + 1) < 73 then
            zlet (zput M8 22 n1 (zix ((v2 + (4 * v3)) + 1)) (M8 16 ((zix v3) + 8 * n0) 4)) fun M9 =>
            if 0 ≤ zw v3 ∧ zw v3 < 8 then
              if 0 ≤ zw ((v2 + (4 * v3)) + 2) ∧ zw ((v2 + (4 * v3)) + 2) < 73 then
                zlet (zput M9 22 n1 (zix ((v2 + (4 * v3)) + 2)) (M9 16 ((zix v3) + 8 * n0) 5)) fun M10 =>
                if 0 ≤ zw v3 ∧ zw v3 < 8 then
                  if 0 ≤ zw ((v2 + (4 * v3)) + 3) ∧ zw ((v2 + (4 * v3)) + 3) < 73 then
                    zlet (zput M10 22 n1 (zix ((v2 + (4 * v3)) + 3)) (M10 16 ((zix v3) + 8 * n0) 6)) fun M11 =>
                    some (.inl ((v3 + 1), M11))
                  else
                    none
                else
                  none
              else
                none
            else
              none
          else
            none
        else
          none
      else
        none
    else
      none
theorem g_X0_save_L65 {n0 : Nat} {n1 : Nat} {v2 : Int} {v3 : Int} {M : zM} {x : (Int × zM) ⊕ (zM)} {r : Option zV} {Mf : zM} {d : Nat} (hd : 0 ≤ d) (h : f_X0_save_L65 n0 n1 v2 v3 M = some x)
    (kc : ∀ s, x = .inl s → zG 1 d (65, [some (zr 11 n0), some (zr 22 n1), some (zi v2), some (zi s.1)], [], s.2) r Mf)
    (kb : ∀ t, x = .inr t → zG 1 d (147, [none, none, none, none], [], t) r Mf) (kr : True) : zG 1 d (65, [some (zr 11 n0), some (zr 22 n1), some (zi v2), some (zi v3)], [], M) r Mf := by
  have hm := zmok_1
  unfold f_X0_save_L65 at h
  refine zG_run hm 2 (cf' := (68, [some (zr 11 n0), some (zr 22 n1), some (zi v2), some (zi v3)], [zi 8, zi v3], M)) rfl ?_
  by_cases c20 : 8 ≤ zw v3
  · rw [if_pos c20] at h
    refine zG_br hm rfl (cf' := (147, [some (zr 11 n0), some (zr 22 n1), some (zi v2), some (zi v3)], [], M)) (if_pos c20) ?_
    refine zG_sub (lv' := [none, none, none, none]) (zsb_n (zsb_n (zsb_n (zsb_n zsb_0)))) ?_
    exact kb M (Option.some.inj h).symm
  · rw [if_neg c20] at h
    refine zG_br hm rfl (cf' := (71, [some (zr 11 n0), some (zr 22 n1), some (zi v2), some (zi v3)], [], M)) (if_neg c20) ?_
    refine zG_run hm 9 (cf' := (82, [some (zr 11 n0), some (zr 22 n1), some (zi v2), some (zi v3)], [zi v3, zr 14 n0, zi (v2 + (4 * v3)), zr 22 n1], M)) rfl ?_
    by_cases c19 : 0 ≤ zw v3 ∧ zw v3 < 8
    · rw [if_pos c19] at h
      refine zG_br hm rfl (cf' := (83, [some (zr 11 n0), some (zr 22 n1), some (zi v2), some (zi v3)], [zr 16 ((zix v3) + 8 * n0), zi (v2 + (4 * v3)), zr 22 n1], M)) (if_pos c19) ?_
      refine zG_run hm 1 (cf' := (86, [some (zr 11 n0), some (zr 22 n1), some (zi v2), some (zi v3)], [zi (M 16 ((zix v3) + 8 * n0) 3), zi (v2 + (4 * v3)), zr 22 n1], M)) rfl ?_
      by_cases c18 : 0 ≤ zw (v2 + (4 * v3)) ∧ zw (v2 + (4 * v3)) < 73
      · rw [if_pos c18] at h
        refine zG_br hm rfl (cf' := (87, [some (zr 11 n0), some (zr 22 n1), some (zi v2), some (zi v3)], [], (zput M 22 n1 (zix (v2 + (4 * v3))) (M 16 ((zix v3) + 8 * n0) 3)))) (if_pos c18) ?_
        obtain ⟨M8, eM8, h⟩ := zlet_of h
        rw [eM8]
        refine zG_run hm 11 (cf' := (100, [some (zr 11 n0), some (zr 22 n1), some (zi v2), some (zi v3)], [zi v3, zr 14 n0, zi ((v2 + (4 * v3)) + 1), zr 22 n1], M8)) rfl ?_
        by_cases c17 : 0 ≤ zw v3 ∧ zw v3 < 8
        · rw [if_pos c17] at h
          refine zG_br hm rfl (cf' := (101, [some (zr 11 n0), some (zr 22 n1), some (zi v2), some (zi v3)], [zr 16 ((zix v3) + 8 * n0), zi ((v2 + (4 * v3)) + 1), zr 22 n1], M8)) (if_pos c17) ?_
          refine zG_run hm 1 (cf' := (104, [some (zr 11 n0), some (zr 22 n1), some (zi v2), some (zi v3)], [zi (M8 16 ((zix v3) + 8 * n0) 4), zi ((v2 + (4 * v3)) + 1), zr 22 n1], M8)) rfl ?_
          by_cases c16 : 0 ≤ zw ((v2 + (4 * v3)) + 1) ∧ zw ((v2 + (4 * v3)) + 1) < 73
          · rw [if_pos c16] at h
            refine zG_br hm rfl (cf' := (105, [some (zr 11 n0), some (zr 22 n1), some (zi v2), some (zi v3)], [], (zput M8 22 n1 (zix ((v2 + (4 * v3)) + 1)) (M8 16 ((zix v3) + 8 * n0) 4)))) (if_pos c16) ?_
            obtain ⟨M9, eM9, h⟩ := zlet_of h
            rw [eM9]
            refine zG_run hm 11 (cf' := (118, [some (zr 11 n0), some (zr 22 n1), some (zi v2), some (zi v3)], [zi v3, zr 14 n0, zi ((v2 + (4 * v3)) + 2), zr 22 n1], M9)) rfl ?_
            by_cases c15 : 0 ≤ zw v3 ∧ zw v3 < 8
            · rw [if_pos c15] at h
              refine zG_br hm rfl (cf' := (119, [some (zr 11 n0), some (zr 22 n1), some (zi v2), some (zi v3)], [zr 16 ((zix v3) + 8 * n0), zi ((v2 + (4 * v3)) + 2), zr 22 n1], M9)) (if_pos c15) ?_
              refine zG_run hm 1 (cf' := (122, [some (zr 11 n0), some (zr 22 n1), some (zi v2), some (zi v3)], [zi (M9 16 ((zix v3) + 8 * n0) 5), zi ((v2 + (4 * v3)) + 2), zr 22 n1], M9)) rfl ?_
              by_cases c14 : 0 ≤ zw ((v2 + (4 * v3)) + 2) ∧ zw ((v2 + (4 * v3)) + 2) < 73
              · rw [if_pos c14] at h
                refine zG_br hm rfl (cf' := (123, [some (zr 11 n0), some (zr 22 n1), some (zi v2), some (zi v3)], [], (zput M9 22 n1 (zix ((v2 + (4 * v3)) + 2)) (M9 16 ((zix v3) + 8 * n0) 5)))) (if_pos c14) ?_
                obtain ⟨M10, eM10, h⟩ := zlet_of h
                rw [eM10]
                refine zG_run hm 11 (cf' := (136, [some (zr 11 n0), some (zr 22 n1), some (zi v2), some (zi v3)], [zi v3, zr 14 n0, zi ((v2 + (4 * v3)) + 3), zr 22 n1], M10)) rfl ?_
                by_cases c13 : 0 ≤ zw v3 ∧ zw v3 < 8
                · rw [if_pos c13] at h
                  refine zG_br hm rfl (cf' := (137, [some (zr 11 n0), some (zr 22 n1), some (zi v2), some (zi v3)], [zr 16 ((zix v3) + 8 * n0), zi ((v2 + (4 * v3)) + 3), zr 22 n1], M10)) (if_pos c13) ?_
                  refine zG_run hm 1 (cf' := (140, [some (zr 11 n0), some (zr 22 n1), some (zi v2), some (zi v3)], [zi (M10 16 ((zix v3) + 8 * n0) 6), zi ((v2 + (4 * v3)) + 3), zr 22 n1], M10)) rfl ?_
                  by_cases c12 : 0 ≤ zw ((v2 + (4 * v3)) + 3) ∧ zw ((v2 + (4 * v3)) + 3) < 73
                  · rw [if_pos c12] at h
                    refine zG_br hm rfl (cf' := (141, [some (zr 11 n0), some (zr 22 n1), some (zi v2), some (zi v3)], [], (zput M10 22 n1 (zix ((v2 + (4 * v3)) + 3)) (M10 16 ((zix v3) + 8 * n0) 6)))) (if_pos c12) ?_
                    obtain ⟨M11, eM11, h⟩ := zlet_of h
                    rw [eM11]
                    refine zG_run hm 2 (cf' := (65, [some (zr 11 n0), some (zr 22 n1), some (zi v2), some (zi (v3 + 1))], [], M11)) rfl ?_
                    refine zG_sub (lv' := [some (zr 11 n0), some (zr 22 n1), some (zi v2), some (zi (v3 + 1))]) (zsb_s rfl (zsb_s rfl (zsb_s rfl (zsb_s rfl zsb_0)))) ?_
                    exact kc ((v3 + 1), M11) (Option.some.inj h).symm
                  · rw [if_neg c12] at h
                    cases h
                · rw [if_neg c13] at h
                  cases h
              · rw [if_neg c14] at h
                cases h
            · rw [if_neg c15] at h
              cases h
          · rw [if_neg c16] at h
            cases h
        · rw [if_neg c17] at h
          cases h
      · rw [if_neg c18] at h
        cases h
    · rw [if_neg c19] at h
      cases h
theorem gl_X0_save_L65 {n0 : Nat} {n1 : Nat} {v2 : Int} {y : zM} {r : Option zV} {Mf : zM} {d : Nat} (hd : 0 ≤ d)
    (kb : ∀ t, y = t → zG 1 d (147, [none, none, none, none], [], t) r Mf) (kr : True) : ∀ (n : Nat) (s : Int × zM), zlp (fun s : Int × zM => f_X0_save_L65 n0 n1 v2 s.1 s.2) n s = some y → zG 1 d (65, [some (zr 11 n0), some (zr 22 n1), some (zi v2), some (zi s.1)], [], s.2) r Mf := by
  intro n
  induction n with
  | zero => intro s h; cases h
  | succ n ih =>
    intro s h
    rcases zlp_cases h with ⟨s', h1, h2⟩ | h1
    · exact g_X0_save_L65 hd h1 (fun s2 e2 => by cases e2; exact ih _ h2) (fun t e2 => by cases e2) trivial
    · exact g_X0_save_L65 hd h1 (fun s2 e2 => by cases e2) (fun t e2 => kb t (Sum.inr.inj e2)) trivial
def f_X0_save (n0 : Nat) (n1 : Nat) (M : zM) : Option (zM) :=
  zlet (zput M 22 n1 0 (M 11 n0 10)) fun M1 =>
  zlet (zput M1 22 n1 1 (M1 11 n0 11)) fun M2 =>
  zlet (zput M2 22 n1 2 (M2 11 n0 6)) fun M3 =>
  zlet (zput M3 22 n1 3 (M3 11 n0 7)) fun M4 =>
  zlet (zput M4 22 n1 4 (M4 11 n0 8)) fun M5 =>
  zlet (zcopy M5 13 n0 0 22 n1 5 6) fun M6 =>
  zlet (zcopy M6 15 n0 0 22 n1 11 30) fun M7 =>
  (zlp (fun s : Int × zM => f_X0_save_L65 n0 n1 41 s.1 s.2) zF (0, M7)).bind fun y21 =>
    some y21
theorem g_X0_save {n0 : Nat} {n1 : Nat} {M : zM} {q : zM} {d : Nat} (hd : 0 ≤ d) (h : f_X0_save n0 n1 M = some q) : zG 1 d (0, [some (zr 11 n0), some (zr 22 n1), none, none], [], M) none q := by
  have hm := zmok_1
  unfold f_X0_save at h
  refine zG_run hm 5 (cf' := (7, [some (zr 11 n0), some (zr 22 n1), none, none], [], (zput M 22 n1 0 (M 11 n0 10)))) rfl ?_
  obtain ⟨M1, eM1, h⟩ := zlet_of h
  rw [eM1]
  refine zG_run hm 5 (cf' := (14, [some (zr 11 n0), some (zr 22 n1), none, none], [], (zput M1 22 n1 1 (M1 11 n0 11)))) rfl ?_
  obtain ⟨M2, eM2, h⟩ := zlet_of h
  rw [eM2]
  refine zG_run hm 5 (cf' := (21, [some (zr 11 n0), some (zr 22 n1), none, none], [], (zput M2 22 n1 2 (M2 11 n0 6)))) rfl ?_
  obtain ⟨M3, eM3, h⟩ := zlet_of h
  rw [eM3]
  refine zG_run hm 5 (cf' := (28, [some (zr 11 n0), some (zr 22 n1), none, none], [], (zput M3 22 n1 3 (M3 11 n0 7)))) rfl ?_
  obtain ⟨M4, eM4, h⟩ := zlet_of h
  rw [eM4]
  refine zG_run hm 5 (cf' := (35, [some (zr 11 n0), some (zr 22 n1), none, none], [], (zput M4 22 n1 4 (M4 11 n0 8)))) rfl ?_
  obtain ⟨M5, eM5, h⟩ := zlet_of h
  rw [eM5]
  refine zG_run hm 6 (cf' := (44, [some (zr 11 n0), some (zr 22 n1), none, none], [zi 6, zi 5, zr 22 n1, zi 0, zr 13 n0], M5)) rfl ?_
  refine zG_copy hm rfl 0 (Or.inl rfl) rfl (by decide) (by decide) (by decide) rfl rfl rfl ?_
  show zG 1 d (47, [some (zr 11 n0), some (zr 22 n1), none, none], [], (zcopy M5 13 n0 0 22 n1 5 6)) _ _
  obtain ⟨M6, eM6, h⟩ := zlet_of h
  rw [eM6]
  refine zG_run hm 6 (cf' := (57, [some (zr 11 n0), some (zr 22 n1), none, none], [zi 30, zi 11, zr 22 n1, zi 0, zr 15 n0], M6)) rfl ?_
  refine zG_copy hm rfl 0 (Or.inl rfl) rfl (by decide) (by decide) (by decide) rfl rfl rfl ?_
  show zG 1 d (60, [some (zr 11 n0), some (zr 22 n1), none, none], [], (zcopy M6 15 n0 0 22 n1 11 30)) _ _
  obtain ⟨M7, eM7, h⟩ := zlet_of h
  rw [eM7]
  refine zG_run hm 4 (cf' := (65, [some (zr 11 n0), some (zr 22 n1), some (zi 41), some (zi 0)], [], M7)) rfl ?_
  refine zG_sub (lv' := [some (zr 11 n0), some (zr 22 n1), some (zi 41), some (zi 0)]) (zsb_s rfl (zsb_s rfl (zsb_s rfl (zsb_s rfl zsb_0)))) ?_
  obtain ⟨y21, hy21, h⟩ := Option.bind_eq_some_iff.mp h
  refine gl_X0_save_L65 hd (fun t e2 => ?_) trivial zF (0, M7) hy21
  cases e2
  cases h
  exact zG_rv hm rfl rfl
theorem met_X0_save {n0 : Nat} {n1 : Nat} {M : zM} {q : zM} {d : Nat} (hd : 0 ≤ d) (h : f_X0_save n0 n1 M = some q) : zMet 1 d [zr 11 n0, zr 22 n1] M none q :=
  zMet_of (lv0 := [some (zr 11 n0), some (zr 22 n1), none, none]) zmok_1 rfl rfl (fun v hv => by cases hv) (g_X0_save hd h)
def f_X5_keep (n0 : Nat) (n1 : Nat) (M : zM) : Option (zM) :=
  if 0 ≤ zw (M 20 n0 2) ∧ zw (M 20 n0 2) < 30 then
    (f_X0_save n1 ((zix (M 20 n0 2)) + 30 * n0) M).bind fun p1 =>
      zlet (zput p1 20 n0 2 (zrem (zw ((p1 20 n0 2) + 1)) 30)) fun M2 =>
      zlet (zput M2 20 n0 1 (if 30 < zw ((M2 20 n0 1) + 1) then 30 else ((M2 20 n0 1) + 1))) fun M3 =>
      some M3
  else
    none
theorem g_X5_keep {n0 : Nat} {n1 : Nat} {M : zM} {q : zM} {d : Nat} (hd : 1 ≤ d) (h : f_X5_keep n0 n1 M = some q) : zG 50 d (0, [some (zr 20 n0), some (zr 11 n1)], [], M) none q := by
  have hm := zmok_50
  unfold f_X5_keep at h
  refine zG_run hm 5 (cf' := (9, [some (zr 20 n0), some (zr 11 n1)], [zi (M 20 n0 2), zr 21 n0, zr 11 n1], M)) rfl ?_
  by_cases c4 : 0 ≤ zw (M 20 n0 2) ∧ zw (M 20 n0 2) < 30
  · rw [if_pos c4] at h
    refine zG_br hm rfl (cf' := (10, [some (zr 20 n0), some (zr 11 n1)], [zr 22 ((zix (M 20 n0 2)) + 30 * n0), zr 11 n1], M)) (if_pos c4) ?_
    obtain ⟨p1, hp1, h⟩ := Option.bind_eq_some_iff.mp h
    refine zG_V hm zmok_1 rfl (as := [zr 22 ((zix (M 20 n0 2)) + 30 * n0)]) (rest := []) (st2 := []) (pc2 := 13) rfl rfl (by omega) (met_X0_save (d := 0) (Nat.le_refl _) hp1) rfl ?_
    refine zG_run hm 8 (cf' := (26, [some (zr 20 n0), some (zr 11 n1)], [], (zput p1 20 n0 2 (zrem (zw ((p1 20 n0 2) + 1)) 30)))) rfl ?_
    obtain ⟨M2, eM2, h⟩ := zlet_of h
    rw [eM2]
    refine zG_run hm 6 (cf' := (35, [some (zr 20 n0), some (zr 11 n1)], [zi 30, zi ((M2 20 n0 1) + 1), zr 20 n0], M2)) rfl ?_
    refine zG_min hm rfl rfl ?_
    show zG 50 d (38, [some (zr 20 n0), some (zr 11 n1)], [zi (if 30 < zw ((M2 20 n0 1) + 1) then 30 else ((M2 20 n0 1) + 1)), zr 20 n0], M2) _ _
    refine zG_run hm 1 (cf' := (41, [some (zr 20 n0), some (zr 11 n1)], [], (zput M2 20 n0 1 (if 30 < zw ((M2 20 n0 1) + 1) then 30 else ((M2 20 n0 1) + 1))))) rfl ?_
    obtain ⟨M3, eM3, h⟩ := zlet_of h
    rw [eM3]
    cases h
    exact zG_rv hm rfl rfl
  · rw [if_neg c4] at h
    cases h
theorem met_X5_keep {n0 : Nat} {n1 : Nat} {M : zM} {q : zM} {d : Nat} (hd : 1 ≤ d) (h : f_X5_keep n0 n1 M = some q) : zMet 50 d [zr 20 n0, zr 11 n1] M none q :=
  zMet_of (lv0 := [some (zr 20 n0), some (zr 11 n1)]) zmok_50 rfl rfl (fun v hv => by cases hv) (g_X5_keep hd h)
def f_X0_take (n0 : Nat) (v1 : Int) (M : zM) : Option (zM) :=
  if 0 ≤ zw v1 ∧ zw v1 < 8 then
    zlet (zput M 16 ((zix v1) + 8 * n0) 6 (M 16 ((zix v1) + 8 * n0) 4)) fun M1 =>
    zlet (zput M1 16 ((zix v1) + 8 * n0) 5 (M1 11 n0 10)) fun M2 =>
    zlet (zput M2 16 ((zix v1) + 8 * n0) 4 (-1)) fun M3 =>
    some M3
  else
    none
theorem g_X0_take {n0 : Nat} {v1 : Int} {M : zM} {q : zM} {d : Nat} (hd : 0 ≤ d) (h : f_X0_take n0 v1 M = some q) : zG 12 d (0, [some (zr 11 n0), some (zi v1), none], [], M) none q := by
  have hm := zmok_12
  unfold f_X0_take at h
  refine zG_run hm 3 (cf' := (5, [some (zr 11 n0), some (zi v1), none], [zi v1, zr 14 n0], M)) rfl ?_
  by_cases c4 : 0 ≤ zw v1 ∧ zw v1 < 8
  · rw [if_pos c4] at h
    refine zG_br hm rfl (cf' := (6, [some (zr 11 n0), some (zi v1), none], [zr 16 ((zix v1) + 8 * n0)], M)) (if_pos c4) ?_
    refine zG_run hm 5 (cf' := (15, [some (zr 11 n0), some (zi v1), some (zr 16 ((zix v1) + 8 * n0))], [], (zput M 16 ((zix v1) + 8 * n0) 6 (M 16 ((zix v1) + 8 * n0) 4)))) rfl ?_
    obtain ⟨M1, eM1, h⟩ := zlet_of h
    rw [eM1]
    refine zG_run hm 4 (cf' := (23, [some (zr 11 n0), some (zi v1), some (zr 16 ((zix v1) + 8 * n0))], [], (zput M1 16 ((zix v1) + 8 * n0) 5 (M1 11 n0 10)))) rfl ?_
    obtain ⟨M2, eM2, h⟩ := zlet_of h
    rw [eM2]
    refine zG_run hm 3 (cf' := (28, [some (zr 11 n0), some (zi v1), some (zr 16 ((zix v1) + 8 * n0))], [], (zput M2 16 ((zix v1) + 8 * n0) 4 (-1)))) rfl ?_
    obtain ⟨M3, eM3, h⟩ := zlet_of h
    rw [eM3]
    cases h
    exact zG_rv hm rfl rfl
  · rw [if_neg c4] at h
    cases h
theorem met_X0_take {n0 : Nat} {v1 : Int} {M : zM} {q : zM} {d : Nat} (hd : 0 ≤ d) (h : f_X0_take n0 v1 M = some q) : zMet 12 d [zr 11 n0, zi v1] M none q :=
  zMet_of (lv0 := [some (zr 11 n0), some (zi v1), none]) zmok_12 rfl rfl (fun v hv => by cases hv) (g_X0_take hd h)
def f_X10_steal (v1 : Int) (M : zM) : Option (Int × zM) :=
  (f_X0_canTake 0 v1 M).bind fun p1 =>
    if ¬ zw p1.1 = 0 then
      (f_X5_keep 0 0 p1.2).bind fun p2 =>
        (f_X0_take 0 v1 p2).bind fun p3 =>
          (f_X0_keptBulk 0 p3).bind fun p4 =>
            some (p4.1, p4.2)
    else
      some ((-1), p1.2)
theorem g_X10_steal {v1 : Int} {M : zM} {q : Int × zM} {d : Nat} (hd : 3 ≤ d) (h : f_X10_steal v1 M = some q) : zG 69 d (0, [some (zr 0 0), some (zi v1)], [], M) (some (zi q.1)) q.2 := by
  have hm := zmok_69
  unfold f_X10_steal at h
  refine zG_run hm 3 (cf' := (5, [some (zr 0 0), some (zi v1)], [zi v1, zr 11 0], M)) rfl ?_
  obtain ⟨p1, hp1, h⟩ := Option.bind_eq_some_iff.mp h
  refine zG_V hm zmok_6 rfl (as := [zi v1]) (rest := []) (st2 := [zi p1.1]) (pc2 := 8) rfl rfl (by omega) (met_X0_canTake (d := 2) (Nat.le_refl _) hp1) rfl ?_
  by_cases c5 : ¬ zw p1.1 = 0
  · rw [if_pos c5] at h
    refine zG_br hm rfl (cf' := (13, [some (zr 0 0), some (zi v1)], [], p1.2)) (if_pos c5) ?_
    refine zG_run hm 4 (cf' := (21, [some (zr 0 0), some (zi v1)], [zr 11 0, zr 20 0], p1.2)) rfl ?_
    obtain ⟨p2, hp2, h⟩ := Option.bind_eq_some_iff.mp h
    refine zG_V hm zmok_50 rfl (as := [zr 11 0]) (rest := []) (st2 := []) (pc2 := 24) rfl rfl (by omega) (met_X5_keep (d := 1) (Nat.le_refl _) hp2) rfl ?_
    refine zG_run hm 3 (cf' := (29, [some (zr 0 0), some (zi v1)], [zi v1, zr 11 0], p2)) rfl ?_
    obtain ⟨p3, hp3, h⟩ := Option.bind_eq_some_iff.mp h
    refine zG_V hm zmok_12 rfl (as := [zi v1]) (rest := []) (st2 := []) (pc2 := 32) rfl rfl (by omega) (met_X0_take (d := 0) (Nat.le_refl _) hp3) rfl ?_
    refine zG_run hm 2 (cf' := (36, [some (zr 0 0), some (zi v1)], [zr 11 0], p3)) rfl ?_
    obtain ⟨p4, hp4, h⟩ := Option.bind_eq_some_iff.mp h
    refine zG_V hm zmok_8 rfl (as := []) (rest := []) (st2 := [zi p4.1]) (pc2 := 39) rfl rfl (by omega) (met_X0_keptBulk (d := 1) (Nat.le_refl _) hp4) rfl ?_
    cases h
    exact zG_ri hm rfl rfl
  · rw [if_neg c5] at h
    refine zG_br hm rfl (cf' := (11, [some (zr 0 0), some (zi v1)], [], p1.2)) (if_neg c5) ?_
    refine zG_run hm 1 (cf' := (12, [some (zr 0 0), some (zi v1)], [zi (-1)], p1.2)) rfl ?_
    cases h
    exact zG_ri hm rfl rfl
theorem met_X10_steal {v1 : Int} {M : zM} {q : Int × zM} {d : Nat} (hd : 3 ≤ d) (h : f_X10_steal v1 M = some q) : zMet 69 d [zr 0 0, zi v1] M (some (zi q.1)) q.2 :=
  zMet_of (lv0 := [some (zr 0 0), some (zi v1)]) zmok_69 rfl rfl (fun v hv => by cases hv; trivial) (g_X10_steal hd h)
def f_X11_isThing (v1 : Int) (M : zM) : Option (Int × zM) :=
  (f_X11_in v1 0 ((M 43 0 1) - 1) M).bind fun p1 =>
    if p1.1 = 0 ∨ p1.1 = 1 then
      some (p1.1, p1.2)
    else
      none
theorem g_X11_isThing {v1 : Int} {M : zM} {q : Int × zM} {d : Nat} (hd : 1 ≤ d) (h : f_X11_isThing v1 M = some q) : zG 123 d (0, [some (zr 42 0), some (zi v1)], [], M) (some (zi q.1)) q.2 := by
  have hm := zmok_123
  unfold f_X11_isThing at h
  refine zG_run hm 8 (cf' := (10, [some (zr 42 0), some (zi v1)], [zi ((M 43 0 1) - 1), zi 0, zi v1], M)) rfl ?_
  obtain ⟨p1, hp1, h⟩ := Option.bind_eq_some_iff.mp h
  refine zG_S hm zmok_117 rfl (as := [zi v1, zi 0, zi ((M 43 0 1) - 1)]) (rest := []) (st2 := [zi p1.1]) (pc2 := 13) rfl rfl (by omega) (met_X11_in (d := 0) (Nat.le_refl _) hp1) rfl ?_
  by_cases hz : p1.1 = 0 ∨ p1.1 = 1
  · rw [if_pos hz] at h
    cases h
    exact zG_rz hm rfl rfl hz
  · rw [if_neg hz] at h
    cases h
theorem met_X11_isThing {v1 : Int} {M : zM} {q : Int × zM} {d : Nat} (hd : 1 ≤ d) (h : f_X11_isThing v1 M = some q) : zMet 123 d [zr 42 0, zi v1] M (some (zi q.1)) q.2 :=
  zMet_of (lv0 := [some (zr 42 0), some (zi v1)]) zmok_123 rfl rfl (fun v hv => by cases hv; trivial) (g_X11_isThing hd h)
def f_X11_laysNow_L2 (v1 : Int) (M : zM) : Option ((Int × zM) ⊕ (zM)) :=
  if 161 ≤ zw v1 then
    some (.inr M)
  else
    if 0 ≤ zw (90 + v1) ∧ zw (90 + v1) < 5090 then
      if 0 ≤ zw v1 ∧ zw v1 < 161 then
        zlet (zput M 68 0 (zix v1) (M 43 0 (zix (90 + v1)))) fun M1 =>
        some (.inl ((v1 + 1), M1))
      else
        none
    else
      none
theorem g_X11_laysNow_L2 {v1 : Int} {M : zM} {x : (Int × zM) ⊕ (zM)} {r : Option zV} {Mf : zM} {d : Nat} (hd : 0 ≤ d) (h : f_X11_laysNow_L2 v1 M = some x)
    (kc : ∀ s, x = .inl s → zG 171 d (2, [some (zr 42 0), some (zi s.1)], [], s.2) r Mf)
    (kb : ∀ t, x = .inr t → zG 171 d (30, [none, none], [], t) r Mf) (kr : True) : zG 171 d (2, [some (zr 42 0), some (zi v1)], [], M) r Mf := by
  have hm := zmok_171
  unfold f_X11_laysNow_L2 at h
  refine zG_run hm 2 (cf' := (6, [some (zr 42 0), some (zi v1)], [zi 161, zi v1], M)) rfl ?_
  by_cases c4 : 161 ≤ zw v1
  · rw [if_pos c4] at h
    refine zG_br hm rfl (cf' := (30, [some (zr 42 0), some (zi v1)], [], M)) (if_pos c4) ?_
    refine zG_sub (lv' := [none, none]) (zsb_n (zsb_n zsb_0)) ?_
    exact kb M (Option.some.inj h).symm
  · rw [if_neg c4] at h
    refine zG_br hm rfl (cf' := (9, [some (zr 42 0), some (zi v1)], [], M)) (if_neg c4) ?_
    refine zG_run hm 8 (cf' := (22, [some (zr 42 0), some (zi v1)], [zi (90 + v1), zr 43 0, zi v1, zr 68 0], M)) rfl ?_
    by_cases c3 : 0 ≤ zw (90 + v1) ∧ zw (90 + v1) < 5090
    · rw [if_pos c3] at h
      refine zG_br hm rfl (cf' := (23, [some (zr 42 0), some (zi v1)], [zi (M 43 0 (zix (90 + v1))), zi v1, zr 68 0], M)) (if_pos c3) ?_
      by_cases c2 : 0 ≤ zw v1 ∧ zw v1 < 161
      · rw [if_pos c2] at h
        refine zG_br hm rfl (cf' := (24, [some (zr 42 0), some (zi v1)], [], (zput M 68 0 (zix v1) (M 43 0 (zix (90 + v1)))))) (if_pos c2) ?_
        obtain ⟨M1, eM1, h⟩ := zlet_of h
        rw [eM1]
        refine zG_run hm 2 (cf' := (2, [some (zr 42 0), some (zi (v1 + 1))], [], M1)) rfl ?_
        refine zG_sub (lv' := [some (zr 42 0), some (zi (v1 + 1))]) (zsb_s rfl (zsb_s rfl zsb_0)) ?_
        exact kc ((v1 + 1), M1) (Option.some.inj h).symm
      · rw [if_neg c2] at h
        cases h
    · rw [if_neg c3] at h
      cases h
theorem gl_X11_laysNow_L2  {y : zM} {r : Option zV} {Mf : zM} {d : Nat} (hd : 0 ≤ d)
    (kb : ∀ t, y = t → zG 171 d (30, [none, none], [], t) r Mf) (kr : True) : ∀ (n : Nat) (s : Int × zM), zlp (fun s : Int × zM => f_X11_laysNow_L2  s.1 s.2) n s = some y → zG 171 d (2, [some (zr 42 0), some (zi s.1)], [], s.2) r Mf := by
  intro n
  induction n with
  | zero => intro s h; cases h
  | succ n ih =>
    intro s h
    rcases zlp_cases h with ⟨s', h1, h2⟩ | h1
    · exact g_X11_laysNow_L2 hd h1 (fun s2 e2 => by cases e2; exact ih _ h2) (fun t e2 => by cases e2) trivial
    · exact g_X11_laysNow_L2 hd h1 (fun s2 e2 => by cases e2) (fun t e2 => kb t (Sum.inr.inj e2)) trivial
def f_X11_laysNow  (M : zM) : Option (zM) :=
  (zlp (fun s : Int × zM => f_X11_laysNow_L2  s.1 s.2) zF (0, M)).bind fun y5 =>
    some y5
theorem g_X11_laysNow  {M : zM} {q : zM} {d : Nat} (hd : 0 ≤ d) (h : f_X11_laysNow  M = some q) : zG 171 d (0, [some (zr 42 0), none], [], M) none q := by
  have hm := zmok_171
  unfold f_X11_laysNow at h
  refine zG_run hm 2 (cf' := (2, [some (zr 42 0), some (zi 0)], [], M)) rfl ?_
  refine zG_sub (lv' := [some (zr 42 0), some (zi 0)]) (zsb_s rfl (zsb_s rfl zsb_0)) ?_
  obtain ⟨y5, hy5, h⟩ := Option.bind_eq_some_iff.mp h
  refine gl_X11_laysNow_L2 hd (fun t e2 => ?_) trivial zF (0, M) hy5
  cases e2
  cases h
  exact zG_rv hm rfl rfl
theorem met_X11_laysNow  {M : zM} {q : zM} {d : Nat} (hd : 0 ≤ d) (h : f_X11_laysNow  M = some q) : zMet 171 d [zr 42 0] M none q :=
  zMet_of (lv0 := [some (zr 42 0), none]) zmok_171 rfl rfl (fun v hv => by cases hv) (g_X11_laysNow hd h)
def f_X11_isKept (v1 : Int) (M : zM) : Option (Int × zM) :=
  if 0 ≤ zw (14 + v1) ∧ zw (14 + v1) < 161 then
    if ¬ zw (M 68 0 (zix (14 + v1))) = (-1) then
      some (0, M)
    else
      some (1, M)
  else
    none
theorem g_X11_isKept {v1 : Int} {M : zM} {q : Int × zM} {d : Nat} (hd : 0 ≤ d) (h : f_X11_isKept v1 M = some q) : zG 173 d (0, [some (zr 42 0), some (zi v1)], [], M) (some (zi q.1)) q.2 := by
  have hm := zmok_173
  unfold f_X11_isKept at h
  refine zG_run hm 5 (cf' := (8, [some (zr 42 0), some (zi v1)], [zi (14 + v1), zr 68 0], M)) rfl ?_
  by_cases c2 : 0 ≤ zw (14 + v1) ∧ zw (14 + v1) < 161
  · rw [if_pos c2] at h
    refine zG_br hm rfl (cf' := (9, [some (zr 42 0), some (zi v1)], [zi (M 68 0 (zix (14 + v1)))], M)) (if_pos c2) ?_
    refine zG_run hm 1 (cf' := (10, [some (zr 42 0), some (zi v1)], [zi (-1), zi (M 68 0 (zix (14 + v1)))], M)) rfl ?_
    by_cases c1 : ¬ zw (M 68 0 (zix (14 + v1))) = (-1)
    · rw [if_pos c1] at h
      refine zG_br hm rfl (cf' := (17, [some (zr 42 0), some (zi v1)], [], M)) (if_pos c1) ?_
      refine zG_run hm 1 (cf' := (18, [some (zr 42 0), some (zi v1)], [zi 0], M)) rfl ?_
      cases h
      exact zG_rz hm rfl rfl (Or.inl rfl)
    · rw [if_neg c1] at h
      refine zG_br hm rfl (cf' := (13, [some (zr 42 0), some (zi v1)], [], M)) (if_neg c1) ?_
      refine zG_run hm 2 (cf' := (18, [some (zr 42 0), some (zi v1)], [zi 1], M)) rfl ?_
      cases h
      exact zG_rz hm rfl rfl (Or.inr rfl)
  · rw [if_neg c2] at h
    cases h
theorem met_X11_isKept {v1 : Int} {M : zM} {q : Int × zM} {d : Nat} (hd : 0 ≤ d) (h : f_X11_isKept v1 M = some q) : zMet 173 d [zr 42 0, zi v1] M (some (zi q.1)) q.2 :=
  zMet_of (lv0 := [some (zr 42 0), some (zi v1)]) zmok_173 rfl rfl (fun v hv => by cases hv; trivial) (g_X11_isKept hd h)
def f_X11_keptBulk_j36 (v2 : Int) (vs0 : Int) (vs1 : Int) (M : zM) : Option ((Int × Int × zM) ⊕ (Int × zM)) :=
  some (.inl ((vs1 + vs0), (v2 + 1), M))
theorem g_X11_keptBulk_j36 {v2 : Int} {vs0 : Int} {vs1 : Int} {M : zM} {x : (Int × Int × zM) ⊕ (Int × zM)} {r : Option zV} {Mf : zM} {d : Nat} (hd : 1 ≤ d) (h : f_X11_keptBulk_j36 v2 vs0 vs1 M = some x)
    (kc : ∀ s, x = .inl s → zG 179 d (4, [some (zr 42 0), some (zi s.1), some (zi s.2.1)], [], s.2.2) r Mf)
    (kb : ∀ t, x = .inr t → zG 179 d (44, [none, some (zi t.1), none], [], t.2) r Mf) (kr : True) : zG 179 d (36, [some (zr 42 0), none, some (zi v2)], [zi vs0, zi vs1], M) r Mf := by
  have hm := zmok_179
  unfold f_X11_keptBulk_j36 at h
  refine zG_run hm 4 (cf' := (4, [some (zr 42 0), some (zi (vs1 + vs0)), some (zi (v2 + 1))], [], M)) rfl ?_
  refine zG_sub (lv' := [some (zr 42 0), some (zi (vs1 + vs0)), some (zi (v2 + 1))]) (zsb_s rfl (zsb_s rfl (zsb_s rfl zsb_0))) ?_
  exact kc ((vs1 + vs0), (v2 + 1), M) (Option.some.inj h).symm
def f_X11_keptBulk_L4 (v1 : Int) (v2 : Int) (M : zM) : Option ((Int × Int × zM) ⊕ (Int × zM)) :=
  if zw (M 43 0 1) ≤ zw v2 then
    some (.inr (v1, M))
  else
    (f_X11_isKept v2 M).bind fun p1 =>
      if zw p1.1 = 0 then
        f_X11_keptBulk_j36 v2 0 v1 p1.2
      else
        if 0 ≤ zw (24 + v2) ∧ zw (24 + v2) < 5090 then
          f_X11_keptBulk_j36 v2 (p1.2 43 0 (zix (24 + v2))) v1 p1.2
        else
          none
theorem g_X11_keptBulk_L4 {v1 : Int} {v2 : Int} {M : zM} {x : (Int × Int × zM) ⊕ (Int × zM)} {r : Option zV} {Mf : zM} {d : Nat} (hd : 1 ≤ d) (h : f_X11_keptBulk_L4 v1 v2 M = some x)
    (kc : ∀ s, x = .inl s → zG 179 d (4, [some (zr 42 0), some (zi s.1), some (zi s.2.1)], [], s.2.2) r Mf)
    (kb : ∀ t, x = .inr t → zG 179 d (44, [none, some (zi t.1), none], [], t.2) r Mf) (kr : True) : zG 179 d (4, [some (zr 42 0), some (zi v1), some (zi v2)], [], M) r Mf := by
  have hm := zmok_179
  unfold f_X11_keptBulk_L4 at h
  refine zG_run hm 5 (cf' := (11, [some (zr 42 0), some (zi v1), some (zi v2)], [zi (M 43 0 1), zi v2], M)) rfl ?_
  by_cases c4 : zw (M 43 0 1) ≤ zw v2
  · rw [if_pos c4] at h
    refine zG_br hm rfl (cf' := (44, [some (zr 42 0), some (zi v1), some (zi v2)], [], M)) (if_pos c4) ?_
    refine zG_sub (lv' := [none, some (zi v1), none]) (zsb_n (zsb_s rfl (zsb_n zsb_0))) ?_
    exact kb (v1, M) (Option.some.inj h).symm
  · rw [if_neg c4] at h
    refine zG_br hm rfl (cf' := (14, [some (zr 42 0), some (zi v1), some (zi v2)], [], M)) (if_neg c4) ?_
    refine zG_run hm 3 (cf' := (17, [some (zr 42 0), some (zi v1), some (zi v2)], [zi v2, zr 42 0, zi v1], M)) rfl ?_
    obtain ⟨p1, hp1, h⟩ := Option.bind_eq_some_iff.mp h
    refine zG_V hm zmok_173 rfl (as := [zi v2]) (rest := [zi v1]) (st2 := [zi p1.1, zi v1]) (pc2 := 20) rfl rfl (by omega) (met_X11_isKept (d := 0) (Nat.le_refl _) hp1) rfl ?_
    by_cases c3 : zw p1.1 = 0
    · rw [if_pos c3] at h
      refine zG_br hm rfl (cf' := (35, [some (zr 42 0), some (zi v1), some (zi v2)], [zi v1], p1.2)) (if_pos c3) ?_
      refine zG_run hm 1 (cf' := (36, [some (zr 42 0), some (zi v1), some (zi v2)], [zi 0, zi v1], p1.2)) rfl ?_
      refine zG_sub (lv' := [some (zr 42 0), none, some (zi v2)]) (zsb_s rfl (zsb_n (zsb_s rfl zsb_0))) ?_
      exact g_X11_keptBulk_j36 hd h kc kb kr
    · rw [if_neg c3] at h
      refine zG_br hm rfl (cf' := (23, [some (zr 42 0), some (zi v1), some (zi v2)], [zi v1], p1.2)) (if_neg c3) ?_
      refine zG_run hm 5 (cf' := (31, [some (zr 42 0), some (zi v1), some (zi v2)], [zi (24 + v2), zr 43 0, zi v1], p1.2)) rfl ?_
      by_cases c2 : 0 ≤ zw (24 + v2) ∧ zw (24 + v2) < 5090
      · rw [if_pos c2] at h
        refine zG_br hm rfl (cf' := (32, [some (zr 42 0), some (zi v1), some (zi v2)], [zi (p1.2 43 0 (zix (24 + v2))), zi v1], p1.2)) (if_pos c2) ?_
        refine zG_run hm 1 (cf' := (36, [some (zr 42 0), some (zi v1), some (zi v2)], [zi (p1.2 43 0 (zix (24 + v2))), zi v1], p1.2)) rfl ?_
        refine zG_sub (lv' := [some (zr 42 0), none, some (zi v2)]) (zsb_s rfl (zsb_n (zsb_s rfl zsb_0))) ?_
        exact g_X11_keptBulk_j36 hd h kc kb kr
      · rw [if_neg c2] at h
        cases h
theorem gl_X11_keptBulk_L4  {y : Int × zM} {r : Option zV} {Mf : zM} {d : Nat} (hd : 1 ≤ d)
    (kb : ∀ t, y = t → zG 179 d (44, [none, some (zi t.1), none], [], t.2) r Mf) (kr : True) : ∀ (n : Nat) (s : Int × Int × zM), zlp (fun s : Int × Int × zM => f_X11_keptBulk_L4  s.1 s.2.1 s.2.2) n s = some y → zG 179 d (4, [some (zr 42 0), some (zi s.1), some (zi s.2.1)], [], s.2.2) r Mf := by
  intro n
  induction n with
  | zero => intro s h; cases h
  | succ n ih =>
    intro s h
    rcases zlp_cases h with ⟨s', h1, h2⟩ | h1
    · exact g_X11_keptBulk_L4 hd h1 (fun s2 e2 => by cases e2; exact ih _ h2) (fun t e2 => by cases e2) trivial
    · exact g_X11_keptBulk_L4 hd h1 (fun s2 e2 => by cases e2) (fun t e2 => kb t (Sum.inr.inj e2)) trivial
def f_X11_keptBulk  (M : zM) : Option (Int × zM) :=
  (zlp (fun s : Int × Int × zM => f_X11_keptBulk_L4  s.1 s.2.1 s.2.2) zF (0, 0, M)).bind fun y5 =>
    some (y5.1, y5.2)
theorem g_X11_keptBulk  {M : zM} {q : Int × zM} {d : Nat} (hd : 1 ≤ d) (h : f_X11_keptBulk  M = some q) : zG 179 d (0, [some (zr 42 0), none, none], [], M) (some (zi q.1)) q.2 := by
  have hm := zmok_179
  unfold f_X11_keptBulk at h
  refine zG_run hm 4 (cf' := (4, [some (zr 42 0), some (zi 0), some (zi 0)], [], M)) rfl ?_
  refine zG_sub (lv' := [some (zr 42 0), some (zi 0), some (zi 0)]) (zsb_s rfl (zsb_s rfl (zsb_s rfl zsb_0))) ?_
  obtain ⟨y5, hy5, h⟩ := Option.bind_eq_some_iff.mp h
  refine gl_X11_keptBulk_L4 hd (fun t e2 => ?_) trivial zF (0, 0, M) hy5
  cases e2
  refine zG_run hm 1 (cf' := (45, [none, some (zi y5.1), none], [zi y5.1], y5.2)) rfl ?_
  cases h
  exact zG_ri hm rfl rfl
theorem met_X11_keptBulk  {M : zM} {q : Int × zM} {d : Nat} (hd : 1 ≤ d) (h : f_X11_keptBulk  M = some q) : zMet 179 d [zr 42 0] M (some (zi q.1)) q.2 :=
  zMet_of (lv0 := [some (zr 42 0), none, none]) zmok_179 rfl rfl (fun v hv => by cases hv; trivial) (g_X11_keptBulk hd h)
def f_X11_mayStealNow (v1 : Int) (M : zM) : Option (Int × zM) :=
  (f_X11_isKept v1 M).bind fun p1 =>
    if ¬ zw p1.1 = 0 then
      some (0, p1.2)
    else
      (f_X11_keptBulk  p1.2).bind fun p2 =>
        if 0 ≤ zw (24 + v1) ∧ zw (24 + v1) < 5090 then
          if zw (p2.2 43 0 2) < zw (p2.1 + (p2.2 43 0 (zix (24 + v1)))) then
            some (0, p2.2)
          else
            some (1, p2.2)
        else
          none
theorem g_X11_mayStealNow {v1 : Int} {M : zM} {q : Int × zM} {d : Nat} (hd : 2 ≤ d) (h : f_X11_mayStealNow v1 M = some q) : zG 180 d (0, [some (zr 42 0), some (zi v1)], [], M) (some (zi q.1)) q.2 := by
  have hm := zmok_180
  unfold f_X11_mayStealNow at h
  refine zG_run hm 2 (cf' := (2, [some (zr 42 0), some (zi v1)], [zi v1, zr 42 0], M)) rfl ?_
  obtain ⟨p1, hp1, h⟩ := Option.bind_eq_some_iff.mp h
  refine zG_V hm zmok_173 rfl (as := [zi v1]) (rest := []) (st2 := [zi p1.1]) (pc2 := 5) rfl rfl (by omega) (met_X11_isKept (d := 0) (Nat.le_refl _) hp1) rfl ?_
  by_cases c5 : ¬ zw p1.1 = 0
  · rw [if_pos c5] at h
    refine zG_br hm rfl (cf' := (35, [some (zr 42 0), some (zi v1)], [], p1.2)) (if_pos c5) ?_
    refine zG_run hm 1 (cf' := (36, [some (zr 42 0), some (zi v1)], [zi 0], p1.2)) rfl ?_
    cases h
    exact zG_rz hm rfl rfl (Or.inl rfl)
  · rw [if_neg c5] at h
    refine zG_br hm rfl (cf' := (8, [some (zr 42 0), some (zi v1)], [], p1.2)) (if_neg c5) ?_
    refine zG_run hm 1 (cf' := (9, [some (zr 42 0), some (zi v1)], [zr 42 0], p1.2)) rfl ?_
    obtain ⟨p2, hp2, h⟩ := Option.bind_eq_some_iff.mp h
    refine zG_V hm zmok_179 rfl (as := []) (rest := []) (st2 := [zi p2.1]) (pc2 := 12) rfl rfl (by omega) (met_X11_keptBulk (d := 1) (Nat.le_refl _) hp2) rfl ?_
    refine zG_run hm 5 (cf' := (20, [some (zr 42 0), some (zi v1)], [zi (24 + v1), zr 43 0, zi p2.1], p2.2)) rfl ?_
    by_cases c4 : 0 ≤ zw (24 + v1) ∧ zw (24 + v1) < 5090
    · rw [if_pos c4] at h
      refine zG_br hm rfl (cf' := (21, [some (zr 42 0), some (zi v1)], [zi (p2.2 43 0 (zix (24 + v1))), zi p2.1], p2.2)) (if_pos c4) ?_
      refine zG_run hm 5 (cf' := (28, [some (zr 42 0), some (zi v1)], [zi (p2.2 43 0 2), zi (p2.1 + (p2.2 43 0 (zix (24 + v1))))], p2.2)) rfl ?_
      by_cases c3 : zw (p2.2 43 0 2) < zw (p2.1 + (p2.2 43 0 (zix (24 + v1))))
      · rw [if_pos c3] at h
        refine zG_br hm rfl (cf' := (35, [some (zr 42 0), some (zi v1)], [], p2.2)) (if_pos c3) ?_
        refine zG_run hm 1 (cf' := (36, [some (zr 42 0), some (zi v1)], [zi 0], p2.2)) rfl ?_
        cases h
        exact zG_rz hm rfl rfl (Or.inl rfl)
      · rw [if_neg c3] at h
        refine zG_br hm rfl (cf' := (31, [some (zr 42 0), some (zi v1)], [], p2.2)) (if_neg c3) ?_
        refine zG_run hm 2 (cf' := (36, [some (zr 42 0), some (zi v1)], [zi 1], p2.2)) rfl ?_
        cases h
        exact zG_rz hm rfl rfl (Or.inr rfl)
    · rw [if_neg c4] at h
      cases h
theorem met_X11_mayStealNow {v1 : Int} {M : zM} {q : Int × zM} {d : Nat} (hd : 2 ≤ d) (h : f_X11_mayStealNow v1 M = some q) : zMet 180 d [zr 42 0, zi v1] M (some (zi q.1)) q.2 :=
  zMet_of (lv0 := [some (zr 42 0), some (zi v1)]) zmok_180 rfl rfl (fun v hv => by cases hv; trivial) (g_X11_mayStealNow hd h)
def f_X11_keepsStep_L54 (v1 : Int) (M : zM) : Option ((Int × zM) ⊕ (zM)) :=
  if 161 ≤ zw v1 then
    some (.inr M)
  else
    if 0 ≤ zw (90 + v1) ∧ zw (90 + v1) < 5090 then
      if 0 ≤ zw ((260 + (161 * (M 43 0 5))) + v1) ∧ zw ((260 + (161 * (M 43 0 5))) + v1) < 5090 then
        zlet (zput M 43 0 (zix ((260 + (161 * (M 43 0 5))) + v1)) (M 43 0 (zix (90 + v1)))) fun M1 =>
        some (.inl ((v1 + 1), M1))
      else
        none
    else
      none
theorem g_X11_keepsStep_L54 {v1 : Int} {M : zM} {x : (Int × zM) ⊕ (zM)} {r : Option zV} {Mf : zM} {d : Nat} (hd : 0 ≤ d) (h : f_X11_keepsStep_L54 v1 M = some x)
    (kc : ∀ s, x = .inl s → zG 128 d (54, [some (zr 42 0), some (zi s.1)], [], s.2) r Mf)
    (kb : ∀ t, x = .inr t → zG 128 d (97, [some (zr 42 0), none], [], t) r Mf) (kr : True) : zG 128 d (54, [some (zr 42 0), some (zi v1)], [], M) r Mf := by
  have hm := zmok_128
  unfold f_X11_keepsStep_L54 at h
  refine zG_run hm 2 (cf' := (58, [some (zr 42 0), some (zi v1)], [zi 161, zi v1], M)) rfl ?_
  by_cases c4 : 161 ≤ zw v1
  · rw [if_pos c4] at h
    refine zG_br hm rfl (cf' := (97, [some (zr 42 0), some (zi v1)], [], M)) (if_pos c4) ?_
    refine zG_sub (lv' := [some (zr 42 0), none]) (zsb_s rfl (zsb_n zsb_0)) ?_
    exact kb M (Option.some.inj h).symm
  · rw [if_neg c4] at h
    refine zG_br hm rfl (cf' := (61, [some (zr 42 0), some (zi v1)], [], M)) (if_neg c4) ?_
    refine zG_run hm 17 (cf' := (89, [some (zr 42 0), some (zi v1)], [zi (90 + v1), zr 43 0, zi ((260 + (161 * (M 43 0 5))) + v1), zr 43 0], M)) rfl ?_
    by_cases c3 : 0 ≤ zw (90 + v1) ∧ zw (90 + v1) < 5090
    · rw [if_pos c3] at h
      refine zG_br hm rfl (cf' := (90, [some (zr 42 0), some (zi v1)], [zi (M 43 0 (zix (90 + v1))), zi ((260 + (161 * (M 43 0 5))) + v1), zr 43 0], M)) (if_pos c3) ?_
      by_cases c2 : 0 ≤ zw ((260 + (161 * (M 43 0 5))) + v1) ∧ zw ((260 + (161 * (M 43 0 5))) + v1) < 5090
      · rw [if_pos c2] at h
        refine zG_br hm rfl (cf' := (91, [some (zr 42 0), some (zi v1)], [], (zput M 43 0 (zix ((260 + (161 * (M 43 0 5))) + v1)) (M 43 0 (zix (90 + v1)))))) (if_pos c2) ?_
        obtain ⟨M1, eM1, h⟩ := zlet_of h
        rw [eM1]
        refine zG_run hm 2 (cf' := (54, [some (zr 42 0), some (zi (v1 + 1))], [], M1)) rfl ?_
        refine zG_sub (lv' := [some (zr 42 0), some (zi (v1 + 1))]) (zsb_s rfl (zsb_s rfl zsb_0)) ?_
        exact kc ((v1 + 1), M1) (Option.some.inj h).symm
      · rw [if_neg c2] at h
        cases h
    · rw [if_neg c3] at h
      cases h
theorem gl_X11_keepsStep_L54  {y : zM} {r : Option zV} {Mf : zM} {d : Nat} (hd : 0 ≤ d)
    (kb : ∀ t, y = t → zG 128 d (97, [some (zr 42 0), none], [], t) r Mf) (kr : True) : ∀ (n : Nat) (s : Int × zM), zlp (fun s : Int × zM => f_X11_keepsStep_L54  s.1 s.2) n s = some y → zG 128 d (54, [some (zr 42 0), some (zi s.1)], [], s.2) r Mf := by
  intro n
  induction n with
  | zero => intro s h; cases h
  | succ n ih =>
    intro s h
    rcases zlp_cases h with ⟨s', h1, h2⟩ | h1
    · exact g_X11_keepsStep_L54 hd h1 (fun s2 e2 => by cases e2; exact ih _ h2) (fun t e2 => by cases e2) trivial
    · exact g_X11_keepsStep_L54 hd h1 (fun s2 e2 => by cases e2) (fun t e2 => kb t (Sum.inr.inj e2)) trivial
def f_X11_keepsStep_j52  (M : zM) : Option (zM) :=
  (zlp (fun s : Int × zM => f_X11_keepsStep_L54  s.1 s.2) zF (0, M)).bind fun y5 =>
    zlet (zput y5 43 0 5 ((y5 43 0 5) + 1)) fun M6 =>
    some M6
theorem g_X11_keepsStep_j52  {M : zM} {q : zM} {d : Nat} (hd : 0 ≤ d) (h : f_X11_keepsStep_j52  M = some q) : zG 128 d (52, [some (zr 42 0), none], [], M) none q := by
  have hm := zmok_128
  unfold f_X11_keepsStep_j52 at h
  refine zG_run hm 2 (cf' := (54, [some (zr 42 0), some (zi 0)], [], M)) rfl ?_
  refine zG_sub (lv' := [some (zr 42 0), some (zi 0)]) (zsb_s rfl (zsb_s rfl zsb_0)) ?_
  obtain ⟨y5, hy5, h⟩ := Option.bind_eq_some_iff.mp h
  refine gl_X11_keepsStep_L54 hd (fun t e2 => ?_) trivial zF (0, M) hy5
  cases e2
  refine zG_run hm 8 (cf' := (107, [some (zr 42 0), none], [], (zput y5 43 0 5 ((y5 43 0 5) + 1)))) rfl ?_
  obtain ⟨M6, eM6, h⟩ := zlet_of h
  rw [eM6]
  cases h
  exact zG_rv hm rfl rfl
def f_X11_keepsStep_L15 (v1 : Int) (M : zM) : Option ((Int × zM) ⊕ (zM)) :=
  if 4929 ≤ zw v1 then
    some (.inr M)
  else
    if 0 ≤ zw (v1 + 161) ∧ zw (v1 + 161) < 5090 then
      if 0 ≤ zw v1 ∧ zw v1 < 5090 then
        zlet (zput M 43 0 (zix v1) (M 43 0 (zix (v1 + 161)))) fun M7 =>
        some (.inl ((v1 + 1), M7))
      else
        none
    else
      none
theorem g_X11_keepsStep_L15 {v1 : Int} {M : zM} {x : (Int × zM) ⊕ (zM)} {r : Option zV} {Mf : zM} {d : Nat} (hd : 0 ≤ d) (h : f_X11_keepsStep_L15 v1 M = some x)
    (kc : ∀ s, x = .inl s → zG 128 d (15, [some (zr 42 0), some (zi s.1)], [], s.2) r Mf)
    (kb : ∀ t, x = .inr t → zG 128 d (44, [some (zr 42 0), none], [], t) r Mf) (kr : True) : zG 128 d (15, [some (zr 42 0), some (zi v1)], [], M) r Mf := by
  have hm := zmok_128
  unfold f_X11_keepsStep_L15 at h
  refine zG_run hm 2 (cf' := (19, [some (zr 42 0), some (zi v1)], [zi 4929, zi v1], M)) rfl ?_
  by_cases c10 : 4929 ≤ zw v1
  · rw [if_pos c10] at h
    refine zG_br hm rfl (cf' := (44, [some (zr 42 0), some (zi v1)], [], M)) (if_pos c10) ?_
    refine zG_sub (lv' := [some (zr 42 0), none]) (zsb_s rfl (zsb_n zsb_0)) ?_
    exact kb M (Option.some.inj h).symm
  · rw [if_neg c10] at h
    refine zG_br hm rfl (cf' := (22, [some (zr 42 0), some (zi v1)], [], M)) (if_neg c10) ?_
    refine zG_run hm 8 (cf' := (36, [some (zr 42 0), some (zi v1)], [zi (v1 + 161), zr 43 0, zi v1, zr 43 0], M)) rfl ?_
    by_cases c9 : 0 ≤ zw (v1 + 161) ∧ zw (v1 + 161) < 5090
    · rw [if_pos c9] at h
      refine zG_br hm rfl (cf' := (37, [some (zr 42 0), some (zi v1)], [zi (M 43 0 (zix (v1 + 161))), zi v1, zr 43 0], M)) (if_pos c9) ?_
      by_cases c8 : 0 ≤ zw v1 ∧ zw v1 < 5090
      · rw [if_pos c8] at h
        refine zG_br hm rfl (cf' := (38, [some (zr 42 0), some (zi v1)], [], (zput M 43 0 (zix v1) (M 43 0 (zix (v1 + 161)))))) (if_pos c8) ?_
        obtain ⟨M7, eM7, h⟩ := zlet_of h
        rw [eM7]
        refine zG_run hm 2 (cf' := (15, [some (zr 42 0), some (zi (v1 + 1))], [], M7)) rfl ?_
        refine zG_sub (lv' := [some (zr 42 0), some (zi (v1 + 1))]) (zsb_s rfl (zsb_s rfl zsb_0)) ?_
        exact kc ((v1 + 1), M7) (Option.some.inj h).symm
      · rw [if_neg c8] at h
        cases h
    · rw [if_neg c9] at h
      cases h
theorem gl_X11_keepsStep_L15  {y : zM} {r : Option zV} {Mf : zM} {d : Nat} (hd : 0 ≤ d)
    (kb : ∀ t, y = t → zG 128 d (44, [some (zr 42 0), none], [], t) r Mf) (kr : True) : ∀ (n : Nat) (s : Int × zM), zlp (fun s : Int × zM => f_X11_keepsStep_L15  s.1 s.2) n s = some y → zG 128 d (15, [some (zr 42 0), some (zi s.1)], [], s.2) r Mf := by
  intro n
  induction n with
  | zero => intro s h; cases h
  | succ n ih =>
    intro s h
    rcases zlp_cases h with ⟨s', h1, h2⟩ | h1
    · exact g_X11_keepsStep_L15 hd h1 (fun s2 e2 => by cases e2; exact ih _ h2) (fun t e2 => by cases e2) trivial
    · exact g_X11_keepsStep_L15 hd h1 (fun s2 e2 => by cases e2) (fun t e2 => kb t (Sum.inr.inj e2)) trivial
def f_X11_keepsStep  (M : zM) : Option (zM) :=
  if ¬ zw (M 43 0 5) = 30 then
    f_X11_keepsStep_j52  M
  else
    (zlp (fun s : Int × zM => f_X11_keepsStep_L15  s.1 s.2) zF (260, M)).bind fun y11 =>
      zlet (zput y11 43 0 5 29) fun M12 =>
      f_X11_keepsStep_j52  M12
theorem g_X11_keepsStep  {M : zM} {q : zM} {d : Nat} (hd : 0 ≤ d) (h : f_X11_keepsStep  M = some q) : zG 128 d (0, [some (zr 42 0), none], [], M) none q := by
  have hm := zmok_128
  unfold f_X11_keepsStep at h
  refine zG_run hm 5 (cf' := (8, [some (zr 42 0), none], [zi 30, zi (M 43 0 5)], M)) rfl ?_
  by_cases c13 : ¬ zw (M 43 0 5) = 30
  · rw [if_pos c13] at h
    refine zG_br hm rfl (cf' := (52, [some (zr 42 0), none], [], M)) (if_pos c13) ?_
    refine zG_sub (lv' := [some (zr 42 0), none]) (zsb_s rfl (zsb_n zsb_0)) ?_
    exact g_X11_keepsStep_j52 hd h
  · rw [if_neg c13] at h
    refine zG_br hm rfl (cf' := (11, [some (zr 42 0), none], [], M)) (if_neg c13) ?_
    refine zG_run hm 2 (cf' := (15, [some (zr 42 0), some (zi 260)], [], M)) rfl ?_
    refine zG_sub (lv' := [some (zr 42 0), some (zi 260)]) (zsb_s rfl (zsb_s rfl zsb_0)) ?_
    obtain ⟨y11, hy11, h⟩ := Option.bind_eq_some_iff.mp h
    refine gl_X11_keepsStep_L15 hd (fun t e2 => ?_) trivial zF (260, M) hy11
    cases e2
    refine zG_run hm 5 (cf' := (52, [some (zr 42 0), none], [], (zput y11 43 0 5 29))) rfl ?_
    obtain ⟨M12, eM12, h⟩ := zlet_of h
    rw [eM12]
    refine zG_sub (lv' := [some (zr 42 0), none]) (zsb_s rfl (zsb_n zsb_0)) ?_
    exact g_X11_keepsStep_j52 hd h
theorem met_X11_keepsStep  {M : zM} {q : zM} {d : Nat} (hd : 0 ≤ d) (h : f_X11_keepsStep  M = some q) : zMet 128 d [zr 42 0] M none q :=
  zMet_of (lv0 := [some (zr 42 0), none]) zmok_128 rfl rfl (fun v hv => by cases hv) (g_X11_keepsStep hd h)
def f_X11_stealsNow (v1 : Int) (M : zM) : Option (zM) :=
  if 0 ≤ zw (22 + v1) ∧ zw (22 + v1) < 161 then
    zlet (zput M 68 0 (zix (22 + v1)) (M 68 0 38)) fun M1 =>
    if 0 ≤ zw (14 + v1) ∧ zw (14 + v1) < 161 then
      if 0 ≤ zw (30 + v1) ∧ zw (30 + v1) < 161 then
        zlet (zput M1 68 0 (zix (30 + v1)) (M1 68 0 (zix (14 + v1)))) fun M2 =>
        if 0 ≤ zw (14 + v1) ∧ zw (14 + v1) < 161 then
          zlet (zput M2 68 0 (zix (14 + v1)) (-1)) fun M3 =>
          some M3
        else
          none
      else
        none
    else
      none
  else
    none
theorem g_X11_stealsNow {v1 : Int} {M : zM} {q : zM} {d : Nat} (hd : 0 ≤ d) (h : f_X11_stealsNow v1 M = some q) : zG 181 d (0, [some (zr 42 0), some (zi v1)], [], M) none q := by
  have hm := zmok_181
  unfold f_X11_stealsNow at h
  refine zG_run hm 9 (cf' := (15, [some (zr 42 0), some (zi v1)], [zi (M 68 0 38), zi (22 + v1), zr 68 0], M)) rfl ?_
  by_cases c7 : 0 ≤ zw (22 + v1) ∧ zw (22 + v1) < 161
  · rw [if_pos c7] at h
    refine zG_br hm rfl (cf' := (16, [some (zr 42 0), some (zi v1)], [], (zput M 68 0 (zix (22 + v1)) (M 68 0 38)))) (if_pos c7) ?_
    obtain ⟨M1, eM1, h⟩ := zlet_of h
    rw [eM1]
    refine zG_run hm 10 (cf' := (32, [some (zr 42 0), some (zi v1)], [zi (14 + v1), zr 68 0, zi (30 + v1), zr 68 0], M1)) rfl ?_
    by_cases c6 : 0 ≤ zw (14 + v1) ∧ zw (14 + v1) < 161
    · rw [if_pos c6] at h
      refine zG_br hm rfl (cf' := (33, [some (zr 42 0), some (zi v1)], [zi (M1 68 0 (zix (14 + v1))), zi (30 + v1), zr 68 0], M1)) (if_pos c6) ?_
      by_cases c5 : 0 ≤ zw (30 + v1) ∧ zw (30 + v1) < 161
      · rw [if_pos c5] at h
        refine zG_br hm rfl (cf' := (34, [some (zr 42 0), some (zi v1)], [], (zput M1 68 0 (zix (30 + v1)) (M1 68 0 (zix (14 + v1)))))) (if_pos c5) ?_
        obtain ⟨M2, eM2, h⟩ := zlet_of h
        rw [eM2]
        refine zG_run hm 6 (cf' := (43, [some (zr 42 0), some (zi v1)], [zi (-1), zi (14 + v1), zr 68 0], M2)) rfl ?_
        by_cases c4 : 0 ≤ zw (14 + v1) ∧ zw (14 + v1) < 161
        · rw [if_pos c4] at h
          refine zG_br hm rfl (cf' := (44, [some (zr 42 0), some (zi v1)], [], (zput M2 68 0 (zix (14 + v1)) (-1)))) (if_pos c4) ?_
          obtain ⟨M3, eM3, h⟩ := zlet_of h
          rw [eM3]
          cases h
          exact zG_rv hm rfl rfl
        · rw [if_neg c4] at h
          cases h
      · rw [if_neg c5] at h
        cases h
    · rw [if_neg c6] at h
      cases h
  · rw [if_neg c7] at h
    cases h
theorem met_X11_stealsNow {v1 : Int} {M : zM} {q : zM} {d : Nat} (hd : 0 ≤ d) (h : f_X11_stealsNow v1 M = some q) : zMet 181 d [zr 42 0, zi v1] M none q :=
  zMet_of (lv0 := [some (zr 42 0), some (zi v1)]) zmok_181 rfl rfl (fun v hv => by cases hv) (g_X11_stealsNow hd h)
def f_X11_keepsNow_L2 (v1 : Int) (M : zM) : Option ((Int × zM) ⊕ (zM)) :=
  if 161 ≤ zw v1 then
    some (.inr M)
  else
    if 0 ≤ zw v1 ∧ zw v1 < 161 then
      if 0 ≤ zw (90 + v1) ∧ zw (90 + v1) < 5090 then
        zlet (zput M 43 0 (zix (90 + v1)) (M 68 0 (zix v1))) fun M1 =>
        some (.inl ((v1 + 1), M1))
      else
        none
    else
      none
theorem g_X11_keepsNow_L2 {v1 : Int} {M : zM} {x : (Int × zM) ⊕ (zM)} {r : Option zV} {Mf : zM} {d : Nat} (hd : 0 ≤ d) (h : f_X11_keepsNow_L2 v1 M = some x)
    (kc : ∀ s, x = .inl s → zG 172 d (2, [some (zr 42 0), some (zi s.1)], [], s.2) r Mf)
    (kb : ∀ t, x = .inr t → zG 172 d (30, [none, none], [], t) r Mf) (kr : True) : zG 172 d (2, [some (zr 42 0), some (zi v1)], [], M) r Mf := by
  have hm := zmok_172
  unfold f_X11_keepsNow_L2 at h
  refine zG_run hm 2 (cf' := (6, [some (zr 42 0), some (zi v1)], [zi 161, zi v1], M)) rfl ?_
  by_cases c4 : 161 ≤ zw v1
  · rw [if_pos c4] at h
    refine zG_br hm rfl (cf' := (30, [some (zr 42 0), some (zi v1)], [], M)) (if_pos c4) ?_
    refine zG_sub (lv' := [none, none]) (zsb_n (zsb_n zsb_0)) ?_
    exact kb M (Option.some.inj h).symm
  · rw [if_neg c4] at h
    refine zG_br hm rfl (cf' := (9, [some (zr 42 0), some (zi v1)], [], M)) (if_neg c4) ?_
    refine zG_run hm 8 (cf' := (22, [some (zr 42 0), some (zi v1)], [zi v1, zr 68 0, zi (90 + v1), zr 43 0], M)) rfl ?_
    by_cases c3 : 0 ≤ zw v1 ∧ zw v1 < 161
    · rw [if_pos c3] at h
      refine zG_br hm rfl (cf' := (23, [some (zr 42 0), some (zi v1)], [zi (M 68 0 (zix v1)), zi (90 + v1), zr 43 0], M)) (if_pos c3) ?_
      by_cases c2 : 0 ≤ zw (90 + v1) ∧ zw (90 + v1) < 5090
      · rw [if_pos c2] at h
        refine zG_br hm rfl (cf' := (24, [some (zr 42 0), some (zi v1)], [], (zput M 43 0 (zix (90 + v1)) (M 68 0 (zix v1))))) (if_pos c2) ?_
        obtain ⟨M1, eM1, h⟩ := zlet_of h
        rw [eM1]
        refine zG_run hm 2 (cf' := (2, [some (zr 42 0), some (zi (v1 + 1))], [], M1)) rfl ?_
        refine zG_sub (lv' := [some (zr 42 0), some (zi (v1 + 1))]) (zsb_s rfl (zsb_s rfl zsb_0)) ?_
        exact kc ((v1 + 1), M1) (Option.some.inj h).symm
      · rw [if_neg c2] at h
        cases h
    · rw [if_neg c3] at h
      cases h
theorem gl_X11_keepsNow_L2  {y : zM} {r : Option zV} {Mf : zM} {d : Nat} (hd : 0 ≤ d)
    (kb : ∀ t, y = t → zG 172 d (30, [none, none], [], t) r Mf) (kr : True) : ∀ (n : Nat) (s : Int × zM), zlp (fun s : Int × zM => f_X11_keepsNow_L2  s.1 s.2) n s = some y → zG 172 d (2, [some (zr 42 0), some (zi s.1)], [], s.2) r Mf := by
  intro n
  induction n with
  | zero => intro s h; cases h
  | succ n ih =>
    intro s h
    rcases zlp_cases h with ⟨s', h1, h2⟩ | h1
    · exact g_X11_keepsNow_L2 hd h1 (fun s2 e2 => by cases e2; exact ih _ h2) (fun t e2 => by cases e2) trivial
    · exact g_X11_keepsNow_L2 hd h1 (fun s2 e2 => by cases e2) (fun t e2 => kb t (Sum.inr.inj e2)) trivial
def f_X11_keepsNow  (M : zM) : Option (zM) :=
  (zlp (fun s : Int × zM => f_X11_keepsNow_L2  s.1 s.2) zF (0, M)).bind fun y5 =>
    some y5
theorem g_X11_keepsNow  {M : zM} {q : zM} {d : Nat} (hd : 0 ≤ d) (h : f_X11_keepsNow  M = some q) : zG 172 d (0, [some (zr 42 0), none], [], M) none q := by
  have hm := zmok_172
  unfold f_X11_keepsNow at h
  refine zG_run hm 2 (cf' := (2, [some (zr 42 0), some (zi 0)], [], M)) rfl ?_
  refine zG_sub (lv' := [some (zr 42 0), some (zi 0)]) (zsb_s rfl (zsb_s rfl zsb_0)) ?_
  obtain ⟨y5, hy5, h⟩ := Option.bind_eq_some_iff.mp h
  refine gl_X11_keepsNow_L2 hd (fun t e2 => ?_) trivial zF (0, M) hy5
  cases e2
  cases h
  exact zG_rv hm rfl rfl
theorem met_X11_keepsNow  {M : zM} {q : zM} {d : Nat} (hd : 0 ≤ d) (h : f_X11_keepsNow  M = some q) : zMet 172 d [zr 42 0] M none q :=
  zMet_of (lv0 := [some (zr 42 0), none]) zmok_172 rfl rfl (fun v hv => by cases hv) (g_X11_keepsNow hd h)
def f_X11_steal (v1 : Int) (M : zM) : Option (Int × zM) :=
  (f_X11_isThing v1 M).bind fun p1 =>
    if ¬ zw p1.1 = 0 then
      (f_X11_laysNow  p1.2).bind fun p2 =>
        (f_X11_mayStealNow v1 p2).bind fun p3 =>
          if ¬ zw p3.1 = 0 then
            (f_X11_keepsStep  p3.2).bind fun p4 =>
              (f_X11_stealsNow v1 p4).bind fun p5 =>
                (f_X11_keepsNow  p5).bind fun p6 =>
                  (f_X11_keptBulk  p6).bind fun p7 =>
                    some (p7.1, p7.2)
          else
            some ((-1), p3.2)
    else
      some ((-1), p1.2)
theorem g_X11_steal {v1 : Int} {M : zM} {q : Int × zM} {d : Nat} (hd : 3 ≤ d) (h : f_X11_steal v1 M = some q) : zG 187 d (0, [some (zr 42 0), some (zi v1)], [], M) (some (zi q.1)) q.2 := by
  have hm := zmok_187
  unfold f_X11_steal at h
  refine zG_run hm 2 (cf' := (2, [some (zr 42 0), some (zi v1)], [zi v1, zr 42 0], M)) rfl ?_
  obtain ⟨p1, hp1, h⟩ := Option.bind_eq_some_iff.mp h
  refine zG_V hm zmok_123 rfl (as := [zi v1]) (rest := []) (st2 := [zi p1.1]) (pc2 := 5) rfl rfl (by omega) (met_X11_isThing (d := 1) (Nat.le_refl _) hp1) rfl ?_
  by_cases c9 : ¬ zw p1.1 = 0
  · rw [if_pos c9] at h
    refine zG_br hm rfl (cf' := (10, [some (zr 42 0), some (zi v1)], [], p1.2)) (if_pos c9) ?_
    refine zG_run hm 1 (cf' := (11, [some (zr 42 0), some (zi v1)], [zr 42 0], p1.2)) rfl ?_
    obtain ⟨p2, hp2, h⟩ := Option.bind_eq_some_iff.mp h
    refine zG_V hm zmok_171 rfl (as := []) (rest := []) (st2 := []) (pc2 := 14) rfl rfl (by omega) (met_X11_laysNow (d := 0) (Nat.le_refl _) hp2) rfl ?_
    refine zG_run hm 2 (cf' := (16, [some (zr 42 0), some (zi v1)], [zi v1, zr 42 0], p2)) rfl ?_
    obtain ⟨p3, hp3, h⟩ := Option.bind_eq_some_iff.mp h
    refine zG_V hm zmok_180 rfl (as := [zi v1]) (rest := []) (st2 := [zi p3.1]) (pc2 := 19) rfl rfl (by omega) (met_X11_mayStealNow (d := 2) (Nat.le_refl _) hp3) rfl ?_
    by_cases c8 : ¬ zw p3.1 = 0
    · rw [if_pos c8] at h
      refine zG_br hm rfl (cf' := (24, [some (zr 42 0), some (zi v1)], [], p3.2)) (if_pos c8) ?_
      refine zG_run hm 1 (cf' := (25, [some (zr 42 0), some (zi v1)], [zr 42 0], p3.2)) rfl ?_
      obtain ⟨p4, hp4, h⟩ := Option.bind_eq_some_iff.mp h
      refine zG_V hm zmok_128 rfl (as := []) (rest := []) (st2 := []) (pc2 := 28) rfl rfl (by omega) (met_X11_keepsStep (d := 0) (Nat.le_refl _) hp4) rfl ?_
      refine zG_run hm 2 (cf' := (30, [some (zr 42 0), some (zi v1)], [zi v1, zr 42 0], p4)) rfl ?_
      obtain ⟨p5, hp5, h⟩ := Option.bind_eq_some_iff.mp h
      refine zG_V hm zmok_181 rfl (as := [zi v1]) (rest := []) (st2 := []) (pc2 := 33) rfl rfl (by omega) (met_X11_stealsNow (d := 0) (Nat.le_refl _) hp5) rfl ?_
      refine zG_run hm 1 (cf' := (34, [some (zr 42 0), some (zi v1)], [zr 42 0], p5)) rfl ?_
      obtain ⟨p6, hp6, h⟩ := Option.bind_eq_some_iff.mp h
      refine zG_V hm zmok_172 rfl (as := []) (rest := []) (st2 := []) (pc2 := 37) rfl rfl (by omega) (met_X11_keepsNow (d := 0) (Nat.le_refl _) hp6) rfl ?_
      refine zG_run hm 1 (cf' := (38, [some (zr 42 0), some (zi v1)], [zr 42 0], p6)) rfl ?_
      obtain ⟨p7, hp7, h⟩ := Option.bind_eq_some_iff.mp h
      refine zG_V hm zmok_179 rfl (as := []) (rest := []) (st2 := [zi p7.1]) (pc2 := 41) rfl rfl (by omega) (met_X11_keptBulk (d := 1) (Nat.le_refl _) hp7) rfl ?_
      cases h
      exact zG_ri hm rfl rfl
    · rw [if_neg c8] at h
      refine zG_br hm rfl (cf' := (22, [some (zr 42 0), some (zi v1)], [], p3.2)) (if_neg c8) ?_
      refine zG_run hm 1 (cf' := (23, [some (zr 42 0), some (zi v1)], [zi (-1)], p3.2)) rfl ?_
      cases h
      exact zG_ri hm rfl rfl
  · rw [if_neg c9] at h
    refine zG_br hm rfl (cf' := (8, [some (zr 42 0), some (zi v1)], [], p1.2)) (if_neg c9) ?_
    refine zG_run hm 1 (cf' := (9, [some (zr 42 0), some (zi v1)], [zi (-1)], p1.2)) rfl ?_
    cases h
    exact zG_ri hm rfl rfl
theorem met_X11_steal {v1 : Int} {M : zM} {q : Int × zM} {d : Nat} (hd : 3 ≤ d) (h : f_X11_steal v1 M = some q) : zMet 187 d [zr 42 0, zi v1] M (some (zi q.1)) q.2 :=
  zMet_of (lv0 := [some (zr 42 0), some (zi v1)]) zmok_187 rfl rfl (fun v hv => by cases hv; trivial) (g_X11_steal hd h)
def f_X0_isKept (n0 : Nat) (v1 : Int) (M : zM) : Option (Int × zM) :=
  (f_X0_hasThing n0 v1 M).bind fun p1 =>
    if zw p1.1 = 0 then
      some (0, p1.2)
    else
      if 0 ≤ zw v1 ∧ zw v1 < 8 then
        if ¬ zw (p1.2 16 ((zix v1) + 8 * n0) 4) = (-1) then
          some (0, p1.2)
        else
          some (1, p1.2)
      else
        none
theorem g_X0_isKept {n0 : Nat} {v1 : Int} {M : zM} {q : Int × zM} {d : Nat} (hd : 1 ≤ d) (h : f_X0_isKept n0 v1 M = some q) : zG 5 d (0, [some (zr 11 n0), some (zi v1)], [], M) (some (zi q.1)) q.2 := by
  have hm := zmok_5
  unfold f_X0_isKept at h
  refine zG_run hm 2 (cf' := (2, [some (zr 11 n0), some (zi v1)], [zi v1, zr 11 n0], M)) rfl ?_
  obtain ⟨p1, hp1, h⟩ := Option.bind_eq_some_iff.mp h
  refine zG_V hm zmok_4 rfl (as := [zi v1]) (rest := []) (st2 := [zi p1.1]) (pc2 := 5) rfl rfl (by omega) (met_X0_hasThing (d := 0) (Nat.le_refl _) hp1) rfl ?_
  by_cases c4 : zw p1.1 = 0
  · rw [if_pos c4] at h
    refine zG_br hm rfl (cf' := (25, [some (zr 11 n0), some (zi v1)], [], p1.2)) (if_pos c4) ?_
    refine zG_run hm 1 (cf' := (26, [some (zr 11 n0), some (zi v1)], [zi 0], p1.2)) rfl ?_
    cases h
    exact zG_rz hm rfl rfl (Or.inl rfl)
  · rw [if_neg c4] at h
    refine zG_br hm rfl (cf' := (8, [some (zr 11 n0), some (zi v1)], [], p1.2)) (if_neg c4) ?_
    refine zG_run hm 3 (cf' := (13, [some (zr 11 n0), some (zi v1)], [zi v1, zr 14 n0], p1.2)) rfl ?_
    by_cases c3 : 0 ≤ zw v1 ∧ zw v1 < 8
    · rw [if_pos c3] at h
      refine zG_br hm rfl (cf' := (14, [some (zr 11 n0), some (zi v1)], [zr 16 ((zix v1) + 8 * n0)], p1.2)) (if_pos c3) ?_
      refine zG_run hm 2 (cf' := (18, [some (zr 11 n0), some (zi v1)], [zi (-1), zi (p1.2 16 ((zix v1) + 8 * n0) 4)], p1.2)) rfl ?_
      by_cases c2 : ¬ zw (p1.2 16 ((zix v1) + 8 * n0) 4) = (-1)
      · rw [if_pos c2] at h
        refine zG_br hm rfl (cf' := (25, [some (zr 11 n0), some (zi v1)], [], p1.2)) (if_pos c2) ?_
        refine zG_run hm 1 (cf' := (26, [some (zr 11 n0), some (zi v1)], [zi 0], p1.2)) rfl ?_
        cases h
        exact zG_rz hm rfl rfl (Or.inl rfl)
      · rw [if_neg c2] at h
        refine zG_br hm rfl (cf' := (21, [some (zr 11 n0), some (zi v1)], [], p1.2)) (if_neg c2) ?_
        refine zG_run hm 2 (cf' := (26, [some (zr 11 n0), some (zi v1)], [zi 1], p1.2)) rfl ?_
        cases h
        exact zG_rz hm rfl rfl (Or.inr rfl)
    · rw [if_neg c3] at h
      cases h
theorem met_X0_isKept {n0 : Nat} {v1 : Int} {M : zM} {q : Int × zM} {d : Nat} (hd : 1 ≤ d) (h : f_X0_isKept n0 v1 M = some q) : zMet 5 d [zr 11 n0, zi v1] M (some (zi q.1)) q.2 :=
  zMet_of (lv0 := [some (zr 11 n0), some (zi v1)]) zmok_5 rfl rfl (fun v hv => by cases hv; trivial) (g_X0_isKept hd h)
def f_X10_between (v0 : Int) (v1 : Int) (v2 : Int) (M : zM) : Option (Int × zM) :=
  some ((if zw v1 < zw (if zw v0 < zw v2 then v0 else v2) then (if zw v0 < zw v2 then v0 else v2) else v1), M)
theorem g_X10_between {v0 : Int} {v1 : Int} {v2 : Int} {M : zM} {q : Int × zM} {d : Nat} (hd : 0 ≤ d) (h : f_X10_between v0 v1 v2 M = some q) : zG 109 d (0, [some (zi v0), some (zi v1), some (zi v2)], [], M) (some (zi q.1)) q.2 := by
  have hm := zmok_109
  unfold f_X10_between at h
  refine zG_run hm 3 (cf' := (3, [some (zi v0), some (zi v1), some (zi v2)], [zi v0, zi v2, zi v1], M)) rfl ?_
  refine zG_min hm rfl rfl ?_
  show zG 109 d (6, [some (zi v0), some (zi v1), some (zi v2)], [zi (if zw v0 < zw v2 then v0 else v2), zi v1], M) _ _
  refine zG_max hm rfl rfl ?_
  show zG 109 d (9, [some (zi v0), some (zi v1), some (zi v2)], [zi (if zw v1 < zw (if zw v0 < zw v2 then v0 else v2) then (if zw v0 < zw v2 then v0 else v2) else v1)], M) _ _
  cases h
  exact zG_ri hm rfl rfl
theorem met_X10_between {v0 : Int} {v1 : Int} {v2 : Int} {M : zM} {q : Int × zM} {d : Nat} (hd : 0 ≤ d) (h : f_X10_between v0 v1 v2 M = some q) : zMet 109 d [zi v0, zi v1, zi v2] M (some (zi q.1)) q.2 :=
  zMet_of (lv0 := [some (zi v0), some (zi v1), some (zi v2)]) zmok_109 rfl rfl (fun v hv => by cases hv; trivial) (g_X10_between hd h)
def f_X1_joined_j145 (v3 : Int) (vs0 : Int) (M : zM) : Option (Int × zM) :=
  if 0 ≤ zw v3 then
    some ((zw v3), M)
  else
    some ((zw (v3 + vs0)), M)
theorem g_X1_joined_j145 {v3 : Int} {vs0 : Int} {M : zM} {q : Int × zM} {d : Nat} (hd : 0 ≤ d) (h : f_X1_joined_j145 v3 vs0 M = some q) : zG 21 d (145, [none, none, none, some (zi v3), none], [zi vs0], M) (some (zl q.1)) q.2 := by
  have hm := zmok_21
  unfold f_X1_joined_j145 at h
  refine zG_run hm 2 (cf' := (148, [none, none, none, some (zi v3), some (zi vs0)], [zi v3], M)) rfl ?_
  by_cases c2 : 0 ≤ zw v3
  · rw [if_pos c2] at h
    refine zG_br hm rfl (cf' := (159, [none, none, none, some (zi v3), some (zi vs0)], [], M)) (if_pos c2) ?_
    refine zG_run hm 2 (cf' := (161, [none, none, none, some (zi v3), some (zi vs0)], [zl (zw v3)], M)) rfl ?_
    cases h
    exact zG_rl hm rfl rfl
  · rw [if_neg c2] at h
    refine zG_br hm rfl (cf' := (151, [none, none, none, some (zi v3), some (zi vs0)], [], M)) (if_neg c2) ?_
    refine zG_run hm 5 (cf' := (161, [none, none, none, some (zi v3), some (zi vs0)], [zl (zw (v3 + vs0))], M)) rfl ?_
    cases h
    exact zG_rl hm rfl rfl
def f_X1_joined_j134 (v2 : Int) (vs0 : Int) (M : zM) : Option (Int × zM) :=
  if 0 ≤ zw v2 then
    f_X1_joined_j145 vs0 v2 M
  else
    f_X1_joined_j145 vs0 (-v2) M
theorem g_X1_joined_j134 {v2 : Int} {vs0 : Int} {M : zM} {q : Int × zM} {d : Nat} (hd : 0 ≤ d) (h : f_X1_joined_j134 v2 vs0 M = some q) : zG 21 d (134, [none, none, some (zi v2), none, none], [zi vs0], M) (some (zl q.1)) q.2 := by
  have hm := zmok_21
  unfold f_X1_joined_j134 at h
  refine zG_run hm 2 (cf' := (136, [none, none, some (zi v2), some (zi vs0), none], [zi v2], M)) rfl ?_
  by_cases c3 : 0 ≤ zw v2
  · rw [if_pos c3] at h
    refine zG_br hm rfl (cf' := (144, [none, none, some (zi v2), some (zi vs0), none], [], M)) (if_pos c3) ?_
    refine zG_run hm 1 (cf' := (145, [none, none, some (zi v2), some (zi vs0), none], [zi v2], M)) rfl ?_
    refine zG_sub (lv' := [none, none, none, some (zi vs0), none]) (zsb_n (zsb_n (zsb_n (zsb_s rfl (zsb_n zsb_0))))) ?_
    exact g_X1_joined_j145 hd h
  · rw [if_neg c3] at h
    refine zG_br hm rfl (cf' := (139, [none, none, some (zi v2), some (zi vs0), none], [], M)) (if_neg c3) ?_
    refine zG_run hm 3 (cf' := (145, [none, none, some (zi v2), some (zi vs0), none], [zi (-v2)], M)) rfl ?_
    refine zG_sub (lv' := [none, none, none, some (zi vs0), none]) (zsb_n (zsb_n (zsb_n (zsb_s rfl (zsb_n zsb_0))))) ?_
    exact g_X1_joined_j145 hd h
def f_X1_joined (v0 : Int) (v1 : Int) (v2 : Int) (M : zM) : Option (Int × zM) :=
  if zw v0 = 17 then
    if ¬ zw v2 = 0 then
      if zw v2 = 0 then
        none
      else
        f_X1_joined_j134 v2 (zrem (zw v1) (zw v2)) M
    else
      f_X1_joined_j134 v2 0 M
  else
    if zw v0 = 18 then
      some (0, M)
    else
      if zw v0 = 19 then
        some (0, M)
      else
        if zw v0 = 20 then
          some (0, M)
        else
          if zw v0 = 21 then
            some (0, M)
          else
            if zw v0 = 22 then
              some ((zw (zor v1 v2)), M)
            else
              if zw v0 = 23 then
                some ((zw (zand v1 v2)), M)
              else
                if zw v0 = 24 then
                  some (0, M)
                else
                  if zw v0 = 25 then
                    some (0, M)
                  else
                    if zw v0 = 26 then
                      if zw v2 ≤ zw v1 then
                        some (0, M)
                      else
                        some (1, M)
                    else
                      if zw v0 = 27 then
                        if zw v2 < zw v1 then
                          some (0, M)
                        else
                          some (1, M)
                      else
                        if zw v0 = 28 then
                          if zw v1 ≤ zw v2 then
                            some (0, M)
                          else
                            some (1, M)
                        else
                          if zw v0 = 29 then
                            if zw v1 < zw v2 then
                              some (0, M)
                            else
                              some (1, M)
                          else
                            if zw v0 = 30 then
                              if ¬ zw v1 = zw v2 then
                                some (0, M)
                              else
                                some (1, M)
                            else
                              if zw v0 = 31 then
                                if zw v1 = zw v2 then
                                  some (0, M)
                                else
                                  some (1, M)
                              else
                                if zw v0 = 32 then
                                  some (((zw v1) + (zw v2)), M)
                                else
                                  if zw v0 = 33 then
                                    some (((zw v1) - (zw v2)), M)
                                  else
                                    if zw v0 = 34 then
                                      some (((zw v1) * (zw v2)), M)
                                    else
                                      if zw v0 = 35 then
                                        if ¬ zw v2 = 0 then
                                          if zw v2 = 0 then
                                            none
                                          else
                                            some ((zw (Int.tdiv (zw v1) (zw v2))), M)
                                        else
                                          some (0, M)
                                      else
                                        some (0, M)
theorem g_X1_joined {v0 : Int} {v1 : Int} {v2 : Int} {M : zM} {q : Int × zM} {d : Nat} (hd : 0 ≤ d) (h : f_X1_joined v0 v1 v2 M = some q) : zG 21 d (0, [some (zi v0), some (zi v1), some (zi v2), none, none], [], M) (some (zl q.1)) q.2 := by
  have hm := zmok_21
  unfold f_X1_joined at h
  refine zG_run hm 1 (cf' := (1, [some (zi v0), some (zi v1), some (zi v2), none, none], [zi v0], M)) rfl ?_
  by_cases c1 : zw v0 = 17
  · rw [if_pos c1] at h
    refine zG_tIn hm rfl (tgt := 123) (off := 122) c1 (by decide) rfl (by decide) ?_
    refine zG_run hm 1 (cf' := (124, [some (zi v0), some (zi v1), some (zi v2), none, none], [zi v2], M)) rfl ?_
    by_cases c5 : ¬ zw v2 = 0
    · rw [if_pos c5] at h
      refine zG_br hm rfl (cf' := (131, [some (zi v0), some (zi v1), some (zi v2), none, none], [], M)) (if_pos c5) ?_
      refine zG_run hm 2 (cf' := (133, [some (zi v0), some (zi v1), some (zi v2), none, none], [zi v2, zi v1], M)) rfl ?_
      by_cases c4 : zw v2 = 0
      · rw [if_pos c4] at h
        cases h
      · rw [if_neg c4] at h
        refine zG_br hm rfl (cf' := (134, [some (zi v0), some (zi v1), some (zi v2), none, none], [zi (zrem (zw v1) (zw v2))], M)) (if_neg c4) ?_
        refine zG_sub (lv' := [none, none, some (zi v2), none, none]) (zsb_n (zsb_n (zsb_s rfl (zsb_n (zsb_n zsb_0))))) ?_
        exact g_X1_joined_j134 hd h
    · rw [if_neg c5] at h
      refine zG_br hm rfl (cf' := (127, [some (zi v0), some (zi v1), some (zi v2), none, none], [], M)) (if_neg c5) ?_
      refine zG_run hm 2 (cf' := (134, [some (zi v0), some (zi v1), some (zi v2), none, none], [zi 0], M)) rfl ?_
      refine zG_sub (lv' := [none, none, some (zi v2), none, none]) (zsb_n (zsb_n (zsb_s rfl (zsb_n (zsb_n zsb_0))))) ?_
      exact g_X1_joined_j134 hd h
  · rw [if_neg c1] at h
    by_cases c6 : zw v0 = 18
    · rw [if_pos c6] at h
      refine zG_tIn hm rfl (tgt := 238) (off := 237) c6 (by decide) rfl (by decide) ?_
      refine zG_run hm 1 (cf' := (239, [some (zi v0), some (zi v1), some (zi v2), none, none], [zl 0], M)) rfl ?_
      cases h
      exact zG_rl hm rfl rfl
    · rw [if_neg c6] at h
      by_cases c7 : zw v0 = 19
      · rw [if_pos c7] at h
        refine zG_tIn hm rfl (tgt := 238) (off := 237) c7 (by decide) rfl (by decide) ?_
        refine zG_run hm 1 (cf' := (239, [some (zi v0), some (zi v1), some (zi v2), none, none], [zl 0], M)) rfl ?_
        cases h
        exact zG_rl hm rfl rfl
      · rw [if_neg c7] at h
        by_cases c8 : zw v0 = 20
        · rw [if_pos c8] at h
          refine zG_tIn hm rfl (tgt := 238) (off := 237) c8 (by decide) rfl (by decide) ?_
          refine zG_run hm 1 (cf' := (239, [some (zi v0), some (zi v1), some (zi v2), none, none], [zl 0], M)) rfl ?_
          cases h
          exact zG_rl hm rfl rfl
        · rw [if_neg c8] at h
          by_cases c9 : zw v0 = 21
          · rw [if_pos c9] at h
            refine zG_tIn hm rfl (tgt := 238) (off := 237) c9 (by decide) rfl (by decide) ?_
            refine zG_run hm 1 (cf' := (239, [some (zi v0), some (zi v1), some (zi v2), none, none], [zl 0], M)) rfl ?_
            cases h
            exact zG_rl hm rfl rfl
          · rw [if_neg c9] at h
            by_cases c10 : zw v0 = 22
            · rw [if_pos c10] at h
              refine zG_tIn hm rfl (tgt := 233) (off := 232) c10 (by decide) rfl (by decide) ?_
              refine zG_run hm 4 (cf' := (237, [some (zi v0), some (zi v1), some (zi v2), none, none], [zl (zw (zor v1 v2))], M)) rfl ?_
              cases h
              exact zG_rl hm rfl rfl
            · rw [if_neg c10] at h
              by_cases c11 : zw v0 = 23
              · rw [if_pos c11] at h
                refine zG_tIn hm rfl (tgt := 228) (off := 227) c11 (by decide) rfl (by decide) ?_
                refine zG_run hm 4 (cf' := (232, [some (zi v0), some (zi v1), some (zi v2), none, none], [zl (zw (zand v1 v2))], M)) rfl ?_
                cases h
                exact zG_rl hm rfl rfl
              · rw [if_neg c11] at h
                by_cases c12 : zw v0 = 24
                · rw [if_pos c12] at h
                  refine zG_tIn hm rfl (tgt := 238) (off := 237) c12 (by decide) rfl (by decide) ?_
                  refine zG_run hm 1 (cf' := (239, [some (zi v0), some (zi v1), some (zi v2), none, none], [zl 0], M)) rfl ?_
                  cases h
                  exact zG_rl hm rfl rfl
                · rw [if_neg c12] at h
                  by_cases c13 : zw v0 = 25
                  · rw [if_pos c13] at h
                    refine zG_tIn hm rfl (tgt := 238) (off := 237) c13 (by decide) rfl (by decide) ?_
                    refine zG_run hm 1 (cf' := (239, [some (zi v0), some (zi v1), some (zi v2), none, none], [zl 0], M)) rfl ?_
                    cases h
                    exact zG_rl hm rfl rfl
                  · rw [if_neg c13] at h
                    by_cases c14 : zw v0 = 26
                    · rw [if_pos c14] at h
                      refine zG_tIn hm rfl (tgt := 162) (off := 161) c14 (by decide) rfl (by decide) ?_
                      refine zG_run hm 2 (cf' := (164, [some (zi v0), some (zi v1), some (zi v2), none, none], [zi v2, zi v1], M)) rfl ?_
                      by_cases c15 : zw v2 ≤ zw v1
                      · rw [if_pos c15] at h
                        refine zG_br hm rfl (cf' := (171, [some (zi v0), some (zi v1), some (zi v2), none, none], [], M)) (if_pos c15) ?_
                        refine zG_run hm 1 (cf' := (172, [some (zi v0), some (zi v1), some (zi v2), none, none], [zl 0], M)) rfl ?_
                        cases h
                        exact zG_rl hm rfl rfl
                      · rw [if_neg c15] at h
                        refine zG_br hm rfl (cf' := (167, [some (zi v0), some (zi v1), some (zi v2), none, none], [], M)) (if_neg c15) ?_
                        refine zG_run hm 2 (cf' := (172, [some (zi v0), some (zi v1), some (zi v2), none, none], [zl 1], M)) rfl ?_
                        cases h
                        exact zG_rl hm rfl rfl
                    · rw [if_neg c14] at h
                      by_cases c16 : zw v0 = 27
                      · rw [if_pos c16] at h
                        refine zG_tIn hm rfl (tgt := 173) (off := 172) c16 (by decide) rfl (by decide) ?_
                        refine zG_run hm 2 (cf' := (175, [some (zi v0), some (zi v1), some (zi v2), none, none], [zi v2, zi v1], M)) rfl ?_
                        by_cases c17 : zw v2 < zw v1
                        · rw [if_pos c17] at h
                          refine zG_br hm rfl (cf' := (182, [some (zi v0), some (zi v1), some (zi v2), none, none], [], M)) (if_pos c17) ?_
                          refine zG_run hm 1 (cf' := (183, [some (zi v0), some (zi v1), some (zi v2), none, none], [zl 0], M)) rfl ?_
                          cases h
                          exact zG_rl hm rfl rfl
                        · rw [if_neg c17] at h
                          refine zG_br hm rfl (cf' := (178, [some (zi v0), some (zi v1), some (zi v2), none, none], [], M)) (if_neg c17) ?_
                          refine zG_run hm 2 (cf' := (183, [some (zi v0), some (zi v1), some (zi v2), none, none], [zl 1], M)) rfl ?_
                          cases h
                          exact zG_rl hm rfl rfl
                      · rw [if_neg c16] at h
                        by_cases c18 : zw v0 = 28
                        · rw [if_pos c18] at h
                          refine zG_tIn hm rfl (tgt := 184) (off := 183) c18 (by decide) rfl (by decide) ?_
                          refine zG_run hm 2 (cf' := (186, [some (zi v0), some (zi v1), some (zi v2), none, none], [zi v2, zi v1], M)) rfl ?_
                          by_cases c19 : zw v1 ≤ zw v2
                          · rw [if_pos c19] at h
                            refine zG_br hm rfl (cf' := (193, [some (zi v0), some (zi v1), some (zi v2), none, none], [], M)) (if_pos c19) ?_
                            refine zG_run hm 1 (cf' := (194, [some (zi v0), some (zi v1), some (zi v2), none, none], [zl 0], M)) rfl ?_
                            cases h
                            exact zG_rl hm rfl rfl
                          · rw [if_neg c19] at h
                            refine zG_br hm rfl (cf' := (189, [some (zi v0), some (zi v1), some (zi v2), none, none], [], M)) (if_neg c19) ?_
                            refine zG_run hm 2 (cf' := (194, [some (zi v0), some (zi v1), some (zi v2), none, none], [zl 1], M)) rfl ?_
                            cases h
                            exact zG_rl hm rfl rfl
                        · rw [if_neg c18] at h
                          by_cases c20 : zw v0 = 29
                          · rw [if_pos c20] at h
                            refine zG_tIn hm rfl (tgt := 195) (off := 194) c20 (by decide) rfl (by decide) ?_
                            refine zG_run hm 2 (cf' := (197, [some (zi v0), some (zi v1), some (zi v2), none, none], [zi v2, zi v1], M)) rfl ?_
                            by_cases c21 : zw v1 < zw v2
                            · rw [if_pos c21] at h
                              refine zG_br hm rfl (cf' := (204, [some (zi v0), some (zi v1), some (zi v2), none, none], [], M)) (if_pos c21) ?_
                              refine zG_run hm 1 (cf' := (205, [some (zi v0), some (zi v1), some (zi v2), none, none], [zl 0], M)) rfl ?_
                              cases h
                              exact zG_rl hm rfl rfl
                            · rw [if_neg c21] at h
                              refine zG_br hm rfl (cf' := (200, [some (zi v0), some (zi v1), some (zi v2), none, none], [], M)) (if_neg c21) ?_
                              refine zG_run hm 2 (cf' := (205, [some (zi v0), some (zi v1), some (zi v2), none, none], [zl 1], M)) rfl ?_
                              cases h
                              exact zG_rl hm rfl rfl
                          · rw [if_neg c20] at h
                            by_cases c22 : zw v0 = 30
                            · rw [if_pos c22] at h
                              refine zG_tIn hm rfl (tgt := 206) (off := 205) c22 (by decide) rfl (by decide) ?_
                              refine zG_run hm 2 (cf' := (208, [some (zi v0), some (zi v1), some (zi v2), none, none], [zi v2, zi v1], M)) rfl ?_
                              by_cases c23 : ¬ zw v1 = zw v2
                              · rw [if_pos c23] at h
                                refine zG_br hm rfl (cf' := (215, [some (zi v0), some (zi v1), some (zi v2), none, none], [], M)) (if_pos c23) ?_
                                refine zG_run hm 1 (cf' := (216, [some (zi v0), some (zi v1), some (zi v2), none, none], [zl 0], M)) rfl ?_
                                cases h
                                exact zG_rl hm rfl rfl
                              · rw [if_neg c23] at h
                                refine zG_br hm rfl (cf' := (211, [some (zi v0), some (zi v1), some (zi v2), none, none], [], M)) (if_neg c23) ?_
                                refine zG_run hm 2 (cf' := (216, [some (zi v0), some (zi v1), some (zi v2), none, none], [zl 1], M)) rfl ?_
                                cases h
                                exact zG_rl hm rfl rfl
                            · rw [if_neg c22] at h
                              by_cases c24 : zw v0 = 31
                              · rw [if_pos c24] at h
                                refine zG_tIn hm rfl (tgt := 217) (off := 216) c24 (by decide) rfl (by decide) ?_
                                refine zG_run hm 2 (cf' := (219, [some (zi v0), some (zi v1), some (zi v2), none, none], [zi v2, zi v1], M)) rfl ?_
                                by_cases c25 : zw v1 = zw v2
                                · rw [if_pos c25] at h
                                  refine zG_br hm rfl (cf' := (226, [some (zi v0), some (zi v1), some (zi v2), none, none], [], M)) (if_pos c25) ?_
                                  refine zG_run hm 1 (cf' := (227, [some (zi v0), some (zi v1), some (zi v2), none, none], [zl 0], M)) rfl ?_
                                  cases h
                                  exact zG_rl hm rfl rfl
                                · rw [if_neg c25] at h
                                  refine zG_br hm rfl (cf' := (222, [some (zi v0), some (zi v1), some (zi v2), none, none], [], M)) (if_neg c25) ?_
                                  refine zG_run hm 2 (cf' := (227, [some (zi v0), some (zi v1), some (zi v2), none, none], [zl 1], M)) rfl ?_
                                  cases h
                                  exact zG_rl hm rfl rfl
                              · rw [if_neg c24] at h
                                by_cases c26 : zw v0 = 32
                                · rw [if_pos c26] at h
                                  refine zG_tIn hm rfl (tgt := 92) (off := 91) c26 (by decide) rfl (by decide) ?_
                                  refine zG_run hm 5 (cf' := (97, [some (zi v0), some (zi v1), some (zi v2), none, none], [zl ((zw v1) + (zw v2))], M)) rfl ?_
                                  cases h
                                  exact zG_rl hm rfl rfl
                                · rw [if_neg c26] at h
                                  by_cases c27 : zw v0 = 33
                                  · rw [if_pos c27] at h
                                    refine zG_tIn hm rfl (tgt := 98) (off := 97) c27 (by decide) rfl (by decide) ?_
                                    refine zG_run hm 5 (cf' := (103, [some (zi v0), some (zi v1), some (zi v2), none, none], [zl ((zw v1) - (zw v2))], M)) rfl ?_
                                    cases h
                                    exact zG_rl hm rfl rfl
                                  · rw [if_neg c27] at h
                                    by_cases c28 : zw v0 = 34
                                    · rw [if_pos c28] at h
                                      refine zG_tIn hm rfl (tgt := 104) (off := 103) c28 (by decide) rfl (by decide) ?_
                                      refine zG_run hm 5 (cf' := (109, [some (zi v0), some (zi v1), some (zi v2), none, none], [zl ((zw v1) * (zw v2))], M)) rfl ?_
                                      cases h
                                      exact zG_rl hm rfl rfl
                                    · rw [if_neg c28] at h
                                      by_cases c29 : zw v0 = 35
                                      · rw [if_pos c29] at h
                                        refine zG_tIn hm rfl (tgt := 110) (off := 109) c29 (by decide) rfl (by decide) ?_
                                        refine zG_run hm 1 (cf' := (111, [some (zi v0), some (zi v1), some (zi v2), none, none], [zi v2], M)) rfl ?_
                                        by_cases c31 : ¬ zw v2 = 0
                                        · rw [if_pos c31] at h
                                          refine zG_br hm rfl (cf' := (118, [some (zi v0), some (zi v1), some (zi v2), none, none], [], M)) (if_pos c31) ?_
                                          refine zG_run hm 2 (cf' := (120, [some (zi v0), some (zi v1), some (zi v2), none, none], [zi v2, zi v1], M)) rfl ?_
                                          by_cases c30 : zw v2 = 0
                                          · rw [if_pos c30] at h
                                            cases h
                                          · rw [if_neg c30] at h
                                            refine zG_br hm rfl (cf' := (121, [some (zi v0), some (zi v1), some (zi v2), none, none], [zi (Int.tdiv (zw v1) (zw v2))], M)) (if_neg c30) ?_
                                            refine zG_run hm 1 (cf' := (122, [some (zi v0), some (zi v1), some (zi v2), none, none], [zl (zw (Int.tdiv (zw v1) (zw v2)))], M)) rfl ?_
                                            cases h
                                            exact zG_rl hm rfl rfl
                                        · rw [if_neg c31] at h
                                          refine zG_br hm rfl (cf' := (114, [some (zi v0), some (zi v1), some (zi v2), none, none], [], M)) (if_neg c31) ?_
                                          refine zG_run hm 2 (cf' := (122, [some (zi v0), some (zi v1), some (zi v2), none, none], [zl 0], M)) rfl ?_
                                          cases h
                                          exact zG_rl hm rfl rfl
                                      · rw [if_neg c29] at h
                                        refine zG_tOut hm rfl (tgt := 238) (by omega) (by decide) ?_
                                        refine zG_run hm 1 (cf' := (239, [some (zi v0), some (zi v1), some (zi v2), none, none], [zl 0], M)) rfl ?_
                                        cases h
                                        exact zG_rl hm rfl rfl
theorem met_X1_joined {v0 : Int} {v1 : Int} {v2 : Int} {M : zM} {q : Int × zM} {d : Nat} (hd : 0 ≤ d) (h : f_X1_joined v0 v1 v2 M = some q) : zMet 21 d [zi v0, zi v1, zi v2] M (some (zl q.1)) q.2 :=
  zMet_of (lv0 := [some (zi v0), some (zi v1), some (zi v2), none, none]) zmok_21 rfl rfl (fun v hv => by cases hv; trivial) (g_X1_joined hd h)
def f_X1_bounded_j29 (vs0 : Int) (M : zM) : Option (Int × zM) :=
  some (vs0, M)
theorem g_X1_bounded_j29 {vs0 : Int} {M : zM} {q : Int × zM} {d : Nat} (hd : 0 ≤ d) (h : f_X1_bounded_j29 vs0 M = some q) : zG 20 d (29, [none, none], [zl vs0], M) (some (zi q.1)) q.2 := by
  have hm := zmok_20
  unfold f_X1_bounded_j29 at h
  refine zG_run hm 1 (cf' := (30, [none, none], [zi vs0], M)) rfl ?_
  cases h
  exact zG_ri hm rfl rfl
def f_X1_bounded (v0 : Int) (M : zM) : Option (Int × zM) :=
  if zw (zlcmp (zwl v0) (1000000)) ≤ 0 then
    if 0 ≤ zw (zlcmp (zwl v0) ((-1000000))) then
      f_X1_bounded_j29 v0 M
    else
      f_X1_bounded_j29 (-1000000) M
  else
    f_X1_bounded_j29 1000000 M
theorem g_X1_bounded {v0 : Int} {M : zM} {q : Int × zM} {d : Nat} (hd : 0 ≤ d) (h : f_X1_bounded v0 M = some q) : zG 20 d (0, [some (zl v0), none], [], M) (some (zi q.1)) q.2 := by
  have hm := zmok_20
  unfold f_X1_bounded at h
  refine zG_run hm 3 (cf' := (5, [some (zl v0), none], [zi (zlcmp (zwl v0) (1000000))], M)) rfl ?_
  by_cases c2 : zw (zlcmp (zwl v0) (1000000)) ≤ 0
  · rw [if_pos c2] at h
    refine zG_br hm rfl (cf' := (14, [some (zl v0), none], [], M)) (if_pos c2) ?_
    refine zG_run hm 3 (cf' := (19, [some (zl v0), none], [zi (zlcmp (zwl v0) ((-1000000)))], M)) rfl ?_
    by_cases c1 : 0 ≤ zw (zlcmp (zwl v0) ((-1000000)))
    · rw [if_pos c1] at h
      refine zG_br hm rfl (cf' := (28, [some (zl v0), none], [], M)) (if_pos c1) ?_
      refine zG_run hm 1 (cf' := (29, [some (zl v0), none], [zl v0], M)) rfl ?_
      refine zG_sub (lv' := [none, none]) (zsb_n (zsb_n zsb_0)) ?_
      exact g_X1_bounded_j29 hd h
    · rw [if_neg c1] at h
      refine zG_br hm rfl (cf' := (22, [some (zl v0), none], [], M)) (if_neg c1) ?_
      refine zG_run hm 2 (cf' := (29, [some (zl v0), none], [zl (-1000000)], M)) rfl ?_
      refine zG_sub (lv' := [none, none]) (zsb_n (zsb_n zsb_0)) ?_
      exact g_X1_bounded_j29 hd h
  · rw [if_neg c2] at h
    refine zG_br hm rfl (cf' := (8, [some (zl v0), none], [], M)) (if_neg c2) ?_
    refine zG_run hm 2 (cf' := (29, [some (zl v0), none], [zl 1000000], M)) rfl ?_
    refine zG_sub (lv' := [none, none]) (zsb_n (zsb_n zsb_0)) ?_
    exact g_X1_bounded_j29 hd h
theorem met_X1_bounded {v0 : Int} {M : zM} {q : Int × zM} {d : Nat} (hd : 0 ≤ d) (h : f_X1_bounded v0 M = some q) : zMet 20 d [zl v0] M (some (zi q.1)) q.2 :=
  zMet_of (lv0 := [some (zl v0), none]) zmok_20 rfl rfl (fun v hv => by cases hv; trivial) (g_X1_bounded hd h)
def f_X1_workOut_j258 (n1 : Nat) (v2 : Int) (v3 : Int) (v4 : Int) (M : zM) : Option ((Int × Int × zM) ⊕ (zM)) :=
  some (.inl (v3, (v4 + 1), M))
theorem g_X1_workOut_j258 {n1 : Nat} {v2 : Int} {v3 : Int} {v4 : Int} {M : zM} {x : (Int × Int × zM) ⊕ (zM)} {r : Option zV} {Mf : zM} {d : Nat} (hd : 1 ≤ d) (h : f_X1_workOut_j258 n1 v2 v3 v4 M = some x)
    (kc : ∀ s, x = .inl s → zG 19 d (10, [some (zr 17 0), some (zr 2 n1), some (zi v2), some (zi s.1), some (zi s.2.1), none, none, none], [], s.2.2) r Mf)
    (kb : ∀ t, x = .inr t → zG 19 d (264, [some (zr 17 0), none, none, none, none, none, none, none], [], t) r Mf) (kr : True) : zG 19 d (258, [some (zr 17 0), some (zr 2 n1), some (zi v2), some (zi v3), some (zi v4), none, none, none], [], M) r Mf := by
  have hm := zmok_19
  unfold f_X1_workOut_j258 at h
  refine zG_run hm 2 (cf' := (10, [some (zr 17 0), some (zr 2 n1), some (zi v2), some (zi v3), some (zi (v4 + 1)), none, none, none], [], M)) rfl ?_
  refine zG_sub (lv' := [some (zr 17 0), some (zr 2 n1), some (zi v2), some (zi v3), some (zi (v4 + 1)), none, none, none]) (zsb_s rfl (zsb_s rfl (zsb_s rfl (zsb_s rfl (zsb_s rfl (zsb_n (zsb_n (zsb_n zsb_0)))))))) ?_
  exact kc (v3, (v4 + 1), M) (Option.some.inj h).symm
def f_X1_workOut_j82 (n1 : Nat) (v2 : Int) (v3 : Int) (v4 : Int) (vs0 : Int) (vs1 : Int) (M : zM) : Option ((Int × Int × zM) ⊕ (zM)) :=
  if 0 ≤ zw vs1 ∧ zw vs1 < 302 then
    zlet (zput M 19 0 (zix vs1) vs0) fun M1 =>
    f_X1_workOut_j258 n1 v2 (if 300 < zw (v3 + 1) then 300 else (v3 + 1)) v4 M1
  else
    none
theorem g_X1_workOut_j82 {n1 : Nat} {v2 : Int} {v3 : Int} {v4 : Int} {vs0 : Int} {vs1 : Int} {M : zM} {x : (Int × Int × zM) ⊕ (zM)} {r : Option zV} {Mf : zM} {d : Nat} (hd : 1 ≤ d) (h : f_X1_workOut_j82 n1 v2 v3 v4 vs0 vs1 M = some x)
    (kc : ∀ s, x = .inl s → zG 19 d (10, [some (zr 17 0), some (zr 2 n1), some (zi v2), some (zi s.1), some (zi s.2.1), none, none, none], [], s.2.2) r Mf)
    (kb : ∀ t, x = .inr t → zG 19 d (264, [some (zr 17 0), none, none, none, none, none, none, none], [], t) r Mf) (kr : True) : zG 19 d (82, [some (zr 17 0), some (zr 2 n1), some (zi v2), some (zi v3), some (zi v4), none, none, none], [zi vs0, zi vs1, zr 19 0], M) r Mf := by
  have hm := zmok_19
  unfold f_X1_workOut_j82 at h
  by_cases c2 : 0 ≤ zw vs1 ∧ zw vs1 < 302
  · rw [if_pos c2] at h
    refine zG_br hm rfl (cf' := (83, [some (zr 17 0), some (zr 2 n1), some (zi v2), some (zi v3), some (zi v4), none, none, none], [], (zput M 19 0 (zix vs1) vs0))) (if_pos c2) ?_
    obtain ⟨M1, eM1, h⟩ := zlet_of h
    rw [eM1]
    refine zG_run hm 4 (cf' := (89, [some (zr 17 0), some (zr 2 n1), some (zi v2), some (zi v3), some (zi v4), none, none, none], [zi 300, zi (v3 + 1)], M1)) rfl ?_
    refine zG_min hm rfl rfl ?_
    show zG 19 d (92, [some (zr 17 0), some (zr 2 n1), some (zi v2), some (zi v3), some (zi v4), none, none, none], [zi (if 300 < zw (v3 + 1) then 300 else (v3 + 1))], M1) _ _
    refine zG_run hm 2 (cf' := (258, [some (zr 17 0), some (zr 2 n1), some (zi v2), some (zi (if 300 < zw (v3 + 1) then 300 else (v3 + 1))), some (zi v4), none, none, none], [], M1)) rfl ?_
    refine zG_sub (lv' := [some (zr 17 0), some (zr 2 n1), some (zi v2), some (zi (if 300 < zw (v3 + 1) then 300 else (v3 + 1))), some (zi v4), none, none, none]) (zsb_s rfl (zsb_s rfl (zsb_s rfl (zsb_s rfl (zsb_s rfl (zsb_n (zsb_n (zsb_n zsb_0)))))))) ?_
    exact g_X1_workOut_j258 hd h kc kb kr
  · rw [if_neg c2] at h
    cases h
def f_X1_workOut_j58 (n1 : Nat) (v2 : Int) (v3 : Int) (v4 : Int) (v5 : Int) (v6 : Int) (M : zM) : Option ((Int × Int × zM) ⊕ (zM)) :=
  if ¬ zw v5 = 25 then
    if 0 ≤ zw v6 ∧ zw v6 < 16 then
      f_X1_workOut_j82 n1 v2 v3 v4 (M 18 0 (zix v6)) v3 M
    else
      none
  else
    f_X1_workOut_j82 n1 v2 v3 v4 v6 v3 M
theorem g_X1_workOut_j58 {n1 : Nat} {v2 : Int} {v3 : Int} {v4 : Int} {v5 : Int} {v6 : Int} {M : zM} {x : (Int × Int × zM) ⊕ (zM)} {r : Option zV} {Mf : zM} {d : Nat} (hd : 1 ≤ d) (h : f_X1_workOut_j58 n1 v2 v3 v4 v5 v6 M = some x)
    (kc : ∀ s, x = .inl s → zG 19 d (10, [some (zr 17 0), some (zr 2 n1), some (zi v2), some (zi s.1), some (zi s.2.1), none, none, none], [], s.2.2) r Mf)
    (kb : ∀ t, x = .inr t → zG 19 d (264, [some (zr 17 0), none, none, none, none, none, none, none], [], t) r Mf) (kr : True) : zG 19 d (58, [some (zr 17 0), some (zr 2 n1), some (zi v2), some (zi v3), some (zi v4), some (zi v5), some (zi v6), none], [], M) r Mf := by
  have hm := zmok_19
  unfold f_X1_workOut_j58 at h
  refine zG_run hm 5 (cf' := (67, [some (zr 17 0), some (zr 2 n1), some (zi v2), some (zi v3), some (zi v4), some (zi v5), some (zi v6), none], [zi 25, zi v5, zi v3, zr 19 0], M)) rfl ?_
  by_cases c4 : ¬ zw v5 = 25
  · rw [if_pos c4] at h
    refine zG_br hm rfl (cf' := (75, [some (zr 17 0), some (zr 2 n1), some (zi v2), some (zi v3), some (zi v4), some (zi v5), some (zi v6), none], [zi v3, zr 19 0], M)) (if_pos c4) ?_
    refine zG_run hm 3 (cf' := (81, [some (zr 17 0), some (zr 2 n1), some (zi v2), some (zi v3), some (zi v4), some (zi v5), some (zi v6), none], [zi v6, zr 18 0, zi v3, zr 19 0], M)) rfl ?_
    by_cases c3 : 0 ≤ zw v6 ∧ zw v6 < 16
    · rw [if_pos c3] at h
      refine zG_br hm rfl (cf' := (82, [some (zr 17 0), some (zr 2 n1), some (zi v2), some (zi v3), some (zi v4), some (zi v5), some (zi v6), none], [zi (M 18 0 (zix v6)), zi v3, zr 19 0], M)) (if_pos c3) ?_
      refine zG_sub (lv' := [some (zr 17 0), some (zr 2 n1), some (zi v2), some (zi v3), some (zi v4), none, none, none]) (zsb_s rfl (zsb_s rfl (zsb_s rfl (zsb_s rfl (zsb_s rfl (zsb_n (zsb_n (zsb_n zsb_0)))))))) ?_
      exact g_X1_workOut_j82 hd h kc kb kr
    · rw [if_neg c3] at h
      cases h
  · rw [if_neg c4] at h
    refine zG_br hm rfl (cf' := (70, [some (zr 17 0), some (zr 2 n1), some (zi v2), some (zi v3), some (zi v4), some (zi v5), some (zi v6), none], [zi v3, zr 19 0], M)) (if_neg c4) ?_
    refine zG_run hm 2 (cf' := (82, [some (zr 17 0), some (zr 2 n1), some (zi v2), some (zi v3), some (zi v4), some (zi v5), some (zi v6), none], [zi v6, zi v3, zr 19 0], M)) rfl ?_
    refine zG_sub (lv' := [some (zr 17 0), some (zr 2 n1), some (zi v2), some (zi v3), some (zi v4), none, none, none]) (zsb_s rfl (zsb_s rfl (zsb_s rfl (zsb_s rfl (zsb_s rfl (zsb_n (zsb_n (zsb_n zsb_0)))))))) ?_
    exact g_X1_workOut_j82 hd h kc kb kr
def f_X1_workOut_j216 (n1 : Nat) (v2 : Int) (v3 : Int) (v4 : Int) (vs0 : Int) (vs1 : Int) (M : zM) : Option ((Int × Int × zM) ⊕ (zM)) :=
  if 0 ≤ zw vs1 ∧ zw vs1 < 302 then
    zlet (zput M 19 0 (zix vs1) vs0) fun M5 =>
    f_X1_workOut_j258 n1 v2 v3 v4 M5
  else
    none
theorem g_X1_workOut_j216 {n1 : Nat} {v2 : Int} {v3 : Int} {v4 : Int} {vs0 : Int} {vs1 : Int} {M : zM} {x : (Int × Int × zM) ⊕ (zM)} {r : Option zV} {Mf : zM} {d : Nat} (hd : 1 ≤ d) (h : f_X1_workOut_j216 n1 v2 v3 v4 vs0 vs1 M = some x)
    (kc : ∀ s, x = .inl s → zG 19 d (10, [some (zr 17 0), some (zr 2 n1), some (zi v2), some (zi s.1), some (zi s.2.1), none, none, none], [], s.2.2) r Mf)
    (kb : ∀ t, x = .inr t → zG 19 d (264, [some (zr 17 0), none, none, none, none, none, none, none], [], t) r Mf) (kr : True) : zG 19 d (216, [some (zr 17 0), some (zr 2 n1), some (zi v2), some (zi v3), some (zi v4), none, none, none], [zi vs0, zi vs1, zr 19 0], M) r Mf := by
  have hm := zmok_19
  unfold f_X1_workOut_j216 at h
  by_cases c6 : 0 ≤ zw vs1 ∧ zw vs1 < 302
  · rw [if_pos c6] at h
    refine zG_br hm rfl (cf' := (217, [some (zr 17 0), some (zr 2 n1), some (zi v2), some (zi v3), some (zi v4), none, none, none], [], (zput M 19 0 (zix vs1) vs0))) (if_pos c6) ?_
    obtain ⟨M5, eM5, h⟩ := zlet_of h
    rw [eM5]
    refine zG_run hm 1 (cf' := (258, [some (zr 17 0), some (zr 2 n1), some (zi v2), some (zi v3), some (zi v4), none, none, none], [], M5)) rfl ?_
    refine zG_sub (lv' := [some (zr 17 0), some (zr 2 n1), some (zi v2), some (zi v3), some (zi v4), none, none, none]) (zsb_s rfl (zsb_s rfl (zsb_s rfl (zsb_s rfl (zsb_s rfl (zsb_n (zsb_n (zsb_n zsb_0)))))))) ?_
    exact g_X1_workOut_j258 hd h kc kb kr
  · rw [if_neg c6] at h
    cases h
def f_X1_workOut_j174 (n1 : Nat) (v2 : Int) (v3 : Int) (v4 : Int) (v5 : Int) (M : zM) : Option ((Int × Int × zM) ⊕ (zM)) :=
  if ¬ zw v5 = 51 then
    if 0 ≤ zw (if zw (v3 - 1) < 0 then 0 else (v3 - 1)) ∧ zw (if zw (v3 - 1) < 0 then 0 else (v3 - 1)) < 302 then
      f_X1_workOut_j216 n1 v2 v3 v4 (1 - (M 19 0 (zix (if zw (v3 - 1) < 0 then 0 else (v3 - 1))))) (if zw (v3 - 1) < 0 then 0 else (v3 - 1)) M
    else
      none
  else
    if 0 ≤ zw (if zw (v3 - 1) < 0 then 0 else (v3 - 1)) ∧ zw (if zw (v3 - 1) < 0 then 0 else (v3 - 1)) < 302 then
      f_X1_workOut_j216 n1 v2 v3 v4 (-(M 19 0 (zix (if zw (v3 - 1) < 0 then 0 else (v3 - 1))))) (if zw (v3 - 1) < 0 then 0 else (v3 - 1)) M
    else
      none
theorem g_X1_workOut_j174 {n1 : Nat} {v2 : Int} {v3 : Int} {v4 : Int} {v5 : Int} {M : zM} {x : (Int × Int × zM) ⊕ (zM)} {r : Option zV} {Mf : zM} {d : Nat} (hd : 1 ≤ d) (h : f_X1_workOut_j174 n1 v2 v3 v4 v5 M = some x)
    (kc : ∀ s, x = .inl s → zG 19 d (10, [some (zr 17 0), some (zr 2 n1), some (zi v2), some (zi s.1), some (zi s.2.1), none, none, none], [], s.2.2) r Mf)
    (kb : ∀ t, x = .inr t → zG 19 d (264, [some (zr 17 0), none, none, none, none, none, none, none], [], t) r Mf) (kr : True) : zG 19 d (174, [some (zr 17 0), some (zr 2 n1), some (zi v2), some (zi v3), some (zi v4), some (zi v5), none, none], [], M) r Mf := by
  have hm := zmok_19
  unfold f_X1_workOut_j174 at h
  refine zG_run hm 4 (cf' := (178, [some (zr 17 0), some (zr 2 n1), some (zi v2), some (zi v3), some (zi v4), some (zi v5), none, none], [zi 0, zi (v3 - 1)], M)) rfl ?_
  refine zG_max hm rfl rfl ?_
  show zG 19 d (181, [some (zr 17 0), some (zr 2 n1), some (zi v2), some (zi v3), some (zi v4), some (zi v5), none, none], [zi (if zw (v3 - 1) < 0 then 0 else (v3 - 1))], M) _ _
  refine zG_run hm 6 (cf' := (193, [some (zr 17 0), some (zr 2 n1), some (zi v2), some (zi v3), some (zi v4), some (zi v5), none, some (zi (if zw (v3 - 1) < 0 then 0 else (v3 - 1)))], [zi 51, zi v5, zi (if zw (v3 - 1) < 0 then 0 else (v3 - 1)), zr 19 0], M)) rfl ?_
  by_cases c9 : ¬ zw v5 = 51
  · rw [if_pos c9] at h
    refine zG_br hm rfl (cf' := (207, [some (zr 17 0), some (zr 2 n1), some (zi v2), some (zi v3), some (zi v4), some (zi v5), none, some (zi (if zw (v3 - 1) < 0 then 0 else (v3 - 1)))], [zi (if zw (v3 - 1) < 0 then 0 else (v3 - 1)), zr 19 0], M)) (if_pos c9) ?_
    refine zG_run hm 4 (cf' := (214, [some (zr 17 0), some (zr 2 n1), some (zi v2), some (zi v3), some (zi v4), some (zi v5), none, some (zi (if zw (v3 - 1) < 0 then 0 else (v3 - 1)))], [zi (if zw (v3 - 1) < 0 then 0 else (v3 - 1)), zr 19 0, zi 1, zi (if zw (v3 - 1) < 0 then 0 else (v3 - 1)), zr 19 0], M)) rfl ?_
    by_cases c7 : 0 ≤ zw (if zw (v3 - 1) < 0 then 0 else (v3 - 1)) ∧ zw (if zw (v3 - 1) < 0 then 0 else (v3 - 1)) < 302
    · rw [if_pos c7] at h
      refine zG_br hm rfl (cf' := (215, [some (zr 17 0), some (zr 2 n1), some (zi v2), some (zi v3), some (zi v4), some (zi v5), none, some (zi (if zw (v3 - 1) < 0 then 0 else (v3 - 1)))], [zi (M 19 0 (zix (if zw (v3 - 1) < 0 then 0 else (v3 - 1)))), zi 1, zi (if zw (v3 - 1) < 0 then 0 else (v3 - 1)), zr 19 0], M)) (if_pos c7) ?_
      refine zG_run hm 1 (cf' := (216, [some (zr 17 0), some (zr 2 n1), some (zi v2), some (zi v3), some (zi v4), some (zi v5), none, some (zi (if zw (v3 - 1) < 0 then 0 else (v3 - 1)))], [zi (1 - (M 19 0 (zix (if zw (v3 - 1) < 0 then 0 else (v3 - 1))))), zi (if zw (v3 - 1) < 0 then 0 else (v3 - 1)), zr 19 0], M)) rfl ?_
      refine zG_sub (lv' := [some (zr 17 0), some (zr 2 n1), some (zi v2), some (zi v3), some (zi v4), none, none, none]) (zsb_s rfl (zsb_s rfl (zsb_s rfl (zsb_s rfl (zsb_s rfl (zsb_n (zsb_n (zsb_n zsb_0)))))))) ?_
      exact g_X1_workOut_j216 hd h kc kb kr
    · rw [if_neg c7] at h
      cases h
  · rw [if_neg c9] at h
    refine zG_br hm rfl (cf' := (196, [some (zr 17 0), some (zr 2 n1), some (zi v2), some (zi v3), some (zi v4), some (zi v5), none, some (zi (if zw (v3 - 1) < 0 then 0 else (v3 - 1)))], [zi (if zw (v3 - 1) < 0 then 0 else (v3 - 1)), zr 19 0], M)) (if_neg c9) ?_
    refine zG_run hm 3 (cf' := (202, [some (zr 17 0), some (zr 2 n1), some (zi v2), some (zi v3), some (zi v4), some (zi v5), none, some (zi (if zw (v3 - 1) < 0 then 0 else (v3 - 1)))], [zi (if zw (v3 - 1) < 0 then 0 else (v3 - 1)), zr 19 0, zi (if zw (v3 - 1) < 0 then 0 else (v3 - 1)), zr 19 0], M)) rfl ?_
    by_cases c8 : 0 ≤ zw (if zw (v3 - 1) < 0 then 0 else (v3 - 1)) ∧ zw (if zw (v3 - 1) < 0 then 0 else (v3 - 1)) < 302
    · rw [if_pos c8] at h
      refine zG_br hm rfl (cf' := (203, [some (zr 17 0), some (zr 2 n1), some (zi v2), some (zi v3), some (zi v4), some (zi v5), none, some (zi (if zw (v3 - 1) < 0 then 0 else (v3 - 1)))], [zi (M 19 0 (zix (if zw (v3 - 1) < 0 then 0 else (v3 - 1)))), zi (if zw (v3 - 1) < 0 then 0 else (v3 - 1)), zr 19 0], M)) (if_pos c8) ?_
      refine zG_run hm 2 (cf' := (216, [some (zr 17 0), some (zr 2 n1), some (zi v2), some (zi v3), some (zi v4), some (zi v5), none, some (zi (if zw (v3 - 1) < 0 then 0 else (v3 - 1)))], [zi (-(M 19 0 (zix (if zw (v3 - 1) < 0 then 0 else (v3 - 1))))), zi (if zw (v3 - 1) < 0 then 0 else (v3 - 1)), zr 19 0], M)) rfl ?_
      refine zG_sub (lv' := [some (zr 17 0), some (zr 2 n1), some (zi v2), some (zi v3), some (zi v4), none, none, none]) (zsb_s rfl (zsb_s rfl (zsb_s rfl (zsb_s rfl (zsb_s rfl (zsb_n (zsb_n (zsb_n zsb_0)))))))) ?_
      exact g_X1_workOut_j216 hd h kc kb kr
    · rw [if_neg c8] at h
      cases h
def f_X1_workOut_j155 (n1 : Nat) (v2 : Int) (v3 : Int) (vs0 : Int) (M : zM) : Option ((Int × Int × zM) ⊕ (zM)) :=
  f_X1_workOut_j258 n1 v2 v3 vs0 M
theorem g_X1_workOut_j155 {n1 : Nat} {v2 : Int} {v3 : Int} {vs0 : Int} {M : zM} {x : (Int × Int × zM) ⊕ (zM)} {r : Option zV} {Mf : zM} {d : Nat} (hd : 1 ≤ d) (h : f_X1_workOut_j155 n1 v2 v3 vs0 M = some x)
    (kc : ∀ s, x = .inl s → zG 19 d (10, [some (zr 17 0), some (zr 2 n1), some (zi v2), some (zi s.1), some (zi s.2.1), none, none, none], [], s.2.2) r Mf)
    (kb : ∀ t, x = .inr t → zG 19 d (264, [some (zr 17 0), none, none, none, none, none, none, none], [], t) r Mf) (kr : True) : zG 19 d (155, [some (zr 17 0), some (zr 2 n1), some (zi v2), some (zi v3), none, none, none, none], [zi vs0], M) r Mf := by
  have hm := zmok_19
  unfold f_X1_workOut_j155 at h
  refine zG_run hm 2 (cf' := (258, [some (zr 17 0), some (zr 2 n1), some (zi v2), some (zi v3), some (zi vs0), none, none, none], [], M)) rfl ?_
  refine zG_sub (lv' := [some (zr 17 0), some (zr 2 n1), some (zi v2), some (zi v3), some (zi vs0), none, none, none]) (zsb_s rfl (zsb_s rfl (zsb_s rfl (zsb_s rfl (zsb_s rfl (zsb_n (zsb_n (zsb_n zsb_0)))))))) ?_
  exact g_X1_workOut_j258 hd h kc kb kr
def f_X1_workOut_L10 (n1 : Nat) (v2 : Int) (v3 : Int) (v4 : Int) (M : zM) : Option ((Int × Int × zM) ⊕ (zM)) :=
  if zw v4 < 0 then
    some (.inr M)
  else
    if 0 ≤ zw v2 ∧ zw v2 < 4 then
      if zw (M 8 n1 (zix v2)) ≤ zw v4 then
        some (.inr M)
      else
        if 0 ≤ zw v4 ∧ zw v4 < 300 then
          if 0 ≤ zw v4 ∧ zw v4 < 300 then
            if zw (M 9 n1 (zix v4)) = 25 then
              f_X1_workOut_j58 n1 v2 v3 v4 (M 9 n1 (zix v4)) (M 10 n1 (zix v4)) M
            else
              if ¬ zw (M 9 n1 (zix v4)) = 50 then
                if ¬ zw (M 9 n1 (zix v4)) = 20 then
                  if ¬ zw (M 9 n1 (zix v4)) = 19 then
                    if zw (M 9 n1 (zix v4)) = 51 then
                      f_X1_workOut_j174 n1 v2 v3 v4 (M 9 n1 (zix v4)) M
                    else
                      if ¬ zw (M 9 n1 (zix v4)) = 24 then
                        if 0 ≤ zw ((if zw (v3 - 1) < 1 then 1 else (v3 - 1)) - 1) ∧ zw ((if zw (v3 - 1) < 1 then 1 else (v3 - 1)) - 1) < 302 then
                          if 0 ≤ zw (if zw (v3 - 1) < 1 then 1 else (v3 - 1)) ∧ zw (if zw (v3 - 1) < 1 then 1 else (v3 - 1)) < 302 then
                            (f_X1_joined (M 9 n1 (zix v4)) (M 19 0 (zix ((if zw (v3 - 1) < 1 then 1 else (v3 - 1)) - 1))) (M 19 0 (zix (if zw (v3 - 1) < 1 then 1 else (v3 - 1)))) M).bind fun p10 =>
                              (f_X1_bounded p10.1 p10.2).bind fun p11 =>
                                if 0 ≤ zw ((if zw (v3 - 1) < 1 then 1 else (v3 - 1)) - 1) ∧ zw ((if zw (v3 - 1) < 1 then 1 else (v3 - 1)) - 1) < 302 then
                                  zlet (zput p11.2 19 0 (zix ((if zw (v3 - 1) < 1 then 1 else (v3 - 1)) - 1)) p11.1) fun M12 =>
                                  f_X1_workOut_j258 n1 v2 (if zw (v3 - 1) < 1 then 1 else (v3 - 1)) v4 M12
                                else
                                  none
                          else
                            none
                        else
                          none
                      else
                        f_X1_workOut_j174 n1 v2 v3 v4 (M 9 n1 (zix v4)) M
                  else
                    if 0 ≤ zw (if zw (v3 - 1) < 0 then 0 else (v3 - 1)) ∧ zw (if zw (v3 - 1) < 0 then 0 else (v3 - 1)) < 302 then
                      if ¬ zw (M 19 0 (zix (if zw (v3 - 1) < 0 then 0 else (v3 - 1)))) = 0 then
                        f_X1_workOut_j155 n1 v2 (if zw (v3 - 1) < 0 then 0 else (v3 - 1)) v4 M
                      else
                        f_X1_workOut_j155 n1 v2 (if zw (v3 - 1) < 0 then 0 else (v3 - 1)) (if zw v4 < zw ((M 10 n1 (zix v4)) - 1) then ((M 10 n1 (zix v4)) - 1) else v4) M
                    else
                      none
                else
                  f_X1_workOut_j258 n1 v2 v3 (if zw v4 < zw ((M 10 n1 (zix v4)) - 1) then ((M 10 n1 (zix v4)) - 1) else v4) M
              else
                f_X1_workOut_j58 n1 v2 v3 v4 (M 9 n1 (zix v4)) (M 10 n1 (zix v4)) M
          else
            none
        else
          none
    else
      none
theorem g_X1_workOut_L10 {n1 : Nat} {v2 : Int} {v3 : Int} {v4 : Int} {M : zM} {x : (Int × Int × zM) ⊕ (zM)} {r : Option zV} {Mf : zM} {d : Nat} (hd : 1 ≤ d) (h : f_X1_workOut_L10 n1 v2 v3 v4 M = some x)
    (kc : ∀ s, x = .inl s → zG 19 d (10, [some (zr 17 0), some (zr 2 n1), some (zi v2), some (zi s.1), some (zi s.2.1), none, none, none], [], s.2.2) r Mf)
    (kb : ∀ t, x = .inr t → zG 19 d (264, [some (zr 17 0), none, none, none, none, none, none, none], [], t) r Mf) (kr : True) : zG 19 d (10, [some (zr 17 0), some (zr 2 n1), some (zi v2), some (zi v3), some (zi v4), none, none, none], [], M) r Mf := by
  have hm := zmok_19
  unfold f_X1_workOut_L10 at h
  refine zG_run hm 1 (cf' := (12, [some (zr 17 0), some (zr 2 n1), some (zi v2), some (zi v3), some (zi v4), none, none, none], [zi v4], M)) rfl ?_
  by_cases c28 : zw v4 < 0
  · rw [if_pos c28] at h
    refine zG_br hm rfl (cf' := (264, [some (zr 17 0), some (zr 2 n1), some (zi v2), some (zi v3), some (zi v4), none, none, none], [], M)) (if_pos c28) ?_
    refine zG_sub (lv' := [some (zr 17 0), none, none, none, none, none, none, none]) (zsb_s rfl (zsb_n (zsb_n (zsb_n (zsb_n (zsb_n (zsb_n (zsb_n zsb_0)))))))) ?_
    exact kb M (Option.some.inj h).symm
  · rw [if_neg c28] at h
    refine zG_br hm rfl (cf' := (15, [some (zr 17 0), some (zr 2 n1), some (zi v2), some (zi v3), some (zi v4), none, none, none], [], M)) (if_neg c28) ?_
    refine zG_run hm 4 (cf' := (22, [some (zr 17 0), some (zr 2 n1), some (zi v2), some (zi v3), some (zi v4), none, none, none], [zi v2, zr 8 n1, zi v4], M)) rfl ?_
    by_cases c27 : 0 ≤ zw v2 ∧ zw v2 < 4
    · rw [if_pos c27] at h
      refine zG_br hm rfl (cf' := (23, [some (zr 17 0), some (zr 2 n1), some (zi v2), some (zi v3), some (zi v4), none, none, none], [zi (M 8 n1 (zix v2)), zi v4], M)) (if_pos c27) ?_
      by_cases c26 : zw (M 8 n1 (zix v2)) ≤ zw v4
      · rw [if_pos c26] at h
        refine zG_br hm rfl (cf' := (264, [some (zr 17 0), some (zr 2 n1), some (zi v2), some (zi v3), some (zi v4), none, none, none], [], M)) (if_pos c26) ?_
        refine zG_sub (lv' := [some (zr 17 0), none, none, none, none, none, none, none]) (zsb_s rfl (zsb_n (zsb_n (zsb_n (zsb_n (zsb_n (zsb_n (zsb_n zsb_0)))))))) ?_
        exact kb M (Option.some.inj h).symm
      · rw [if_neg c26] at h
        refine zG_br hm rfl (cf' := (26, [some (zr 17 0), some (zr 2 n1), some (zi v2), some (zi v3), some (zi v4), none, none, none], [], M)) (if_neg c26) ?_
        refine zG_run hm 3 (cf' := (32, [some (zr 17 0), some (zr 2 n1), some (zi v2), some (zi v3), some (zi v4), none, none, none], [zi v4, zr 9 n1], M)) rfl ?_
        by_cases c25 : 0 ≤ zw v4 ∧ zw v4 < 300
        · rw [if_pos c25] at h
          refine zG_br hm rfl (cf' := (33, [some (zr 17 0), some (zr 2 n1), some (zi v2), some (zi v3), some (zi v4), none, none, none], [zi (M 9 n1 (zix v4))], M)) (if_pos c25) ?_
          refine zG_run hm 4 (cf' := (41, [some (zr 17 0), some (zr 2 n1), some (zi v2), some (zi v3), some (zi v4), some (zi (M 9 n1 (zix v4))), none, none], [zi v4, zr 10 n1], M)) rfl ?_
          by_cases c24 : 0 ≤ zw v4 ∧ zw v4 < 300
          · rw [if_pos c24] at h
            refine zG_br hm rfl (cf' := (42, [some (zr 17 0), some (zr 2 n1), some (zi v2), some (zi v3), some (zi v4), some (zi (M 9 n1 (zix v4))), none, none], [zi (M 10 n1 (zix v4))], M)) (if_pos c24) ?_
            refine zG_run hm 3 (cf' := (48, [some (zr 17 0), some (zr 2 n1), some (zi v2), some (zi v3), some (zi v4), some (zi (M 9 n1 (zix v4))), some (zi (M 10 n1 (zix v4))), none], [zi 25, zi (M 9 n1 (zix v4))], M)) rfl ?_
            by_cases c23 : zw (M 9 n1 (zix v4)) = 25
            · rw [if_pos c23] at h
              refine zG_br hm rfl (cf' := (58, [some (zr 17 0), some (zr 2 n1), some (zi v2), some (zi v3), some (zi v4), some (zi (M 9 n1 (zix v4))), some (zi (M 10 n1 (zix v4))), none], [], M)) (if_pos c23) ?_
              refine zG_sub (lv' := [some (zr 17 0), some (zr 2 n1), some (zi v2), some (zi v3), some (zi v4), some (zi (M 9 n1 (zix v4))), some (zi (M 10 n1 (zix v4))), none]) (zsb_s rfl (zsb_s rfl (zsb_s rfl (zsb_s rfl (zsb_s rfl (zsb_s rfl (zsb_s rfl (zsb_n zsb_0)))))))) ?_
              exact g_X1_workOut_j58 hd h kc kb kr
            · rw [if_neg c23] at h
              refine zG_br hm rfl (cf' := (51, [some (zr 17 0), some (zr 2 n1), some (zi v2), some (zi v3), some (zi v4), some (zi (M 9 n1 (zix v4))), some (zi (M 10 n1 (zix v4))), none], [], M)) (if_neg c23) ?_
              refine zG_run hm 2 (cf' := (55, [some (zr 17 0), some (zr 2 n1), some (zi v2), some (zi v3), some (zi v4), some (zi (M 9 n1 (zix v4))), some (zi (M 10 n1 (zix v4))), none], [zi 50, zi (M 9 n1 (zix v4))], M)) rfl ?_
              by_cases c22 : ¬ zw (M 9 n1 (zix v4)) = 50
              · rw [if_pos c22] at h
                refine zG_br hm rfl (cf' := (96, [some (zr 17 0), some (zr 2 n1), some (zi v2), some (zi v3), some (zi v4), some (zi (M 9 n1 (zix v4))), some (zi (M 10 n1 (zix v4))), none], [], M)) (if_pos c22) ?_
                refine zG_run hm 2 (cf' := (100, [some (zr 17 0), some (zr 2 n1), some (zi v2), some (zi v3), some (zi v4), some (zi (M 9 n1 (zix v4))), some (zi (M 10 n1 (zix v4))), none], [zi 20, zi (M 9 n1 (zix v4))], M)) rfl ?_
                by_cases c21 : ¬ zw (M 9 n1 (zix v4)) = 20
                · rw [if_pos c21] at h
                  refine zG_br hm rfl (cf' := (117, [some (zr 17 0), some (zr 2 n1), some (zi v2), some (zi v3), some (zi v4), some (zi (M 9 n1 (zix v4))), some (zi (M 10 n1 (zix v4))), none], [], M)) (if_pos c21) ?_
                  refine zG_run hm 2 (cf' := (121, [some (zr 17 0), some (zr 2 n1), some (zi v2), some (zi v3), some (zi v4), some (zi (M 9 n1 (zix v4))), some (zi (M 10 n1 (zix v4))), none], [zi 19, zi (M 9 n1 (zix v4))], M)) rfl ?_
                  by_cases c20 : ¬ zw (M 9 n1 (zix v4)) = 19
                  · rw [if_pos c20] at h
                    refine zG_br hm rfl (cf' := (160, [some (zr 17 0), some (zr 2 n1), some (zi v2), some (zi v3), some (zi v4), some (zi (M 9 n1 (zix v4))), some (zi (M 10 n1 (zix v4))), none], [], M)) (if_pos c20) ?_
                    refine zG_run hm 2 (cf' := (164, [some (zr 17 0), some (zr 2 n1), some (zi v2), some (zi v3), some (zi v4), some (zi (M 9 n1 (zix v4))), some (zi (M 10 n1 (zix v4))), none], [zi 51, zi (M 9 n1 (zix v4))], M)) rfl ?_
                    by_cases c17 : zw (M 9 n1 (zix v4)) = 51
                    · rw [if_pos c17] at h
                      refine zG_br hm rfl (cf' := (174, [some (zr 17 0), some (zr 2 n1), some (zi v2), some (zi v3), some (zi v4), some (zi (M 9 n1 (zix v4))), some (zi (M 10 n1 (zix v4))), none], [], M)) (if_pos c17) ?_
                      refine zG_sub (lv' := [some (zr 17 0), some (zr 2 n1), some (zi v2), some (zi v3), some (zi v4), some (zi (M 9 n1 (zix v4))), none, none]) (zsb_s rfl (zsb_s rfl (zsb_s rfl (zsb_s rfl (zsb_s rfl (zsb_s rfl (zsb_n (zsb_n zsb_0)))))))) ?_
                      exact g_X1_workOut_j174 hd h kc kb kr
                    · rw [if_neg c17] at h
                      refine zG_br hm rfl (cf' := (167, [some (zr 17 0), some (zr 2 n1), some (zi v2), some (zi v3), some (zi v4), some (zi (M 9 n1 (zix v4))), some (zi (M 10 n1 (zix v4))), none], [], M)) (if_neg c17) ?_
                      refine zG_run hm 2 (cf' := (171, [some (zr 17 0), some (zr 2 n1), some (zi v2), some (zi v3), some (zi v4), some (zi (M 9 n1 (zix v4))), some (zi (M 10 n1 (zix v4))), none], [zi 24, zi (M 9 n1 (zix v4))], M)) rfl ?_
                      by_cases c16 : ¬ zw (M 9 n1 (zix v4)) = 24
                      · rw [if_pos c16] at h
                        refine zG_br hm rfl (cf' := (220, [some (zr 17 0), some (zr 2 n1), some (zi v2), some (zi v3), some (zi v4), some (zi (M 9 n1 (zix v4))), some (zi (M 10 n1 (zix v4))), none], [], M)) (if_pos c16) ?_
                        refine zG_run hm 4 (cf' := (224, [some (zr 17 0), some (zr 2 n1), some (zi v2), some (zi v3), some (zi v4), some (zi (M 9 n1 (zix v4))), some (zi (M 10 n1 (zix v4))), none], [zi 1, zi (v3 - 1)], M)) rfl ?_
                        refine zG_max hm rfl rfl ?_
                        show zG 19 d (227, [some (zr 17 0), some (zr 2 n1), some (zi v2), some (zi v3), some (zi v4), some (zi (M 9 n1 (zix v4))), some (zi (M 10 n1 (zix v4))), none], [zi (if zw (v3 - 1) < 1 then 1 else (v3 - 1))], M) _ _
                        refine zG_run hm 12 (cf' := (244, [some (zr 17 0), some (zr 2 n1), some (zi v2), some (zi (if zw (v3 - 1) < 1 then 1 else (v3 - 1))), some (zi v4), some (zi (M 9 n1 (zix v4))), some (zi (M 10 n1 (zix v4))), none], [zi ((if zw (v3 - 1) < 1 then 1 else (v3 - 1)) - 1), zr 19 0, zi (M 9 n1 (zix v4)), zi ((if zw (v3 - 1) < 1 then 1 else (v3 - 1)) - 1), zr 19 0], M)) rfl ?_
                        by_cases c15 : 0 ≤ zw ((if zw (v3 - 1) < 1 then 1 else (v3 - 1)) - 1) ∧ zw ((if zw (v3 - 1) < 1 then 1 else (v3 - 1)) - 1) < 302
                        · rw [if_pos c15] at h
                          refine zG_br hm rfl (cf' := (245, [some (zr 17 0), some (zr 2 n1), some (zi v2), some (zi (if zw (v3 - 1) < 1 then 1 else (v3 - 1))), some (zi v4), some (zi (M 9 n1 (zix v4))), some (zi (M 10 n1 (zix v4))), none], [zi (M 19 0 (zix ((if zw (v3 - 1) < 1 then 1 else (v3 - 1)) - 1))), zi (M 9 n1 (zix v4)), zi ((if zw (v3 - 1) < 1 then 1 else (v3 - 1)) - 1), zr 19 0], M)) (if_pos c15) ?_
                          refine zG_run hm 3 (cf' := (250, [some (zr 17 0), some (zr 2 n1), some (zi v2), some (zi (if zw (v3 - 1) < 1 then 1 else (v3 - 1))), some (zi v4), some (zi (M 9 n1 (zix v4))), some (zi (M 10 n1 (zix v4))), none], [zi (if zw (v3 - 1) < 1 then 1 else (v3 - 1)), zr 19 0, zi (M 19 0 (zix ((if zw (v3 - 1) < 1 then 1 else (v3 - 1)) - 1))), zi (M 9 n1 (zix v4)), zi ((if zw (v3 - 1) < 1 then 1 else (v3 - 1)) - 1), zr 19 0], M)) rfl ?_
                          by_cases c14 : 0 ≤ zw (if zw (v3 - 1) < 1 then 1 else (v3 - 1)) ∧ zw (if zw (v3 - 1) < 1 then 1 else (v3 - 1)) < 302
                          · rw [if_pos c14] at h
                            refine zG_br hm rfl (cf' := (251, [some (zr 17 0), some (zr 2 n1), some (zi v2), some (zi (if zw (v3 - 1) < 1 then 1 else (v3 - 1))), some (zi v4), some (zi (M 9 n1 (zix v4))), some (zi (M 10 n1 (zix v4))), none], [zi (M 19 0 (zix (if zw (v3 - 1) < 1 then 1 else (v3 - 1)))), zi (M 19 0 (zix ((if zw (v3 - 1) < 1 then 1 else (v3 - 1)) - 1))), zi (M 9 n1 (zix v4)), zi ((if zw (v3 - 1) < 1 then 1 else (v3 - 1)) - 1), zr 19 0], M)) (if_pos c14) ?_
                            obtain ⟨p10, hp10, h⟩ := Option.bind_eq_some_iff.mp h
                            refine zG_S hm zmok_21 rfl (as := [zi (M 9 n1 (zix v4)), zi (M 19 0 (zix ((if zw (v3 - 1) < 1 then 1 else (v3 - 1)) - 1))), zi (M 19 0 (zix (if zw (v3 - 1) < 1 then 1 else (v3 - 1))))]) (rest := [zi ((if zw (v3 - 1) < 1 then 1 else (v3 - 1)) - 1), zr 19 0]) (st2 := [zl p10.1, zi ((if zw (v3 - 1) < 1 then 1 else (v3 - 1)) - 1), zr 19 0]) (pc2 := 254) rfl rfl (by omega) (met_X1_joined (d := 0) (Nat.le_refl _) hp10) rfl ?_
                            obtain ⟨p11, hp11, h⟩ := Option.bind_eq_some_iff.mp h
                            refine zG_S hm zmok_20 rfl (as := [zl p10.1]) (rest := [zi ((if zw (v3 - 1) < 1 then 1 else (v3 - 1)) - 1), zr 19 0]) (st2 := [zi p11.1, zi ((if zw (v3 - 1) < 1 then 1 else (v3 - 1)) - 1), zr 19 0]) (pc2 := 257) rfl rfl (by omega) (met_X1_bounded (d := 0) (Nat.le_refl _) hp11) rfl ?_
                            by_cases c13 : 0 ≤ zw ((if zw (v3 - 1) < 1 then 1 else (v3 - 1)) - 1) ∧ zw ((if zw (v3 - 1) < 1 then 1 else (v3 - 1)) - 1) < 302
                            · rw [if_pos c13] at h
                              refine zG_br hm rfl (cf' := (258, [some (zr 17 0), some (zr 2 n1), some (zi v2), some (zi (if zw (v3 - 1) < 1 then 1 else (v3 - 1))), some (zi v4), some (zi (M 9 n1 (zix v4))), some (zi (M 10 n1 (zix v4))), none], [], (zput p11.2 19 0 (zix ((if zw (v3 - 1) < 1 then 1 else (v3 - 1)) - 1)) p11.1))) (if_pos c13) ?_
                              obtain ⟨M12, eM12, h⟩ := zlet_of h
                              rw [eM12]
                              refine zG_sub (lv' := [some (zr 17 0), some (zr 2 n1), some (zi v2), some (zi (if zw (v3 - 1) < 1 then 1 else (v3 - 1))), some (zi v4), none, none, none]) (zsb_s rfl (zsb_s rfl (zsb_s rfl (zsb_s rfl (zsb_s rfl (zsb_n (zsb_n (zsb_n zsb_0)))))))) ?_
                              exact g_X1_workOut_j258 hd h kc kb kr
                            · rw [if_neg c13] at h
                              cases h
                          · rw [if_neg c14] at h
                            cases h
                        · rw [if_neg c15] at h
                          cases h
                      · rw [if_neg c16] at h
                        refine zG_br hm rfl (cf' := (174, [some (zr 17 0), some (zr 2 n1), some (zi v2), some (zi v3), some (zi v4), some (zi (M 9 n1 (zix v4))), some (zi (M 10 n1 (zix v4))), none], [], M)) (if_neg c16) ?_
                        refine zG_sub (lv' := [some (zr 17 0), some (zr 2 n1), some (zi v2), some (zi v3), some (zi v4), some (zi (M 9 n1 (zix v4))), none, none]) (zsb_s rfl (zsb_s rfl (zsb_s rfl (zsb_s rfl (zsb_s rfl (zsb_s rfl (zsb_n (zsb_n zsb_0)))))))) ?_
                        exact g_X1_workOut_j174 hd h kc kb kr
                  · rw [if_neg c20] at h
                    refine zG_br hm rfl (cf' := (124, [some (zr 17 0), some (zr 2 n1), some (zi v2), some (zi v3), some (zi v4), some (zi (M 9 n1 (zix v4))), some (zi (M 10 n1 (zix v4))), none], [], M)) (if_neg c20) ?_
                    refine zG_run hm 4 (cf' := (128, [some (zr 17 0), some (zr 2 n1), some (zi v2), some (zi v3), some (zi v4), some (zi (M 9 n1 (zix v4))), some (zi (M 10 n1 (zix v4))), none], [zi 0, zi (v3 - 1)], M)) rfl ?_
                    refine zG_max hm rfl rfl ?_
                    show zG 19 d (131, [some (zr 17 0), some (zr 2 n1), some (zi v2), some (zi v3), some (zi v4), some (zi (M 9 n1 (zix v4))), some (zi (M 10 n1 (zix v4))), none], [zi (if zw (v3 - 1) < 0 then 0 else (v3 - 1))], M) _ _
                    refine zG_run hm 4 (cf' := (137, [some (zr 17 0), some (zr 2 n1), some (zi v2), some (zi (if zw (v3 - 1) < 0 then 0 else (v3 - 1))), some (zi v4), some (zi (M 9 n1 (zix v4))), some (zi (M 10 n1 (zix v4))), none], [zi (if zw (v3 - 1) < 0 then 0 else (v3 - 1)), zr 19 0], M)) rfl ?_
                    by_cases c19 : 0 ≤ zw (if zw (v3 - 1) < 0 then 0 else (v3 - 1)) ∧ zw (if zw (v3 - 1) < 0 then 0 else (v3 - 1)) < 302
                    · rw [if_pos c19] at h
                      refine zG_br hm rfl (cf' := (138, [some (zr 17 0), some (zr 2 n1), some (zi v2), some (zi (if zw (v3 - 1) < 0 then 0 else (v3 - 1))), some (zi v4), some (zi (M 9 n1 (zix v4))), some (zi (M 10 n1 (zix v4))), none], [zi (M 19 0 (zix (if zw (v3 - 1) < 0 then 0 else (v3 - 1))))], M)) (if_pos c19) ?_
                      by_cases c18 : ¬ zw (M 19 0 (zix (if zw (v3 - 1) < 0 then 0 else (v3 - 1)))) = 0
                      · rw [if_pos c18] at h
                        refine zG_br hm rfl (cf' := (153, [some (zr 17 0), some (zr 2 n1), some (zi v2), some (zi (if zw (v3 - 1) < 0 then 0 else (v3 - 1))), some (zi v4), some (zi (M 9 n1 (zix v4))), some (zi (M 10 n1 (zix v4))), none], [], M)) (if_pos c18) ?_
                        refine zG_run hm 1 (cf' := (155, [some (zr 17 0), some (zr 2 n1), some (zi v2), some (zi (if zw (v3 - 1) < 0 then 0 else (v3 - 1))), some (zi v4), some (zi (M 9 n1 (zix v4))), some (zi (M 10 n1 (zix v4))), none], [zi v4], M)) rfl ?_
                        refine zG_sub (lv' := [some (zr 17 0), some (zr 2 n1), some (zi v2), some (zi (if zw (v3 - 1) < 0 then 0 else (v3 - 1))), none, none, none, none]) (zsb_s rfl (zsb_s rfl (zsb_s rfl (zsb_s rfl (zsb_n (zsb_n (zsb_n (zsb_n zsb_0)))))))) ?_
                        exact g_X1_workOut_j155 hd h kc kb kr
                      · rw [if_neg c18] at h
                        refine zG_br hm rfl (cf' := (141, [some (zr 17 0), some (zr 2 n1), some (zi v2), some (zi (if zw (v3 - 1) < 0 then 0 else (v3 - 1))), some (zi v4), some (zi (M 9 n1 (zix v4))), some (zi (M 10 n1 (zix v4))), none], [], M)) (if_neg c18) ?_
                        refine zG_run hm 4 (cf' := (147, [some (zr 17 0), some (zr 2 n1), some (zi v2), some (zi (if zw (v3 - 1) < 0 then 0 else (v3 - 1))), some (zi v4), some (zi (M 9 n1 (zix v4))), some (zi (M 10 n1 (zix v4))), none], [zi ((M 10 n1 (zix v4)) - 1), zi v4], M)) rfl ?_
                        refine zG_max hm rfl rfl ?_
                        show zG 19 d (150, [some (zr 17 0), some (zr 2 n1), some (zi v2), some (zi (if zw (v3 - 1) < 0 then 0 else (v3 - 1))), some (zi v4), some (zi (M 9 n1 (zix v4))), some (zi (M 10 n1 (zix v4))), none], [zi (if zw v4 < zw ((M 10 n1 (zix v4)) - 1) then ((M 10 n1 (zix v4)) - 1) else v4)], M) _ _
                        refine zG_run hm 1 (cf' := (155, [some (zr 17 0), some (zr 2 n1), some (zi v2), some (zi (if zw (v3 - 1) < 0 then 0 else (v3 - 1))), some (zi v4), some (zi (M 9 n1 (zix v4))), some (zi (M 10 n1 (zix v4))), none], [zi (if zw v4 < zw ((M 10 n1 (zix v4)) - 1) then ((M 10 n1 (zix v4)) - 1) else v4)], M)) rfl ?_
                        refine zG_sub (lv' := [some (zr 17 0), some (zr 2 n1), some (zi v2), some (zi (if zw (v3 - 1) < 0 then 0 else (v3 - 1))), none, none, none, none]) (zsb_s rfl (zsb_s rfl (zsb_s rfl (zsb_s rfl (zsb_n (zsb_n (zsb_n (zsb_n zsb_0)))))))) ?_
                        exact g_X1_workOut_j155 hd h kc kb kr
                    · rw [if_neg c19] at h
                      cases h
                · rw [if_neg c21] at h
                  refine zG_br hm rfl (cf' := (103, [some (zr 17 0), some (zr 2 n1), some (zi v2), some (zi v3), some (zi v4), some (zi (M 9 n1 (zix v4))), some (zi (M 10 n1 (zix v4))), none], [], M)) (if_neg c21) ?_
                  refine zG_run hm 4 (cf' := (109, [some (zr 17 0), some (zr 2 n1), some (zi v2), some (zi v3), some (zi v4), some (zi (M 9 n1 (zix v4))), some (zi (M 10 n1 (zix v4))), none], [zi ((M 10 n1 (zix v4)) - 1), zi v4], M)) rfl ?_
                  refine zG_max hm rfl rfl ?_
                  show zG 19 d (112, [some (zr 17 0), some (zr 2 n1), some (zi v2), some (zi v3), some (zi v4), some (zi (M 9 n1 (zix v4))), some (zi (M 10 n1 (zix v4))), none], [zi (if zw v4 < zw ((M 10 n1 (zix v4)) - 1) then ((M 10 n1 (zix v4)) - 1) else v4)], M) _ _
                  refine zG_run hm 2 (cf' := (258, [some (zr 17 0), some (zr 2 n1), some (zi v2), some (zi v3), some (zi (if zw v4 < zw ((M 10 n1 (zix v4)) - 1) then ((M 10 n1 (zix v4)) - 1) else v4)), some (zi (M 9 n1 (zix v4))), some (zi (M 10 n1 (zix v4))), none], [], M)) rfl ?_
                  refine zG_sub (lv' := [some (zr 17 0), some (zr 2 n1), some (zi v2), some (zi v3), some (zi (if zw v4 < zw ((M 10 n1 (zix v4)) - 1) then ((M 10 n1 (zix v4)) - 1) else v4)), none, none, none]) (zsb_s rfl (zsb_s rfl (zsb_s rfl (zsb_s rfl (zsb_s rfl (zsb_n (zsb_n (zsb_n zsb_0)))))))) ?_
                  exact g_X1_workOut_j258 hd h kc kb kr
              · rw [if_neg c22] at h
                refine zG_br hm rfl (cf' := (58, [some (zr 17 0), some (zr 2 n1), some (zi v2), some (zi v3), some (zi v4), some (zi (M 9 n1 (zix v4))), some (zi (M 10 n1 (zix v4))), none], [], M)) (if_neg c22) ?_
                refine zG_sub (lv' := [some (zr 17 0), some (zr 2 n1), some (zi v2), some (zi v3), some (zi v4), some (zi (M 9 n1 (zix v4))), some (zi (M 10 n1 (zix v4))), none]) (zsb_s rfl (zsb_s rfl (zsb_s rfl (zsb_s rfl (zsb_s rfl (zsb_s rfl (zsb_s rfl (zsb_n zsb_0)))))))) ?_
                exact g_X1_workOut_j58 hd h kc kb kr
          · rw [if_neg c24] at h
            cases h
        · rw [if_neg c25] at h
          cases h
    · rw [if_neg c27] at h
      cases h
theorem gl_X1_workOut_L10 {n1 : Nat} {v2 : Int} {y : zM} {r : Option zV} {Mf : zM} {d : Nat} (hd : 1 ≤ d)
    (kb : ∀ t, y = t → zG 19 d (264, [some (zr 17 0), none, none, none, none, none, none, none], [], t) r Mf) (kr : True) : ∀ (n : Nat) (s : Int × Int × zM), zlp (fun s : Int × Int × zM => f_X1_workOut_L10 n1 v2 s.1 s.2.1 s.2.2) n s = some y → zG 19 d (10, [some (zr 17 0), some (zr 2 n1), some (zi v2), some (zi s.1), some (zi s.2.1), none, none, none], [], s.2.2) r Mf := by
  intro n
  induction n with
  | zero => intro s h; cases h
  | succ n ih =>
    intro s h
    rcases zlp_cases h with ⟨s', h1, h2⟩ | h1
    · exact g_X1_workOut_L10 hd h1 (fun s2 e2 => by cases e2; exact ih _ h2) (fun t e2 => by cases e2) trivial
    · exact g_X1_workOut_L10 hd h1 (fun s2 e2 => by cases e2) (fun t e2 => kb t (Sum.inr.inj e2)) trivial
def f_X1_workOut_j264  (M : zM) : Option (Int × zM) :=
  some ((M 19 0 0), M)
theorem g_X1_workOut_j264  {M : zM} {q : Int × zM} {d : Nat} (hd : 1 ≤ d) (h : f_X1_workOut_j264  M = some q) : zG 19 d (264, [some (zr 17 0), none, none, none, none, none, none, none], [], M) (some (zi q.1)) q.2 := by
  have hm := zmok_19
  unfold f_X1_workOut_j264 at h
  refine zG_run hm 4 (cf' := (270, [some (zr 17 0), none, none, none, none, none, none, none], [zi (M 19 0 0)], M)) rfl ?_
  cases h
  exact zG_ri hm rfl rfl
def f_X1_workOut (n1 : Nat) (v2 : Int) (M : zM) : Option (Int × zM) :=
  if 0 ≤ zw v2 ∧ zw v2 < 4 then
    (zlp (fun s : Int × Int × zM => f_X1_workOut_L10 n1 v2 s.1 s.2.1 s.2.2) zF (0, (M 7 n1 (zix v2)), M)).bind fun y29 =>
      f_X1_workOut_j264  y29
  else
    none
theorem g_X1_workOut {n1 : Nat} {v2 : Int} {M : zM} {q : Int × zM} {d : Nat} (hd : 1 ≤ d) (h : f_X1_workOut n1 v2 M = some q) : zG 19 d (0, [some (zr 17 0), some (zr 2 n1), some (zi v2), none, none, none, none, none], [], M) (some (zi q.1)) q.2 := by
  have hm := zmok_19
  unfold f_X1_workOut at h
  refine zG_run hm 5 (cf' := (7, [some (zr 17 0), some (zr 2 n1), some (zi v2), some (zi 0), none, none, none, none], [zi v2, zr 7 n1], M)) rfl ?_
  by_cases c30 : 0 ≤ zw v2 ∧ zw v2 < 4
  · rw [if_pos c30] at h
    refine zG_br hm rfl (cf' := (8, [some (zr 17 0), some (zr 2 n1), some (zi v2), some (zi 0), none, none, none, none], [zi (M 7 n1 (zix v2))], M)) (if_pos c30) ?_
    refine zG_run hm 1 (cf' := (10, [some (zr 17 0), some (zr 2 n1), some (zi v2), some (zi 0), some (zi (M 7 n1 (zix v2))), none, none, none], [], M)) rfl ?_
    refine zG_sub (lv' := [some (zr 17 0), some (zr 2 n1), some (zi v2), some (zi 0), some (zi (M 7 n1 (zix v2))), none, none, none]) (zsb_s rfl (zsb_s rfl (zsb_s rfl (zsb_s rfl (zsb_s rfl (zsb_n (zsb_n (zsb_n zsb_0)))))))) ?_
    obtain ⟨y29, hy29, h⟩ := Option.bind_eq_some_iff.mp h
    refine gl_X1_workOut_L10 hd (fun t e2 => ?_) trivial zF (0, (M 7 n1 (zix v2)), M) hy29
    cases e2
    refine zG_sub (lv' := [some (zr 17 0), none, none, none, none, none, none, none]) (zsb_s rfl (zsb_n (zsb_n (zsb_n (zsb_n (zsb_n (zsb_n (zsb_n zsb_0)))))))) ?_
    exact g_X1_workOut_j264 hd h
  · rw [if_neg c30] at h
    cases h
theorem met_X1_workOut {n1 : Nat} {v2 : Int} {M : zM} {q : Int × zM} {d : Nat} (hd : 1 ≤ d) (h : f_X1_workOut n1 v2 M = some q) : zMet 19 d [zr 17 0, zr 2 n1, zi v2] M (some (zi q.1)) q.2 :=
  zMet_of (lv0 := [some (zr 17 0), some (zr 2 n1), some (zi v2), none, none, none, none, none]) zmok_19 rfl rfl (fun v hv => by cases hv; trivial) (g_X1_workOut hd h)
def f_X0_lawOf_j177 (n0 : Nat) (v2 : Int) (n4 : Nat) (v6 : Int) (vs0 : Int) (M : zM) : Option (Int × zM) :=
  if zw v2 = 0 then
    if zw v6 = 0 then
      some (1, M)
    else
      (f_X10_between vs0 (-99) 99 M).bind fun p11 =>
        some (p11.1, p11.2)
  else
    if zw v2 = 1 then
      if zw v6 = 0 then
        some (9, M)
      else
        (f_X10_between vs0 0 9999 M).bind fun p14 =>
          some (p14.1, p14.2)
    else
      if zw v2 = 2 then
        if zw v6 = 0 then
          some ((M 16 n4 6), M)
        else
          (f_X10_between vs0 0 ((M 11 n0 6) - 1) M).bind fun p17 =>
            some (p17.1, p17.2)
      else
        if zw v6 = 0 then
          some ((M 16 n4 3), M)
        else
          (f_X10_between vs0 (-9999) 9999 M).bind fun p19 =>
            some (p19.1, p19.2)
theorem g_X0_lawOf_j177 {n0 : Nat} {v2 : Int} {n4 : Nat} {v6 : Int} {vs0 : Int} {M : zM} {q : Int × zM} {d : Nat} (hd : 2 ≤ d) (h : f_X0_lawOf_j177 n0 v2 n4 v6 vs0 M = some q) : zG 16 d (177, [some (zr 11 n0), none, some (zi v2), none, some (zr 16 n4), none, some (zi v6), none], [zi vs0], M) (some (zi q.1)) q.2 := by
  have hm := zmok_16
  unfold f_X0_lawOf_j177 at h
  refine zG_run hm 2 (cf' := (180, [some (zr 11 n0), none, some (zi v2), none, some (zr 16 n4), none, some (zi v6), some (zi vs0)], [zi v2], M)) rfl ?_
  by_cases c10 : zw v2 = 0
  · rw [if_pos c10] at h
    refine zG_tIn hm rfl (tgt := 208) (off := 28) c10 (by decide) rfl (by decide) ?_
    refine zG_run hm 1 (cf' := (210, [some (zr 11 n0), none, some (zi v2), none, some (zr 16 n4), none, some (zi v6), some (zi vs0)], [zi v6], M)) rfl ?_
    by_cases c12 : zw v6 = 0
    · rw [if_pos c12] at h
      refine zG_br hm rfl (cf' := (225, [some (zr 11 n0), none, some (zi v2), none, some (zr 16 n4), none, some (zi v6), some (zi vs0)], [], M)) (if_pos c12) ?_
      refine zG_run hm 1 (cf' := (226, [some (zr 11 n0), none, some (zi v2), none, some (zr 16 n4), none, some (zi v6), some (zi vs0)], [zi 1], M)) rfl ?_
      cases h
      exact zG_ri hm rfl rfl
    · rw [if_neg c12] at h
      refine zG_br hm rfl (cf' := (213, [some (zr 11 n0), none, some (zi v2), none, some (zr 16 n4), none, some (zi v6), some (zi vs0)], [], M)) (if_neg c12) ?_
      refine zG_run hm 3 (cf' := (219, [some (zr 11 n0), none, some (zi v2), none, some (zr 16 n4), none, some (zi v6), some (zi vs0)], [zi 99, zi (-99), zi vs0], M)) rfl ?_
      obtain ⟨p11, hp11, h⟩ := Option.bind_eq_some_iff.mp h
      refine zG_S hm zmok_109 rfl (as := [zi vs0, zi (-99), zi 99]) (rest := []) (st2 := [zi p11.1]) (pc2 := 222) rfl rfl (by omega) (met_X10_between (d := 0) (Nat.le_refl _) hp11) rfl ?_
      refine zG_run hm 1 (cf' := (226, [some (zr 11 n0), none, some (zi v2), none, some (zr 16 n4), none, some (zi v6), some (zi vs0)], [zi p11.1], p11.2)) rfl ?_
      cases h
      exact zG_ri hm rfl rfl
  · rw [if_neg c10] at h
    by_cases c13 : zw v2 = 1
    · rw [if_pos c13] at h
      refine zG_tIn hm rfl (tgt := 227) (off := 47) c13 (by decide) rfl (by decide) ?_
      refine zG_run hm 1 (cf' := (229, [some (zr 11 n0), none, some (zi v2), none, some (zr 16 n4), none, some (zi v6), some (zi vs0)], [zi v6], M)) rfl ?_
      by_cases c15 : zw v6 = 0
      · rw [if_pos c15] at h
        refine zG_br hm rfl (cf' := (244, [some (zr 11 n0), none, some (zi v2), none, some (zr 16 n4), none, some (zi v6), some (zi vs0)], [], M)) (if_pos c15) ?_
        refine zG_run hm 1 (cf' := (246, [some (zr 11 n0), none, some (zi v2), none, some (zr 16 n4), none, some (zi v6), some (zi vs0)], [zi 9], M)) rfl ?_
        cases h
        exact zG_ri hm rfl rfl
      · rw [if_neg c15] at h
        refine zG_br hm rfl (cf' := (232, [some (zr 11 n0), none, some (zi v2), none, some (zr 16 n4), none, some (zi v6), some (zi vs0)], [], M)) (if_neg c15) ?_
        refine zG_run hm 3 (cf' := (238, [some (zr 11 n0), none, some (zi v2), none, some (zr 16 n4), none, some (zi v6), some (zi vs0)], [zi 9999, zi 0, zi vs0], M)) rfl ?_
        obtain ⟨p14, hp14, h⟩ := Option.bind_eq_some_iff.mp h
        refine zG_S hm zmok_109 rfl (as := [zi vs0, zi 0, zi 9999]) (rest := []) (st2 := [zi p14.1]) (pc2 := 241) rfl rfl (by omega) (met_X10_between (d := 0) (Nat.le_refl _) hp14) rfl ?_
        refine zG_run hm 1 (cf' := (246, [some (zr 11 n0), none, some (zi v2), none, some (zr 16 n4), none, some (zi v6), some (zi vs0)], [zi p14.1], p14.2)) rfl ?_
        cases h
        exact zG_ri hm rfl rfl
    · rw [if_neg c13] at h
      by_cases c16 : zw v2 = 2
      · rw [if_pos c16] at h
        refine zG_tIn hm rfl (tgt := 247) (off := 67) c16 (by decide) rfl (by decide) ?_
        refine zG_run hm 1 (cf' := (249, [some (zr 11 n0), none, some (zi v2), none, some (zr 16 n4), none, some (zi v6), some (zi vs0)], [zi v6], M)) rfl ?_
        by_cases c18 : zw v6 = 0
        · rw [if_pos c18] at h
          refine zG_br hm rfl (cf' := (267, [some (zr 11 n0), none, some (zi v2), none, some (zr 16 n4), none, some (zi v6), some (zi vs0)], [], M)) (if_pos c18) ?_
          refine zG_run hm 2 (cf' := (272, [some (zr 11 n0), none, some (zi v2), none, some (zr 16 n4), none, some (zi v6), some (zi vs0)], [zi (M 16 n4 6)], M)) rfl ?_
          cases h
          exact zG_ri hm rfl rfl
        · rw [if_neg c18] at h
          refine zG_br hm rfl (cf' := (252, [some (zr 11 n0), none, some (zi v2), none, some (zr 16 n4), none, some (zi v6), some (zi vs0)], [], M)) (if_neg c18) ?_
          refine zG_run hm 6 (cf' := (261, [some (zr 11 n0), none, some (zi v2), none, some (zr 16 n4), none, some (zi v6), some (zi vs0)], [zi ((M 11 n0 6) - 1), zi 0, zi vs0], M)) rfl ?_
          obtain ⟨p17, hp17, h⟩ := Option.bind_eq_some_iff.mp h
          refine zG_S hm zmok_109 rfl (as := [zi vs0, zi 0, zi ((M 11 n0 6) - 1)]) (rest := []) (st2 := [zi p17.1]) (pc2 := 264) rfl rfl (by omega) (met_X10_between (d := 0) (Nat.le_refl _) hp17) rfl ?_
          refine zG_run hm 1 (cf' := (272, [some (zr 11 n0), none, some (zi v2), none, some (zr 16 n4), none, some (zi v6), some (zi vs0)], [zi p17.1], p17.2)) rfl ?_
          cases h
          exact zG_ri hm rfl rfl
      · rw [if_neg c16] at h
        refine zG_tOut hm rfl (tgt := 273) (by omega) (by decide) ?_
        refine zG_run hm 1 (cf' := (275, [some (zr 11 n0), none, some (zi v2), none, some (zr 16 n4), none, some (zi v6), some (zi vs0)], [zi v6], M)) rfl ?_
        by_cases c20 : zw v6 = 0
        · rw [if_pos c20] at h
          refine zG_br hm rfl (cf' := (292, [some (zr 11 n0), none, some (zi v2), none, some (zr 16 n4), none, some (zi v6), some (zi vs0)], [], M)) (if_pos c20) ?_
          refine zG_run hm 2 (cf' := (297, [some (zr 11 n0), none, some (zi v2), none, some (zr 16 n4), none, some (zi v6), some (zi vs0)], [zi (M 16 n4 3)], M)) rfl ?_
          cases h
          exact zG_ri hm rfl rfl
        · rw [if_neg c20] at h
          refine zG_br hm rfl (cf' := (278, [some (zr 11 n0), none, some (zi v2), none, some (zr 16 n4), none, some (zi v6), some (zi vs0)], [], M)) (if_neg c20) ?_
          refine zG_run hm 3 (cf' := (286, [some (zr 11 n0), none, some (zi v2), none, some (zr 16 n4), none, some (zi v6), some (zi vs0)], [zi 9999, zi (-9999), zi vs0], M)) rfl ?_
          obtain ⟨p19, hp19, h⟩ := Option.bind_eq_some_iff.mp h
          refine zG_S hm zmok_109 rfl (as := [zi vs0, zi (-9999), zi 9999]) (rest := []) (st2 := [zi p19.1]) (pc2 := 289) rfl rfl (by omega) (met_X10_between (d := 0) (Nat.le_refl _) hp19) rfl ?_
          refine zG_run hm 1 (cf' := (297, [some (zr 11 n0), none, some (zi v2), none, some (zr 16 n4), none, some (zi v6), some (zi vs0)], [zi p19.1], p19.2)) rfl ?_
          cases h
          exact zG_ri hm rfl rfl
def f_X0_lawOf_j149 (n0 : Nat) (v2 : Int) (n4 : Nat) (vs0 : Int) (M : zM) : Option (Int × zM) :=
  if zw vs0 = 0 then
    f_X0_lawOf_j177 n0 v2 n4 vs0 0 M
  else
    if 0 ≤ zw (M 11 n0 13) ∧ zw (M 11 n0 13) < 4 then
      (f_X1_workOut (zix (M 11 n0 13)) v2 M).bind fun p21 =>
        f_X0_lawOf_j177 n0 v2 n4 vs0 p21.1 p21.2
    else
      none
theorem g_X0_lawOf_j149 {n0 : Nat} {v2 : Int} {n4 : Nat} {vs0 : Int} {M : zM} {q : Int × zM} {d : Nat} (hd : 2 ≤ d) (h : f_X0_lawOf_j149 n0 v2 n4 vs0 M = some q) : zG 16 d (149, [some (zr 11 n0), none, some (zi v2), none, some (zr 16 n4), none, none, none], [zi vs0], M) (some (zi q.1)) q.2 := by
  have hm := zmok_16
  unfold f_X0_lawOf_j149 at h
  refine zG_run hm 2 (cf' := (153, [some (zr 11 n0), none, some (zi v2), none, some (zr 16 n4), none, some (zi vs0), none], [zi vs0], M)) rfl ?_
  by_cases c23 : zw vs0 = 0
  · rw [if_pos c23] at h
    refine zG_br hm rfl (cf' := (176, [some (zr 11 n0), none, some (zi v2), none, some (zr 16 n4), none, some (zi vs0), none], [], M)) (if_pos c23) ?_
    refine zG_run hm 1 (cf' := (177, [some (zr 11 n0), none, some (zi v2), none, some (zr 16 n4), none, some (zi vs0), none], [zi 0], M)) rfl ?_
    refine zG_sub (lv' := [some (zr 11 n0), none, some (zi v2), none, some (zr 16 n4), none, some (zi vs0), none]) (zsb_s rfl (zsb_n (zsb_s rfl (zsb_n (zsb_s rfl (zsb_n (zsb_s rfl (zsb_n zsb_0)))))))) ?_
    exact g_X0_lawOf_j177 hd h
  · rw [if_neg c23] at h
    refine zG_br hm rfl (cf' := (156, [some (zr 11 n0), none, some (zi v2), none, some (zr 16 n4), none, some (zi vs0), none], [], M)) (if_neg c23) ?_
    refine zG_run hm 6 (cf' := (168, [some (zr 11 n0), none, some (zi v2), none, some (zr 16 n4), none, some (zi vs0), none], [zi (M 11 n0 13), zr 1 0, zr 17 0], M)) rfl ?_
    by_cases c22 : 0 ≤ zw (M 11 n0 13) ∧ zw (M 11 n0 13) < 4
    · rw [if_pos c22] at h
      refine zG_br hm rfl (cf' := (169, [some (zr 11 n0), none, some (zi v2), none, some (zr 16 n4), none, some (zi vs0), none], [zr 2 (zix (M 11 n0 13)), zr 17 0], M)) (if_pos c22) ?_
      refine zG_run hm 1 (cf' := (170, [some (zr 11 n0), none, some (zi v2), none, some (zr 16 n4), none, some (zi vs0), none], [zi v2, zr 2 (zix (M 11 n0 13)), zr 17 0], M)) rfl ?_
      obtain ⟨p21, hp21, h⟩ := Option.bind_eq_some_iff.mp h
      refine zG_V hm zmok_19 rfl (as := [zr 2 (zix (M 11 n0 13)), zi v2]) (rest := []) (st2 := [zi p21.1]) (pc2 := 173) rfl rfl (by omega) (met_X1_workOut (d := 1) (Nat.le_refl _) hp21) rfl ?_
      refine zG_run hm 1 (cf' := (177, [some (zr 11 n0), none, some (zi v2), none, some (zr 16 n4), none, some (zi vs0), none], [zi p21.1], p21.2)) rfl ?_
      refine zG_sub (lv' := [some (zr 11 n0), none, some (zi v2), none, some (zr 16 n4), none, some (zi vs0), none]) (zsb_s rfl (zsb_n (zsb_s rfl (zsb_n (zsb_s rfl (zsb_n (zsb_s rfl (zsb_n zsb_0)))))))) ?_
      exact g_X0_lawOf_j177 hd h
    · rw [if_neg c22] at h
      cases h
def f_X0_lawOf_j148 (n0 : Nat) (v2 : Int) (n4 : Nat) (M : zM) : Option (Int × zM) :=
  f_X0_lawOf_j149 n0 v2 n4 0 M
theorem g_X0_lawOf_j148 {n0 : Nat} {v2 : Int} {n4 : Nat} {M : zM} {q : Int × zM} {d : Nat} (hd : 2 ≤ d) (h : f_X0_lawOf_j148 n0 v2 n4 M = some q) : zG 16 d (148, [some (zr 11 n0), none, some (zi v2), none, some (zr 16 n4), none, none, none], [], M) (some (zi q.1)) q.2 := by
  have hm := zmok_16
  unfold f_X0_lawOf_j148 at h
  refine zG_run hm 1 (cf' := (149, [some (zr 11 n0), none, some (zi v2), none, some (zr 16 n4), none, none, none], [zi 0], M)) rfl ?_
  refine zG_sub (lv' := [some (zr 11 n0), none, some (zi v2), none, some (zr 16 n4), none, none, none]) (zsb_s rfl (zsb_n (zsb_s rfl (zsb_n (zsb_s rfl (zsb_n (zsb_n (zsb_n zsb_0)))))))) ?_
  exact g_X0_lawOf_j149 hd h
def f_X0_lawOf_j107 (n0 : Nat) (v2 : Int) (n4 : Nat) (vs0 : Int) (vs1 : Int) (M : zM) : Option (Int × zM) :=
  if 0 ≤ zw vs1 ∧ zw vs1 < 16 then
    zlet (zput M 18 0 (zix vs1) vs0) fun M9 =>
    if zw (M9 11 n0 13) < 0 then
      f_X0_lawOf_j148 n0 v2 n4 M9
    else
      if zw (M9 11 n0 12) ≤ zw (M9 11 n0 13) then
        f_X0_lawOf_j148 n0 v2 n4 M9
      else
        if 0 ≤ zw (M9 11 n0 13) ∧ zw (M9 11 n0 13) < 4 then
          if 0 ≤ zw v2 ∧ zw v2 < 4 then
            if zw (M9 7 (zix (M9 11 n0 13)) (zix v2)) = (-1) then
              f_X0_lawOf_j148 n0 v2 n4 M9
            else
              f_X0_lawOf_j149 n0 v2 n4 1 M9
          else
            none
        else
          none
  else
    none
theorem g_X0_lawOf_j107 {n0 : Nat} {v2 : Int} {n4 : Nat} {vs0 : Int} {vs1 : Int} {M : zM} {q : Int × zM} {d : Nat} (hd : 2 ≤ d) (h : f_X0_lawOf_j107 n0 v2 n4 vs0 vs1 M = some q) : zG 16 d (107, [some (zr 11 n0), none, some (zi v2), none, some (zr 16 n4), none, none, none], [zi vs0, zi vs1, zr 18 0], M) (some (zi q.1)) q.2 := by
  have hm := zmok_16
  unfold f_X0_lawOf_j107 at h
  by_cases c29 : 0 ≤ zw vs1 ∧ zw vs1 < 16
  · rw [if_pos c29] at h
    refine zG_br hm rfl (cf' := (108, [some (zr 11 n0), none, some (zi v2), none, some (zr 16 n4), none, none, none], [], (zput M 18 0 (zix vs1) vs0))) (if_pos c29) ?_
    obtain ⟨M9, eM9, h⟩ := zlet_of h
    rw [eM9]
    refine zG_run hm 2 (cf' := (112, [some (zr 11 n0), none, some (zi v2), none, some (zr 16 n4), none, none, none], [zi (M9 11 n0 13)], M9)) rfl ?_
    by_cases c28 : zw (M9 11 n0 13) < 0
    · rw [if_pos c28] at h
      refine zG_br hm rfl (cf' := (148, [some (zr 11 n0), none, some (zi v2), none, some (zr 16 n4), none, none, none], [], M9)) (if_pos c28) ?_
      refine zG_sub (lv' := [some (zr 11 n0), none, some (zi v2), none, some (zr 16 n4), none, none, none]) (zsb_s rfl (zsb_n (zsb_s rfl (zsb_n (zsb_s rfl (zsb_n (zsb_n (zsb_n zsb_0)))))))) ?_
      exact g_X0_lawOf_j148 hd h
    · rw [if_neg c28] at h
      refine zG_br hm rfl (cf' := (115, [some (zr 11 n0), none, some (zi v2), none, some (zr 16 n4), none, none, none], [], M9)) (if_neg c28) ?_
      refine zG_run hm 4 (cf' := (123, [some (zr 11 n0), none, some (zi v2), none, some (zr 16 n4), none, none, none], [zi (M9 11 n0 12), zi (M9 11 n0 13)], M9)) rfl ?_
      by_cases c27 : zw (M9 11 n0 12) ≤ zw (M9 11 n0 13)
      · rw [if_pos c27] at h
        refine zG_br hm rfl (cf' := (148, [some (zr 11 n0), none, some (zi v2), none, some (zr 16 n4), none, none, none], [], M9)) (if_pos c27) ?_
        refine zG_sub (lv' := [some (zr 11 n0), none, some (zi v2), none, some (zr 16 n4), none, none, none]) (zsb_s rfl (zsb_n (zsb_s rfl (zsb_n (zsb_s rfl (zsb_n (zsb_n (zsb_n zsb_0)))))))) ?_
        exact g_X0_lawOf_j148 hd h
      · rw [if_neg c27] at h
        refine zG_br hm rfl (cf' := (126, [some (zr 11 n0), none, some (zi v2), none, some (zr 16 n4), none, none, none], [], M9)) (if_neg c27) ?_
        refine zG_run hm 4 (cf' := (134, [some (zr 11 n0), none, some (zi v2), none, some (zr 16 n4), none, none, none], [zi (M9 11 n0 13), zr 1 0], M9)) rfl ?_
        by_cases c26 : 0 ≤ zw (M9 11 n0 13) ∧ zw (M9 11 n0 13) < 4
        · rw [if_pos c26] at h
          refine zG_br hm rfl (cf' := (135, [some (zr 11 n0), none, some (zi v2), none, some (zr 16 n4), none, none, none], [zr 2 (zix (M9 11 n0 13))], M9)) (if_pos c26) ?_
          refine zG_run hm 2 (cf' := (139, [some (zr 11 n0), none, some (zi v2), none, some (zr 16 n4), none, none, none], [zi v2, zr 7 (zix (M9 11 n0 13))], M9)) rfl ?_
          by_cases c25 : 0 ≤ zw v2 ∧ zw v2 < 4
          · rw [if_pos c25] at h
            refine zG_br hm rfl (cf' := (140, [some (zr 11 n0), none, some (zi v2), none, some (zr 16 n4), none, none, none], [zi (M9 7 (zix (M9 11 n0 13)) (zix v2))], M9)) (if_pos c25) ?_
            refine zG_run hm 1 (cf' := (141, [some (zr 11 n0), none, some (zi v2), none, some (zr 16 n4), none, none, none], [zi (-1), zi (M9 7 (zix (M9 11 n0 13)) (zix v2))], M9)) rfl ?_
            by_cases c24 : zw (M9 7 (zix (M9 11 n0 13)) (zix v2)) = (-1)
            · rw [if_pos c24] at h
              refine zG_br hm rfl (cf' := (148, [some (zr 11 n0), none, some (zi v2), none, some (zr 16 n4), none, none, none], [], M9)) (if_pos c24) ?_
              refine zG_sub (lv' := [some (zr 11 n0), none, some (zi v2), none, some (zr 16 n4), none, none, none]) (zsb_s rfl (zsb_n (zsb_s rfl (zsb_n (zsb_s rfl (zsb_n (zsb_n (zsb_n zsb_0)))))))) ?_
              exact g_X0_lawOf_j148 hd h
            · rw [if_neg c24] at h
              refine zG_br hm rfl (cf' := (144, [some (zr 11 n0), none, some (zi v2), none, some (zr 16 n4), none, none, none], [], M9)) (if_neg c24) ?_
              refine zG_run hm 2 (cf' := (149, [some (zr 11 n0), none, some (zi v2), none, some (zr 16 n4), none, none, none], [zi 1], M9)) rfl ?_
              refine zG_sub (lv' := [some (zr 11 n0), none, some (zi v2), none, some (zr 16 n4), none, none, none]) (zsb_s rfl (zsb_n (zsb_s rfl (zsb_n (zsb_s rfl (zsb_n (zsb_n (zsb_n zsb_0)))))))) ?_
              exact g_X0_lawOf_j149 hd h
          · rw [if_neg c25] at h
            cases h
        · rw [if_neg c26] at h
          cases h
  · rw [if_neg c29] at h
    cases h
def f_X0_lawOf (n0 : Nat) (v1 : Int) (v2 : Int) (v3 : Int) (M : zM) : Option (Int × zM) :=
  if 0 ≤ zw v1 ∧ zw v1 < 8 then
    zlet (zput M 18 0 10 (M 11 n0 10)) fun M1 =>
    zlet (zput M1 18 0 11 ((M1 11 n0 10) - (M1 16 ((zix v1) + 8 * n0) 5))) fun M2 =>
    zlet (zput M2 18 0 12 (M2 16 ((zix v1) + 8 * n0) 3)) fun M3 =>
    zlet (zput M3 18 0 13 (M3 16 ((zix v1) + 8 * n0) 2)) fun M4 =>
    zlet (zput M4 18 0 4 (M4 16 ((zix v1) + 8 * n0) 1)) fun M5 =>
    zlet (zput M5 18 0 14 (M5 16 ((zix v1) + 8 * n0) 6)) fun M6 =>
    zlet (zput M6 18 0 5 v1) fun M7 =>
    (f_X0_hasOwner n0 v3 M7).bind fun p8 =>
      if zw p8.1 = 0 then
        f_X0_lawOf_j107 n0 v2 ((zix v1) + 8 * n0) 0 15 p8.2
      else
        if 0 ≤ zw v3 ∧ zw v3 < 6 then
          f_X0_lawOf_j107 n0 v2 ((zix v1) + 8 * n0) (p8.2 13 n0 (zix v3)) 15 p8.2
        else
          none
  else
    none
theorem g_X0_lawOf {n0 : Nat} {v1 : Int} {v2 : Int} {v3 : Int} {M : zM} {q : Int × zM} {d : Nat} (hd : 2 ≤ d) (h : f_X0_lawOf n0 v1 v2 v3 M = some q) : zG 16 d (0, [some (zr 11 n0), some (zi v1), some (zi v2), some (zi v3), none, none, none, none], [], M) (some (zi q.1)) q.2 := by
  have hm := zmok_16
  unfold f_X0_lawOf at h
  refine zG_run hm 3 (cf' := (5, [some (zr 11 n0), some (zi v1), some (zi v2), some (zi v3), none, none, none, none], [zi v1, zr 14 n0], M)) rfl ?_
  by_cases c32 : 0 ≤ zw v1 ∧ zw v1 < 8
  · rw [if_pos c32] at h
    refine zG_br hm rfl (cf' := (6, [some (zr 11 n0), some (zi v1), some (zi v2), some (zi v3), none, none, none, none], [zr 16 ((zix v1) + 8 * n0)], M)) (if_pos c32) ?_
    refine zG_run hm 10 (cf' := (26, [some (zr 11 n0), some (zi v1), some (zi v2), some (zi v3), some (zr 16 ((zix v1) + 8 * n0)), some (zr 18 0), none, none], [], (zput M 18 0 10 (M 11 n0 10)))) rfl ?_
    obtain ⟨M1, eM1, h⟩ := zlet_of h
    rw [eM1]
    refine zG_run hm 8 (cf' := (41, [some (zr 11 n0), some (zi v1), some (zi v2), some (zi v3), some (zr 16 ((zix v1) + 8 * n0)), some (zr 18 0), none, none], [], (zput M1 18 0 11 ((M1 11 n0 10) - (M1 16 ((zix v1) + 8 * n0) 5))))) rfl ?_
    obtain ⟨M2, eM2, h⟩ := zlet_of h
    rw [eM2]
    refine zG_run hm 5 (cf' := (51, [some (zr 11 n0), some (zi v1), some (zi v2), some (zi v3), some (zr 16 ((zix v1) + 8 * n0)), some (zr 18 0), none, none], [], (zput M2 18 0 12 (M2 16 ((zix v1) + 8 * n0) 3)))) rfl ?_
    obtain ⟨M3, eM3, h⟩ := zlet_of h
    rw [eM3]
    refine zG_run hm 5 (cf' := (61, [some (zr 11 n0), some (zi v1), some (zi v2), some (zi v3), some (zr 16 ((zix v1) + 8 * n0)), some (zr 18 0), none, none], [], (zput M3 18 0 13 (M3 16 ((zix v1) + 8 * n0) 2)))) rfl ?_
    obtain ⟨M4, eM4, h⟩ := zlet_of h
    rw [eM4]
    refine zG_run hm 5 (cf' := (70, [some (zr 11 n0), some (zi v1), some (zi v2), some (zi v3), some (zr 16 ((zix v1) + 8 * n0)), some (zr 18 0), none, none], [], (zput M4 18 0 4 (M4 16 ((zix v1) + 8 * n0) 1)))) rfl ?_
    obtain ⟨M5, eM5, h⟩ := zlet_of h
    rw [eM5]
    refine zG_run hm 5 (cf' := (80, [some (zr 11 n0), some (zi v1), some (zi v2), some (zi v3), some (zr 16 ((zix v1) + 8 * n0)), some (zr 18 0), none, none], [], (zput M5 18 0 14 (M5 16 ((zix v1) + 8 * n0) 6)))) rfl ?_
    obtain ⟨M6, eM6, h⟩ := zlet_of h
    rw [eM6]
    refine zG_run hm 4 (cf' := (85, [some (zr 11 n0), some (zi v1), some (zi v2), some (zi v3), some (zr 16 ((zix v1) + 8 * n0)), some (zr 18 0), none, none], [], (zput M6 18 0 5 v1))) rfl ?_
    obtain ⟨M7, eM7, h⟩ := zlet_of h
    rw [eM7]
    refine zG_run hm 4 (cf' := (91, [some (zr 11 n0), some (zi v1), some (zi v2), some (zi v3), some (zr 16 ((zix v1) + 8 * n0)), some (zr 18 0), none, none], [zi v3, zr 11 n0, zi 15, zr 18 0], M7)) rfl ?_
    obtain ⟨p8, hp8, h⟩ := Option.bind_eq_some_iff.mp h
    refine zG_V hm zmok_3 rfl (as := [zi v3]) (rest := [zi 15, zr 18 0]) (st2 := [zi p8.1, zi 15, zr 18 0]) (pc2 := 94) rfl rfl (by omega) (met_X0_hasOwner (d := 0) (Nat.le_refl _) hp8) rfl ?_
    by_cases c31 : zw p8.1 = 0
    · rw [if_pos c31] at h
      refine zG_br hm rfl (cf' := (106, [some (zr 11 n0), some (zi v1), some (zi v2), some (zi v3), some (zr 16 ((zix v1) + 8 * n0)), some (zr 18 0), none, none], [zi 15, zr 18 0], p8.2)) (if_pos c31) ?_
      refine zG_run hm 1 (cf' := (107, [some (zr 11 n0), some (zi v1), some (zi v2), some (zi v3), some (zr 16 ((zix v1) + 8 * n0)), some (zr 18 0), none, none], [zi 0, zi 15, zr 18 0], p8.2)) rfl ?_
      refine zG_sub (lv' := [some (zr 11 n0), none, some (zi v2), none, some (zr 16 ((zix v1) + 8 * n0)), none, none, none]) (zsb_s rfl (zsb_n (zsb_s rfl (zsb_n (zsb_s rfl (zsb_n (zsb_n (zsb_n zsb_0)))))))) ?_
      exact g_X0_lawOf_j107 hd h
    · rw [if_neg c31] at h
      refine zG_br hm rfl (cf' := (97, [some (zr 11 n0), some (zi v1), some (zi v2), some (zi v3), some (zr 16 ((zix v1) + 8 * n0)), some (zr 18 0), none, none], [zi 15, zr 18 0], p8.2)) (if_neg c31) ?_
      refine zG_run hm 3 (cf' := (102, [some (zr 11 n0), some (zi v1), some (zi v2), some (zi v3), some (zr 16 ((zix v1) + 8 * n0)), some (zr 18 0), none, none], [zi v3, zr 13 n0, zi 15, zr 18 0], p8.2)) rfl ?_
      by_cases c30 : 0 ≤ zw v3 ∧ zw v3 < 6
      · rw [if_pos c30] at h
        refine zG_br hm rfl (cf' := (103, [some (zr 11 n0), some (zi v1), some (zi v2), some (zi v3), some (zr 16 ((zix v1) + 8 * n0)), some (zr 18 0), none, none], [zi (p8.2 13 n0 (zix v3)), zi 15, zr 18 0], p8.2)) (if_pos c30) ?_
        refine zG_run hm 1 (cf' := (107, [some (zr 11 n0), some (zi v1), some (zi v2), some (zi v3), some (zr 16 ((zix v1) + 8 * n0)), some (zr 18 0), none, none], [zi (p8.2 13 n0 (zix v3)), zi 15, zr 18 0], p8.2)) rfl ?_
        refine zG_sub (lv' := [some (zr 11 n0), none, some (zi v2), none, some (zr 16 ((zix v1) + 8 * n0)), none, none, none]) (zsb_s rfl (zsb_n (zsb_s rfl (zsb_n (zsb_s rfl (zsb_n (zsb_n (zsb_n zsb_0)))))))) ?_
        exact g_X0_lawOf_j107 hd h
      · rw [if_neg c30] at h
        cases h
  · rw [if_neg c32] at h
    cases h
theorem met_X0_lawOf {n0 : Nat} {v1 : Int} {v2 : Int} {v3 : Int} {M : zM} {q : Int × zM} {d : Nat} (hd : 2 ≤ d) (h : f_X0_lawOf n0 v1 v2 v3 M = some q) : zMet 16 d [zr 11 n0, zi v1, zi v2, zi v3] M (some (zi q.1)) q.2 :=
  zMet_of (lv0 := [some (zr 11 n0), some (zi v1), some (zi v2), some (zi v3), none, none, none, none]) zmok_16 rfl rfl (fun v hv => by cases hv; trivial) (g_X0_lawOf hd h)
def f_X10_card (v0 : Int) (v1 : Int) (v2 : Int) (v3 : Int) (M : zM) : Option (Int × zM) :=
  some (((((((v0 * 8) + v1) * 6) + v2) * 100) + v3), M)
theorem g_X10_card {v0 : Int} {v1 : Int} {v2 : Int} {v3 : Int} {M : zM} {q : Int × zM} {d : Nat} (hd : 0 ≤ d) (h : f_X10_card v0 v1 v2 v3 M = some q) : zG 112 d (0, [some (zi v0), some (zi v1), some (zi v2), some (zi v3)], [], M) (some (zi q.1)) q.2 := by
  have hm := zmok_112
  unfold f_X10_card at h
  refine zG_run hm 13 (cf' := (16, [some (zi v0), some (zi v1), some (zi v2), some (zi v3)], [zi ((((((v0 * 8) + v1) * 6) + v2) * 100) + v3)], M)) rfl ?_
  cases h
  exact zG_ri hm rfl rfl
theorem met_X10_card {v0 : Int} {v1 : Int} {v2 : Int} {v3 : Int} {M : zM} {q : Int × zM} {d : Nat} (hd : 0 ≤ d) (h : f_X10_card v0 v1 v2 v3 M = some q) : zMet 112 d [zi v0, zi v1, zi v2, zi v3] M (some (zi q.1)) q.2 :=
  zMet_of (lv0 := [some (zi v0), some (zi v1), some (zi v2), some (zi v3)]) zmok_112 rfl rfl (fun v hv => by cases hv; trivial) (g_X10_card hd h)
def f_X0_comeBack_j85 (n0 : Nat) (v1 : Int) (n2 : Nat) (v3 : Int) (M : zM) : Option (Int × zM) :=
  (f_X10_card (M 11 n0 10) v1 v3 (M 16 n2 3) M).bind fun p6 =>
    if 0 ≤ zw (M 11 n0 8) ∧ zw (M 11 n0 8) < 30 then
      zlet (zput p6.2 15 n0 (zix (M 11 n0 8)) p6.1) fun M7 =>
      zlet (zput M7 11 n0 8 ((M7 11 n0 8) + 1)) fun M8 =>
      some (v3, M8)
    else
      none
theorem g_X0_comeBack_j85 {n0 : Nat} {v1 : Int} {n2 : Nat} {v3 : Int} {M : zM} {q : Int × zM} {d : Nat} (hd : 3 ≤ d) (h : f_X0_comeBack_j85 n0 v1 n2 v3 M = some q) : zG 13 d (85, [some (zr 11 n0), some (zi v1), some (zr 16 n2), some (zi v3), none], [], M) (some (zi q.1)) q.2 := by
  have hm := zmok_13
  unfold f_X0_comeBack_j85 at h
  refine zG_run hm 10 (cf' := (103, [some (zr 11 n0), some (zi v1), some (zr 16 n2), some (zi v3), none], [zi (M 16 n2 3), zi v3, zi v1, zi (M 11 n0 10), zi (M 11 n0 8), zr 15 n0], M)) rfl ?_
  obtain ⟨p6, hp6, h⟩ := Option.bind_eq_some_iff.mp h
  refine zG_S hm zmok_112 rfl (as := [zi (M 11 n0 10), zi v1, zi v3, zi (M 16 n2 3)]) (rest := [zi (M 11 n0 8), zr 15 n0]) (st2 := [zi p6.1, zi (M 11 n0 8), zr 15 n0]) (pc2 := 106) rfl rfl (by omega) (met_X10_card (d := 0) (Nat.le_refl _) hp6) rfl ?_
  by_cases c9 : 0 ≤ zw (M 11 n0 8) ∧ zw (M 11 n0 8) < 30
  · rw [if_pos c9] at h
    refine zG_br hm rfl (cf' := (107, [some (zr 11 n0), some (zi v1), some (zr 16 n2), some (zi v3), none], [], (zput p6.2 15 n0 (zix (M 11 n0 8)) p6.1))) (if_pos c9) ?_
    obtain ⟨M7, eM7, h⟩ := zlet_of h
    rw [eM7]
    refine zG_run hm 6 (cf' := (117, [some (zr 11 n0), some (zi v1), some (zr 16 n2), some (zi v3), none], [], (zput M7 11 n0 8 ((M7 11 n0 8) + 1)))) rfl ?_
    obtain ⟨M8, eM8, h⟩ := zlet_of h
    rw [eM8]
    refine zG_run hm 1 (cf' := (118, [some (zr 11 n0), some (zi v1), some (zr 16 n2), some (zi v3), none], [zi v3], M8)) rfl ?_
    cases h
    exact zG_ri hm rfl rfl
  · rw [if_neg c9] at h
    cases h
def f_X0_comeBack (n0 : Nat) (v1 : Int) (M : zM) : Option (Int × zM) :=
  if 0 ≤ zw v1 ∧ zw v1 < 8 then
    (f_X0_lawOf n0 v1 2 (-1) M).bind fun p1 =>
      (f_X0_lawOf n0 v1 3 p1.1 p1.2).bind fun p2 =>
        zlet (zput p2.2 16 ((zix v1) + 8 * n0) 4 p1.1) fun M3 =>
        if 0 ≤ zw p1.1 ∧ zw p1.1 < 6 then
          (f_X10_between ((M3 13 n0 (zix p1.1)) + p2.1) (-1000000) 1000000 M3).bind fun p4 =>
            if 0 ≤ zw p1.1 ∧ zw p1.1 < 6 then
              zlet (zput p4.2 13 n0 (zix p1.1) p4.1) fun M5 =>
              if ¬ zw (M5 11 n0 8) = 30 then
                f_X0_comeBack_j85 n0 v1 ((zix v1) + 8 * n0) p1.1 M5
              else
                zlet (zcopy M5 15 n0 1 15 n0 0 29) fun M10 =>
                zlet (zput M10 11 n0 8 ((M10 11 n0 8) - 1)) fun M11 =>
                f_X0_comeBack_j85 n0 v1 ((zix v1) + 8 * n0) p1.1 M11
            else
              none
        else
          none
  else
    none
theorem g_X0_comeBack {n0 : Nat} {v1 : Int} {M : zM} {q : Int × zM} {d : Nat} (hd : 3 ≤ d) (h : f_X0_comeBack n0 v1 M = some q) : zG 13 d (0, [some (zr 11 n0), some (zi v1), none, none, none], [], M) (some (zi q.1)) q.2 := by
  have hm := zmok_13
  unfold f_X0_comeBack at h
  refine zG_run hm 3 (cf' := (5, [some (zr 11 n0), some (zi v1), none, none, none], [zi v1, zr 14 n0], M)) rfl ?_
  by_cases c15 : 0 ≤ zw v1 ∧ zw v1 < 8
  · rw [if_pos c15] at h
    refine zG_br hm rfl (cf' := (6, [some (zr 11 n0), some (zi v1), none, none, none], [zr 16 ((zix v1) + 8 * n0)], M)) (if_pos c15) ?_
    refine zG_run hm 5 (cf' := (11, [some (zr 11 n0), some (zi v1), some (zr 16 ((zix v1) + 8 * n0)), none, none], [zi (-1), zi 2, zi v1, zr 11 n0], M)) rfl ?_
    obtain ⟨p1, hp1, h⟩ := Option.bind_eq_some_iff.mp h
    refine zG_V hm zmok_16 rfl (as := [zi v1, zi 2, zi (-1)]) (rest := []) (st2 := [zi p1.1]) (pc2 := 14) rfl rfl (by omega) (met_X0_lawOf (d := 2) (Nat.le_refl _) hp1) rfl ?_
    refine zG_run hm 5 (cf' := (19, [some (zr 11 n0), some (zi v1), some (zr 16 ((zix v1) + 8 * n0)), some (zi p1.1), none], [zi p1.1, zi 3, zi v1, zr 11 n0], p1.2)) rfl ?_
    obtain ⟨p2, hp2, h⟩ := Option.bind_eq_some_iff.mp h
    refine zG_V hm zmok_16 rfl (as := [zi v1, zi 3, zi p1.1]) (rest := []) (st2 := [zi p2.1]) (pc2 := 22) rfl rfl (by omega) (met_X0_lawOf (d := 2) (Nat.le_refl _) hp2) rfl ?_
    refine zG_run hm 4 (cf' := (29, [some (zr 11 n0), some (zi v1), some (zr 16 ((zix v1) + 8 * n0)), some (zi p1.1), some (zi p2.1)], [], (zput p2.2 16 ((zix v1) + 8 * n0) 4 p1.1))) rfl ?_
    obtain ⟨M3, eM3, h⟩ := zlet_of h
    rw [eM3]
    refine zG_run hm 6 (cf' := (39, [some (zr 11 n0), some (zi v1), some (zr 16 ((zix v1) + 8 * n0)), some (zi p1.1), some (zi p2.1)], [zi p1.1, zr 13 n0, zi p1.1, zr 13 n0], M3)) rfl ?_
    by_cases c14 : 0 ≤ zw p1.1 ∧ zw p1.1 < 6
    · rw [if_pos c14] at h
      refine zG_br hm rfl (cf' := (40, [some (zr 11 n0), some (zi v1), some (zr 16 ((zix v1) + 8 * n0)), some (zi p1.1), some (zi p2.1)], [zi (M3 13 n0 (zix p1.1)), zi p1.1, zr 13 n0], M3)) (if_pos c14) ?_
      refine zG_run hm 4 (cf' := (47, [some (zr 11 n0), some (zi v1), some (zr 16 ((zix v1) + 8 * n0)), some (zi p1.1), some (zi p2.1)], [zi 1000000, zi (-1000000), zi ((M3 13 n0 (zix p1.1)) + p2.1), zi p1.1, zr 13 n0], M3)) rfl ?_
      obtain ⟨p4, hp4, h⟩ := Option.bind_eq_some_iff.mp h
      refine zG_S hm zmok_109 rfl (as := [zi ((M3 13 n0 (zix p1.1)) + p2.1), zi (-1000000), zi 1000000]) (rest := [zi p1.1, zr 13 n0]) (st2 := [zi p4.1, zi p1.1, zr 13 n0]) (pc2 := 50) rfl rfl (by omega) (met_X10_between (d := 0) (Nat.le_refl _) hp4) rfl ?_
      by_cases c13 : 0 ≤ zw p1.1 ∧ zw p1.1 < 6
      · rw [if_pos c13] at h
        refine zG_br hm rfl (cf' := (51, [some (zr 11 n0), some (zi v1), some (zr 16 ((zix v1) + 8 * n0)), some (zi p1.1), some (zi p2.1)], [], (zput p4.2 13 n0 (zix p1.1) p4.1))) (if_pos c13) ?_
        obtain ⟨M5, eM5, h⟩ := zlet_of h
        rw [eM5]
        refine zG_run hm 3 (cf' := (57, [some (zr 11 n0), some (zi v1), some (zr 16 ((zix v1) + 8 * n0)), some (zi p1.1), some (zi p2.1)], [zi 30, zi (M5 11 n0 8)], M5)) rfl ?_
        by_cases c12 : ¬ zw (M5 11 n0 8) = 30
        · rw [if_pos c12] at h
          refine zG_br hm rfl (cf' := (85, [some (zr 11 n0), some (zi v1), some (zr 16 ((zix v1) + 8 * n0)), some (zi p1.1), some (zi p2.1)], [], M5)) (if_pos c12) ?_
          refine zG_sub (lv' := [some (zr 11 n0), some (zi v1), some (zr 16 ((zix v1) + 8 * n0)), some (zi p1.1), none]) (zsb_s rfl (zsb_s rfl (zsb_s rfl (zsb_s rfl (zsb_n zsb_0))))) ?_
          exact g_X0_comeBack_j85 hd h
        · rw [if_neg c12] at h
          refine zG_br hm rfl (cf' := (60, [some (zr 11 n0), some (zi v1), some (zr 16 ((zix v1) + 8 * n0)), some (zi p1.1), some (zi p2.1)], [], M5)) (if_neg c12) ?_
          refine zG_run hm 7 (cf' := (72, [some (zr 11 n0), some (zi v1), some (zr 16 ((zix v1) + 8 * n0)), some (zi p1.1), some (zi p2.1)], [zi 29, zi 0, zr 15 n0, zi 1, zr 15 n0], M5)) rfl ?_
          refine zG_copy hm rfl 0 (Or.inl rfl) rfl (by decide) (by decide) (by decide) rfl rfl rfl ?_
          show zG 13 d (75, [some (zr 11 n0), some (zi v1), some (zr 16 ((zix v1) + 8 * n0)), some (zi p1.1), some (zi p2.1)], [], (zcopy M5 15 n0 1 15 n0 0 29)) _ _
          obtain ⟨M10, eM10, h⟩ := zlet_of h
          rw [eM10]
          refine zG_run hm 6 (cf' := (85, [some (zr 11 n0), some (zi v1), some (zr 16 ((zix v1) + 8 * n0)), some (zi p1.1), some (zi p2.1)], [], (zput M10 11 n0 8 ((M10 11 n0 8) - 1)))) rfl ?_
          obtain ⟨M11, eM11, h⟩ := zlet_of h
          rw [eM11]
          refine zG_sub (lv' := [some (zr 11 n0), some (zi v1), some (zr 16 ((zix v1) + 8 * n0)), some (zi p1.1), none]) (zsb_s rfl (zsb_s rfl (zsb_s rfl (zsb_s rfl (zsb_n zsb_0))))) ?_
          exact g_X0_comeBack_j85 hd h
      · rw [if_neg c13] at h
        cases h
    · rw [if_neg c14] at h
      cases h
  · rw [if_neg c15] at h
    cases h
theorem met_X0_comeBack {n0 : Nat} {v1 : Int} {M : zM} {q : Int × zM} {d : Nat} (hd : 3 ≤ d) (h : f_X0_comeBack n0 v1 M = some q) : zMet 13 d [zr 11 n0, zi v1] M (some (zi q.1)) q.2 :=
  zMet_of (lv0 := [some (zr 11 n0), some (zi v1), none, none, none]) zmok_13 rfl rfl (fun v hv => by cases hv; trivial) (g_X0_comeBack hd h)
def f_X10_send (v1 : Int) (M : zM) : Option (Int × zM) :=
  (f_X0_isKept 0 v1 M).bind fun p1 =>
    if ¬ zw p1.1 = 0 then
      (f_X5_keep 0 0 p1.2).bind fun p2 =>
        (f_X0_comeBack 0 v1 p2).bind fun p3 =>
          some (p3.1, p3.2)
    else
      some ((-1), p1.2)
theorem g_X10_send {v1 : Int} {M : zM} {q : Int × zM} {d : Nat} (hd : 4 ≤ d) (h : f_X10_send v1 M = some q) : zG 70 d (0, [some (zr 0 0), some (zi v1)], [], M) (some (zi q.1)) q.2 := by
  have hm := zmok_70
  unfold f_X10_send at h
  refine zG_run hm 3 (cf' := (5, [some (zr 0 0), some (zi v1)], [zi v1, zr 11 0], M)) rfl ?_
  obtain ⟨p1, hp1, h⟩ := Option.bind_eq_some_iff.mp h
  refine zG_V hm zmok_5 rfl (as := [zi v1]) (rest := []) (st2 := [zi p1.1]) (pc2 := 8) rfl rfl (by omega) (met_X0_isKept (d := 1) (Nat.le_refl _) hp1) rfl ?_
  by_cases c4 : ¬ zw p1.1 = 0
  · rw [if_pos c4] at h
    refine zG_br hm rfl (cf' := (13, [some (zr 0 0), some (zi v1)], [], p1.2)) (if_pos c4) ?_
    refine zG_run hm 4 (cf' := (21, [some (zr 0 0), some (zi v1)], [zr 11 0, zr 20 0], p1.2)) rfl ?_
    obtain ⟨p2, hp2, h⟩ := Option.bind_eq_some_iff.mp h
    refine zG_V hm zmok_50 rfl (as := [zr 11 0]) (rest := []) (st2 := []) (pc2 := 24) rfl rfl (by omega) (met_X5_keep (d := 1) (Nat.le_refl _) hp2) rfl ?_
    refine zG_run hm 3 (cf' := (29, [some (zr 0 0), some (zi v1)], [zi v1, zr 11 0], p2)) rfl ?_
    obtain ⟨p3, hp3, h⟩ := Option.bind_eq_some_iff.mp h
    refine zG_V hm zmok_13 rfl (as := [zi v1]) (rest := []) (st2 := [zi p3.1]) (pc2 := 32) rfl rfl (by omega) (met_X0_comeBack (d := 3) (Nat.le_refl _) hp3) rfl ?_
    cases h
    exact zG_ri hm rfl rfl
  · rw [if_neg c4] at h
    refine zG_br hm rfl (cf' := (11, [some (zr 0 0), some (zi v1)], [], p1.2)) (if_neg c4) ?_
    refine zG_run hm 1 (cf' := (12, [some (zr 0 0), some (zi v1)], [zi (-1)], p1.2)) rfl ?_
    cases h
    exact zG_ri hm rfl rfl
theorem met_X10_send {v1 : Int} {M : zM} {q : Int × zM} {d : Nat} (hd : 4 ≤ d) (h : f_X10_send v1 M = some q) : zMet 70 d [zr 0 0, zi v1] M (some (zi q.1)) q.2 :=
  zMet_of (lv0 := [some (zr 0 0), some (zi v1)]) zmok_70 rfl rfl (fun v hv => by cases hv; trivial) (g_X10_send hd h)
def f_X11_ordersOf_j64 (v1 : Int) (v3 : Int) (vs0 : Int) (M : zM) : Option ((Int × Int) ⊕ (Int)) :=
  some (.inl (vs0, (v3 + 1)))
theorem g_X11_ordersOf_j64 {v1 : Int} {v3 : Int} {vs0 : Int} {M : zM} {x : (Int × Int) ⊕ (Int)} {r : Option zV} {Mf : zM} {d : Nat} (hd : 0 ≤ d) (h : f_X11_ordersOf_j64 v1 v3 vs0 M = some x)
    (kc : ∀ s, x = .inl s → zG 170 d (4, [some (zr 42 0), some (zi v1), some (zi s.1), some (zi s.2), none], [], M) r Mf)
    (kb : ∀ t, x = .inr t → zG 170 d (71, [none, none, some (zi t), none, none], [], M) r Mf) (kr : True) : zG 170 d (64, [some (zr 42 0), some (zi v1), none, some (zi v3), none], [zi vs0], M) r Mf := by
  have hm := zmok_170
  unfold f_X11_ordersOf_j64 at h
  refine zG_run hm 3 (cf' := (4, [some (zr 42 0), some (zi v1), some (zi vs0), some (zi (v3 + 1)), none], [], M)) rfl ?_
  refine zG_sub (lv' := [some (zr 42 0), some (zi v1), some (zi vs0), some (zi (v3 + 1)), none]) (zsb_s rfl (zsb_s rfl (zsb_s rfl (zsb_s rfl (zsb_n zsb_0))))) ?_
  exact kc (vs0, (v3 + 1)) (Option.some.inj h).symm
def f_X11_ordersOf_L4 (v1 : Int) (v2 : Int) (v3 : Int) (M : zM) : Option ((Int × Int) ⊕ (Int)) :=
  if zw (M 43 0 4) = (-1) then
    some (.inr v2)
  else
    if 0 ≤ zw (M 43 0 4) ∧ zw (M 43 0 4) < 4 then
      if zw (M 46 0 (zix (M 43 0 4))) ≤ zw v3 then
        some (.inr v2)
      else
        if 0 ≤ zw ((24 * (M 43 0 4)) + v3) ∧ zw ((24 * (M 43 0 4)) + v3) < 96 then
          if ¬ zw (M 47 0 (zix ((24 * (M 43 0 4)) + v3))) = zw v1 then
            f_X11_ordersOf_j64 v1 v3 v2 M
          else
            if 0 ≤ zw ((24 * (M 43 0 4)) + v3) ∧ zw ((24 * (M 43 0 4)) + v3) < 96 then
              f_X11_ordersOf_j64 v1 v3 (M 48 0 (zix ((24 * (M 43 0 4)) + v3))) M
            else
              none
        else
          none
    else
      none
theorem g_X11_ordersOf_L4 {v1 : Int} {v2 : Int} {v3 : Int} {M : zM} {x : (Int × Int) ⊕ (Int)} {r : Option zV} {Mf : zM} {d : Nat} (hd : 0 ≤ d) (h : f_X11_ordersOf_L4 v1 v2 v3 M = some x)
    (kc : ∀ s, x = .inl s → zG 170 d (4, [some (zr 42 0), some (zi v1), some (zi s.1), some (zi s.2), none], [], M) r Mf)
    (kb : ∀ t, x = .inr t → zG 170 d (71, [none, none, some (zi t), none, none], [], M) r Mf) (kr : True) : zG 170 d (4, [some (zr 42 0), some (zi v1), some (zi v2), some (zi v3), none], [], M) r Mf := by
  have hm := zmok_170
  unfold f_X11_ordersOf_L4 at h
  refine zG_run hm 5 (cf' := (11, [some (zr 42 0), some (zi v1), some (zi v2), some (zi v3), none], [zi (-1), zi (M 43 0 4)], M)) rfl ?_
  by_cases c6 : zw (M 43 0 4) = (-1)
  · rw [if_pos c6] at h
    refine zG_br hm rfl (cf' := (71, [some (zr 42 0), some (zi v1), some (zi v2), some (zi v3), none], [], M)) (if_pos c6) ?_
    refine zG_sub (lv' := [none, none, some (zi v2), none, none]) (zsb_n (zsb_n (zsb_s rfl (zsb_n (zsb_n zsb_0))))) ?_
    exact kb v2 (Option.some.inj h).symm
  · rw [if_neg c6] at h
    refine zG_br hm rfl (cf' := (14, [some (zr 42 0), some (zi v1), some (zi v2), some (zi v3), none], [], M)) (if_neg c6) ?_
    refine zG_run hm 7 (cf' := (25, [some (zr 42 0), some (zi v1), some (zi v2), some (zi v3), none], [zi (M 43 0 4), zr 46 0, zi v3], M)) rfl ?_
    by_cases c5 : 0 ≤ zw (M 43 0 4) ∧ zw (M 43 0 4) < 4
    · rw [if_pos c5] at h
      refine zG_br hm rfl (cf' := (26, [some (zr 42 0), some (zi v1), some (zi v2), some (zi v3), none], [zi (M 46 0 (zix (M 43 0 4))), zi v3], M)) (if_pos c5) ?_
      by_cases c4 : zw (M 46 0 (zix (M 43 0 4))) ≤ zw v3
      · rw [if_pos c4] at h
        refine zG_br hm rfl (cf' := (71, [some (zr 42 0), some (zi v1), some (zi v2), some (zi v3), none], [], M)) (if_pos c4) ?_
        refine zG_sub (lv' := [none, none, some (zi v2), none, none]) (zsb_n (zsb_n (zsb_s rfl (zsb_n (zsb_n zsb_0))))) ?_
        exact kb v2 (Option.some.inj h).symm
      · rw [if_neg c4] at h
        refine zG_br hm rfl (cf' := (29, [some (zr 42 0), some (zi v1), some (zi v2), some (zi v3), none], [], M)) (if_neg c4) ?_
        refine zG_run hm 12 (cf' := (48, [some (zr 42 0), some (zi v1), some (zi v2), some (zi v3), some (zi ((24 * (M 43 0 4)) + v3))], [zi ((24 * (M 43 0 4)) + v3), zr 47 0], M)) rfl ?_
        by_cases c3 : 0 ≤ zw ((24 * (M 43 0 4)) + v3) ∧ zw ((24 * (M 43 0 4)) + v3) < 96
        · rw [if_pos c3] at h
          refine zG_br hm rfl (cf' := (49, [some (zr 42 0), some (zi v1), some (zi v2), some (zi v3), some (zi ((24 * (M 43 0 4)) + v3))], [zi (M 47 0 (zix ((24 * (M 43 0 4)) + v3)))], M)) (if_pos c3) ?_
          refine zG_run hm 1 (cf' := (50, [some (zr 42 0), some (zi v1), some (zi v2), some (zi v3), some (zi ((24 * (M 43 0 4)) + v3))], [zi v1, zi (M 47 0 (zix ((24 * (M 43 0 4)) + v3)))], M)) rfl ?_
          by_cases c2 : ¬ zw (M 47 0 (zix ((24 * (M 43 0 4)) + v3))) = zw v1
          · rw [if_pos c2] at h
            refine zG_br hm rfl (cf' := (63, [some (zr 42 0), some (zi v1), some (zi v2), some (zi v3), some (zi ((24 * (M 43 0 4)) + v3))], [], M)) (if_pos c2) ?_
            refine zG_run hm 1 (cf' := (64, [some (zr 42 0), some (zi v1), some (zi v2), some (zi v3), some (zi ((24 * (M 43 0 4)) + v3))], [zi v2], M)) rfl ?_
            refine zG_sub (lv' := [some (zr 42 0), some (zi v1), none, some (zi v3), none]) (zsb_s rfl (zsb_s rfl (zsb_n (zsb_s rfl (zsb_n zsb_0))))) ?_
            exact g_X11_ordersOf_j64 hd h kc kb kr
          · rw [if_neg c2] at h
            refine zG_br hm rfl (cf' := (53, [some (zr 42 0), some (zi v1), some (zi v2), some (zi v3), some (zi ((24 * (M 43 0 4)) + v3))], [], M)) (if_neg c2) ?_
            refine zG_run hm 3 (cf' := (59, [some (zr 42 0), some (zi v1), some (zi v2), some (zi v3), some (zi ((24 * (M 43 0 4)) + v3))], [zi ((24 * (M 43 0 4)) + v3), zr 48 0], M)) rfl ?_
            by_cases c1 : 0 ≤ zw ((24 * (M 43 0 4)) + v3) ∧ zw ((24 * (M 43 0 4)) + v3) < 96
            · rw [if_pos c1] at h
              refine zG_br hm rfl (cf' := (60, [some (zr 42 0), some (zi v1), some (zi v2), some (zi v3), some (zi ((24 * (M 43 0 4)) + v3))], [zi (M 48 0 (zix ((24 * (M 43 0 4)) + v3)))], M)) (if_pos c1) ?_
              refine zG_run hm 1 (cf' := (64, [some (zr 42 0), some (zi v1), some (zi v2), some (zi v3), some (zi ((24 * (M 43 0 4)) + v3))], [zi (M 48 0 (zix ((24 * (M 43 0 4)) + v3)))], M)) rfl ?_
              refine zG_sub (lv' := [some (zr 42 0), some (zi v1), none, some (zi v3), none]) (zsb_s rfl (zsb_s rfl (zsb_n (zsb_s rfl (zsb_n zsb_0))))) ?_
              exact g_X11_ordersOf_j64 hd h kc kb kr
            · rw [if_neg c1] at h
              cases h
        · rw [if_neg c3] at h
          cases h
    · rw [if_neg c5] at h
      cases h
theorem gl_X11_ordersOf_L4 {v1 : Int} {M : zM} {y : Int} {r : Option zV} {Mf : zM} {d : Nat} (hd : 0 ≤ d)
    (kb : ∀ t, y = t → zG 170 d (71, [none, none, some (zi t), none, none], [], M) r Mf) (kr : True) : ∀ (n : Nat) (s : Int × Int), zlp (fun s : Int × Int => f_X11_ordersOf_L4 v1 s.1 s.2 M) n s = some y → zG 170 d (4, [some (zr 42 0), some (zi v1), some (zi s.1), some (zi s.2), none], [], M) r Mf := by
  intro n
  induction n with
  | zero => intro s h; cases h
  | succ n ih =>
    intro s h
    rcases zlp_cases h with ⟨s', h1, h2⟩ | h1
    · exact g_X11_ordersOf_L4 hd h1 (fun s2 e2 => by cases e2; exact ih _ h2) (fun t e2 => by cases e2) trivial
    · exact g_X11_ordersOf_L4 hd h1 (fun s2 e2 => by cases e2) (fun t e2 => kb t (Sum.inr.inj e2)) trivial
def f_X11_ordersOf (v1 : Int) (M : zM) : Option (Int × zM) :=
  (zlp (fun s : Int × Int => f_X11_ordersOf_L4 v1 s.1 s.2 M) zF ((-1), 0)).bind fun y7 =>
    some (y7, M)
theorem g_X11_ordersOf {v1 : Int} {M : zM} {q : Int × zM} {d : Nat} (hd : 0 ≤ d) (h : f_X11_ordersOf v1 M = some q) : zG 170 d (0, [some (zr 42 0), some (zi v1), none, none, none], [], M) (some (zi q.1)) q.2 := by
  have hm := zmok_170
  unfold f_X11_ordersOf at h
  refine zG_run hm 4 (cf' := (4, [some (zr 42 0), some (zi v1), some (zi (-1)), some (zi 0), none], [], M)) rfl ?_
  refine zG_sub (lv' := [some (zr 42 0), some (zi v1), some (zi (-1)), some (zi 0), none]) (zsb_s rfl (zsb_s rfl (zsb_s rfl (zsb_s rfl (zsb_n zsb_0))))) ?_
  obtain ⟨y7, hy7, h⟩ := Option.bind_eq_some_iff.mp h
  refine gl_X11_ordersOf_L4 hd (fun t e2 => ?_) trivial zF ((-1), 0) hy7
  cases e2
  refine zG_run hm 1 (cf' := (72, [none, none, some (zi y7), none, none], [zi y7], M)) rfl ?_
  cases h
  exact zG_ri hm rfl rfl
theorem met_X11_ordersOf {v1 : Int} {M : zM} {q : Int × zM} {d : Nat} (hd : 0 ≤ d) (h : f_X11_ordersOf v1 M = some q) : zMet 170 d [zr 42 0, zi v1] M (some (zi q.1)) q.2 :=
  zMet_of (lv0 := [some (zr 42 0), some (zi v1), none, none, none]) zmok_170 rfl rfl (fun v hv => by cases hv; trivial) (g_X11_ordersOf hd h)
def f_X11_names (v1 : Int) (M : zM) : Option (zM) :=
  zlet (zput M 66 0 0 (M 68 0 38)) fun M1 =>
  if 0 ≤ zw (22 + v1) ∧ zw (22 + v1) < 161 then
    zlet (zput M1 66 0 1 ((M1 68 0 38) - (M1 68 0 (zix (22 + v1))))) fun M2 =>
    if 0 ≤ zw (6 + v1) ∧ zw (6 + v1) < 161 then
      zlet (zput M2 66 0 2 (M2 68 0 (zix (6 + v1)))) fun M3 =>
      if 0 ≤ zw (24 + v1) ∧ zw (24 + v1) < 5090 then
        zlet (zput M3 66 0 3 (M3 43 0 (zix (24 + v1)))) fun M4 =>
        if 0 ≤ zw (16 + v1) ∧ zw (16 + v1) < 5090 then
          zlet (zput M4 66 0 4 (M4 43 0 (zix (16 + v1)))) fun M5 =>
          if 0 ≤ zw (30 + v1) ∧ zw (30 + v1) < 161 then
            zlet (zput M5 66 0 5 (M5 68 0 (zix (30 + v1)))) fun M6 =>
            zlet (zput M6 66 0 6 v1) fun M7 =>
            some M7
          else
            none
        else
          none
      else
        none
    else
      none
  else
    none
theorem g_X11_names {v1 : Int} {M : zM} {q : zM} {d : Nat} (hd : 0 ≤ d) (h : f_X11_names v1 M = some q) : zG 174 d (0, [some (zr 42 0), some (zi v1)], [], M) none q := by
  have hm := zmok_174
  unfold f_X11_names at h
  refine zG_run hm 8 (cf' := (13, [some (zr 42 0), some (zi v1)], [], (zput M 66 0 0 (M 68 0 38)))) rfl ?_
  obtain ⟨M1, eM1, h⟩ := zlet_of h
  rw [eM1]
  refine zG_run hm 12 (cf' := (33, [some (zr 42 0), some (zi v1)], [zi (22 + v1), zr 68 0, zi (M1 68 0 38), zi 1, zr 66 0], M1)) rfl ?_
  by_cases c12 : 0 ≤ zw (22 + v1) ∧ zw (22 + v1) < 161
  · rw [if_pos c12] at h
    refine zG_br hm rfl (cf' := (34, [some (zr 42 0), some (zi v1)], [zi (M1 68 0 (zix (22 + v1))), zi (M1 68 0 38), zi 1, zr 66 0], M1)) (if_pos c12) ?_
    refine zG_run hm 2 (cf' := (36, [some (zr 42 0), some (zi v1)], [], (zput M1 66 0 1 ((M1 68 0 38) - (M1 68 0 (zix (22 + v1))))))) rfl ?_
    obtain ⟨M2, eM2, h⟩ := zlet_of h
    rw [eM2]
    refine zG_run hm 8 (cf' := (49, [some (zr 42 0), some (zi v1)], [zi (6 + v1), zr 68 0, zi 2, zr 66 0], M2)) rfl ?_
    by_cases c11 : 0 ≤ zw (6 + v1) ∧ zw (6 + v1) < 161
    · rw [if_pos c11] at h
      refine zG_br hm rfl (cf' := (50, [some (zr 42 0), some (zi v1)], [zi (M2 68 0 (zix (6 + v1))), zi 2, zr 66 0], M2)) (if_pos c11) ?_
      refine zG_run hm 1 (cf' := (51, [some (zr 42 0), some (zi v1)], [], (zput M2 66 0 2 (M2 68 0 (zix (6 + v1)))))) rfl ?_
      obtain ⟨M3, eM3, h⟩ := zlet_of h
      rw [eM3]
      refine zG_run hm 8 (cf' := (64, [some (zr 42 0), some (zi v1)], [zi (24 + v1), zr 43 0, zi 3, zr 66 0], M3)) rfl ?_
      by_cases c10 : 0 ≤ zw (24 + v1) ∧ zw (24 + v1) < 5090
      · rw [if_pos c10] at h
        refine zG_br hm rfl (cf' := (65, [some (zr 42 0), some (zi v1)], [zi (M3 43 0 (zix (24 + v1))), zi 3, zr 66 0], M3)) (if_pos c10) ?_
        refine zG_run hm 1 (cf' := (66, [some (zr 42 0), some (zi v1)], [], (zput M3 66 0 3 (M3 43 0 (zix (24 + v1)))))) rfl ?_
        obtain ⟨M4, eM4, h⟩ := zlet_of h
        rw [eM4]
        refine zG_run hm 8 (cf' := (79, [some (zr 42 0), some (zi v1)], [zi (16 + v1), zr 43 0, zi 4, zr 66 0], M4)) rfl ?_
        by_cases c9 : 0 ≤ zw (16 + v1) ∧ zw (16 + v1) < 5090
        · rw [if_pos c9] at h
          refine zG_br hm rfl (cf' := (80, [some (zr 42 0), some (zi v1)], [zi (M4 43 0 (zix (16 + v1))), zi 4, zr 66 0], M4)) (if_pos c9) ?_
          refine zG_run hm 1 (cf' := (81, [some (zr 42 0), some (zi v1)], [], (zput M4 66 0 4 (M4 43 0 (zix (16 + v1)))))) rfl ?_
          obtain ⟨M5, eM5, h⟩ := zlet_of h
          rw [eM5]
          refine zG_run hm 8 (cf' := (94, [some (zr 42 0), some (zi v1)], [zi (30 + v1), zr 68 0, zi 5, zr 66 0], M5)) rfl ?_
          by_cases c8 : 0 ≤ zw (30 + v1) ∧ zw (30 + v1) < 161
          · rw [if_pos c8] at h
            refine zG_br hm rfl (cf' := (95, [some (zr 42 0), some (zi v1)], [zi (M5 68 0 (zix (30 + v1))), zi 5, zr 66 0], M5)) (if_pos c8) ?_
            refine zG_run hm 1 (cf' := (96, [some (zr 42 0), some (zi v1)], [], (zput M5 66 0 5 (M5 68 0 (zix (30 + v1)))))) rfl ?_
            obtain ⟨M6, eM6, h⟩ := zlet_of h
            rw [eM6]
            refine zG_run hm 5 (cf' := (104, [some (zr 42 0), some (zi v1)], [], (zput M6 66 0 6 v1))) rfl ?_
            obtain ⟨M7, eM7, h⟩ := zlet_of h
            rw [eM7]
            cases h
            exact zG_rv hm rfl rfl
          · rw [if_neg c8] at h
            cases h
        · rw [if_neg c9] at h
          cases h
      · rw [if_neg c10] at h
        cases h
    · rw [if_neg c11] at h
      cases h
  · rw [if_neg c12] at h
    cases h
theorem met_X11_names {v1 : Int} {M : zM} {q : zM} {d : Nat} (hd : 0 ≤ d) (h : f_X11_names v1 M = some q) : zMet 174 d [zr 42 0, zi v1] M none q :=
  zMet_of (lv0 := [some (zr 42 0), some (zi v1)]) zmok_174 rfl rfl (fun v hv => by cases hv) (g_X11_names hd h)
