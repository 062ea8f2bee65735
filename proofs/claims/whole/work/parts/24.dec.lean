/-! methods, decompiled: 4 -/
def f_X10_fault (v1 : Int) (M : zM) : Option (Int × zM) :=
  if ¬ zw (M 37 0 3 % 2) = 0 then
    if ¬ zw v1 = 0 then
      if ¬ zw v1 = 1 then
        some ((-1), M)
      else
        some ((M 37 0 5), M)
    else
      some ((M 37 0 4), M)
  else
    some ((-1), M)
theorem g_X10_fault {v1 : Int} {M : zM} {q : Int × zM} {d : Nat} (hd : 0 ≤ d) (h : f_X10_fault v1 M = some q) : zG 78 d (0, [some (zr 0 0), some (zi v1)], [], M) (some (zi q.1)) q.2 := by
  have hm := zmok_78
  unfold f_X10_fault at h
  refine zG_run hm 3 (cf' := (7, [some (zr 0 0), some (zi v1)], [zi (M 37 0 3 % 2)], M)) rfl ?_
  by_cases c3 : ¬ zw (M 37 0 3 % 2) = 0
  · rw [if_pos c3] at h
    refine zG_br hm rfl (cf' := (12, [some (zr 0 0), some (zi v1)], [], M)) (if_pos c3) ?_
    refine zG_run hm 1 (cf' := (13, [some (zr 0 0), some (zi v1)], [zi v1], M)) rfl ?_
    by_cases c2 : ¬ zw v1 = 0
    · rw [if_pos c2] at h
      refine zG_br hm rfl (cf' := (24, [some (zr 0 0), some (zi v1)], [], M)) (if_pos c2) ?_
      refine zG_run hm 2 (cf' := (26, [some (zr 0 0), some (zi v1)], [zi 1, zi v1], M)) rfl ?_
      by_cases c1 : ¬ zw v1 = 1
      · rw [if_pos c1] at h
        refine zG_br hm rfl (cf' := (39, [some (zr 0 0), some (zi v1)], [], M)) (if_pos c1) ?_
        refine zG_run hm 1 (cf' := (40, [some (zr 0 0), some (zi v1)], [zi (-1)], M)) rfl ?_
        cases h
        exact zG_ri hm rfl rfl
      · rw [if_neg c1] at h
        refine zG_br hm rfl (cf' := (29, [some (zr 0 0), some (zi v1)], [], M)) (if_neg c1) ?_
        refine zG_run hm 4 (cf' := (40, [some (zr 0 0), some (zi v1)], [zi (M 37 0 5)], M)) rfl ?_
        cases h
        exact zG_ri hm rfl rfl
    · rw [if_neg c2] at h
      refine zG_br hm rfl (cf' := (16, [some (zr 0 0), some (zi v1)], [], M)) (if_neg c2) ?_
      refine zG_run hm 3 (cf' := (23, [some (zr 0 0), some (zi v1)], [zi (M 37 0 4)], M)) rfl ?_
      cases h
      exact zG_ri hm rfl rfl
  · rw [if_neg c3] at h
    refine zG_br hm rfl (cf' := (10, [some (zr 0 0), some (zi v1)], [], M)) (if_neg c3) ?_
    refine zG_run hm 1 (cf' := (11, [some (zr 0 0), some (zi v1)], [zi (-1)], M)) rfl ?_
    cases h
    exact zG_ri hm rfl rfl
theorem met_X10_fault {v1 : Int} {M : zM} {q : Int × zM} {d : Nat} (hd : 0 ≤ d) (h : f_X10_fault v1 M = some q) : zMet 78 d [zr 0 0, zi v1] M (some (zi q.1)) q.2 :=
  zMet_of (lv0 := [some (zr 0 0), some (zi v1)]) zmok_78 rfl rfl (fun v hv => by cases hv; trivial) (g_X10_fault hd h)
def f_X11_fault (v1 : Int) (M : zM) : Option (Int × zM) :=
  if ¬ zw v1 = 0 then
    if ¬ zw v1 = 1 then
      some ((-1), M)
    else
      some ((M 42 0 5), M)
  else
    some ((M 42 0 4), M)
theorem g_X11_fault {v1 : Int} {M : zM} {q : Int × zM} {d : Nat} (hd : 0 ≤ d) (h : f_X11_fault v1 M = some q) : zG 164 d (0, [some (zr 42 0), some (zi v1)], [], M) (some (zi q.1)) q.2 := by
  have hm := zmok_164
  unfold f_X11_fault at h
  refine zG_run hm 1 (cf' := (1, [some (zr 42 0), some (zi v1)], [zi v1], M)) rfl ?_
  by_cases c2 : ¬ zw v1 = 0
  · rw [if_pos c2] at h
    refine zG_br hm rfl (cf' := (11, [some (zr 42 0), some (zi v1)], [], M)) (if_pos c2) ?_
    refine zG_run hm 2 (cf' := (13, [some (zr 42 0), some (zi v1)], [zi 1, zi v1], M)) rfl ?_
    by_cases c1 : ¬ zw v1 = 1
    · rw [if_pos c1] at h
      refine zG_br hm rfl (cf' := (23, [some (zr 42 0), some (zi v1)], [], M)) (if_pos c1) ?_
      refine zG_run hm 1 (cf' := (24, [some (zr 42 0), some (zi v1)], [zi (-1)], M)) rfl ?_
      cases h
      exact zG_ri hm rfl rfl
    · rw [if_neg c1] at h
      refine zG_br hm rfl (cf' := (16, [some (zr 42 0), some (zi v1)], [], M)) (if_neg c1) ?_
      refine zG_run hm 3 (cf' := (24, [some (zr 42 0), some (zi v1)], [zi (M 42 0 5)], M)) rfl ?_
      cases h
      exact zG_ri hm rfl rfl
  · rw [if_neg c2] at h
    refine zG_br hm rfl (cf' := (4, [some (zr 42 0), some (zi v1)], [], M)) (if_neg c2) ?_
    refine zG_run hm 3 (cf' := (24, [some (zr 42 0), some (zi v1)], [zi (M 42 0 4)], M)) rfl ?_
    cases h
    exact zG_ri hm rfl rfl
theorem met_X11_fault {v1 : Int} {M : zM} {q : Int × zM} {d : Nat} (hd : 0 ≤ d) (h : f_X11_fault v1 M = some q) : zMet 164 d [zr 42 0, zi v1] M (some (zi q.1)) q.2 :=
  zMet_of (lv0 := [some (zr 42 0), some (zi v1)]) zmok_164 rfl rfl (fun v hv => by cases hv; trivial) (g_X11_fault hd h)
def f_X10_by_j24 (v1 : Int) (M : zM) : Option (Int × zM) :=
  zlet (zput M 11 0 13 v1) fun M1 =>
  some (1, M1)
theorem g_X10_by_j24 {v1 : Int} {M : zM} {q : Int × zM} {d : Nat} (hd : 1 ≤ d) (h : f_X10_by_j24 v1 M = some q) : zG 79 d (24, [some (zr 0 0), some (zi v1)], [], M) (some (zi q.1)) q.2 := by
  have hm := zmok_79
  unfold f_X10_by_j24 at h
  refine zG_run hm 4 (cf' := (32, [some (zr 0 0), some (zi v1)], [], (zput M 11 0 13 v1))) rfl ?_
  obtain ⟨M1, eM1, h⟩ := zlet_of h
  rw [eM1]
  refine zG_run hm 1 (cf' := (33, [some (zr 0 0), some (zi v1)], [zi 1], M1)) rfl ?_
  cases h
  exact zG_rz hm rfl rfl (Or.inr rfl)
def f_X10_by (v1 : Int) (M : zM) : Option (Int × zM) :=
  if zw v1 = (-1) then
    f_X10_by_j24 v1 M
  else
    (f_X10_within v1 0 ((M 11 0 12) - 1) M).bind fun p2 =>
      if ¬ zw p2.1 = 0 then
        f_X10_by_j24 v1 p2.2
      else
        some (0, p2.2)
theorem g_X10_by {v1 : Int} {M : zM} {q : Int × zM} {d : Nat} (hd : 1 ≤ d) (h : f_X10_by v1 M = some q) : zG 79 d (0, [some (zr 0 0), some (zi v1)], [], M) (some (zi q.1)) q.2 := by
  have hm := zmok_79
  unfold f_X10_by at h
  refine zG_run hm 2 (cf' := (2, [some (zr 0 0), some (zi v1)], [zi (-1), zi v1], M)) rfl ?_
  by_cases c4 : zw v1 = (-1)
  · rw [if_pos c4] at h
    refine zG_br hm rfl (cf' := (24, [some (zr 0 0), some (zi v1)], [], M)) (if_pos c4) ?_
    refine zG_sub (lv' := [some (zr 0 0), some (zi v1)]) (zsb_s rfl (zsb_s rfl zsb_0)) ?_
    exact g_X10_by_j24 hd h
  · rw [if_neg c4] at h
    refine zG_br hm rfl (cf' := (5, [some (zr 0 0), some (zi v1)], [], M)) (if_neg c4) ?_
    refine zG_run hm 7 (cf' := (16, [some (zr 0 0), some (zi v1)], [zi ((M 11 0 12) - 1), zi 0, zi v1], M)) rfl ?_
    obtain ⟨p2, hp2, h⟩ := Option.bind_eq_some_iff.mp h
    refine zG_S hm zmok_108 rfl (as := [zi v1, zi 0, zi ((M 11 0 12) - 1)]) (rest := []) (st2 := [zi p2.1]) (pc2 := 19) rfl rfl (by omega) (met_X10_within (d := 0) (Nat.le_refl _) hp2) rfl ?_
    by_cases c3 : ¬ zw p2.1 = 0
    · rw [if_pos c3] at h
      refine zG_br hm rfl (cf' := (24, [some (zr 0 0), some (zi v1)], [], p2.2)) (if_pos c3) ?_
      refine zG_sub (lv' := [some (zr 0 0), some (zi v1)]) (zsb_s rfl (zsb_s rfl zsb_0)) ?_
      exact g_X10_by_j24 hd h
    · rw [if_neg c3] at h
      refine zG_br hm rfl (cf' := (22, [some (zr 0 0), some (zi v1)], [], p2.2)) (if_neg c3) ?_
      refine zG_run hm 1 (cf' := (23, [some (zr 0 0), some (zi v1)], [zi 0], p2.2)) rfl ?_
      cases h
      exact zG_rz hm rfl rfl (Or.inl rfl)
theorem met_X10_by {v1 : Int} {M : zM} {q : Int × zM} {d : Nat} (hd : 1 ≤ d) (h : f_X10_by v1 M = some q) : zMet 79 d [zr 0 0, zi v1] M (some (zi q.1)) q.2 :=
  zMet_of (lv0 := [some (zr 0 0), some (zi v1)]) zmok_79 rfl rfl (fun v hv => by cases hv; trivial) (g_X10_by hd h)
def f_X11_by_j23 (v1 : Int) (M : zM) : Option (Int × zM) :=
  zlet (zput M 43 0 4 v1) fun M1 =>
  some (1, M1)
theorem g_X11_by_j23 {v1 : Int} {M : zM} {q : Int × zM} {d : Nat} (hd : 1 ≤ d) (h : f_X11_by_j23 v1 M = some q) : zG 169 d (23, [some (zr 42 0), some (zi v1)], [], M) (some (zi q.1)) q.2 := by
  have hm := zmok_169
  unfold f_X11_by_j23 at h
  refine zG_run hm 5 (cf' := (30, [some (zr 42 0), some (zi v1)], [], (zput M 43 0 4 v1))) rfl ?_
  obtain ⟨M1, eM1, h⟩ := zlet_of h
  rw [eM1]
  refine zG_run hm 1 (cf' := (31, [some (zr 42 0), some (zi v1)], [zi 1], M1)) rfl ?_
  cases h
  exact zG_rz hm rfl rfl (Or.inr rfl)
def f_X11_by (v1 : Int) (M : zM) : Option (Int × zM) :=
  if zw v1 = (-1) then
    f_X11_by_j23 v1 M
  else
    (f_X11_in v1 0 ((M 43 0 3) - 1) M).bind fun p2 =>
      if ¬ zw p2.1 = 0 then
        f_X11_by_j23 v1 p2.2
      else
        some (0, p2.2)
theorem g_X11_by {v1 : Int} {M : zM} {q : Int × zM} {d : Nat} (hd : 1 ≤ d) (h : f_X11_by v1 M = some q) : zG 169 d (0, [some (zr 42 0), some (zi v1)], [], M) (some (zi q.1)) q.2 := by
  have hm := zmok_169
  unfold f_X11_by at h
  refine zG_run hm 2 (cf' := (2, [some (zr 42 0), some (zi v1)], [zi (-1), zi v1], M)) rfl ?_
  by_cases c4 : zw v1 = (-1)
  · rw [if_pos c4] at h
    refine zG_br hm rfl (cf' := (23, [some (zr 42 0), some (zi v1)], [], M)) (if_pos c4) ?_
    refine zG_sub (lv' := [some (zr 42 0), some (zi v1)]) (zsb_s rfl (zsb_s rfl zsb_0)) ?_
    exact g_X11_by_j23 hd h
  · rw [if_neg c4] at h
    refine zG_br hm rfl (cf' := (5, [some (zr 42 0), some (zi v1)], [], M)) (if_neg c4) ?_
    refine zG_run hm 8 (cf' := (15, [some (zr 42 0), some (zi v1)], [zi ((M 43 0 3) - 1), zi 0, zi v1], M)) rfl ?_
    obtain ⟨p2, hp2, h⟩ := Option.bind_eq_some_iff.mp h
    refine zG_S hm zmok_117 rfl (as := [zi v1, zi 0, zi ((M 43 0 3) - 1)]) (rest := []) (st2 := [zi p2.1]) (pc2 := 18) rfl rfl (by omega) (met_X11_in (d := 0) (Nat.le_refl _) hp2) rfl ?_
    by_cases c3 : ¬ zw p2.1 = 0
    · rw [if_pos c3] at h
      refine zG_br hm rfl (cf' := (23, [some (zr 42 0), some (zi v1)], [], p2.2)) (if_pos c3) ?_
      refine zG_sub (lv' := [some (zr 42 0), some (zi v1)]) (zsb_s rfl (zsb_s rfl zsb_0)) ?_
      exact g_X11_by_j23 hd h
    · rw [if_neg c3] at h
      refine zG_br hm rfl (cf' := (21, [some (zr 42 0), some (zi v1)], [], p2.2)) (if_neg c3) ?_
      refine zG_run hm 1 (cf' := (22, [some (zr 42 0), some (zi v1)], [zi 0], p2.2)) rfl ?_
      cases h
      exact zG_rz hm rfl rfl (Or.inl rfl)
theorem met_X11_by {v1 : Int} {M : zM} {q : Int × zM} {d : Nat} (hd : 1 ≤ d) (h : f_X11_by v1 M = some q) : zMet 169 d [zr 42 0, zi v1] M (some (zi q.1)) q.2 :=
  zMet_of (lv0 := [some (zr 42 0), some (zi v1)]) zmok_169 rfl rfl (fun v hv => by cases hv; trivial) (g_X11_by hd h)
def f_X10_couldDo (n1 : Nat) (v2 : Int) (M : zM) : Option (Int × zM) :=
  if 0 ≤ zw v2 ∧ zw v2 < 24 then
    if 0 ≤ zw v2 ∧ zw v2 < 24 then
      if 0 ≤ zw v2 ∧ zw v2 < 24 then
        if zw (M 3 n1 (zix v2)) = 4 then
          (f_X10_owner (M 4 n1 (zix v2)) M).bind fun p2 =>
            if zw p2.1 = (-1) then
              some (0, p2.2)
            else
              some (1, p2.2)
        else
          if zw (M 3 n1 (zix v2)) = 5 then
            if 0 ≤ zw v2 ∧ zw v2 < 24 then
              (f_X10_thing (M 4 n1 (zix v2)) (M 5 n1 (zix v2)) (M 6 n1 (zix v2)) M).bind fun p5 =>
                if zw p5.1 = (-1) then
                  some (0, p5.2)
                else
                  some (1, p5.2)
            else
              none
          else
            if zw (M 3 n1 (zix v2)) = 6 then
              (f_X10_room (M 4 n1 (zix v2)) M).bind fun p9 =>
                if p9.1 = 0 ∨ p9.1 = 1 then
                  some (p9.1, p9.2)
                else
                  none
            else
              if zw (M 3 n1 (zix v2)) = 7 then
                (f_X10_steal (M 4 n1 (zix v2)) M).bind fun p11 =>
                  if zw p11.1 = (-1) then
                    some (0, p11.2)
                  else
                    some (1, p11.2)
              else
                if zw (M 3 n1 (zix v2)) = 8 then
                  (f_X10_send (M 4 n1 (zix v2)) M).bind fun p14 =>
                    if zw p14.1 = (-1) then
                      some (0, p14.2)
                    else
                      some (1, p14.2)
                else
                  if zw (M 3 n1 (zix v2)) = 9 then
                    (f_X10_give (M 4 n1 (zix v2)) (M 5 n1 (zix v2)) M).bind fun p17 =>
                      if p17.1 = 0 ∨ p17.1 = 1 then
                        some (p17.1, p17.2)
                      else
                        none
                  else
                    if zw (M 3 n1 (zix v2)) = 10 then
                      (f_X10_day (if zw (9999 - (M 11 0 10)) < zw (M 4 n1 (zix v2)) then (9999 - (M 11 0 10)) else (M 4 n1 (zix v2))) M).bind fun p19 =>
                        if ¬ zw (if zw (9999 - (M 11 0 10)) < zw (M 4 n1 (zix v2)) then (9999 - (M 11 0 10)) else (M 4 n1 (zix v2))) = zw (M 4 n1 (zix v2)) then
                          some (0, p19.2)
                        else
                          some (1, p19.2)
                    else
                      some (1, M)
      else
        none
    else
      none
  else
    none
theorem g_X10_couldDo {n1 : Nat} {v2 : Int} {M : zM} {q : Int × zM} {d : Nat} (hd : 6 ≤ d) (h : f_X10_couldDo n1 v2 M = some q) : zG 81 d (0, [some (zr 0 0), some (zr 2 n1), some (zi v2), none, none, none], [], M) (some (zi q.1)) q.2 := by
  have hm := zmok_81
  unfold f_X10_couldDo at h
  refine zG_run hm 3 (cf' := (5, [some (zr 0 0), some (zr 2 n1), some (zi v2), none, none, none], [zi v2, zr 4 n1], M)) rfl ?_
  by_cases c23 : 0 ≤ zw v2 ∧ zw v2 < 24
  · rw [if_pos c23] at h
    refine zG_br hm rfl (cf' := (6, [some (zr 0 0), some (zr 2 n1), some (zi v2), none, none, none], [zi (M 4 n1 (zix v2))], M)) (if_pos c23) ?_
    refine zG_run hm 4 (cf' := (12, [some (zr 0 0), some (zr 2 n1), some (zi v2), some (zi (M 4 n1 (zix v2))), none, none], [zi v2, zr 5 n1], M)) rfl ?_
    by_cases c22 : 0 ≤ zw v2 ∧ zw v2 < 24
    · rw [if_pos c22] at h
      refine zG_br hm rfl (cf' := (13, [some (zr 0 0), some (zr 2 n1), some (zi v2), some (zi (M 4 n1 (zix v2))), none, none], [zi (M 5 n1 (zix v2))], M)) (if_pos c22) ?_
      refine zG_run hm 4 (cf' := (20, [some (zr 0 0), some (zr 2 n1), some (zi v2), some (zi (M 4 n1 (zix v2))), some (zi (M 5 n1 (zix v2))), none], [zi v2, zr 3 n1], M)) rfl ?_
      by_cases c21 : 0 ≤ zw v2 ∧ zw v2 < 24
      · rw [if_pos c21] at h
        refine zG_br hm rfl (cf' := (21, [some (zr 0 0), some (zr 2 n1), some (zi v2), some (zi (M 4 n1 (zix v2))), some (zi (M 5 n1 (zix v2))), none], [zi (M 3 n1 (zix v2))], M)) (if_pos c21) ?_
        by_cases c1 : zw (M 3 n1 (zix v2)) = 4
        · rw [if_pos c1] at h
          refine zG_tIn hm rfl (tgt := 64) (off := 43) c1 (by decide) rfl (by decide) ?_
          refine zG_run hm 2 (cf' := (66, [some (zr 0 0), some (zr 2 n1), some (zi v2), some (zi (M 4 n1 (zix v2))), some (zi (M 5 n1 (zix v2))), none], [zi (M 4 n1 (zix v2)), zr 0 0], M)) rfl ?_
          obtain ⟨p2, hp2, h⟩ := Option.bind_eq_some_iff.mp h
          refine zG_V hm zmok_66 rfl (as := [zi (M 4 n1 (zix v2))]) (rest := []) (st2 := [zi p2.1]) (pc2 := 69) rfl rfl (by omega) (met_X10_owner (d := 0) (Nat.le_refl _) hp2) rfl ?_
          refine zG_run hm 1 (cf' := (70, [some (zr 0 0), some (zr 2 n1), some (zi v2), some (zi (M 4 n1 (zix v2))), some (zi (M 5 n1 (zix v2))), none], [zi (-1), zi p2.1], p2.2)) rfl ?_
          by_cases c3 : zw p2.1 = (-1)
          · rw [if_pos c3] at h
            refine zG_br hm rfl (cf' := (77, [some (zr 0 0), some (zr 2 n1), some (zi v2), some (zi (M 4 n1 (zix v2))), some (zi (M 5 n1 (zix v2))), none], [], p2.2)) (if_pos c3) ?_
            refine zG_run hm 1 (cf' := (78, [some (zr 0 0), some (zr 2 n1), some (zi v2), some (zi (M 4 n1 (zix v2))), some (zi (M 5 n1 (zix v2))), none], [zi 0], p2.2)) rfl ?_
            cases h
            exact zG_rz hm rfl rfl (Or.inl rfl)
          · rw [if_neg c3] at h
            refine zG_br hm rfl (cf' := (73, [some (zr 0 0), some (zr 2 n1), some (zi v2), some (zi (M 4 n1 (zix v2))), some (zi (M 5 n1 (zix v2))), none], [], p2.2)) (if_neg c3) ?_
            refine zG_run hm 2 (cf' := (78, [some (zr 0 0), some (zr 2 n1), some (zi v2), some (zi (M 4 n1 (zix v2))), some (zi (M 5 n1 (zix v2))), none], [zi 1], p2.2)) rfl ?_
            cases h
            exact zG_rz hm rfl rfl (Or.inr rfl)
        · rw [if_neg c1] at h
          by_cases c4 : zw (M 3 n1 (zix v2)) = 5
          · rw [if_pos c4] at h
            refine zG_tIn hm rfl (tgt := 79) (off := 58) c4 (by decide) rfl (by decide) ?_
            refine zG_run hm 6 (cf' := (88, [some (zr 0 0), some (zr 2 n1), some (zi v2), some (zi (M 4 n1 (zix v2))), some (zi (M 5 n1 (zix v2))), none], [zi v2, zr 6 n1, zi (M 5 n1 (zix v2)), zi (M 4 n1 (zix v2)), zr 0 0], M)) rfl ?_
            by_cases c7 : 0 ≤ zw v2 ∧ zw v2 < 24
            · rw [if_pos c7] at h
              refine zG_br hm rfl (cf' := (89, [some (zr 0 0), some (zr 2 n1), some (zi v2), some (zi (M 4 n1 (zix v2))), some (zi (M 5 n1 (zix v2))), none], [zi (M 6 n1 (zix v2)), zi (M 5 n1 (zix v2)), zi (M 4 n1 (zix v2)), zr 0 0], M)) (if_pos c7) ?_
              obtain ⟨p5, hp5, h⟩ := Option.bind_eq_some_iff.mp h
              refine zG_V hm zmok_67 rfl (as := [zi (M 4 n1 (zix v2)), zi (M 5 n1 (zix v2)), zi (M 6 n1 (zix v2))]) (rest := []) (st2 := [zi p5.1]) (pc2 := 92) rfl rfl (by omega) (met_X10_thing (d := 2) (Nat.le_refl _) hp5) rfl ?_
              refine zG_run hm 1 (cf' := (93, [some (zr 0 0), some (zr 2 n1), some (zi v2), some (zi (M 4 n1 (zix v2))), some (zi (M 5 n1 (zix v2))), none], [zi (-1), zi p5.1], p5.2)) rfl ?_
              by_cases c6 : zw p5.1 = (-1)
              · rw [if_pos c6] at h
                refine zG_br hm rfl (cf' := (100, [some (zr 0 0), some (zr 2 n1), some (zi v2), some (zi (M 4 n1 (zix v2))), some (zi (M 5 n1 (zix v2))), none], [], p5.2)) (if_pos c6) ?_
                refine zG_run hm 1 (cf' := (101, [some (zr 0 0), some (zr 2 n1), some (zi v2), some (zi (M 4 n1 (zix v2))), some (zi (M 5 n1 (zix v2))), none], [zi 0], p5.2)) rfl ?_
                cases h
                exact zG_rz hm rfl rfl (Or.inl rfl)
              · rw [if_neg c6] at h
                refine zG_br hm rfl (cf' := (96, [some (zr 0 0), some (zr 2 n1), some (zi v2), some (zi (M 4 n1 (zix v2))), some (zi (M 5 n1 (zix v2))), none], [], p5.2)) (if_neg c6) ?_
                refine zG_run hm 2 (cf' := (101, [some (zr 0 0), some (zr 2 n1), some (zi v2), some (zi (M 4 n1 (zix v2))), some (zi (M 5 n1 (zix v2))), none], [zi 1], p5.2)) rfl ?_
                cases h
                exact zG_rz hm rfl rfl (Or.inr rfl)
            · rw [if_neg c7] at h
              cases h
          · rw [if_neg c4] at h
            by_cases c8 : zw (M 3 n1 (zix v2)) = 6
            · rw [if_pos c8] at h
              refine zG_tIn hm rfl (tgt := 102) (off := 81) c8 (by decide) rfl (by decide) ?_
              refine zG_run hm 2 (cf' := (104, [some (zr 0 0), some (zr 2 n1), some (zi v2), some (zi (M 4 n1 (zix v2))), some (zi (M 5 n1 (zix v2))), none], [zi (M 4 n1 (zix v2)), zr 0 0], M)) rfl ?_
              obtain ⟨p9, hp9, h⟩ := Option.bind_eq_some_iff.mp h
              refine zG_V hm zmok_68 rfl (as := [zi (M 4 n1 (zix v2))]) (rest := []) (st2 := [zi p9.1]) (pc2 := 107) rfl rfl (by omega) (met_X10_room (d := 1) (Nat.le_refl _) hp9) rfl ?_
              by_cases hz : p9.1 = 0 ∨ p9.1 = 1
              · rw [if_pos hz] at h
                cases h
                exact zG_rz hm rfl rfl hz
              · rw [if_neg hz] at h
                cases h
            · rw [if_neg c8] at h
              by_cases c10 : zw (M 3 n1 (zix v2)) = 7
              · rw [if_pos c10] at h
                refine zG_tIn hm rfl (tgt := 108) (off := 87) c10 (by decide) rfl (by decide) ?_
                refine zG_run hm 2 (cf' := (110, [some (zr 0 0), some (zr 2 n1), some (zi v2), some (zi (M 4 n1 (zix v2))), some (zi (M 5 n1 (zix v2))), none], [zi (M 4 n1 (zix v2)), zr 0 0], M)) rfl ?_
                obtain ⟨p11, hp11, h⟩ := Option.bind_eq_some_iff.mp h
                refine zG_V hm zmok_69 rfl (as := [zi (M 4 n1 (zix v2))]) (rest := []) (st2 := [zi p11.1]) (pc2 := 113) rfl rfl (by omega) (met_X10_steal (d := 3) (Nat.le_refl _) hp11) rfl ?_
                refine zG_run hm 1 (cf' := (114, [some (zr 0 0), some (zr 2 n1), some (zi v2), some (zi (M 4 n1 (zix v2))), some (zi (M 5 n1 (zix v2))), none], [zi (-1), zi p11.1], p11.2)) rfl ?_
                by_cases c12 : zw p11.1 = (-1)
                · rw [if_pos c12] at h
                  refine zG_br hm rfl (cf' := (121, [some (zr 0 0), some (zr 2 n1), some (zi v2), some (zi (M 4 n1 (zix v2))), some (zi (M 5 n1 (zix v2))), none], [], p11.2)) (if_pos c12) ?_
                  refine zG_run hm 1 (cf' := (122, [some (zr 0 0), some (zr 2 n1), some (zi v2), some (zi (M 4 n1 (zix v2))), some (zi (M 5 n1 (zix v2))), none], [zi 0], p11.2)) rfl ?_
                  cases h
                  exact zG_rz hm rfl rfl (Or.inl rfl)
                · rw [if_neg c12] at h
                  refine zG_br hm rfl (cf' := (117, [some (zr 0 0), some (zr 2 n1), some (zi v2), some (zi (M 4 n1 (zix v2))), some (zi (M 5 n1 (zix v2))), none], [], p11.2)) (if_neg c12) ?_
                  refine zG_run hm 2 (cf' := (122, [some (zr 0 0), some (zr 2 n1), some (zi v2), some (zi (M 4 n1 (zix v2))), some (zi (M 5 n1 (zix v2))), none], [zi 1], p11.2)) rfl ?_
                  cases h
                  exact zG_rz hm rfl rfl (Or.inr rfl)
              · rw [if_neg c10] at h
                by_cases c13 : zw (M 3 n1 (zix v2)) = 8
                · rw [if_pos c13] at h
                  refine zG_tIn hm rfl (tgt := 123) (off := 102) c13 (by decide) rfl (by decide) ?_
                  refine zG_run hm 2 (cf' := (125, [some (zr 0 0), some (zr 2 n1), some (zi v2), some (zi (M 4 n1 (zix v2))), some (zi (M 5 n1 (zix v2))), none], [zi (M 4 n1 (zix v2)), zr 0 0], M)) rfl ?_
                  obtain ⟨p14, hp14, h⟩ := Option.bind_eq_some_iff.mp h
                  refine zG_V hm zmok_70 rfl (as := [zi (M 4 n1 (zix v2))]) (rest := []) (st2 := [zi p14.1]) (pc2 := 128) rfl rfl (by omega) (met_X10_send (d := 4) (Nat.le_refl _) hp14) rfl ?_
                  refine zG_run hm 1 (cf' := (129, [some (zr 0 0), some (zr 2 n1), some (zi v2), some (zi (M 4 n1 (zix v2))), some (zi (M 5 n1 (zix v2))), none], [zi (-1), zi p14.1], p14.2)) rfl ?_
                  by_cases c15 : zw p14.1 = (-1)
                  · rw [if_pos c15] at h
                    refine zG_br hm rfl (cf' := (136, [some (zr 0 0), some (zr 2 n1), some (zi v2), some (zi (M 4 n1 (zix v2))), some (zi (M 5 n1 (zix v2))), none], [], p14.2)) (if_pos c15) ?_
                    refine zG_run hm 1 (cf' := (137, [some (zr 0 0), some (zr 2 n1), some (zi v2), some (zi (M 4 n1 (zix v2))), some (zi (M 5 n1 (zix v2))), none], [zi 0], p14.2)) rfl ?_
                    cases h
                    exact zG_rz hm rfl rfl (Or.inl rfl)
                  · rw [if_neg c15] at h
                    refine zG_br hm rfl (cf' := (132, [some (zr 0 0), some (zr 2 n1), some (zi v2), some (zi (M 4 n1 (zix v2))), some (zi (M 5 n1 (zix v2))), none], [], p14.2)) (if_neg c15) ?_
                    refine zG_run hm 2 (cf' := (137, [some (zr 0 0), some (zr 2 n1), some (zi v2), some (zi (M 4 n1 (zix v2))), some (zi (M 5 n1 (zix v2))), none], [zi 1], p14.2)) rfl ?_
                    cases h
                    exact zG_rz hm rfl rfl (Or.inr rfl)
                · rw [if_neg c13] at h
                  by_cases c16 : zw (M 3 n1 (zix v2)) = 9
                  · rw [if_pos c16] at h
                    refine zG_tIn hm rfl (tgt := 138) (off := 117) c16 (by decide) rfl (by decide) ?_
                    refine zG_run hm 3 (cf' := (142, [some (zr 0 0), some (zr 2 n1), some (zi v2), some (zi (M 4 n1 (zix v2))), some (zi (M 5 n1 (zix v2))), none], [zi (M 5 n1 (zix v2)), zi (M 4 n1 (zix v2)), zr 0 0], M)) rfl ?_
                    obtain ⟨p17, hp17, h⟩ := Option.bind_eq_some_iff.mp h
                    refine zG_V hm zmok_71 rfl (as := [zi (M 4 n1 (zix v2)), zi (M 5 n1 (zix v2))]) (rest := []) (st2 := [zi p17.1]) (pc2 := 145) rfl rfl (by omega) (met_X10_give (d := 2) (Nat.le_refl _) hp17) rfl ?_
                    by_cases hz : p17.1 = 0 ∨ p17.1 = 1
                    · rw [if_pos hz] at h
                      cases h
                      exact zG_rz hm rfl rfl hz
                    · rw [if_neg hz] at h
                      cases h
                  · rw [if_neg c16] at h
                    by_cases c18 : zw (M 3 n1 (zix v2)) = 10
                    · rw [if_pos c18] at h
                      refine zG_tIn hm rfl (tgt := 146) (off := 125) c18 (by decide) rfl (by decide) ?_
                      refine zG_run hm 6 (cf' := (158, [some (zr 0 0), some (zr 2 n1), some (zi v2), some (zi (M 4 n1 (zix v2))), some (zi (M 5 n1 (zix v2))), none], [zi (9999 - (M 11 0 10)), zi (M 4 n1 (zix v2))], M)) rfl ?_
                      refine zG_min hm rfl rfl ?_
                      show zG 81 d (161, [some (zr 0 0), some (zr 2 n1), some (zi v2), some (zi (M 4 n1 (zix v2))), some (zi (M 5 n1 (zix v2))), none], [zi (if zw (9999 - (M 11 0 10)) < zw (M 4 n1 (zix v2)) then (9999 - (M 11 0 10)) else (M 4 n1 (zix v2)))], M) _ _
                      refine zG_run hm 3 (cf' := (166, [some (zr 0 0), some (zr 2 n1), some (zi v2), some (zi (M 4 n1 (zix v2))), some (zi (M 5 n1 (zix v2))), some (zi (if zw (9999 - (M 11 0 10)) < zw (M 4 n1 (zix v2)) then (9999 - (M 11 0 10)) else (M 4 n1 (zix v2))))], [zi (if zw (9999 - (M 11 0 10)) < zw (M 4 n1 (zix v2)) then (9999 - (M 11 0 10)) else (M 4 n1 (zix v2))), zr 0 0], M)) rfl ?_
                      obtain ⟨p19, hp19, h⟩ := Option.bind_eq_some_iff.mp h
                      refine zG_V hm zmok_72 rfl (as := [zi (if zw (9999 - (M 11 0 10)) < zw (M 4 n1 (zix v2)) then (9999 - (M 11 0 10)) else (M 4 n1 (zix v2)))]) (rest := []) (st2 := [zi p19.1]) (pc2 := 169) rfl rfl (by omega) (met_X10_day (d := 5) (Nat.le_refl _) hp19) rfl ?_
                      refine zG_run hm 3 (cf' := (173, [some (zr 0 0), some (zr 2 n1), some (zi v2), some (zi (M 4 n1 (zix v2))), some (zi (M 5 n1 (zix v2))), some (zi (if zw (9999 - (M 11 0 10)) < zw (M 4 n1 (zix v2)) then (9999 - (M 11 0 10)) else (M 4 n1 (zix v2))))], [zi (M 4 n1 (zix v2)), zi (if zw (9999 - (M 11 0 10)) < zw (M 4 n1 (zix v2)) then (9999 - (M 11 0 10)) else (M 4 n1 (zix v2)))], p19.2)) rfl ?_
                      by_cases c20 : ¬ zw (if zw (9999 - (M 11 0 10)) < zw (M 4 n1 (zix v2)) then (9999 - (M 11 0 10)) else (M 4 n1 (zix v2))) = zw (M 4 n1 (zix v2))
                      · rw [if_pos c20] at h
                        refine zG_br hm rfl (cf' := (180, [some (zr 0 0), some (zr 2 n1), some (zi v2), some (zi (M 4 n1 (zix v2))), some (zi (M 5 n1 (zix v2))), some (zi (if zw (9999 - (M 11 0 10)) < zw (M 4 n1 (zix v2)) then (9999 - (M 11 0 10)) else (M 4 n1 (zix v2))))], [], p19.2)) (if_pos c20) ?_
                        refine zG_run hm 1 (cf' := (181, [some (zr 0 0), some (zr 2 n1), some (zi v2), some (zi (M 4 n1 (zix v2))), some (zi (M 5 n1 (zix v2))), some (zi (if zw (9999 - (M 11 0 10)) < zw (M 4 n1 (zix v2)) then (9999 - (M 11 0 10)) else (M 4 n1 (zix v2))))], [zi 0], p19.2)) rfl ?_
                        cases h
                        exact zG_rz hm rfl rfl (Or.inl rfl)
                      · rw [if_neg c20] at h
                        refine zG_br hm rfl (cf' := (176, [some (zr 0 0), some (zr 2 n1), some (zi v2), some (zi (M 4 n1 (zix v2))), some (zi (M 5 n1 (zix v2))), some (zi (if zw (9999 - (M 11 0 10)) < zw (M 4 n1 (zix v2)) then (9999 - (M 11 0 10)) else (M 4 n1 (zix v2))))], [], p19.2)) (if_neg c20) ?_
                        refine zG_run hm 2 (cf' := (181, [some (zr 0 0), some (zr 2 n1), some (zi v2), some (zi (M 4 n1 (zix v2))), some (zi (M 5 n1 (zix v2))), some (zi (if zw (9999 - (M 11 0 10)) < zw (M 4 n1 (zix v2)) then (9999 - (M 11 0 10)) else (M 4 n1 (zix v2))))], [zi 1], p19.2)) rfl ?_
                        cases h
                        exact zG_rz hm rfl rfl (Or.inr rfl)
                    · rw [if_neg c18] at h
                      refine zG_tOut hm rfl (tgt := 182) (by omega) (by decide) ?_
                      refine zG_run hm 1 (cf' := (183, [some (zr 0 0), some (zr 2 n1), some (zi v2), some (zi (M 4 n1 (zix v2))), some (zi (M 5 n1 (zix v2))), none], [zi 1], M)) rfl ?_
                      cases h
                      exact zG_rz hm rfl rfl (Or.inr rfl)
      · rw [if_neg c21] at h
        cases h
    · rw [if_neg c22] at h
      cases h
  · rw [if_neg c23] at h
    cases h
theorem met_X10_couldDo {n1 : Nat} {v2 : Int} {M : zM} {q : Int × zM} {d : Nat} (hd : 6 ≤ d) (h : f_X10_couldDo n1 v2 M = some q) : zMet 81 d [zr 0 0, zr 2 n1, zi v2] M (some (zi q.1)) q.2 :=
  zMet_of (lv0 := [some (zr 0 0), some (zr 2 n1), some (zi v2), none, none, none]) zmok_81 rfl rfl (fun v hv => by cases hv; trivial) (g_X10_couldDo hd h)
def f_X10_played_L29 (n2 : Nat) (v3 : Int) (M : zM) : Option ((Int × zM) ⊕ ((Int × zM) ⊕ (zM))) :=
  if zw (M 2 n2 8) ≤ zw v3 then
    some (.inr (.inr M))
  else
    (f_X10_couldDo n2 v3 M).bind fun p2 =>
      if ¬ zw p2.1 = 0 then
        some (.inl ((v3 + 1), p2.2))
      else
        some (.inr (.inl (v3, p2.2)))
theorem g_X10_played_L29 {n2 : Nat} {v3 : Int} {M : zM} {x : (Int × zM) ⊕ ((Int × zM) ⊕ (zM))} {r : Option zV} {Mf : zM} {d : Nat} (hd : 7 ≤ d) (h : f_X10_played_L29 n2 v3 M = some x)
    (kc : ∀ s, x = .inl s → zG 80 d (29, [some (zr 0 0), none, some (zr 2 n2), some (zi s.1)], [], s.2) r Mf)
    (kb : ∀ t, x = .inr (.inr t) → zG 80 d (54, [none, none, none, none], [], t) r Mf) (kr : ∀ q, x = .inr (.inl q) → r = some (zi q.1) ∧ Mf = q.2) : zG 80 d (29, [some (zr 0 0), none, some (zr 2 n2), some (zi v3)], [], M) r Mf := by
  have hm := zmok_80
  unfold f_X10_played_L29 at h
  refine zG_run hm 3 (cf' := (34, [some (zr 0 0), none, some (zr 2 n2), some (zi v3)], [zi (M 2 n2 8), zi v3], M)) rfl ?_
  by_cases c4 : zw (M 2 n2 8) ≤ zw v3
  · rw [if_pos c4] at h
    refine zG_br hm rfl (cf' := (54, [some (zr 0 0), none, some (zr 2 n2), some (zi v3)], [], M)) (if_pos c4) ?_
    refine zG_sub (lv' := [none, none, none, none]) (zsb_n (zsb_n (zsb_n (zsb_n zsb_0)))) ?_
    exact kb M (Option.some.inj h).symm
  · rw [if_neg c4] at h
    refine zG_br hm rfl (cf' := (37, [some (zr 0 0), none, some (zr 2 n2), some (zi v3)], [], M)) (if_neg c4) ?_
    refine zG_run hm 3 (cf' := (40, [some (zr 0 0), none, some (zr 2 n2), some (zi v3)], [zi v3, zr 2 n2, zr 0 0], M)) rfl ?_
    obtain ⟨p2, hp2, h⟩ := Option.bind_eq_some_iff.mp h
    refine zG_V hm zmok_81 rfl (as := [zr 2 n2, zi v3]) (rest := []) (st2 := [zi p2.1]) (pc2 := 43) rfl rfl (by omega) (met_X10_couldDo (d := 6) (Nat.le_refl _) hp2) rfl ?_
    by_cases c3 : ¬ zw p2.1 = 0
    · rw [if_pos c3] at h
      refine zG_br hm rfl (cf' := (48, [some (zr 0 0), none, some (zr 2 n2), some (zi v3)], [], p2.2)) (if_pos c3) ?_
      refine zG_run hm 2 (cf' := (29, [some (zr 0 0), none, some (zr 2 n2), some (zi (v3 + 1))], [], p2.2)) rfl ?_
      refine zG_sub (lv' := [some (zr 0 0), none, some (zr 2 n2), some (zi (v3 + 1))]) (zsb_s rfl (zsb_n (zsb_s rfl (zsb_s rfl zsb_0)))) ?_
      exact kc ((v3 + 1), p2.2) (Option.some.inj h).symm
    · rw [if_neg c3] at h
      refine zG_br hm rfl (cf' := (46, [some (zr 0 0), none, some (zr 2 n2), some (zi v3)], [], p2.2)) (if_neg c3) ?_
      refine zG_run hm 1 (cf' := (47, [some (zr 0 0), none, some (zr 2 n2), some (zi v3)], [zi v3], p2.2)) rfl ?_
      obtain ⟨rfl, rfl⟩ := kr (v3, p2.2) (Option.some.inj h).symm
      exact zG_ri hm rfl rfl
theorem gl_X10_played_L29 {n2 : Nat} {y : (Int × zM) ⊕ (zM)} {r : Option zV} {Mf : zM} {d : Nat} (hd : 7 ≤ d)
    (kb : ∀ t, y = .inr t → zG 80 d (54, [none, none, none, none], [], t) r Mf) (kr : ∀ q, y = .inl q → r = some (zi q.1) ∧ Mf = q.2) : ∀ (n : Nat) (s : Int × zM), zlp (fun s : Int × zM => f_X10_played_L29 n2 s.1 s.2) n s = some y → zG 80 d (29, [some (zr 0 0), none, some (zr 2 n2), some (zi s.1)], [], s.2) r Mf := by
  intro n
  induction n with
  | zero => intro s h; cases h
  | succ n ih =>
    intro s h
    rcases zlp_cases h with ⟨s', h1, h2⟩ | h1
    · exact g_X10_played_L29 hd h1 (fun s2 e2 => by cases e2; exact ih _ h2) (fun t e2 => by cases e2) (fun q e2 => by cases e2)
    · exact g_X10_played_L29 hd h1 (fun s2 e2 => by cases e2) (fun t e2 => kb t (Sum.inr.inj e2)) (fun q e2 => kr q (Sum.inr.inj e2))
def f_X10_played (v1 : Int) (M : zM) : Option (Int × zM) :=
  (f_X10_within v1 0 ((M 11 0 12) - 1) M).bind fun p1 =>
    if ¬ zw p1.1 = 0 then
      if 0 ≤ zw v1 ∧ zw v1 < 4 then
        (zlp (fun s : Int × zM => f_X10_played_L29 (zix v1) s.1 s.2) zF (0, p1.2)).bind fun y5 =>
          match y5 with
          | .inl q7 => some q7
          | .inr t6 =>
            some ((-1), t6)
      else
        none
    else
      some ((-2), p1.2)
theorem g_X10_played {v1 : Int} {M : zM} {q : Int × zM} {d : Nat} (hd : 7 ≤ d) (h : f_X10_played v1 M = some q) : zG 80 d (0, [some (zr 0 0), some (zi v1), none, none], [], M) (some (zi q.1)) q.2 := by
  have hm := zmok_80
  unfold f_X10_played at h
  refine zG_run hm 7 (cf' := (11, [some (zr 0 0), some (zi v1), none, none], [zi ((M 11 0 12) - 1), zi 0, zi v1], M)) rfl ?_
  obtain ⟨p1, hp1, h⟩ := Option.bind_eq_some_iff.mp h
  refine zG_S hm zmok_108 rfl (as := [zi v1, zi 0, zi ((M 11 0 12) - 1)]) (rest := []) (st2 := [zi p1.1]) (pc2 := 14) rfl rfl (by omega) (met_X10_within (d := 0) (Nat.le_refl _) hp1) rfl ?_
  by_cases c9 : ¬ zw p1.1 = 0
  · rw [if_pos c9] at h
    refine zG_br hm rfl (cf' := (20, [some (zr 0 0), some (zi v1), none, none], [], p1.2)) (if_pos c9) ?_
    refine zG_run hm 3 (cf' := (25, [some (zr 0 0), some (zi v1), none, none], [zi v1, zr 1 0], p1.2)) rfl ?_
    by_cases c8 : 0 ≤ zw v1 ∧ zw v1 < 4
    · rw [if_pos c8] at h
      refine zG_br hm rfl (cf' := (26, [some (zr 0 0), some (zi v1), none, none], [zr 2 (zix v1)], p1.2)) (if_pos c8) ?_
      refine zG_run hm 3 (cf' := (29, [some (zr 0 0), some (zi v1), some (zr 2 (zix v1)), some (zi 0)], [], p1.2)) rfl ?_
      refine zG_sub (lv' := [some (zr 0 0), none, some (zr 2 (zix v1)), some (zi 0)]) (zsb_s rfl (zsb_n (zsb_s rfl (zsb_s rfl zsb_0)))) ?_
      obtain ⟨y5, hy5, h⟩ := Option.bind_eq_some_iff.mp h
      refine gl_X10_played_L29 hd (fun t6 e2 => ?_) (fun q e2 => ?_) zF (0, p1.2) hy5
      · cases e2
        refine zG_run hm 1 (cf' := (55, [none, none, none, none], [zi (-1)], t6)) rfl ?_
        cases h
        exact zG_ri hm rfl rfl
      · cases e2
        cases h
        exact ⟨rfl, rfl⟩
    · rw [if_neg c8] at h
      cases h
  · rw [if_neg c9] at h
    refine zG_br hm rfl (cf' := (17, [some (zr 0 0), some (zi v1), none, none], [], p1.2)) (if_neg c9) ?_
    refine zG_run hm 1 (cf' := (19, [some (zr 0 0), some (zi v1), none, none], [zi (-2)], p1.2)) rfl ?_
    cases h
    exact zG_ri hm rfl rfl
theorem met_X10_played {v1 : Int} {M : zM} {q : Int × zM} {d : Nat} (hd : 7 ≤ d) (h : f_X10_played v1 M = some q) : zMet 80 d [zr 0 0, zi v1] M (some (zi q.1)) q.2 :=
  zMet_of (lv0 := [some (zr 0 0), some (zi v1), none, none]) zmok_80 rfl rfl (fun v hv => by cases hv; trivial) (g_X10_played hd h)
def f_X11_days_L2 (v1 : Int) (v2 : Int) (M : zM) : Option ((Int × zM) ⊕ ((Int × zM) ⊕ (zM))) :=
  if zw v1 ≤ zw v2 then
    some (.inr (.inr M))
  else
    (f_X11_day 1 M).bind fun p1 =>
      if ¬ zw p1.1 = (-1) then
        some (.inl ((v2 + 1), p1.2))
      else
        some (.inr (.inl (0, p1.2)))
theorem g_X11_days_L2 {v1 : Int} {v2 : Int} {M : zM} {x : (Int × zM) ⊕ ((Int × zM) ⊕ (zM))} {r : Option zV} {Mf : zM} {d : Nat} (hd : 8 ≤ d) (h : f_X11_days_L2 v1 v2 M = some x)
    (kc : ∀ s, x = .inl s → zG 194 d (2, [some (zr 42 0), some (zi v1), some (zi s.1)], [], s.2) r Mf)
    (kb : ∀ t, x = .inr (.inr t) → zG 194 d (24, [none, none, none], [], t) r Mf) (kr : ∀ q, x = .inr (.inl q) → r = some (zi q.1) ∧ Mf = q.2) : zG 194 d (2, [some (zr 42 0), some (zi v1), some (zi v2)], [], M) r Mf := by
  have hm := zmok_194
  unfold f_X11_days_L2 at h
  refine zG_run hm 2 (cf' := (4, [some (zr 42 0), some (zi v1), some (zi v2)], [zi v1, zi v2], M)) rfl ?_
  by_cases c3 : zw v1 ≤ zw v2
  · rw [if_pos c3] at h
    refine zG_br hm rfl (cf' := (24, [some (zr 42 0), some (zi v1), some (zi v2)], [], M)) (if_pos c3) ?_
    refine zG_sub (lv' := [none, none, none]) (zsb_n (zsb_n (zsb_n zsb_0))) ?_
    exact kb M (Option.some.inj h).symm
  · rw [if_neg c3] at h
    refine zG_br hm rfl (cf' := (7, [some (zr 42 0), some (zi v1), some (zi v2)], [], M)) (if_neg c3) ?_
    refine zG_run hm 2 (cf' := (9, [some (zr 42 0), some (zi v1), some (zi v2)], [zi 1, zr 42 0], M)) rfl ?_
    obtain ⟨p1, hp1, h⟩ := Option.bind_eq_some_iff.mp h
    refine zG_V hm zmok_190 rfl (as := [zi 1]) (rest := []) (st2 := [zi p1.1]) (pc2 := 12) rfl rfl (by omega) (met_X11_day (d := 7) (Nat.le_refl _) hp1) rfl ?_
    refine zG_run hm 1 (cf' := (13, [some (zr 42 0), some (zi v1), some (zi v2)], [zi (-1), zi p1.1], p1.2)) rfl ?_
    by_cases c2 : ¬ zw p1.1 = (-1)
    · rw [if_pos c2] at h
      refine zG_br hm rfl (cf' := (18, [some (zr 42 0), some (zi v1), some (zi v2)], [], p1.2)) (if_pos c2) ?_
      refine zG_run hm 2 (cf' := (2, [some (zr 42 0), some (zi v1), some (zi (v2 + 1))], [], p1.2)) rfl ?_
      refine zG_sub (lv' := [some (zr 42 0), some (zi v1), some (zi (v2 + 1))]) (zsb_s rfl (zsb_s rfl (zsb_s rfl zsb_0))) ?_
      exact kc ((v2 + 1), p1.2) (Option.some.inj h).symm
    · rw [if_neg c2] at h
      refine zG_br hm rfl (cf' := (16, [some (zr 42 0), some (zi v1), some (zi v2)], [], p1.2)) (if_neg c2) ?_
      refine zG_run hm 1 (cf' := (17, [some (zr 42 0), some (zi v1), some (zi v2)], [zi 0], p1.2)) rfl ?_
      obtain ⟨rfl, rfl⟩ := kr (0, p1.2) (Option.some.inj h).symm
      exact zG_rz hm rfl rfl (Or.inl rfl)
theorem gl_X11_days_L2 {v1 : Int} {y : (Int × zM) ⊕ (zM)} {r : Option zV} {Mf : zM} {d : Nat} (hd : 8 ≤ d)
    (kb : ∀ t, y = .inr t → zG 194 d (24, [none, none, none], [], t) r Mf) (kr : ∀ q, y = .inl q → r = some (zi q.1) ∧ Mf = q.2) : ∀ (n : Nat) (s : Int × zM), zlp (fun s : Int × zM => f_X11_days_L2 v1 s.1 s.2) n s = some y → zG 194 d (2, [some (zr 42 0), some (zi v1), some (zi s.1)], [], s.2) r Mf := by
  intro n
  induction n with
  | zero => intro s h; cases h
  | succ n ih =>
    intro s h
    rcases zlp_cases h with ⟨s', h1, h2⟩ | h1
    · exact g_X11_days_L2 hd h1 (fun s2 e2 => by cases e2; exact ih _ h2) (fun t e2 => by cases e2) (fun q e2 => by cases e2)
    · exact g_X11_days_L2 hd h1 (fun s2 e2 => by cases e2) (fun t e2 => kb t (Sum.inr.inj e2)) (fun q e2 => kr q (Sum.inr.inj e2))
def f_X11_days (v1 : Int) (M : zM) : Option (Int × zM) :=
  (zlp (fun s : Int × zM => f_X11_days_L2 v1 s.1 s.2) zF (0, M)).bind fun y4 =>
    match y4 with
    | .inl q6 => some q6
    | .inr t5 =>
      some (1, t5)
theorem g_X11_days {v1 : Int} {M : zM} {q : Int × zM} {d : Nat} (hd : 8 ≤ d) (h : f_X11_days v1 M = some q) : zG 194 d (0, [some (zr 42 0), some (zi v1), none], [], M) (some (zi q.1)) q.2 := by
  have hm := zmok_194
  unfold f_X11_days at h
  refine zG_run hm 2 (cf' := (2, [some (zr 42 0), some (zi v1), some (zi 0)], [], M)) rfl ?_
  refine zG_sub (lv' := [some (zr 42 0), some (zi v1), some (zi 0)]) (zsb_s rfl (zsb_s rfl (zsb_s rfl zsb_0))) ?_
  obtain ⟨y4, hy4, h⟩ := Option.bind_eq_some_iff.mp h
  refine gl_X11_days_L2 hd (fun t5 e2 => ?_) (fun q e2 => ?_) zF (0, M) hy4
  · cases e2
    refine zG_run hm 1 (cf' := (25, [none, none, none], [zi 1], t5)) rfl ?_
    cases h
    exact zG_rz hm rfl rfl (Or.inr rfl)
  · cases e2
    cases h
    exact ⟨rfl, rfl⟩
theorem met_X11_days {v1 : Int} {M : zM} {q : Int × zM} {d : Nat} (hd : 8 ≤ d) (h : f_X11_days v1 M = some q) : zMet 194 d [zr 42 0, zi v1] M (some (zi q.1)) q.2 :=
  zMet_of (lv0 := [some (zr 42 0), some (zi v1), none]) zmok_194 rfl rfl (fun v hv => by cases hv; trivial) (g_X11_days hd h)
def f_X11_played_j227 (v1 : Int) (v2 : Int) (v6 : Int) (M : zM) : Option ((Int × zM) ⊕ ((Int × zM) ⊕ (zM))) :=
  if ¬ zw v6 = 0 then
    some (.inl ((v2 + 1), M))
  else
    some (.inr (.inl (v2, M)))
theorem g_X11_played_j227 {v1 : Int} {v2 : Int} {v6 : Int} {M : zM} {x : (Int × zM) ⊕ ((Int × zM) ⊕ (zM))} {r : Option zV} {Mf : zM} {d : Nat} (hd : 9 ≤ d) (h : f_X11_played_j227 v1 v2 v6 M = some x)
    (kc : ∀ s, x = .inl s → zG 195 d (21, [some (zr 42 0), some (zi v1), some (zi s.1), none, none, none, none], [], s.2) r Mf)
    (kb : ∀ t, x = .inr (.inr t) → zG 195 d (240, [none, none, none, none, none, none, none], [], t) r Mf) (kr : ∀ q, x = .inr (.inl q) → r = some (zi q.1) ∧ Mf = q.2) : zG 195 d (227, [some (zr 42 0), some (zi v1), some (zi v2), none, none, none, some (zi v6)], [], M) r Mf := by
  have hm := zmok_195
  unfold f_X11_played_j227 at h
  refine zG_run hm 1 (cf' := (229, [some (zr 42 0), some (zi v1), some (zi v2), none, none, none, some (zi v6)], [zi v6], M)) rfl ?_
  by_cases c4 : ¬ zw v6 = 0
  · rw [if_pos c4] at h
    refine zG_br hm rfl (cf' := (234, [some (zr 42 0), some (zi v1), some (zi v2), none, none, none, some (zi v6)], [], M)) (if_pos c4) ?_
    refine zG_run hm 2 (cf' := (21, [some (zr 42 0), some (zi v1), some (zi (v2 + 1)), none, none, none, some (zi v6)], [], M)) rfl ?_
    refine zG_sub (lv' := [some (zr 42 0), some (zi v1), some (zi (v2 + 1)), none, none, none, none]) (zsb_s rfl (zsb_s rfl (zsb_s rfl (zsb_n (zsb_n (zsb_n (zsb_n zsb_0))))))) ?_
    exact kc ((v2 + 1), M) (Option.some.inj h).symm
  · rw [if_neg c4] at h
    refine zG_br hm rfl (cf' := (232, [some (zr 42 0), some (zi v1), some (zi v2), none, none, none, some (zi v6)], [], M)) (if_neg c4) ?_
    refine zG_run hm 1 (cf' := (233, [some (zr 42 0), some (zi v1), some (zi v2), none, none, none, some (zi v6)], [zi v2], M)) rfl ?_
    obtain ⟨rfl, rfl⟩ := kr (v2, M) (Option.some.inj h).symm
    exact zG_ri hm rfl rfl
def f_X11_played_j119 (v1 : Int) (v2 : Int) (vs0 : Int) (M : zM) : Option ((Int × zM) ⊕ ((Int × zM) ⊕ (zM))) :=
  f_X11_played_j227 v1 v2 vs0 M
theorem g_X11_played_j119 {v1 : Int} {v2 : Int} {vs0 : Int} {M : zM} {x : (Int × zM) ⊕ ((Int × zM) ⊕ (zM))} {r : Option zV} {Mf : zM} {d : Nat} (hd : 9 ≤ d) (h : f_X11_played_j119 v1 v2 vs0 M = some x)
    (kc : ∀ s, x = .inl s → zG 195 d (21, [some (zr 42 0), some (zi v1), some (zi s.1), none, none, none, none], [], s.2) r Mf)
    (kb : ∀ t, x = .inr (.inr t) → zG 195 d (240, [none, none, none, none, none, none, none], [], t) r Mf) (kr : ∀ q, x = .inr (.inl q) → r = some (zi q.1) ∧ Mf = q.2) : zG 195 d (119, [some (zr 42 0), some (zi v1), some (zi v2), none, none, none, none], [zi vs0], M) r Mf := by
  have hm := zmok_195
  unfold f_X11_played_j119 at h
  refine zG_run hm 2 (cf' := (227, [some (zr 42 0), some (zi v1), some (zi v2), none, none, none, some (zi vs0)], [], M)) rfl ?_
  refine zG_sub (lv' := [some (zr 42 0), some (zi v1), some (zi v2), none, none, none, some (zi vs0)]) (zsb_s rfl (zsb_s rfl (zsb_s rfl (zsb_n (zsb_n (zsb_n (zsb_s rfl zsb_0))))))) ?_
  exact g_X11_played_j227 hd h kc kb kr
def f_X11_played_j147 (v1 : Int) (v2 : Int) (vs0 : Int) (M : zM) : Option ((Int × zM) ⊕ ((Int × zM) ⊕ (zM))) :=
  f_X11_played_j227 v1 v2 vs0 M
theorem g_X11_played_j147 {v1 : Int} {v2 : Int} {vs0 : Int} {M : zM} {x : (Int × zM) ⊕ ((Int × zM) ⊕ (zM))} {r : Option zV} {Mf : zM} {d : Nat} (hd : 9 ≤ d) (h : f_X11_played_j147 v1 v2 vs0 M = some x)
    (kc : ∀ s, x = .inl s → zG 195 d (21, [some (zr 42 0), some (zi v1), some (zi s.1), none, none, none, none], [], s.2) r Mf)
    (kb : ∀ t, x = .inr (.inr t) → zG 195 d (240, [none, none, none, none, none, none, none], [], t) r Mf) (kr : ∀ q, x = .inr (.inl q) → r = some (zi q.1) ∧ Mf = q.2) : zG 195 d (147, [some (zr 42 0), some (zi v1), some (zi v2), none, none, none, none], [zi vs0], M) r Mf := by
  have hm := zmok_195
  unfold f_X11_played_j147 at h
  refine zG_run hm 2 (cf' := (227, [some (zr 42 0), some (zi v1), some (zi v2), none, none, none, some (zi vs0)], [], M)) rfl ?_
  refine zG_sub (lv' := [some (zr 42 0), some (zi v1), some (zi v2), none, none, none, some (zi vs0)]) (zsb_s rfl (zsb_s rfl (zsb_s rfl (zsb_n (zsb_n (zsb_n (zsb_s rfl zsb_0))))))) ?_
  exact g_X11_played_j227 hd h kc kb kr
def f_X11_played_j178 (v1 : Int) (v2 : Int) (vs0 : Int) (M : zM) : Option ((Int × zM) ⊕ ((Int × zM) ⊕ (zM))) :=
  f_X11_played_j227 v1 v2 vs0 M
theorem g_X11_played_j178 {v1 : Int} {v2 : Int} {vs0 : Int} {M : zM} {x : (Int × zM) ⊕ ((Int × zM) ⊕ (zM))} {r : Option zV} {Mf : zM} {d : Nat} (hd : 9 ≤ d) (h : f_X11_played_j178 v1 v2 vs0 M = some x)
    (kc : ∀ s, x = .inl s → zG 195 d (21, [some (zr 42 0), some (zi v1), some (zi s.1), none, none, none, none], [], s.2) r Mf)
    (kb : ∀ t, x = .inr (.inr t) → zG 195 d (240, [none, none, none, none, none, none, none], [], t) r Mf) (kr : ∀ q, x = .inr (.inl q) → r = some (zi q.1) ∧ Mf = q.2) : zG 195 d (178, [some (zr 42 0), some (zi v1), some (zi v2), none, none, none, none], [zi vs0], M) r Mf := by
  have hm := zmok_195
  unfold f_X11_played_j178 at h
  refine zG_run hm 2 (cf' := (227, [some (zr 42 0), some (zi v1), some (zi v2), none, none, none, some (zi vs0)], [], M)) rfl ?_
  refine zG_sub (lv' := [some (zr 42 0), some (zi v1), some (zi v2), none, none, none, some (zi vs0)]) (zsb_s rfl (zsb_s rfl (zsb_s rfl (zsb_n (zsb_n (zsb_n (zsb_s rfl zsb_0))))))) ?_
  exact g_X11_played_j227 hd h kc kb kr
def f_X11_played_j198 (v1 : Int) (v2 : Int) (vs0 : Int) (M : zM) : Option ((Int × zM) ⊕ ((Int × zM) ⊕ (zM))) :=
  f_X11_played_j227 v1 v2 vs0 M
theorem g_X11_played_j198 {v1 : Int} {v2 : Int} {vs0 : Int} {M : zM} {x : (Int × zM) ⊕ ((Int × zM) ⊕ (zM))} {r : Option zV} {Mf : zM} {d : Nat} (hd : 9 ≤ d) (h : f_X11_played_j198 v1 v2 vs0 M = some x)
    (kc : ∀ s, x = .inl s → zG 195 d (21, [some (zr 42 0), some (zi v1), some (zi s.1), none, none, none, none], [], s.2) r Mf)
    (kb : ∀ t, x = .inr (.inr t) → zG 195 d (240, [none, none, none, none, none, none, none], [], t) r Mf) (kr : ∀ q, x = .inr (.inl q) → r = some (zi q.1) ∧ Mf = q.2) : zG 195 d (198, [some (zr 42 0), some (zi v1), some (zi v2), none, none, none, none], [zi vs0], M) r Mf := by
  have hm := zmok_195
  unfold f_X11_played_j198 at h
  refine zG_run hm 2 (cf' := (227, [some (zr 42 0), some (zi v1), some (zi v2), none, none, none, some (zi vs0)], [], M)) rfl ?_
  refine zG_sub (lv' := [some (zr 42 0), some (zi v1), some (zi v2), none, none, none, some (zi vs0)]) (zsb_s rfl (zsb_s rfl (zsb_s rfl (zsb_n (zsb_n (zsb_n (zsb_s rfl zsb_0))))))) ?_
  exact g_X11_played_j227 hd h kc kb kr
def f_X11_played_L21 (v1 : Int) (v2 : Int) (M : zM) : Option ((Int × zM) ⊕ ((Int × zM) ⊕ (zM))) :=
  if 0 ≤ zw v1 ∧ zw v1 < 4 then
    if zw (M 46 0 (zix v1)) ≤ zw v2 then
      some (.inr (.inr M))
    else
      if 0 ≤ zw ((24 * v1) + v2) ∧ zw ((24 * v1) + v2) < 96 then
        if 0 ≤ zw ((24 * v1) + v2) ∧ zw ((24 * v1) + v2) < 96 then
          if 0 ≤ zw ((24 * v1) + v2) ∧ zw ((24 * v1) + v2) < 96 then
            if zw (M 47 0 (zix ((24 * v1) + v2))) = 4 then
              (f_X11_owner (M 49 0 (zix ((24 * v1) + v2))) M).bind fun p3 =>
                if zw p3.1 = (-1) then
                  f_X11_played_j119 v1 v2 0 p3.2
                else
                  f_X11_played_j119 v1 v2 1 p3.2
            else
              if zw (M 47 0 (zix ((24 * v1) + v2))) = 5 then
                if 0 ≤ zw ((24 * v1) + v2) ∧ zw ((24 * v1) + v2) < 96 then
                  (f_X11_thing (M 49 0 (zix ((24 * v1) + v2))) (M 50 0 (zix ((24 * v1) + v2))) (M 51 0 (zix ((24 * v1) + v2))) M).bind fun p7 =>
                    if zw p7.1 = (-1) then
                      f_X11_played_j147 v1 v2 0 p7.2
                    else
                      f_X11_played_j147 v1 v2 1 p7.2
                else
                  none
              else
                if zw (M 47 0 (zix ((24 * v1) + v2))) = 6 then
                  (f_X11_room (M 49 0 (zix ((24 * v1) + v2))) M).bind fun p11 =>
                    f_X11_played_j227 v1 v2 p11.1 p11.2
                else
                  if zw (M 47 0 (zix ((24 * v1) + v2))) = 7 then
                    (f_X11_steal (M 49 0 (zix ((24 * v1) + v2))) M).bind fun p13 =>
                      if zw p13.1 = (-1) then
                        f_X11_played_j178 v1 v2 0 p13.2
                      else
                        f_X11_played_j178 v1 v2 1 p13.2
                  else
                    if zw (M 47 0 (zix ((24 * v1) + v2))) = 8 then
                      (f_X11_send (M 49 0 (zix ((24 * v1) + v2))) M).bind fun p16 =>
                        if zw p16.1 = (-1) then
                          f_X11_played_j198 v1 v2 0 p16.2
                        else
                          f_X11_played_j198 v1 v2 1 p16.2
                    else
                      if zw (M 47 0 (zix ((24 * v1) + v2))) = 9 then
                        (f_X11_give (M 49 0 (zix ((24 * v1) + v2))) (M 50 0 (zix ((24 * v1) + v2))) M).bind fun p19 =>
                          f_X11_played_j227 v1 v2 p19.1 p19.2
                      else
                        if zw (M 47 0 (zix ((24 * v1) + v2))) = 10 then
                          (f_X11_days (M 49 0 (zix ((24 * v1) + v2))) M).bind fun p21 =>
                            f_X11_played_j227 v1 v2 p21.1 p21.2
                        else
                          f_X11_played_j227 v1 v2 1 M
          else
            none
        else
          none
      else
        none
  else
    none
theorem g_X11_played_L21 {v1 : Int} {v2 : Int} {M : zM} {x : (Int × zM) ⊕ ((Int × zM) ⊕ (zM))} {r : Option zV} {Mf : zM} {d : Nat} (hd : 9 ≤ d) (h : f_X11_played_L21 v1 v2 M = some x)
    (kc : ∀ s, x = .inl s → zG 195 d (21, [some (zr 42 0), some (zi v1), some (zi s.1), none, none, none, none], [], s.2) r Mf)
    (kb : ∀ t, x = .inr (.inr t) → zG 195 d (240, [none, none, none, none, none, none, none], [], t) r Mf) (kr : ∀ q, x = .inr (.inl q) → r = some (zi q.1) ∧ Mf = q.2) : zG 195 d (21, [some (zr 42 0), some (zi v1), some (zi v2), none, none, none, none], [], M) r Mf := by
  have hm := zmok_195
  unfold f_X11_played_L21 at h
  refine zG_run hm 4 (cf' := (27, [some (zr 42 0), some (zi v1), some (zi v2), none, none, none, none], [zi v1, zr 46 0, zi v2], M)) rfl ?_
  by_cases c26 : 0 ≤ zw v1 ∧ zw v1 < 4
  · rw [if_pos c26] at h
    refine zG_br hm rfl (cf' := (28, [some (zr 42 0), some (zi v1), some (zi v2), none, none, none, none], [zi (M 46 0 (zix v1)), zi v2], M)) (if_pos c26) ?_
    by_cases c25 : zw (M 46 0 (zix v1)) ≤ zw v2
    · rw [if_pos c25] at h
      refine zG_br hm rfl (cf' := (240, [some (zr 42 0), some (zi v1), some (zi v2), none, none, none, none], [], M)) (if_pos c25) ?_
      refine zG_sub (lv' := [none, none, none, none, none, none, none]) (zsb_n (zsb_n (zsb_n (zsb_n (zsb_n (zsb_n (zsb_n zsb_0))))))) ?_
      exact kb M (Option.some.inj h).symm
    · rw [if_neg c25] at h
      refine zG_br hm rfl (cf' := (31, [some (zr 42 0), some (zi v1), some (zi v2), none, none, none, none], [], M)) (if_neg c25) ?_
      refine zG_run hm 9 (cf' := (43, [some (zr 42 0), some (zi v1), some (zi v2), some (zi ((24 * v1) + v2)), none, none, none], [zi ((24 * v1) + v2), zr 49 0], M)) rfl ?_
      by_cases c24 : 0 ≤ zw ((24 * v1) + v2) ∧ zw ((24 * v1) + v2) < 96
      · rw [if_pos c24] at h
        refine zG_br hm rfl (cf' := (44, [some (zr 42 0), some (zi v1), some (zi v2), some (zi ((24 * v1) + v2)), none, none, none], [zi (M 49 0 (zix ((24 * v1) + v2)))], M)) (if_pos c24) ?_
        refine zG_run hm 4 (cf' := (51, [some (zr 42 0), some (zi v1), some (zi v2), some (zi ((24 * v1) + v2)), some (zi (M 49 0 (zix ((24 * v1) + v2)))), none, none], [zi ((24 * v1) + v2), zr 50 0], M)) rfl ?_
        by_cases c23 : 0 ≤ zw ((24 * v1) + v2) ∧ zw ((24 * v1) + v2) < 96
        · rw [if_pos c23] at h
          refine zG_br hm rfl (cf' := (52, [some (zr 42 0), some (zi v1), some (zi v2), some (zi ((24 * v1) + v2)), some (zi (M 49 0 (zix ((24 * v1) + v2)))), none, none], [zi (M 50 0 (zix ((24 * v1) + v2)))], M)) (if_pos c23) ?_
          refine zG_run hm 6 (cf' := (62, [some (zr 42 0), some (zi v1), some (zi v2), some (zi ((24 * v1) + v2)), some (zi (M 49 0 (zix ((24 * v1) + v2)))), some (zi (M 50 0 (zix ((24 * v1) + v2)))), some (zi 1)], [zi ((24 * v1) + v2), zr 47 0], M)) rfl ?_
          by_cases c22 : 0 ≤ zw ((24 * v1) + v2) ∧ zw ((24 * v1) + v2) < 96
          · rw [if_pos c22] at h
            refine zG_br hm rfl (cf' := (63, [some (zr 42 0), some (zi v1), some (zi v2), some (zi ((24 * v1) + v2)), some (zi (M 49 0 (zix ((24 * v1) + v2)))), some (zi (M 50 0 (zix ((24 * v1) + v2)))), some (zi 1)], [zi (M 47 0 (zix ((24 * v1) + v2)))], M)) (if_pos c22) ?_
            by_cases c2 : zw (M 47 0 (zix ((24 * v1) + v2))) = 4
            · rw [if_pos c2] at h
              refine zG_tIn hm rfl (tgt := 104) (off := 41) c2 (by decide) rfl (by decide) ?_
              refine zG_run hm 2 (cf' := (107, [some (zr 42 0), some (zi v1), some (zi v2), some (zi ((24 * v1) + v2)), some (zi (M 49 0 (zix ((24 * v1) + v2)))), some (zi (M 50 0 (zix ((24 * v1) + v2)))), some (zi 1)], [zi (M 49 0 (zix ((24 * v1) + v2))), zr 42 0], M)) rfl ?_
              obtain ⟨p3, hp3, h⟩ := Option.bind_eq_some_iff.mp h
              refine zG_V hm zmok_124 rfl (as := [zi (M 49 0 (zix ((24 * v1) + v2)))]) (rest := []) (st2 := [zi p3.1]) (pc2 := 110) rfl rfl (by omega) (met_X11_owner (d := 1) (Nat.le_refl _) hp3) rfl ?_
              refine zG_run hm 1 (cf' := (111, [some (zr 42 0), some (zi v1), some (zi v2), some (zi ((24 * v1) + v2)), some (zi (M 49 0 (zix ((24 * v1) + v2)))), some (zi (M 50 0 (zix ((24 * v1) + v2)))), some (zi 1)], [zi (-1), zi p3.1], p3.2)) rfl ?_
              by_cases c5 : zw p3.1 = (-1)
              · rw [if_pos c5] at h
                refine zG_br hm rfl (cf' := (118, [some (zr 42 0), some (zi v1), some (zi v2), some (zi ((24 * v1) + v2)), some (zi (M 49 0 (zix ((24 * v1) + v2)))), some (zi (M 50 0 (zix ((24 * v1) + v2)))), some (zi 1)], [], p3.2)) (if_pos c5) ?_
                refine zG_run hm 1 (cf' := (119, [some (zr 42 0), some (zi v1), some (zi v2), some (zi ((24 * v1) + v2)), some (zi (M 49 0 (zix ((24 * v1) + v2)))), some (zi (M 50 0 (zix ((24 * v1) + v2)))), some (zi 1)], [zi 0], p3.2)) rfl ?_
                refine zG_sub (lv' := [some (zr 42 0), some (zi v1), some (zi v2), none, none, none, none]) (zsb_s rfl (zsb_s rfl (zsb_s rfl (zsb_n (zsb_n (zsb_n (zsb_n zsb_0))))))) ?_
                exact g_X11_played_j119 hd h kc kb kr
              · rw [if_neg c5] at h
                refine zG_br hm rfl (cf' := (114, [some (zr 42 0), some (zi v1), some (zi v2), some (zi ((24 * v1) + v2)), some (zi (M 49 0 (zix ((24 * v1) + v2)))), some (zi (M 50 0 (zix ((24 * v1) + v2)))), some (zi 1)], [], p3.2)) (if_neg c5) ?_
                refine zG_run hm 2 (cf' := (119, [some (zr 42 0), some (zi v1), some (zi v2), some (zi ((24 * v1) + v2)), some (zi (M 49 0 (zix ((24 * v1) + v2)))), some (zi (M 50 0 (zix ((24 * v1) + v2)))), some (zi 1)], [zi 1], p3.2)) rfl ?_
                refine zG_sub (lv' := [some (zr 42 0), some (zi v1), some (zi v2), none, none, none, none]) (zsb_s rfl (zsb_s rfl (zsb_s rfl (zsb_n (zsb_n (zsb_n (zsb_n zsb_0))))))) ?_
                exact g_X11_played_j119 hd h kc kb kr
            · rw [if_neg c2] at h
              by_cases c6 : zw (M 47 0 (zix ((24 * v1) + v2))) = 5
              · rw [if_pos c6] at h
                refine zG_tIn hm rfl (tgt := 124) (off := 61) c6 (by decide) rfl (by decide) ?_
                refine zG_run hm 6 (cf' := (134, [some (zr 42 0), some (zi v1), some (zi v2), some (zi ((24 * v1) + v2)), some (zi (M 49 0 (zix ((24 * v1) + v2)))), some (zi (M 50 0 (zix ((24 * v1) + v2)))), some (zi 1)], [zi ((24 * v1) + v2), zr 51 0, zi (M 50 0 (zix ((24 * v1) + v2))), zi (M 49 0 (zix ((24 * v1) + v2))), zr 42 0], M)) rfl ?_
                by_cases c9 : 0 ≤ zw ((24 * v1) + v2) ∧ zw ((24 * v1) + v2) < 96
                · rw [if_pos c9] at h
                  refine zG_br hm rfl (cf' := (135, [some (zr 42 0), some (zi v1), some (zi v2), some (zi ((24 * v1) + v2)), some (zi (M 49 0 (zix ((24 * v1) + v2)))), some (zi (M 50 0 (zix ((24 * v1) + v2)))), some (zi 1)], [zi (M 51 0 (zix ((24 * v1) + v2))), zi (M 50 0 (zix ((24 * v1) + v2))), zi (M 49 0 (zix ((24 * v1) + v2))), zr 42 0], M)) (if_pos c9) ?_
                  obtain ⟨p7, hp7, h⟩ := Option.bind_eq_some_iff.mp h
                  refine zG_V hm zmok_126 rfl (as := [zi (M 49 0 (zix ((24 * v1) + v2))), zi (M 50 0 (zix ((24 * v1) + v2))), zi (M 51 0 (zix ((24 * v1) + v2)))]) (rest := []) (st2 := [zi p7.1]) (pc2 := 138) rfl rfl (by omega) (met_X11_thing (d := 2) (Nat.le_refl _) hp7) rfl ?_
                  refine zG_run hm 1 (cf' := (139, [some (zr 42 0), some (zi v1), some (zi v2), some (zi ((24 * v1) + v2)), some (zi (M 49 0 (zix ((24 * v1) + v2)))), some (zi (M 50 0 (zix ((24 * v1) + v2)))), some (zi 1)], [zi (-1), zi p7.1], p7.2)) rfl ?_
                  by_cases c8 : zw p7.1 = (-1)
                  · rw [if_pos c8] at h
                    refine zG_br hm rfl (cf' := (146, [some (zr 42 0), some (zi v1), some (zi v2), some (zi ((24 * v1) + v2)), some (zi (M 49 0 (zix ((24 * v1) + v2)))), some (zi (M 50 0 (zix ((24 * v1) + v2)))), some (zi 1)], [], p7.2)) (if_pos c8) ?_
                    refine zG_run hm 1 (cf' := (147, [some (zr 42 0), some (zi v1), some (zi v2), some (zi ((24 * v1) + v2)), some (zi (M 49 0 (zix ((24 * v1) + v2)))), some (zi (M 50 0 (zix ((24 * v1) + v2)))), some (zi 1)], [zi 0], p7.2)) rfl ?_
                    refine zG_sub (lv' := [some (zr 42 0), some (zi v1), some (zi v2), none, none, none, none]) (zsb_s rfl (zsb_s rfl (zsb_s rfl (zsb_n (zsb_n (zsb_n (zsb_n zsb_0))))))) ?_
                    exact g_X11_played_j147 hd h kc kb kr
                  · rw [if_neg c8] at h
                    refine zG_br hm rfl (cf' := (142, [some (zr 42 0), some (zi v1), some (zi v2), some (zi ((24 * v1) + v2)), some (zi (M 49 0 (zix ((24 * v1) + v2)))), some (zi (M 50 0 (zix ((24 * v1) + v2)))), some (zi 1)], [], p7.2)) (if_neg c8) ?_
                    refine zG_run hm 2 (cf' := (147, [some (zr 42 0), some (zi v1), some (zi v2), some (zi ((24 * v1) + v2)), some (zi (M 49 0 (zix ((24 * v1) + v2)))), some (zi (M 50 0 (zix ((24 * v1) + v2)))), some (zi 1)], [zi 1], p7.2)) rfl ?_
                    refine zG_sub (lv' := [some (zr 42 0), some (zi v1), some (zi v2), none, none, none, none]) (zsb_s rfl (zsb_s rfl (zsb_s rfl (zsb_n (zsb_n (zsb_n (zsb_n zsb_0))))))) ?_
                    exact g_X11_played_j147 hd h kc kb kr
                · rw [if_neg c9] at h
                  cases h
              · rw [if_neg c6] at h
                by_cases c10 : zw (M 47 0 (zix ((24 * v1) + v2))) = 6
                · rw [if_pos c10] at h
                  refine zG_tIn hm rfl (tgt := 152) (off := 89) c10 (by decide) rfl (by decide) ?_
                  refine zG_run hm 2 (cf' := (155, [some (zr 42 0), some (zi v1), some (zi v2), some (zi ((24 * v1) + v2)), some (zi (M 49 0 (zix ((24 * v1) + v2)))), some (zi (M 50 0 (zix ((24 * v1) + v2)))), some (zi 1)], [zi (M 49 0 (zix ((24 * v1) + v2))), zr 42 0], M)) rfl ?_
                  obtain ⟨p11, hp11, h⟩ := Option.bind_eq_some_iff.mp h
                  refine zG_V hm zmok_127 rfl (as := [zi (M 49 0 (zix ((24 * v1) + v2)))]) (rest := []) (st2 := [zi p11.1]) (pc2 := 158) rfl rfl (by omega) (met_X11_room (d := 1) (Nat.le_refl _) hp11) rfl ?_
                  refine zG_run hm 2 (cf' := (227, [some (zr 42 0), some (zi v1), some (zi v2), some (zi ((24 * v1) + v2)), some (zi (M 49 0 (zix ((24 * v1) + v2)))), some (zi (M 50 0 (zix ((24 * v1) + v2)))), some (zi p11.1)], [], p11.2)) rfl ?_
                  refine zG_sub (lv' := [some (zr 42 0), some (zi v1), some (zi v2), none, none, none, some (zi p11.1)]) (zsb_s rfl (zsb_s rfl (zsb_s rfl (zsb_n (zsb_n (zsb_n (zsb_s rfl zsb_0))))))) ?_
                  exact g_X11_played_j227 hd h kc kb kr
                · rw [if_neg c10] at h
                  by_cases c12 : zw (M 47 0 (zix ((24 * v1) + v2))) = 7
                  · rw [if_pos c12] at h
                    refine zG_tIn hm rfl (tgt := 163) (off := 100) c12 (by decide) rfl (by decide) ?_
                    refine zG_run hm 2 (cf' := (166, [some (zr 42 0), some (zi v1), some (zi v2), some (zi ((24 * v1) + v2)), some (zi (M 49 0 (zix ((24 * v1) + v2)))), some (zi (M 50 0 (zix ((24 * v1) + v2)))), some (zi 1)], [zi (M 49 0 (zix ((24 * v1) + v2))), zr 42 0], M)) rfl ?_
                    obtain ⟨p13, hp13, h⟩ := Option.bind_eq_some_iff.mp h
                    refine zG_V hm zmok_187 rfl (as := [zi (M 49 0 (zix ((24 * v1) + v2)))]) (rest := []) (st2 := [zi p13.1]) (pc2 := 169) rfl rfl (by omega) (met_X11_steal (d := 3) (Nat.le_refl _) hp13) rfl ?_
                    refine zG_run hm 1 (cf' := (170, [some (zr 42 0), some (zi v1), some (zi v2), some (zi ((24 * v1) + v2)), some (zi (M 49 0 (zix ((24 * v1) + v2)))), some (zi (M 50 0 (zix ((24 * v1) + v2)))), some (zi 1)], [zi (-1), zi p13.1], p13.2)) rfl ?_
                    by_cases c14 : zw p13.1 = (-1)
                    · rw [if_pos c14] at h
                      refine zG_br hm rfl (cf' := (177, [some (zr 42 0), some (zi v1), some (zi v2), some (zi ((24 * v1) + v2)), some (zi (M 49 0 (zix ((24 * v1) + v2)))), some (zi (M 50 0 (zix ((24 * v1) + v2)))), some (zi 1)], [], p13.2)) (if_pos c14) ?_
                      refine zG_run hm 1 (cf' := (178, [some (zr 42 0), some (zi v1), some (zi v2), some (zi ((24 * v1) + v2)), some (zi (M 49 0 (zix ((24 * v1) + v2)))), some (zi (M 50 0 (zix ((24 * v1) + v2)))), some (zi 1)], [zi 0], p13.2)) rfl ?_
                      refine zG_sub (lv' := [some (zr 42 0), some (zi v1), some (zi v2), none, none, none, none]) (zsb_s rfl (zsb_s rfl (zsb_s rfl (zsb_n (zsb_n (zsb_n (zsb_n zsb_0))))))) ?_
                      exact g_X11_played_j178 hd h kc kb kr
                    · rw [if_neg c14] at h
                      refine zG_br hm rfl (cf' := (173, [some (zr 42 0), some (zi v1), some (zi v2), some (zi ((24 * v1) + v2)), some (zi (M 49 0 (zix ((24 * v1) + v2)))), some (zi (M 50 0 (zix ((24 * v1) + v2)))), some (zi 1)], [], p13.2)) (if_neg c14) ?_
                      refine zG_run hm 2 (cf' := (178, [some (zr 42 0), some (zi v1), some (zi v2), some (zi ((24 * v1) + v2)), some (zi (M 49 0 (zix ((24 * v1) + v2)))), some (zi (M 50 0 (zix ((24 * v1) + v2)))), some (zi 1)], [zi 1], p13.2)) rfl ?_
                      refine zG_sub (lv' := [some (zr 42 0), some (zi v1), some (zi v2), none, none, none, none]) (zsb_s rfl (zsb_s rfl (zsb_s rfl (zsb_n (zsb_n (zsb_n (zsb_n zsb_0))))))) ?_
                      exact g_X11_played_j178 hd h kc kb kr
                  · rw [if_neg c12] at h
                    by_cases c15 : zw (M 47 0 (zix ((24 * v1) + v2))) = 8
                    · rw [if_pos c15] at h
                      refine zG_tIn hm rfl (tgt := 183) (off := 120) c15 (by decide) rfl (by decide) ?_
                      refine zG_run hm 2 (cf' := (186, [some (zr 42 0), some (zi v1), some (zi v2), some (zi ((24 * v1) + v2)), some (zi (M 49 0 (zix ((24 * v1) + v2)))), some (zi (M 50 0 (zix ((24 * v1) + v2)))), some (zi 1)], [zi (M 49 0 (zix ((24 * v1) + v2))), zr 42 0], M)) rfl ?_
                      obtain ⟨p16, hp16, h⟩ := Option.bind_eq_some_iff.mp h
                      refine zG_V hm zmok_188 rfl (as := [zi (M 49 0 (zix ((24 * v1) + v2)))]) (rest := []) (st2 := [zi p16.1]) (pc2 := 189) rfl rfl (by omega) (met_X11_send (d := 6) (Nat.le_refl _) hp16) rfl ?_
                      refine zG_run hm 1 (cf' := (190, [some (zr 42 0), some (zi v1), some (zi v2), some (zi ((24 * v1) + v2)), some (zi (M 49 0 (zix ((24 * v1) + v2)))), some (zi (M 50 0 (zix ((24 * v1) + v2)))), some (zi 1)], [zi (-1), zi p16.1], p16.2)) rfl ?_
                      by_cases c17 : zw p16.1 = (-1)
                      · rw [if_pos c17] at h
                        refine zG_br hm rfl (cf' := (197, [some (zr 42 0), some (zi v1), some (zi v2), some (zi ((24 * v1) + v2)), some (zi (M 49 0 (zix ((24 * v1) + v2)))), some (zi (M 50 0 (zix ((24 * v1) + v2)))), some (zi 1)], [], p16.2)) (if_pos c17) ?_
                        refine zG_run hm 1 (cf' := (198, [some (zr 42 0), some (zi v1), some (zi v2), some (zi ((24 * v1) + v2)), some (zi (M 49 0 (zix ((24 * v1) + v2)))), some (zi (M 50 0 (zix ((24 * v1) + v2)))), some (zi 1)], [zi 0], p16.2)) rfl ?_
                        refine zG_sub (lv' := [some (zr 42 0), some (zi v1), some (zi v2), none, none, none, none]) (zsb_s rfl (zsb_s rfl (zsb_s rfl (zsb_n (zsb_n (zsb_n (zsb_n zsb_0))))))) ?_
                        exact g_X11_played_j198 hd h kc kb kr
                      · rw [if_neg c17] at h
                        refine zG_br hm rfl (cf' := (193, [some (zr 42 0), some (zi v1), some (zi v2), some (zi ((24 * v1) + v2)), some (zi (M 49 0 (zix ((24 * v1) + v2)))), some (zi (M 50 0 (zix ((24 * v1) + v2)))), some (zi 1)], [], p16.2)) (if_neg c17) ?_
                        refine zG_run hm 2 (cf' := (198, [some (zr 42 0), some (zi v1), some (zi v2), some (zi ((24 * v1) + v2)), some (zi (M 49 0 (zix ((24 * v1) + v2)))), some (zi (M 50 0 (zix ((24 * v1) + v2)))), some (zi 1)], [zi 1], p16.2)) rfl ?_
                        refine zG_sub (lv' := [some (zr 42 0), some (zi v1), some (zi v2), none, none, none, none]) (zsb_s rfl (zsb_s rfl (zsb_s rfl (zsb_n (zsb_n (zsb_n (zsb_n zsb_0))))))) ?_
                        exact g_X11_played_j198 hd h kc kb kr
                    · rw [if_neg c15] at h
                      by_cases c18 : zw (M 47 0 (zix ((24 * v1) + v2))) = 9
                      · rw [if_pos c18] at h
                        refine zG_tIn hm rfl (tgt := 203) (off := 140) c18 (by decide) rfl (by decide) ?_
                        refine zG_run hm 3 (cf' := (208, [some (zr 42 0), some (zi v1), some (zi v2), some (zi ((24 * v1) + v2)), some (zi (M 49 0 (zix ((24 * v1) + v2)))), some (zi (M 50 0 (zix ((24 * v1) + v2)))), some (zi 1)], [zi (M 50 0 (zix ((24 * v1) + v2))), zi (M 49 0 (zix ((24 * v1) + v2))), zr 42 0], M)) rfl ?_
                        obtain ⟨p19, hp19, h⟩ := Option.bind_eq_some_iff.mp h
                        refine zG_V hm zmok_189 rfl (as := [zi (M 49 0 (zix ((24 * v1) + v2))), zi (M 50 0 (zix ((24 * v1) + v2)))]) (rest := []) (st2 := [zi p19.1]) (pc2 := 211) rfl rfl (by omega) (met_X11_give (d := 2) (Nat.le_refl _) hp19) rfl ?_
                        refine zG_run hm 2 (cf' := (227, [some (zr 42 0), some (zi v1), some (zi v2), some (zi ((24 * v1) + v2)), some (zi (M 49 0 (zix ((24 * v1) + v2)))), some (zi (M 50 0 (zix ((24 * v1) + v2)))), some (zi p19.1)], [], p19.2)) rfl ?_
                        refine zG_sub (lv' := [some (zr 42 0), some (zi v1), some (zi v2), none, none, none, some (zi p19.1)]) (zsb_s rfl (zsb_s rfl (zsb_s rfl (zsb_n (zsb_n (zsb_n (zsb_s rfl zsb_0))))))) ?_
                        exact g_X11_played_j227 hd h kc kb kr
                      · rw [if_neg c18] at h
                        by_cases c20 : zw (M 47 0 (zix ((24 * v1) + v2))) = 10
                        · rw [if_pos c20] at h
                          refine zG_tIn hm rfl (tgt := 216) (off := 153) c20 (by decide) rfl (by decide) ?_
                          refine zG_run hm 2 (cf' := (219, [some (zr 42 0), some (zi v1), some (zi v2), some (zi ((24 * v1) + v2)), some (zi (M 49 0 (zix ((24 * v1) + v2)))), some (zi (M 50 0 (zix ((24 * v1) + v2)))), some (zi 1)], [zi (M 49 0 (zix ((24 * v1) + v2))), zr 42 0], M)) rfl ?_
                          obtain ⟨p21, hp21, h⟩ := Option.bind_eq_some_iff.mp h
                          refine zG_V hm zmok_194 rfl (as := [zi (M 49 0 (zix ((24 * v1) + v2)))]) (rest := []) (st2 := [zi p21.1]) (pc2 := 222) rfl rfl (by omega) (met_X11_days (d := 8) (Nat.le_refl _) hp21) rfl ?_
                          refine zG_run hm 2 (cf' := (227, [some (zr 42 0), some (zi v1), some (zi v2), some (zi ((24 * v1) + v2)), some (zi (M 49 0 (zix ((24 * v1) + v2)))), some (zi (M 50 0 (zix ((24 * v1) + v2)))), some (zi p21.1)], [], p21.2)) rfl ?_
                          refine zG_sub (lv' := [some (zr 42 0), some (zi v1), some (zi v2), none, none, none, some (zi p21.1)]) (zsb_s rfl (zsb_s rfl (zsb_s rfl (zsb_n (zsb_n (zsb_n (zsb_s rfl zsb_0))))))) ?_
                          exact g_X11_played_j227 hd h kc kb kr
                        · rw [if_neg c20] at h
                          refine zG_tOut hm rfl (tgt := 227) (by omega) (by decide) ?_
                          refine zG_sub (lv' := [some (zr 42 0), some (zi v1), some (zi v2), none, none, none, some (zi 1)]) (zsb_s rfl (zsb_s rfl (zsb_s rfl (zsb_n (zsb_n (zsb_n (zsb_s rfl zsb_0))))))) ?_
                          exact g_X11_played_j227 hd h kc kb kr
          · rw [if_neg c22] at h
            cases h
        · rw [if_neg c23] at h
          cases h
      · rw [if_neg c24] at h
        cases h
  · rw [if_neg c26] at h
    cases h
theorem gl_X11_played_L21 {v1 : Int} {y : (Int × zM) ⊕ (zM)} {r : Option zV} {Mf : zM} {d : Nat} (hd : 9 ≤ d)
    (kb : ∀ t, y = .inr t → zG 195 d (240, [none, none, none, none, none, none, none], [], t) r Mf) (kr : ∀ q, y = .inl q → r = some (zi q.1) ∧ Mf = q.2) : ∀ (n : Nat) (s : Int × zM), zlp (fun s : Int × zM => f_X11_played_L21 v1 s.1 s.2) n s = some y → zG 195 d (21, [some (zr 42 0), some (zi v1), some (zi s.1), none, none, none, none], [], s.2) r Mf := by
  intro n
  induction n with
  | zero => intro s h; cases h
  | succ n ih =>
    intro s h
    rcases zlp_cases h with ⟨s', h1, h2⟩ | h1
    · exact g_X11_played_L21 hd h1 (fun s2 e2 => by cases e2; exact ih _ h2) (fun t e2 => by cases e2) (fun q e2 => by cases e2)
    · exact g_X11_played_L21 hd h1 (fun s2 e2 => by cases e2) (fun t e2 => kb t (Sum.inr.inj e2)) (fun q e2 => kr q (Sum.inr.inj e2))
def f_X11_played (v1 : Int) (M : zM) : Option (Int × zM) :=
  (f_X11_in v1 0 ((M 43 0 3) - 1) M).bind fun p1 =>
    if ¬ zw p1.1 = 0 then
      (zlp (fun s : Int × zM => f_X11_played_L21 v1 s.1 s.2) zF (0, p1.2)).bind fun y27 =>
        match y27 with
        | .inl q29 => some q29
        | .inr t28 =>
          some ((-1), t28)
    else
      some ((-2), p1.2)
theorem g_X11_played {v1 : Int} {M : zM} {q : Int × zM} {d : Nat} (hd : 9 ≤ d) (h : f_X11_played v1 M = some q) : zG 195 d (0, [some (zr 42 0), some (zi v1), none, none, none, none, none], [], M) (some (zi q.1)) q.2 := by
  have hm := zmok_195
  unfold f_X11_played at h
  refine zG_run hm 8 (cf' := (10, [some (zr 42 0), some (zi v1), none, none, none, none, none], [zi ((M 43 0 3) - 1), zi 0, zi v1], M)) rfl ?_
  obtain ⟨p1, hp1, h⟩ := Option.bind_eq_some_iff.mp h
  refine zG_S hm zmok_117 rfl (as := [zi v1, zi 0, zi ((M 43 0 3) - 1)]) (rest := []) (st2 := [zi p1.1]) (pc2 := 13) rfl rfl (by omega) (met_X11_in (d := 0) (Nat.le_refl _) hp1) rfl ?_
  by_cases c30 : ¬ zw p1.1 = 0
  · rw [if_pos c30] at h
    refine zG_br hm rfl (cf' := (19, [some (zr 42 0), some (zi v1), none, none, none, none, none], [], p1.2)) (if_pos c30) ?_
    refine zG_run hm 2 (cf' := (21, [some (zr 42 0), some (zi v1), some (zi 0), none, none, none, none], [], p1.2)) rfl ?_
    refine zG_sub (lv' := [some (zr 42 0), some (zi v1), some (zi 0), none, none, none, none]) (zsb_s rfl (zsb_s rfl (zsb_s rfl (zsb_n (zsb_n (zsb_n (zsb_n zsb_0))))))) ?_
    obtain ⟨y27, hy27, h⟩ := Option.bind_eq_some_iff.mp h
    refine gl_X11_played_L21 hd (fun t28 e2 => ?_) (fun q e2 => ?_) zF (0, p1.2) hy27
    · cases e2
      refine zG_run hm 1 (cf' := (241, [none, none, none, none, none, none, none], [zi (-1)], t28)) rfl ?_
      cases h
      exact zG_ri hm rfl rfl
    · cases e2
      cases h
      exact ⟨rfl, rfl⟩
  · rw [if_neg c30] at h
    refine zG_br hm rfl (cf' := (16, [some (zr 42 0), some (zi v1), none, none, none, none, none], [], p1.2)) (if_neg c30) ?_
    refine zG_run hm 1 (cf' := (18, [some (zr 42 0), some (zi v1), none, none, none, none, none], [zi (-2)], p1.2)) rfl ?_
    cases h
    exact zG_ri hm rfl rfl
theorem met_X11_played {v1 : Int} {M : zM} {q : Int × zM} {d : Nat} (hd : 9 ≤ d) (h : f_X11_played v1 M = some q) : zMet 195 d [zr 42 0, zi v1] M (some (zi q.1)) q.2 :=
  zMet_of (lv0 := [some (zr 42 0), some (zi v1), none, none, none, none, none]) zmok_195 rfl rfl (fun v hv => by cases hv; trivial) (g_X11_played hd h)
def f_X0_load_j50 (n0 : Nat) (n1 : Nat) (v2 : Int) (vs0 : Int) (vs1 : Int) (ns2 : Nat) (M : zM) : Option ((Int × zM) ⊕ (zM)) :=
  if 0 ≤ zw vs1 ∧ zw vs1 < 6 then
    zlet (zput M 13 ns2 (zix vs1) vs0) fun M4 =>
    some (.inl ((v2 + 1), M4))
  else
    none
theorem g_X0_load_j50 {n0 : Nat} {n1 : Nat} {v2 : Int} {vs0 : Int} {vs1 : Int} {ns2 : Nat} {M : zM} {x : (Int × zM) ⊕ (zM)} {r : Option zV} {Mf : zM} {d : Nat} (hd : 1 ≤ d) (h : f_X0_load_j50 n0 n1 v2 vs0 vs1 ns2 M = some x)
    (kc : ∀ s, x = .inl s → zG 2 d (23, [some (zr 11 n0), some (zr 22 n1), some (zi s.1), none], [], s.2) r Mf)
    (kb : ∀ t, x = .inr t → zG 2 d (57, [some (zr 11 n0), some (zr 22 n1), none, none], [], t) r Mf) (kr : True) : zG 2 d (50, [some (zr 11 n0), some (zr 22 n1), some (zi v2), none], [zi vs0, zi vs1, zr 13 ns2], M) r Mf := by
  have hm := zmok_2
  unfold f_X0_load_j50 at h
  by_cases c5 : 0 ≤ zw vs1 ∧ zw vs1 < 6
  · rw [if_pos c5] at h
    refine zG_br hm rfl (cf' := (51, [some (zr 11 n0), some (zr 22 n1), some (zi v2), none], [], (zput M 13 ns2 (zix vs1) vs0))) (if_pos c5) ?_
    obtain ⟨M4, eM4, h⟩ := zlet_of h
    rw [eM4]
    refine zG_run hm 2 (cf' := (23, [some (zr 11 n0), some (zr 22 n1), some (zi (v2 + 1)), none], [], M4)) rfl ?_
    refine zG_sub (lv' := [some (zr 11 n0), some (zr 22 n1), some (zi (v2 + 1)), none]) (zsb_s rfl (zsb_s rfl (zsb_s rfl (zsb_n zsb_0)))) ?_
    exact kc ((v2 + 1), M4) (Option.some.inj h).symm
  · rw [if_neg c5] at h
    cases h
def f_X0_load_L23 (n0 : Nat) (n1 : Nat) (v2 : Int) (M : zM) : Option ((Int × zM) ⊕ (zM)) :=
  if 6 ≤ zw v2 then
    some (.inr M)
  else
    if zw (M 22 n1 2) ≤ zw v2 then
      f_X0_load_j50 n0 n1 v2 0 v2 n0 M
    else
      if 0 ≤ zw (5 + v2) ∧ zw (5 + v2) < 73 then
        f_X0_load_j50 n0 n1 v2 (M 22 n1 (zix (5 + v2))) v2 n0 M
      else
        none
theorem g_X0_load_L23 {n0 : Nat} {n1 : Nat} {v2 : Int} {M : zM} {x : (Int × zM) ⊕ (zM)} {r : Option zV} {Mf : zM} {d : Nat} (hd : 1 ≤ d) (h : f_X0_load_L23 n0 n1 v2 M = some x)
    (kc : ∀ s, x = .inl s → zG 2 d (23, [some (zr 11 n0), some (zr 22 n1), some (zi s.1), none], [], s.2) r Mf)
    (kb : ∀ t, x = .inr t → zG 2 d (57, [some (zr 11 n0), some (zr 22 n1), none, none], [], t) r Mf) (kr : True) : zG 2 d (23, [some (zr 11 n0), some (zr 22 n1), some (zi v2), none], [], M) r Mf := by
  have hm := zmok_2
  unfold f_X0_load_L23 at h
  refine zG_run hm 2 (cf' := (26, [some (zr 11 n0), some (zr 22 n1), some (zi v2), none], [zi 6, zi v2], M)) rfl ?_
  by_cases c8 : 6 ≤ zw v2
  · rw [if_pos c8] at h
    refine zG_br hm rfl (cf' := (57, [some (zr 11 n0), some (zr 22 n1), some (zi v2), none], [], M)) (if_pos c8) ?_
    refine zG_sub (lv' := [some (zr 11 n0), some (zr 22 n1), none, none]) (zsb_s rfl (zsb_s rfl (zsb_n (zsb_n zsb_0)))) ?_
    exact kb M (Option.some.inj h).symm
  · rw [if_neg c8] at h
    refine zG_br hm rfl (cf' := (29, [some (zr 11 n0), some (zr 22 n1), some (zi v2), none], [], M)) (if_neg c8) ?_
    refine zG_run hm 7 (cf' := (38, [some (zr 11 n0), some (zr 22 n1), some (zi v2), none], [zi (M 22 n1 2), zi v2, zi v2, zr 13 n0], M)) rfl ?_
    by_cases c7 : zw (M 22 n1 2) ≤ zw v2
    · rw [if_pos c7] at h
      refine zG_br hm rfl (cf' := (49, [some (zr 11 n0), some (zr 22 n1), some (zi v2), none], [zi v2, zr 13 n0], M)) (if_pos c7) ?_
      refine zG_run hm 1 (cf' := (50, [some (zr 11 n0), some (zr 22 n1), some (zi v2), none], [zi 0, zi v2, zr 13 n0], M)) rfl ?_
      refine zG_sub (lv' := [some (zr 11 n0), some (zr 22 n1), some (zi v2), none]) (zsb_s rfl (zsb_s rfl (zsb_s rfl (zsb_n zsb_0)))) ?_
      exact g_X0_load_j50 hd h kc kb kr
    · rw [if_neg c7] at h
      refine zG_br hm rfl (cf' := (41, [some (zr 11 n0), some (zr 22 n1), some (zi v2), none], [zi v2, zr 13 n0], M)) (if_neg c7) ?_
      refine zG_run hm 4 (cf' := (45, [some (zr 11 n0), some (zr 22 n1), some (zi v2), none], [zi (5 + v2), zr 22 n1, zi v2, zr 13 n0], M)) rfl ?_
      by_cases c6 : 0 ≤ zw (5 + v2) ∧ zw (5 + v2) < 73
      · rw [if_pos c6] at h
        refine zG_br hm rfl (cf' := (46, [some (zr 11 n0), some (zr 22 n1), some (zi v2), none], [zi (M 22 n1 (zix (5 + v2))), zi v2, zr 13 n0], M)) (if_pos c6) ?_
        refine zG_run hm 1 (cf' := (50, [some (zr 11 n0), some (zr 22 n1), some (zi v2), none], [zi (M 22 n1 (zix (5 + v2))), zi v2, zr 13 n0], M)) rfl ?_
        refine zG_sub (lv' := [some (zr 11 n0), some (zr 22 n1), some (zi v2), none]) (zsb_s rfl (zsb_s rfl (zsb_s rfl (zsb_n zsb_0)))) ?_
        exact g_X0_load_j50 hd h kc kb kr
      · rw [if_neg c6] at h
        cases h
theorem gl_X0_load_L23 {n0 : Nat} {n1 : Nat} {y : zM} {r : Option zV} {Mf : zM} {d : Nat} (hd : 1 ≤ d)
    (kb : ∀ t, y = t → zG 2 d (57, [some (zr 11 n0), some (zr 22 n1), none, none], [], t) r Mf) (kr : True) : ∀ (n : Nat) (s : Int × zM), zlp (fun s : Int × zM => f_X0_load_L23 n0 n1 s.1 s.2) n s = some y → zG 2 d (23, [some (zr 11 n0), some (zr 22 n1), some (zi s.1), none], [], s.2) r Mf := by
  intro n
  induction n with
  | zero => intro s h; cases h
  | succ n ih =>
    intro s h
    rcases zlp_cases h with ⟨s', h1, h2⟩ | h1
    · exact g_X0_load_L23 hd h1 (fun s2 e2 => by cases e2; exact ih _ h2) (fun t e2 => by cases e2) trivial
    · exact g_X0_load_L23 hd h1 (fun s2 e2 => by cases e2) (fun t e2 => kb t (Sum.inr.inj e2)) trivial
def f_X0_load_j170 (n0 : Nat) (n1 : Nat) (v2 : Int) (v3 : Int) (M : zM) : Option ((Int × zM) ⊕ (zM)) :=
  some (.inl ((v3 + 1), M))
theorem g_X0_load_j170 {n0 : Nat} {n1 : Nat} {v2 : Int} {v3 : Int} {M : zM} {x : (Int × zM) ⊕ (zM)} {r : Option zV} {Mf : zM} {d : Nat} (hd : 1 ≤ d) (h : f_X0_load_j170 n0 n1 v2 v3 M = some x)
    (kc : ∀ s, x = .inl s → zG 2 d (75, [some (zr 11 n0), some (zr 22 n1), some (zi v2), some (zi s.1)], [], s.2) r Mf)
    (kb : ∀ t, x = .inr t → zG 2 d (176, [none, none, none, none], [], t) r Mf) (kr : True) : zG 2 d (170, [some (zr 11 n0), some (zr 22 n1), some (zi v2), some (zi v3)], [], M) r Mf := by
  have hm := zmok_2
  unfold f_X0_load_j170 at h
  refine zG_run hm 2 (cf' := (75, [some (zr 11 n0), some (zr 22 n1), some (zi v2), some (zi (v3 + 1))], [], M)) rfl ?_
  refine zG_sub (lv' := [some (zr 11 n0), some (zr 22 n1), some (zi v2), some (zi (v3 + 1))]) (zsb_s rfl (zsb_s rfl (zsb_s rfl (zsb_s rfl zsb_0)))) ?_
  exact kc ((v3 + 1), M) (Option.some.inj h).symm
def f_X0_load_L75 (n0 : Nat) (n1 : Nat) (v2 : Int) (v3 : Int) (M : zM) : Option ((Int × zM) ⊕ (zM)) :=
  if 8 ≤ zw v3 then
    some (.inr M)
  else
    if zw (M 22 n1 3) ≤ zw v3 then
      if 0 ≤ zw v3 ∧ zw v3 < 8 then
        (f_X8_beAsTold ((zix v3) + 8 * n0) M).bind fun p11 =>
          f_X0_load_j170 n0 n1 v2 v3 p11
      else
        none
    else
      if 0 ≤ zw v3 ∧ zw v3 < 8 then
        if 0 ≤ zw (v2 + (4 * v3)) ∧ zw (v2 + (4 * v3)) < 73 then
          zlet (zput M 16 ((zix v3) + 8 * n0) 3 (M 22 n1 (zix (v2 + (4 * v3))))) fun M13 =>
          if 0 ≤ zw v3 ∧ zw v3 < 8 then
            if 0 ≤ zw ((v2 + (4 * v3)) + 1) ∧ zw ((v2 + (4 * v3)) + 1) < 73 then
              zlet (zput M13 16 ((zix v3) + 8 * n0) 4 (M13 22 n1 (zix ((v2 + (4 * v3)) + 1)))) fun M14 =>
              if 0 ≤ zw v3 ∧ zw v3 < 8 then
                if 0 ≤ zw ((v2 + (4 * v3)) + 2) ∧ zw ((v2 + (4 * v3)) + 2) < 73 then
                  zlet (zput M14 16 ((zix v3) + 8 * n0) 5 (M14 22 n1 (zix ((v2 + (4 * v3)) + 2)))) fun M15 =>
                  if 0 ≤ zw v3 ∧ zw v3 < 8 then
                    if 0 ≤ zw ((v2 + (4 * v3)) + 3) ∧ zw ((v2 + (4 * v3)) + 3) < 73 then
                      zlet (zput M15 16 ((zix v3) + 8 * n0) 6 (M15 22 n1 (zix ((v2 + (4 * v3)) + 3)))) fun M16 =>
                      f_X0_load_j170 n0 n1 v2 v3 M16
                    else
                      none
                  else
                    none
                else
                  none
              else
                none
            else
              none
          else
            none
        else
          none
      else
        none
theorem g_X0_load_L75 {n0 : Nat} {n1 : Nat} {v2 : Int} {v3 : Int} {M : zM} {x : (Int × zM) ⊕ (zM)} {r : Option zV} {Mf : zM} {d : Nat} (hd : 1 ≤ d) (h : f_X0_load_L75 n0 n1 v2 v3 M = some x)
    (kc : ∀ s, x = .inl s → zG 2 d (75, [some (zr 11 n0), some (zr 22 n1), some (zi v2), some (zi s.1)], [], s.2) r Mf)
    (kb : ∀ t, x = .inr t → zG 2 d (176, [none, none, none, none], [], t) r Mf) (kr : True) : zG 2 d (75, [some (zr 11 n0), some (zr 22 n1), some (zi v2), some (zi v3)], [], M) r Mf := by
  have hm := zmok_2
  unfold f_X0_load_L75 at h
  refine zG_run hm 2 (cf' := (78, [some (zr 11 n0), some (zr 22 n1), some (zi v2), some (zi v3)], [zi 8, zi v3], M)) rfl ?_
  by_cases c26 : 8 ≤ zw v3
  · rw [if_pos c26] at h
    refine zG_br hm rfl (cf' := (176, [some (zr 11 n0), some (zr 22 n1), some (zi v2), some (zi v3)], [], M)) (if_pos c26) ?_
    refine zG_sub (lv' := [none, none, none, none]) (zsb_n (zsb_n (zsb_n (zsb_n zsb_0)))) ?_
    exact kb M (Option.some.inj h).symm
  · rw [if_neg c26] at h
    refine zG_br hm rfl (cf' := (81, [some (zr 11 n0), some (zr 22 n1), some (zi v2), some (zi v3)], [], M)) (if_neg c26) ?_
    refine zG_run hm 4 (cf' := (85, [some (zr 11 n0), some (zr 22 n1), some (zi v2), some (zi v3)], [zi (M 22 n1 3), zi v3], M)) rfl ?_
    by_cases c25 : zw (M 22 n1 3) ≤ zw v3
    · rw [if_pos c25] at h
      refine zG_br hm rfl (cf' := (161, [some (zr 11 n0), some (zr 22 n1), some (zi v2), some (zi v3)], [], M)) (if_pos c25) ?_
      refine zG_run hm 3 (cf' := (166, [some (zr 11 n0), some (zr 22 n1), some (zi v2), some (zi v3)], [zi v3, zr 14 n0], M)) rfl ?_
      by_cases c12 : 0 ≤ zw v3 ∧ zw v3 < 8
      · rw [if_pos c12] at h
        refine zG_br hm rfl (cf' := (167, [some (zr 11 n0), some (zr 22 n1), some (zi v2), some (zi v3)], [zr 16 ((zix v3) + 8 * n0)], M)) (if_pos c12) ?_
        obtain ⟨p11, hp11, h⟩ := Option.bind_eq_some_iff.mp h
        refine zG_V hm zmok_59 rfl (as := []) (rest := []) (st2 := []) (pc2 := 170) rfl rfl (by omega) (met_X8_beAsTold (d := 0) (Nat.le_refl _) hp11) rfl ?_
        refine zG_sub (lv' := [some (zr 11 n0), some (zr 22 n1), some (zi v2), some (zi v3)]) (zsb_s rfl (zsb_s rfl (zsb_s rfl (zsb_s rfl zsb_0)))) ?_
        exact g_X0_load_j170 hd h kc kb kr
      · rw [if_neg c12] at h
        cases h
    · rw [if_neg c25] at h
      refine zG_br hm rfl (cf' := (88, [some (zr 11 n0), some (zr 22 n1), some (zi v2), some (zi v3)], [], M)) (if_neg c25) ?_
      refine zG_run hm 3 (cf' := (93, [some (zr 11 n0), some (zr 22 n1), some (zi v2), some (zi v3)], [zi v3, zr 14 n0], M)) rfl ?_
      by_cases c24 : 0 ≤ zw v3 ∧ zw v3 < 8
      · rw [if_pos c24] at h
        refine zG_br hm rfl (cf' := (94, [some (zr 11 n0), some (zr 22 n1), some (zi v2), some (zi v3)], [zr 16 ((zix v3) + 8 * n0)], M)) (if_pos c24) ?_
        refine zG_run hm 6 (cf' := (100, [some (zr 11 n0), some (zr 22 n1), some (zi v2), some (zi v3)], [zi (v2 + (4 * v3)), zr 22 n1, zr 16 ((zix v3) + 8 * n0)], M)) rfl ?_
        by_cases c23 : 0 ≤ zw (v2 + (4 * v3)) ∧ zw (v2 + (4 * v3)) < 73
        · rw [if_pos c23] at h
          refine zG_br hm rfl (cf' := (101, [some (zr 11 n0), some (zr 22 n1), some (zi v2), some (zi v3)], [zi (M 22 n1 (zix (v2 + (4 * v3)))), zr 16 ((zix v3) + 8 * n0)], M)) (if_pos c23) ?_
          refine zG_run hm 1 (cf' := (104, [some (zr 11 n0), some (zr 22 n1), some (zi v2), some (zi v3)], [], (zput M 16 ((zix v3) + 8 * n0) 3 (M 22 n1 (zix (v2 + (4 * v3))))))) rfl ?_
          obtain ⟨M13, eM13, h⟩ := zlet_of h
          rw [eM13]
          refine zG_run hm 3 (cf' := (109, [some (zr 11 n0), some (zr 22 n1), some (zi v2), some (zi v3)], [zi v3, zr 14 n0], M13)) rfl ?_
          by_cases c22 : 0 ≤ zw v3 ∧ zw v3 < 8
          · rw [if_pos c22] at h
            refine zG_br hm rfl (cf' := (110, [some (zr 11 n0), some (zr 22 n1), some (zi v2), some (zi v3)], [zr 16 ((zix v3) + 8 * n0)], M13)) (if_pos c22) ?_
            refine zG_run hm 8 (cf' := (118, [some (zr 11 n0), some (zr 22 n1), some (zi v2), some (zi v3)], [zi ((v2 + (4 * v3)) + 1), zr 22 n1, zr 16 ((zix v3) + 8 * n0)], M13)) rfl ?_
            by_cases c21 : 0 ≤ zw ((v2 + (4 * v3)) + 1) ∧ zw ((v2 + (4 * v3)) + 1) < 73
            · rw [if_pos c21] at h
              refine zG_br hm rfl (cf' := (119, [some (zr 11 n0), some (zr 22 n1), some (zi v2), some (zi v3)], [zi (M13 22 n1 (zix ((v2 + (4 * v3)) + 1))), zr 16 ((zix v3) + 8 * n0)], M13)) (if_pos c21) ?_
              refine zG_run hm 1 (cf' := (122, [some (zr 11 n0), some (zr 22 n1), some (zi v2), some (zi v3)], [], (zput M13 16 ((zix v3) + 8 * n0) 4 (M13 22 n1 (zix ((v2 + (4 * v3)) + 1)))))) rfl ?_
              obtain ⟨M14, eM14, h⟩ := zlet_of h
              rw [eM14]
              refine zG_run hm 3 (cf' := (127, [some (zr 11 n0), some (zr 22 n1), some (zi v2), some (zi v3)], [zi v3, zr 14 n0], M14)) rfl ?_
              by_cases c20 : 0 ≤ zw v3 ∧ zw v3 < 8
              · rw [if_pos c20] at h
                refine zG_br hm rfl (cf' := (128, [some (zr 11 n0), some (zr 22 n1), some (zi v2), some (zi v3)], [zr 16 ((zix v3) + 8 * n0)], M14)) (if_pos c20) ?_
                refine zG_run hm 8 (cf' := (136, [some (zr 11 n0), some (zr 22 n1), some (zi v2), some (zi v3)], [zi ((v2 + (4 * v3)) + 2), zr 22 n1, zr 16 ((zix v3) + 8 * n0)], M14)) rfl ?_
                by_cases c19 : 0 ≤ zw ((v2 + (4 * v3)) + 2) ∧ zw ((v2 + (4 * v3)) + 2) < 73
                · rw [if_pos c19] at h
                  refine zG_br hm rfl (cf' := (137, [some (zr 11 n0), some (zr 22 n1), some (zi v2), some (zi v3)], [zi (M14 22 n1 (zix ((v2 + (4 * v3)) + 2))), zr 16 ((zix v3) + 8 * n0)], M14)) (if_pos c19) ?_
                  refine zG_run hm 1 (cf' := (140, [some (zr 11 n0), some (zr 22 n1), some (zi v2), some (zi v3)], [], (zput M14 16 ((zix v3) + 8 * n0) 5 (M14 22 n1 (zix ((v2 + (4 * v3)) + 2)))))) rfl ?_
                  obtain ⟨M15, eM15, h⟩ := zlet_of h
                  rw [eM15]
                  refine zG_run hm 3 (cf' := (145, [some (zr 11 n0), some (zr 22 n1), some (zi v2), some (zi v3)], [zi v3, zr 14 n0], M15)) rfl ?_
                  by_cases c18 : 0 ≤ zw v3 ∧ zw v3 < 8
                  · rw [if_pos c18] at h
                    refine zG_br hm rfl (cf' := (146, [some (zr 11 n0), some (zr 22 n1), some (zi v2), some (zi v3)], [zr 16 ((zix v3) + 8 * n0)], M15)) (if_pos c18) ?_
                    refine zG_run hm 8 (cf' := (154, [some (zr 11 n0), some (zr 22 n1), some (zi v2), some (zi v3)], [zi ((v2 + (4 * v3)) + 3), zr 22 n1, zr 16 ((zix v3) + 8 * n0)], M15)) rfl ?_
                    by_cases c17 : 0 ≤ zw ((v2 + (4 * v3)) + 3) ∧ zw ((v2 + (4 * v3)) + 3) < 73
                    · rw [if_pos c17] at h
                      refine zG_br hm rfl (cf' := (155, [some (zr 11 n0), some (zr 22 n1), some (zi v2), some (zi v3)], [zi (M15 22 n1 (zix ((v2 + (4 * v3)) + 3))), zr 16 ((zix v3) + 8 * n0)], M15)) (if_pos c17) ?_
                      refine zG_run hm 1 (cf' := (158, [some (zr 11 n0), some (zr 22 n1), some (zi v2), some (zi v3)], [], (zput M15 16 ((zix v3) + 8 * n0) 6 (M15 22 n1 (zix ((v2 + (4 * v3)) + 3)))))) rfl ?_
                      obtain ⟨M16, eM16, h⟩ := zlet_of h
                      rw [eM16]
                      refine zG_run hm 1 (cf' := (170, [some (zr 11 n0), some (zr 22 n1), some (zi v2), some (zi v3)], [], M16)) rfl ?_
                      refine zG_sub (lv' := [some (zr 11 n0), some (zr 22 n1), some (zi v2), some (zi v3)]) (zsb_s rfl (zsb_s rfl (zsb_s rfl (zsb_s rfl zsb_0)))) ?_
                      exact g_X0_load_j170 hd h kc kb kr
                    · rw [if_neg c17] at h
                      cases h
                  · rw [if_neg c18] at h
                    cases h
                · rw [if_neg c19] at h
                  cases h
              · rw [if_neg c20] at h
                cases h
            · rw [if_neg c21] at h
              cases h
          · rw [if_neg c22] at h
            cases h
        · rw [if_neg c23] at h
          cases h
      · rw [if_neg c24] at h
        cases h
theorem gl_X0_load_L75 {n0 : Nat} {n1 : Nat} {v2 : Int} {y : zM} {r : Option zV} {Mf : zM} {d : Nat} (hd : 1 ≤ d)
    (kb : ∀ t, y = t → zG 2 d (176, [none, none, none, none], [], t) r Mf) (kr : True) : ∀ (n : Nat) (s : Int × zM), zlp (fun s : Int × zM => f_X0_load_L75 n0 n1 v2 s.1 s.2) n s = some y → zG 2 d (75, [some (zr 11 n0), some (zr 22 n1), some (zi v2), some (zi s.1)], [], s.2) r Mf := by
  intro n
  induction n with
  | zero => intro s h; cases h
  | succ n ih =>
    intro s h
    rcases zlp_cases h with ⟨s', h1, h2⟩ | h1
    · exact g_X0_load_L75 hd h1 (fun s2 e2 => by cases e2; exact ih _ h2) (fun t e2 => by cases e2) trivial
    · exact g_X0_load_L75 hd h1 (fun s2 e2 => by cases e2) (fun t e2 => kb t (Sum.inr.inj e2)) trivial
def f_X0_load (n0 : Nat) (n1 : Nat) (M : zM) : Option (zM) :=
  zlet (zput M 11 n0 10 (M 22 n1 0)) fun M1 =>
  zlet (zput M1 11 n0 11 (M1 22 n1 1)) fun M2 =>
  zlet (zput M2 11 n0 8 (M2 22 n1 4)) fun M3 =>
  (zlp (fun s : Int × zM => f_X0_load_L23 n0 n1 s.1 s.2) zF (0, M3)).bind fun y9 =>
    zlet (zcopy y9 22 n1 11 15 n0 0 30) fun M10 =>
    (zlp (fun s : Int × zM => f_X0_load_L75 n0 n1 41 s.1 s.2) zF (0, M10)).bind fun y27 =>
      some y27
theorem g_X0_load {n0 : Nat} {n1 : Nat} {M : zM} {q : zM} {d : Nat} (hd : 1 ≤ d) (h : f_X0_load n0 n1 M = some q) : zG 2 d (0, [some (zr 11 n0), some (zr 22 n1), none, none], [], M) none q := by
  have hm := zmok_2
  unfold f_X0_load at h
  refine zG_run hm 5 (cf' := (7, [some (zr 11 n0), some (zr 22 n1), none, none], [], (zput M 11 n0 10 (M 22 n1 0)))) rfl ?_
  obtain ⟨M1, eM1, h⟩ := zlet_of h
  rw [eM1]
  refine zG_run hm 5 (cf' := (14, [some (zr 11 n0), some (zr 22 n1), none, none], [], (zput M1 11 n0 11 (M1 22 n1 1)))) rfl ?_
  obtain ⟨M2, eM2, h⟩ := zlet_of h
  rw [eM2]
  refine zG_run hm 5 (cf' := (21, [some (zr 11 n0), some (zr 22 n1), none, none], [], (zput M2 11 n0 8 (M2 22 n1 4)))) rfl ?_
  obtain ⟨M3, eM3, h⟩ := zlet_of h
  rw [eM3]
  refine zG_run hm 2 (cf' := (23, [some (zr 11 n0), some (zr 22 n1), some (zi 0), none], [], M3)) rfl ?_
  refine zG_sub (lv' := [some (zr 11 n0), some (zr 22 n1), some (zi 0), none]) (zsb_s rfl (zsb_s rfl (zsb_s rfl (zsb_n zsb_0)))) ?_
  obtain ⟨y9, hy9, h⟩ := Option.bind_eq_some_iff.mp h
  refine gl_X0_load_L23 hd (fun t e2 => ?_) trivial zF (0, M3) hy9
  cases e2
  refine zG_run hm 6 (cf' := (67, [some (zr 11 n0), some (zr 22 n1), none, none], [zi 30, zi 0, zr 15 n0, zi 11, zr 22 n1], y9)) rfl ?_
  refine zG_copy hm rfl 0 (Or.inl rfl) rfl (by decide) (by decide) (by decide) rfl rfl rfl ?_
  show zG 2 d (70, [some (zr 11 n0), some (zr 22 n1), none, none], [], (zcopy y9 22 n1 11 15 n0 0 30)) _ _
  obtain ⟨M10, eM10, h⟩ := zlet_of h
  rw [eM10]
  refine zG_run hm 4 (cf' := (75, [some (zr 11 n0), some (zr 22 n1), some (zi 41), some (zi 0)], [], M10)) rfl ?_
  refine zG_sub (lv' := [some (zr 11 n0), some (zr 22 n1), some (zi 41), some (zi 0)]) (zsb_s rfl (zsb_s rfl (zsb_s rfl (zsb_s rfl zsb_0)))) ?_
  obtain ⟨y27, hy27, h⟩ := Option.bind_eq_some_iff.mp h
  refine gl_X0_load_L75 hd (fun t e2 => ?_) trivial zF (0, M10) hy27
  cases e2
  cases h
  exact zG_rv hm rfl rfl
theorem met_X0_load {n0 : Nat} {n1 : Nat} {M : zM} {q : zM} {d : Nat} (hd : 1 ≤ d) (h : f_X0_load n0 n1 M = some q) : zMet 2 d [zr 11 n0, zr 22 n1] M none q :=
  zMet_of (lv0 := [some (zr 11 n0), some (zr 22 n1), none, none]) zmok_2 rfl rfl (fun v hv => by cases hv) (g_X0_load hd h)
def f_X5_takeBack (n0 : Nat) (n1 : Nat) (M : zM) : Option (zM) :=
  zlet (zput M 20 n0 2 (zrem (zw (((M 20 n0 2) + 30) - 1)) 30)) fun M1 =>
  zlet (zput M1 20 n0 1 ((M1 20 n0 1) - 1)) fun M2 =>
  if 0 ≤ zw (M2 20 n0 2) ∧ zw (M2 20 n0 2) < 30 then
    (f_X0_load n1 ((zix (M2 20 n0 2)) + 30 * n0) M2).bind fun p3 =>
      some p3
  else
    none
theorem g_X5_takeBack {n0 : Nat} {n1 : Nat} {M : zM} {q : zM} {d : Nat} (hd : 2 ≤ d) (h : f_X5_takeBack n0 n1 M = some q) : zG 51 d (0, [some (zr 20 n0), some (zr 11 n1)], [], M) none q := by
  have hm := zmok_51
  unfold f_X5_takeBack at h
  refine zG_run hm 10 (cf' := (16, [some (zr 20 n0), some (zr 11 n1)], [], (zput M 20 n0 2 (zrem (zw (((M 20 n0 2) + 30) - 1)) 30)))) rfl ?_
  obtain ⟨M1, eM1, h⟩ := zlet_of h
  rw [eM1]
  refine zG_run hm 6 (cf' := (26, [some (zr 20 n0), some (zr 11 n1)], [], (zput M1 20 n0 1 ((M1 20 n0 1) - 1)))) rfl ?_
  obtain ⟨M2, eM2, h⟩ := zlet_of h
  rw [eM2]
  refine zG_run hm 5 (cf' := (35, [some (zr 20 n0), some (zr 11 n1)], [zi (M2 20 n0 2), zr 21 n0, zr 11 n1], M2)) rfl ?_
  by_cases c4 : 0 ≤ zw (M2 20 n0 2) ∧ zw (M2 20 n0 2) < 30
  · rw [if_pos c4] at h
    refine zG_br hm rfl (cf' := (36, [some (zr 20 n0), some (zr 11 n1)], [zr 22 ((zix (M2 20 n0 2)) + 30 * n0), zr 11 n1], M2)) (if_pos c4) ?_
    obtain ⟨p3, hp3, h⟩ := Option.bind_eq_some_iff.mp h
    refine zG_V hm zmok_2 rfl (as := [zr 22 ((zix (M2 20 n0 2)) + 30 * n0)]) (rest := []) (st2 := []) (pc2 := 39) rfl rfl (by omega) (met_X0_load (d := 1) (Nat.le_refl _) hp3) rfl ?_
    cases h
    exact zG_rv hm rfl rfl
  · rw [if_neg c4] at h
    cases h
theorem met_X5_takeBack {n0 : Nat} {n1 : Nat} {M : zM} {q : zM} {d : Nat} (hd : 2 ≤ d) (h : f_X5_takeBack n0 n1 M = some q) : zMet 51 d [zr 20 n0, zr 11 n1] M none q :=
  zMet_of (lv0 := [some (zr 20 n0), some (zr 11 n1)]) zmok_51 rfl rfl (fun v hv => by cases hv) (g_X5_takeBack hd h)
def f_X10_undo  (M : zM) : Option (Int × zM) :=
  if ¬ zw (M 20 0 1) = 0 then
    (f_X5_takeBack 0 0 M).bind fun p1 =>
      some ((p1 20 0 1), p1)
  else
    some ((-1), M)
theorem g_X10_undo  {M : zM} {q : Int × zM} {d : Nat} (hd : 3 ≤ d) (h : f_X10_undo  M = some q) : zG 74 d (0, [some (zr 0 0)], [], M) (some (zi q.1)) q.2 := by
  have hm := zmok_74
  unfold f_X10_undo at h
  refine zG_run hm 3 (cf' := (7, [some (zr 0 0)], [zi (M 20 0 1)], M)) rfl ?_
  by_cases c2 : ¬ zw (M 20 0 1) = 0
  · rw [if_pos c2] at h
    refine zG_br hm rfl (cf' := (12, [some (zr 0 0)], [], M)) (if_pos c2) ?_
    refine zG_run hm 4 (cf' := (20, [some (zr 0 0)], [zr 11 0, zr 20 0], M)) rfl ?_
    obtain ⟨p1, hp1, h⟩ := Option.bind_eq_some_iff.mp h
    refine zG_V hm zmok_51 rfl (as := [zr 11 0]) (rest := []) (st2 := []) (pc2 := 23) rfl rfl (by omega) (met_X5_takeBack (d := 2) (Nat.le_refl _) hp1) rfl ?_
    refine zG_run hm 3 (cf' := (30, [some (zr 0 0)], [zi (p1 20 0 1)], p1)) rfl ?_
    cases h
    exact zG_ri hm rfl rfl
  · rw [if_neg c2] at h
    refine zG_br hm rfl (cf' := (10, [some (zr 0 0)], [], M)) (if_neg c2) ?_
    refine zG_run hm 1 (cf' := (11, [some (zr 0 0)], [zi (-1)], M)) rfl ?_
    cases h
    exact zG_ri hm rfl rfl
theorem met_X10_undo  {M : zM} {q : Int × zM} {d : Nat} (hd : 3 ≤ d) (h : f_X10_undo  M = some q) : zMet 74 d [zr 0 0] M (some (zi q.1)) q.2 :=
  zMet_of (lv0 := [some (zr 0 0)]) zmok_74 rfl rfl (fun v hv => by cases hv; trivial) (g_X10_undo hd h)
def f_X11_undo_L23 (v1 : Int) (M : zM) : Option ((Int × zM) ⊕ (zM)) :=
  if 161 ≤ zw v1 then
    some (.inr M)
  else
    if 0 ≤ zw ((260 + (161 * (M 43 0 5))) + v1) ∧ zw ((260 + (161 * (M 43 0 5))) + v1) < 5090 then
      if 0 ≤ zw (90 + v1) ∧ zw (90 + v1) < 5090 then
        zlet (zput M 43 0 (zix (90 + v1)) (M 43 0 (zix ((260 + (161 * (M 43 0 5))) + v1)))) fun M2 =>
        some (.inl ((v1 + 1), M2))
      else
        none
    else
      none
theorem g_X11_undo_L23 {v1 : Int} {M : zM} {x : (Int × zM) ⊕ (zM)} {r : Option zV} {Mf : zM} {d : Nat} (hd : 0 ≤ d) (h : f_X11_undo_L23 v1 M = some x)
    (kc : ∀ s, x = .inl s → zG 129 d (23, [some (zr 42 0), some (zi s.1)], [], s.2) r Mf)
    (kb : ∀ t, x = .inr t → zG 129 d (66, [some (zr 42 0), none], [], t) r Mf) (kr : True) : zG 129 d (23, [some (zr 42 0), some (zi v1)], [], M) r Mf := by
  have hm := zmok_129
  unfold f_X11_undo_L23 at h
  refine zG_run hm 2 (cf' := (27, [some (zr 42 0), some (zi v1)], [zi 161, zi v1], M)) rfl ?_
  by_cases c5 : 161 ≤ zw v1
  · rw [if_pos c5] at h
    refine zG_br hm rfl (cf' := (66, [some (zr 42 0), some (zi v1)], [], M)) (if_pos c5) ?_
    refine zG_sub (lv' := [some (zr 42 0), none]) (zsb_s rfl (zsb_n zsb_0)) ?_
    exact kb M (Option.some.inj h).symm
  · rw [if_neg c5] at h
    refine zG_br hm rfl (cf' := (30, [some (zr 42 0), some (zi v1)], [], M)) (if_neg c5) ?_
    refine zG_run hm 17 (cf' := (58, [some (zr 42 0), some (zi v1)], [zi ((260 + (161 * (M 43 0 5))) + v1), zr 43 0, zi (90 + v1), zr 43 0], M)) rfl ?_
    by_cases c4 : 0 ≤ zw ((260 + (161 * (M 43 0 5))) + v1) ∧ zw ((260 + (161 * (M 43 0 5))) + v1) < 5090
    · rw [if_pos c4] at h
      refine zG_br hm rfl (cf' := (59, [some (zr 42 0), some (zi v1)], [zi (M 43 0 (zix ((260 + (161 * (M 43 0 5))) + v1))), zi (90 + v1), zr 43 0], M)) (if_pos c4) ?_
      by_cases c3 : 0 ≤ zw (90 + v1) ∧ zw (90 + v1) < 5090
      · rw [if_pos c3] at h
        refine zG_br hm rfl (cf' := (60, [some (zr 42 0), some (zi v1)], [], (zput M 43 0 (zix (90 + v1)) (M 43 0 (zix ((260 + (161 * (M 43 0 5))) + v1)))))) (if_pos c3) ?_
        obtain ⟨M2, eM2, h⟩ := zlet_of h
        rw [eM2]
        refine zG_run hm 2 (cf' := (23, [some (zr 42 0), some (zi (v1 + 1))], [], M2)) rfl ?_
        refine zG_sub (lv' := [some (zr 42 0), some (zi (v1 + 1))]) (zsb_s rfl (zsb_s rfl zsb_0)) ?_
        exact kc ((v1 + 1), M2) (Option.some.inj h).symm
      · rw [if_neg c3] at h
        cases h
    · rw [if_neg c4] at h
      cases h
theorem gl_X11_undo_L23  {y : zM} {r : Option zV} {Mf : zM} {d : Nat} (hd : 0 ≤ d)
    (kb : ∀ t, y = t → zG 129 d (66, [some (zr 42 0), none], [], t) r Mf) (kr : True) : ∀ (n : Nat) (s : Int × zM), zlp (fun s : Int × zM => f_X11_undo_L23  s.1 s.2) n s = some y → zG 129 d (23, [some (zr 42 0), some (zi s.1)], [], s.2) r Mf := by
  intro n
  induction n with
  | zero => intro s h; cases h
  | succ n ih =>
    intro s h
    rcases zlp_cases h with ⟨s', h1, h2⟩ | h1
    · exact g_X11_undo_L23 hd h1 (fun s2 e2 => by cases e2; exact ih _ h2) (fun t e2 => by cases e2) trivial
    · exact g_X11_undo_L23 hd h1 (fun s2 e2 => by cases e2) (fun t e2 => kb t (Sum.inr.inj e2)) trivial
def f_X11_undo  (M : zM) : Option (Int × zM) :=
  if ¬ zw (M 43 0 5) = 0 then
    zlet (zput M 43 0 5 ((M 43 0 5) - 1)) fun M1 =>
    (zlp (fun s : Int × zM => f_X11_undo_L23  s.1 s.2) zF (0, M1)).bind fun y6 =>
      some ((y6 43 0 5), y6)
  else
    some ((-1), M)
theorem g_X11_undo  {M : zM} {q : Int × zM} {d : Nat} (hd : 0 ≤ d) (h : f_X11_undo  M = some q) : zG 129 d (0, [some (zr 42 0), none], [], M) (some (zi q.1)) q.2 := by
  have hm := zmok_129
  unfold f_X11_undo at h
  refine zG_run hm 4 (cf' := (6, [some (zr 42 0), none], [zi (M 43 0 5)], M)) rfl ?_
  by_cases c7 : ¬ zw (M 43 0 5) = 0
  · rw [if_pos c7] at h
    refine zG_br hm rfl (cf' := (11, [some (zr 42 0), none], [], M)) (if_pos c7) ?_
    refine zG_run hm 8 (cf' := (21, [some (zr 42 0), none], [], (zput M 43 0 5 ((M 43 0 5) - 1)))) rfl ?_
    obtain ⟨M1, eM1, h⟩ := zlet_of h
    rw [eM1]
    refine zG_run hm 2 (cf' := (23, [some (zr 42 0), some (zi 0)], [], M1)) rfl ?_
    refine zG_sub (lv' := [some (zr 42 0), some (zi 0)]) (zsb_s rfl (zsb_s rfl zsb_0)) ?_
    obtain ⟨y6, hy6, h⟩ := Option.bind_eq_some_iff.mp h
    refine gl_X11_undo_L23 hd (fun t e2 => ?_) trivial zF (0, M1) hy6
    cases e2
    refine zG_run hm 4 (cf' := (72, [some (zr 42 0), none], [zi (y6 43 0 5)], y6)) rfl ?_
    cases h
    exact zG_ri hm rfl rfl
  · rw [if_neg c7] at h
    refine zG_br hm rfl (cf' := (9, [some (zr 42 0), none], [], M)) (if_neg c7) ?_
    refine zG_run hm 1 (cf' := (10, [some (zr 42 0), none], [zi (-1)], M)) rfl ?_
    cases h
    exact zG_ri hm rfl rfl
theorem met_X11_undo  {M : zM} {q : Int × zM} {d : Nat} (hd : 0 ≤ d) (h : f_X11_undo  M = some q) : zMet 129 d [zr 42 0] M (some (zi q.1)) q.2 :=
  zMet_of (lv0 := [some (zr 42 0), none]) zmok_129 rfl rfl (fun v hv => by cases hv; trivial) (g_X11_undo hd h)
def f_X10_ofOwner (v1 : Int) (v2 : Int) (M : zM) : Option (Int × zM) :=
  (f_X0_hasOwner 0 v1 M).bind fun p1 =>
    if ¬ zw p1.1 = 0 then
      if zw v2 = 0 then
        if 0 ≤ zw v1 ∧ zw v1 < 6 then
          some ((p1.2 12 0 (zix v1)), p1.2)
        else
          none
      else
        if zw v2 = 1 then
          if 0 ≤ zw v1 ∧ zw v1 < 6 then
            some ((p1.2 13 0 (zix v1)), p1.2)
          else
            none
        else
          if zw v2 = 2 then
            (f_X0_thingsWith 0 v1 p1.2).bind fun p7 =>
              some (p7.1, p7.2)
          else
            some ((-2000000), p1.2)
    else
      some ((-2000000), p1.2)
theorem g_X10_ofOwner {v1 : Int} {v2 : Int} {M : zM} {q : Int × zM} {d : Nat} (hd : 1 ≤ d) (h : f_X10_ofOwner v1 v2 M = some q) : zG 82 d (0, [some (zr 0 0), some (zi v1), some (zi v2)], [], M) (some (zi q.1)) q.2 := by
  have hm := zmok_82
  unfold f_X10_ofOwner at h
  refine zG_run hm 3 (cf' := (5, [some (zr 0 0), some (zi v1), some (zi v2)], [zi v1, zr 11 0], M)) rfl ?_
  obtain ⟨p1, hp1, h⟩ := Option.bind_eq_some_iff.mp h
  refine zG_V hm zmok_3 rfl (as := [zi v1]) (rest := []) (st2 := [zi p1.1]) (pc2 := 8) rfl rfl (by omega) (met_X0_hasOwner (d := 0) (Nat.le_refl _) hp1) rfl ?_
  by_cases c8 : ¬ zw p1.1 = 0
  · rw [if_pos c8] at h
    refine zG_br hm rfl (cf' := (14, [some (zr 0 0), some (zi v1), some (zi v2)], [], p1.2)) (if_pos c8) ?_
    refine zG_run hm 1 (cf' := (15, [some (zr 0 0), some (zi v1), some (zi v2)], [zi v2], p1.2)) rfl ?_
    by_cases c2 : zw v2 = 0
    · rw [if_pos c2] at h
      refine zG_tIn hm rfl (tgt := 40) (off := 25) c2 (by decide) rfl (by decide) ?_
      refine zG_run hm 4 (cf' := (48, [some (zr 0 0), some (zi v1), some (zi v2)], [zi v1, zr 12 0], p1.2)) rfl ?_
      by_cases c3 : 0 ≤ zw v1 ∧ zw v1 < 6
      · rw [if_pos c3] at h
        refine zG_br hm rfl (cf' := (49, [some (zr 0 0), some (zi v1), some (zi v2)], [zi (p1.2 12 0 (zix v1))], p1.2)) (if_pos c3) ?_
        cases h
        exact zG_ri hm rfl rfl
      · rw [if_neg c3] at h
        cases h
    · rw [if_neg c2] at h
      by_cases c4 : zw v2 = 1
      · rw [if_pos c4] at h
        refine zG_tIn hm rfl (tgt := 50) (off := 35) c4 (by decide) rfl (by decide) ?_
        refine zG_run hm 4 (cf' := (58, [some (zr 0 0), some (zi v1), some (zi v2)], [zi v1, zr 13 0], p1.2)) rfl ?_
        by_cases c5 : 0 ≤ zw v1 ∧ zw v1 < 6
        · rw [if_pos c5] at h
          refine zG_br hm rfl (cf' := (59, [some (zr 0 0), some (zi v1), some (zi v2)], [zi (p1.2 13 0 (zix v1))], p1.2)) (if_pos c5) ?_
          cases h
          exact zG_ri hm rfl rfl
        · rw [if_neg c5] at h
          cases h
      · rw [if_neg c4] at h
        by_cases c6 : zw v2 = 2
        · rw [if_pos c6] at h
          refine zG_tIn hm rfl (tgt := 60) (off := 45) c6 (by decide) rfl (by decide) ?_
          refine zG_run hm 3 (cf' := (65, [some (zr 0 0), some (zi v1), some (zi v2)], [zi v1, zr 11 0], p1.2)) rfl ?_
          obtain ⟨p7, hp7, h⟩ := Option.bind_eq_some_iff.mp h
          refine zG_V hm zmok_9 rfl (as := [zi v1]) (rest := []) (st2 := [zi p7.1]) (pc2 := 68) rfl rfl (by omega) (met_X0_thingsWith (d := 0) (Nat.le_refl _) hp7) rfl ?_
          cases h
          exact zG_ri hm rfl rfl
        · rw [if_neg c6] at h
          refine zG_tOut hm rfl (tgt := 69) (by omega) (by decide) ?_
          refine zG_run hm 1 (cf' := (71, [some (zr 0 0), some (zi v1), some (zi v2)], [zi (-2000000)], p1.2)) rfl ?_
          cases h
          exact zG_ri hm rfl rfl
  · rw [if_neg c8] at h
    refine zG_br hm rfl (cf' := (11, [some (zr 0 0), some (zi v1), some (zi v2)], [], p1.2)) (if_neg c8) ?_
    refine zG_run hm 1 (cf' := (13, [some (zr 0 0), some (zi v1), some (zi v2)], [zi (-2000000)], p1.2)) rfl ?_
    cases h
    exact zG_ri hm rfl rfl
theorem met_X10_ofOwner {v1 : Int} {v2 : Int} {M : zM} {q : Int × zM} {d : Nat} (hd : 1 ≤ d) (h : f_X10_ofOwner v1 v2 M = some q) : zMet 82 d [zr 0 0, zi v1, zi v2] M (some (zi q.1)) q.2 :=
  zMet_of (lv0 := [some (zr 0 0), some (zi v1), some (zi v2)]) zmok_82 rfl rfl (fun v hv => by cases hv; trivial) (g_X10_ofOwner hd h)
def f_X11_ofOwner_j51 (v1 : Int) (v2 : Int) (v4 : Int) (vs0 : Int) (vs1 : Int) (M : zM) : Option ((Int × Int) ⊕ (Int)) :=
  some (.inl ((zor vs1 vs0), (v4 + 1)))
theorem g_X11_ofOwner_j51 {v1 : Int} {v2 : Int} {v4 : Int} {vs0 : Int} {vs1 : Int} {M : zM} {x : (Int × Int) ⊕ (Int)} {r : Option zV} {Mf : zM} {d : Nat} (hd : 2 ≤ d) (h : f_X11_ofOwner_j51 v1 v2 v4 vs0 vs1 M = some x)
    (kc : ∀ s, x = .inl s → zG 196 d (17, [some (zr 42 0), some (zi v1), some (zi v2), some (zi s.1), some (zi s.2)], [], M) r Mf)
    (kb : ∀ t, x = .inr t → zG 196 d (59, [some (zr 42 0), some (zi v1), some (zi v2), some (zi t), none], [], M) r Mf) (kr : True) : zG 196 d (51, [some (zr 42 0), some (zi v1), some (zi v2), none, some (zi v4)], [zi vs0, zi vs1], M) r Mf := by
  have hm := zmok_196
  unfold f_X11_ofOwner_j51 at h
  refine zG_run hm 4 (cf' := (17, [some (zr 42 0), some (zi v1), some (zi v2), some (zi (zor vs1 vs0)), some (zi (v4 + 1))], [], M)) rfl ?_
  refine zG_sub (lv' := [some (zr 42 0), some (zi v1), some (zi v2), some (zi (zor vs1 vs0)), some (zi (v4 + 1))]) (zsb_s rfl (zsb_s rfl (zsb_s rfl (zsb_s rfl (zsb_s rfl zsb_0))))) ?_
  exact kc ((zor vs1 vs0), (v4 + 1)) (Option.some.inj h).symm
def f_X11_ofOwner_L17 (v1 : Int) (v2 : Int) (v3 : Int) (v4 : Int) (M : zM) : Option ((Int × Int) ⊕ (Int)) :=
  if zw (M 43 0 1) ≤ zw v4 then
    some (.inr v3)
  else
    if 0 ≤ zw (104 + v4) ∧ zw (104 + v4) < 5090 then
      if ¬ zw (M 43 0 (zix (104 + v4))) = zw v1 then
        f_X11_ofOwner_j51 v1 v2 v4 0 v3 M
      else
        f_X11_ofOwner_j51 v1 v2 v4 (zshl 1 v4) v3 M
    else
      none
theorem g_X11_ofOwner_L17 {v1 : Int} {v2 : Int} {v3 : Int} {v4 : Int} {M : zM} {x : (Int × Int) ⊕ (Int)} {r : Option zV} {Mf : zM} {d : Nat} (hd : 2 ≤ d) (h : f_X11_ofOwner_L17 v1 v2 v3 v4 M = some x)
    (kc : ∀ s, x = .inl s → zG 196 d (17, [some (zr 42 0), some (zi v1), some (zi v2), some (zi s.1), some (zi s.2)], [], M) r Mf)
    (kb : ∀ t, x = .inr t → zG 196 d (59, [some (zr 42 0), some (zi v1), some (zi v2), some (zi t), none], [], M) r Mf) (kr : True) : zG 196 d (17, [some (zr 42 0), some (zi v1), some (zi v2), some (zi v3), some (zi v4)], [], M) r Mf := by
  have hm := zmok_196
  unfold f_X11_ofOwner_L17 at h
  refine zG_run hm 5 (cf' := (25, [some (zr 42 0), some (zi v1), some (zi v2), some (zi v3), some (zi v4)], [zi (M 43 0 1), zi v4], M)) rfl ?_
  by_cases c4 : zw (M 43 0 1) ≤ zw v4
  · rw [if_pos c4] at h
    refine zG_br hm rfl (cf' := (59, [some (zr 42 0), some (zi v1), some (zi v2), some (zi v3), some (zi v4)], [], M)) (if_pos c4) ?_
    refine zG_sub (lv' := [some (zr 42 0), some (zi v1), some (zi v2), some (zi v3), none]) (zsb_s rfl (zsb_s rfl (zsb_s rfl (zsb_s rfl (zsb_n zsb_0))))) ?_
    exact kb v3 (Option.some.inj h).symm
  · rw [if_neg c4] at h
    refine zG_br hm rfl (cf' := (28, [some (zr 42 0), some (zi v1), some (zi v2), some (zi v3), some (zi v4)], [], M)) (if_neg c4) ?_
    refine zG_run hm 6 (cf' := (38, [some (zr 42 0), some (zi v1), some (zi v2), some (zi v3), some (zi v4)], [zi (104 + v4), zr 43 0, zi v3], M)) rfl ?_
    by_cases c3 : 0 ≤ zw (104 + v4) ∧ zw (104 + v4) < 5090
    · rw [if_pos c3] at h
      refine zG_br hm rfl (cf' := (39, [some (zr 42 0), some (zi v1), some (zi v2), some (zi v3), some (zi v4)], [zi (M 43 0 (zix (104 + v4))), zi v3], M)) (if_pos c3) ?_
      refine zG_run hm 1 (cf' := (40, [some (zr 42 0), some (zi v1), some (zi v2), some (zi v3), some (zi v4)], [zi v1, zi (M 43 0 (zix (104 + v4))), zi v3], M)) rfl ?_
      by_cases c2 : ¬ zw (M 43 0 (zix (104 + v4))) = zw v1
      · rw [if_pos c2] at h
        refine zG_br hm rfl (cf' := (50, [some (zr 42 0), some (zi v1), some (zi v2), some (zi v3), some (zi v4)], [zi v3], M)) (if_pos c2) ?_
        refine zG_run hm 1 (cf' := (51, [some (zr 42 0), some (zi v1), some (zi v2), some (zi v3), some (zi v4)], [zi 0, zi v3], M)) rfl ?_
        refine zG_sub (lv' := [some (zr 42 0), some (zi v1), some (zi v2), none, some (zi v4)]) (zsb_s rfl (zsb_s rfl (zsb_s rfl (zsb_n (zsb_s rfl zsb_0))))) ?_
        exact g_X11_ofOwner_j51 hd h kc kb kr
      · rw [if_neg c2] at h
        refine zG_br hm rfl (cf' := (43, [some (zr 42 0), some (zi v1), some (zi v2), some (zi v3), some (zi v4)], [zi v3], M)) (if_neg c2) ?_
        refine zG_run hm 4 (cf' := (51, [some (zr 42 0), some (zi v1), some (zi v2), some (zi v3), some (zi v4)], [zi (zshl 1 v4), zi v3], M)) rfl ?_
        refine zG_sub (lv' := [some (zr 42 0), some (zi v1), some (zi v2), none, some (zi v4)]) (zsb_s rfl (zsb_s rfl (zsb_s rfl (zsb_n (zsb_s rfl zsb_0))))) ?_
        exact g_X11_ofOwner_j51 hd h kc kb kr
    · rw [if_neg c3] at h
      cases h
theorem gl_X11_ofOwner_L17 {v1 : Int} {v2 : Int} {M : zM} {y : Int} {r : Option zV} {Mf : zM} {d : Nat} (hd : 2 ≤ d)
    (kb : ∀ t, y = t → zG 196 d (59, [some (zr 42 0), some (zi v1), some (zi v2), some (zi t), none], [], M) r Mf) (kr : True) : ∀ (n : Nat) (s : Int × Int), zlp (fun s : Int × Int => f_X11_ofOwner_L17 v1 v2 s.1 s.2 M) n s = some y → zG 196 d (17, [some (zr 42 0), some (zi v1), some (zi v2), some (zi s.1), some (zi s.2)], [], M) r Mf := by
  intro n
  induction n with
  | zero => intro s h; cases h
  | succ n ih =>
    intro s h
    rcases zlp_cases h with ⟨s', h1, h2⟩ | h1
    · exact g_X11_ofOwner_L17 hd h1 (fun s2 e2 => by cases e2; exact ih _ h2) (fun t e2 => by cases e2) trivial
    · exact g_X11_ofOwner_L17 hd h1 (fun s2 e2 => by cases e2) (fun t e2 => kb t (Sum.inr.inj e2)) trivial
def f_X11_ofOwner (v1 : Int) (v2 : Int) (M : zM) : Option (Int × zM) :=
  (f_X11_isOwner v1 M).bind fun p1 =>
    if ¬ zw p1.1 = 0 then
      (zlp (fun s : Int × Int => f_X11_ofOwner_L17 v1 v2 s.1 s.2 p1.2) zF (0, 0)).bind fun y5 =>
        if ¬ zw v2 = 0 then
          if ¬ zw v2 = 1 then
            if ¬ zw v2 = 2 then
              some ((-2000000), p1.2)
            else
              some (y5, p1.2)
          else
            if 0 ≤ zw (90 + v1) ∧ zw (90 + v1) < 5090 then
              some ((p1.2 43 0 (zix (90 + v1))), p1.2)
            else
              none
        else
          if 0 ≤ zw (10 + v1) ∧ zw (10 + v1) < 5090 then
            some ((p1.2 43 0 (zix (10 + v1))), p1.2)
          else
            none
    else
      some ((-2000000), p1.2)
theorem g_X11_ofOwner {v1 : Int} {v2 : Int} {M : zM} {q : Int × zM} {d : Nat} (hd : 2 ≤ d) (h : f_X11_ofOwner v1 v2 M = some q) : zG 196 d (0, [some (zr 42 0), some (zi v1), some (zi v2), none, none], [], M) (some (zi q.1)) q.2 := by
  have hm := zmok_196
  unfold f_X11_ofOwner at h
  refine zG_run hm 2 (cf' := (2, [some (zr 42 0), some (zi v1), some (zi v2), none, none], [zi v1, zr 42 0], M)) rfl ?_
  obtain ⟨p1, hp1, h⟩ := Option.bind_eq_some_iff.mp h
  refine zG_V hm zmok_122 rfl (as := [zi v1]) (rest := []) (st2 := [zi p1.1]) (pc2 := 5) rfl rfl (by omega) (met_X11_isOwner (d := 1) (Nat.le_refl _) hp1) rfl ?_
  by_cases c11 : ¬ zw p1.1 = 0
  · rw [if_pos c11] at h
    refine zG_br hm rfl (cf' := (12, [some (zr 42 0), some (zi v1), some (zi v2), none, none], [], p1.2)) (if_pos c11) ?_
    refine zG_run hm 4 (cf' := (17, [some (zr 42 0), some (zi v1), some (zi v2), some (zi 0), some (zi 0)], [], p1.2)) rfl ?_
    refine zG_sub (lv' := [some (zr 42 0), some (zi v1), some (zi v2), some (zi 0), some (zi 0)]) (zsb_s rfl (zsb_s rfl (zsb_s rfl (zsb_s rfl (zsb_s rfl zsb_0))))) ?_
    obtain ⟨y5, hy5, h⟩ := Option.bind_eq_some_iff.mp h
    refine gl_X11_ofOwner_L17 hd (fun t e2 => ?_) trivial zF (0, 0) hy5
    cases e2
    refine zG_run hm 1 (cf' := (60, [some (zr 42 0), some (zi v1), some (zi v2), some (zi y5), none], [zi v2], p1.2)) rfl ?_
    by_cases c10 : ¬ zw v2 = 0
    · rw [if_pos c10] at h
      refine zG_br hm rfl (cf' := (75, [some (zr 42 0), some (zi v1), some (zi v2), some (zi y5), none], [], p1.2)) (if_pos c10) ?_
      refine zG_run hm 2 (cf' := (77, [some (zr 42 0), some (zi v1), some (zi v2), some (zi y5), none], [zi 1, zi v2], p1.2)) rfl ?_
      by_cases c8 : ¬ zw v2 = 1
      · rw [if_pos c8] at h
        refine zG_br hm rfl (cf' := (92, [some (zr 42 0), some (zi v1), some (zi v2), some (zi y5), none], [], p1.2)) (if_pos c8) ?_
        refine zG_run hm 2 (cf' := (94, [some (zr 42 0), some (zi v1), some (zi v2), some (zi y5), none], [zi 2, zi v2], p1.2)) rfl ?_
        by_cases c6 : ¬ zw v2 = 2
        · rw [if_pos c6] at h
          refine zG_br hm rfl (cf' := (101, [some (zr 42 0), some (zi v1), some (zi v2), some (zi y5), none], [], p1.2)) (if_pos c6) ?_
          refine zG_run hm 1 (cf' := (104, [some (zr 42 0), some (zi v1), some (zi v2), some (zi y5), none], [zi (-2000000)], p1.2)) rfl ?_
          cases h
          exact zG_ri hm rfl rfl
        · rw [if_neg c6] at h
          refine zG_br hm rfl (cf' := (97, [some (zr 42 0), some (zi v1), some (zi v2), some (zi y5), none], [], p1.2)) (if_neg c6) ?_
          refine zG_run hm 2 (cf' := (104, [some (zr 42 0), some (zi v1), some (zi v2), some (zi y5), none], [zi y5], p1.2)) rfl ?_
          cases h
          exact zG_ri hm rfl rfl
      · rw [if_neg c8] at h
        refine zG_br hm rfl (cf' := (80, [some (zr 42 0), some (zi v1), some (zi v2), some (zi y5), none], [], p1.2)) (if_neg c8) ?_
        refine zG_run hm 5 (cf' := (88, [some (zr 42 0), some (zi v1), some (zi v2), some (zi y5), none], [zi (90 + v1), zr 43 0], p1.2)) rfl ?_
        by_cases c7 : 0 ≤ zw (90 + v1) ∧ zw (90 + v1) < 5090
        · rw [if_pos c7] at h
          refine zG_br hm rfl (cf' := (89, [some (zr 42 0), some (zi v1), some (zi v2), some (zi y5), none], [zi (p1.2 43 0 (zix (90 + v1)))], p1.2)) (if_pos c7) ?_
          refine zG_run hm 1 (cf' := (104, [some (zr 42 0), some (zi v1), some (zi v2), some (zi y5), none], [zi (p1.2 43 0 (zix (90 + v1)))], p1.2)) rfl ?_
          cases h
          exact zG_ri hm rfl rfl
        · rw [if_neg c7] at h
          cases h
    · rw [if_neg c10] at h
      refine zG_br hm rfl (cf' := (63, [some (zr 42 0), some (zi v1), some (zi v2), some (zi y5), none], [], p1.2)) (if_neg c10) ?_
      refine zG_run hm 5 (cf' := (71, [some (zr 42 0), some (zi v1), some (zi v2), some (zi y5), none], [zi (10 + v1), zr 43 0], p1.2)) rfl ?_
      by_cases c9 : 0 ≤ zw (10 + v1) ∧ zw (10 + v1) < 5090
      · rw [if_pos c9] at h
        refine zG_br hm rfl (cf' := (72, [some (zr 42 0), some (zi v1), some (zi v2), some (zi y5), none], [zi (p1.2 43 0 (zix (10 + v1)))], p1.2)) (if_pos c9) ?_
        refine zG_run hm 1 (cf' := (104, [some (zr 42 0), some (zi v1), some (zi v2), some (zi y5), none], [zi (p1.2 43 0 (zix (10 + v1)))], p1.2)) rfl ?_
        cases h
        exact zG_ri hm rfl rfl
      · rw [if_neg c9] at h
        cases h
  · rw [if_neg c11] at h
    refine zG_br hm rfl (cf' := (8, [some (zr 42 0), some (zi v1), some (zi v2), none, none], [], p1.2)) (if_neg c11) ?_
    refine zG_run hm 1 (cf' := (11, [some (zr 42 0), some (zi v1), some (zi v2), none, none], [zi (-2000000)], p1.2)) rfl ?_
    cases h
    exact zG_ri hm rfl rfl
theorem met_X11_ofOwner {v1 : Int} {v2 : Int} {M : zM} {q : Int × zM} {d : Nat} (hd : 2 ≤ d) (h : f_X11_ofOwner v1 v2 M = some q) : zMet 196 d [zr 42 0, zi v1, zi v2] M (some (zi q.1)) q.2 :=
  zMet_of (lv0 := [some (zr 42 0), some (zi v1), some (zi v2), none, none]) zmok_196 rfl rfl (fun v hv => by cases hv; trivial) (g_X11_ofOwner hd h)
def f_X10_of (v1 : Int) (v2 : Int) (M : zM) : Option (Int × zM) :=
  (f_X0_hasThing 0 v1 M).bind fun p1 =>
    if ¬ zw p1.1 = 0 then
      if 0 ≤ zw v1 ∧ zw v1 < 8 then
        if zw v2 = 0 then
          some ((p1.2 16 (zix v1) 3), p1.2)
        else
          if zw v2 = 1 then
            some ((p1.2 16 (zix v1) 2), p1.2)
          else
            if zw v2 = 2 then
              some ((p1.2 16 (zix v1) 1), p1.2)
            else
              if zw v2 = 3 then
                some ((p1.2 16 (zix v1) 4), p1.2)
              else
                if zw v2 = 4 then
                  if ¬ zw (p1.2 16 (zix v1) 4) = (-1) then
                    some ((-1), p1.2)
                  else
                    some ((p1.2 16 (zix v1) 5), p1.2)
                else
                  if zw v2 = 5 then
                    if ¬ zw (p1.2 16 (zix v1) 4) = (-1) then
                      some ((-1), p1.2)
                    else
                      some ((p1.2 16 (zix v1) 6), p1.2)
                  else
                    some ((-2), p1.2)
      else
        none
    else
      some ((-2), p1.2)
theorem g_X10_of {v1 : Int} {v2 : Int} {M : zM} {q : Int × zM} {d : Nat} (hd : 1 ≤ d) (h : f_X10_of v1 v2 M = some q) : zG 83 d (0, [some (zr 0 0), some (zi v1), some (zi v2), none], [], M) (some (zi q.1)) q.2 := by
  have hm := zmok_83
  unfold f_X10_of at h
  refine zG_run hm 3 (cf' := (5, [some (zr 0 0), some (zi v1), some (zi v2), none], [zi v1, zr 11 0], M)) rfl ?_
  obtain ⟨p1, hp1, h⟩ := Option.bind_eq_some_iff.mp h
  refine zG_V hm zmok_4 rfl (as := [zi v1]) (rest := []) (st2 := [zi p1.1]) (pc2 := 8) rfl rfl (by omega) (met_X0_hasThing (d := 0) (Nat.le_refl _) hp1) rfl ?_
  by_cases c11 : ¬ zw p1.1 = 0
  · rw [if_pos c11] at h
    refine zG_br hm rfl (cf' := (14, [some (zr 0 0), some (zi v1), some (zi v2), none], [], p1.2)) (if_pos c11) ?_
    refine zG_run hm 4 (cf' := (22, [some (zr 0 0), some (zi v1), some (zi v2), none], [zi v1, zr 14 0], p1.2)) rfl ?_
    by_cases c10 : 0 ≤ zw v1 ∧ zw v1 < 8
    · rw [if_pos c10] at h
      refine zG_br hm rfl (cf' := (23, [some (zr 0 0), some (zi v1), some (zi v2), none], [zr 16 (zix v1)], p1.2)) (if_pos c10) ?_
      refine zG_run hm 2 (cf' := (25, [some (zr 0 0), some (zi v1), some (zi v2), some (zr 16 (zix v1))], [zi v2], p1.2)) rfl ?_
      by_cases c2 : zw v2 = 0
      · rw [if_pos c2] at h
        refine zG_tIn hm rfl (tgt := 64) (off := 39) c2 (by decide) rfl (by decide) ?_
        refine zG_run hm 2 (cf' := (68, [some (zr 0 0), some (zi v1), some (zi v2), some (zr 16 (zix v1))], [zi (p1.2 16 (zix v1) 3)], p1.2)) rfl ?_
        cases h
        exact zG_ri hm rfl rfl
      · rw [if_neg c2] at h
        by_cases c3 : zw v2 = 1
        · rw [if_pos c3] at h
          refine zG_tIn hm rfl (tgt := 69) (off := 44) c3 (by decide) rfl (by decide) ?_
          refine zG_run hm 2 (cf' := (73, [some (zr 0 0), some (zi v1), some (zi v2), some (zr 16 (zix v1))], [zi (p1.2 16 (zix v1) 2)], p1.2)) rfl ?_
          cases h
          exact zG_ri hm rfl rfl
        · rw [if_neg c3] at h
          by_cases c4 : zw v2 = 2
          · rw [if_pos c4] at h
            refine zG_tIn hm rfl (tgt := 74) (off := 49) c4 (by decide) rfl (by decide) ?_
            refine zG_run hm 2 (cf' := (78, [some (zr 0 0), some (zi v1), some (zi v2), some (zr 16 (zix v1))], [zi (p1.2 16 (zix v1) 1)], p1.2)) rfl ?_
            cases h
            exact zG_ri hm rfl rfl
          · rw [if_neg c4] at h
            by_cases c5 : zw v2 = 3
            · rw [if_pos c5] at h
              refine zG_tIn hm rfl (tgt := 79) (off := 54) c5 (by decide) rfl (by decide) ?_
              refine zG_run hm 2 (cf' := (83, [some (zr 0 0), some (zi v1), some (zi v2), some (zr 16 (zix v1))], [zi (p1.2 16 (zix v1) 4)], p1.2)) rfl ?_
              cases h
              exact zG_ri hm rfl rfl
            · rw [if_neg c5] at h
              by_cases c6 : zw v2 = 4
              · rw [if_pos c6] at h
                refine zG_tIn hm rfl (tgt := 84) (off := 59) c6 (by decide) rfl (by decide) ?_
                refine zG_run hm 3 (cf' := (89, [some (zr 0 0), some (zi v1), some (zi v2), some (zr 16 (zix v1))], [zi (-1), zi (p1.2 16 (zix v1) 4)], p1.2)) rfl ?_
                by_cases c7 : ¬ zw (p1.2 16 (zix v1) 4) = (-1)
                · rw [if_pos c7] at h
                  refine zG_br hm rfl (cf' := (99, [some (zr 0 0), some (zi v1), some (zi v2), some (zr 16 (zix v1))], [], p1.2)) (if_pos c7) ?_
                  refine zG_run hm 1 (cf' := (100, [some (zr 0 0), some (zi v1), some (zi v2), some (zr 16 (zix v1))], [zi (-1)], p1.2)) rfl ?_
                  cases h
                  exact zG_ri hm rfl rfl
                · rw [if_neg c7] at h
                  refine zG_br hm rfl (cf' := (92, [some (zr 0 0), some (zi v1), some (zi v2), some (zr 16 (zix v1))], [], p1.2)) (if_neg c7) ?_
                  refine zG_run hm 3 (cf' := (100, [some (zr 0 0), some (zi v1), some (zi v2), some (zr 16 (zix v1))], [zi (p1.2 16 (zix v1) 5)], p1.2)) rfl ?_
                  cases h
                  exact zG_ri hm rfl rfl
              · rw [if_neg c6] at h
                by_cases c8 : zw v2 = 5
                · rw [if_pos c8] at h
                  refine zG_tIn hm rfl (tgt := 101) (off := 76) c8 (by decide) rfl (by decide) ?_
                  refine zG_run hm 3 (cf' := (106, [some (zr 0 0), some (zi v1), some (zi v2), some (zr 16 (zix v1))], [zi (-1), zi (p1.2 16 (zix v1) 4)], p1.2)) rfl ?_
                  by_cases c9 : ¬ zw (p1.2 16 (zix v1) 4) = (-1)
                  · rw [if_pos c9] at h
                    refine zG_br hm rfl (cf' := (116, [some (zr 0 0), some (zi v1), some (zi v2), some (zr 16 (zix v1))], [], p1.2)) (if_pos c9) ?_
                    refine zG_run hm 1 (cf' := (117, [some (zr 0 0), some (zi v1), some (zi v2), some (zr 16 (zix v1))], [zi (-1)], p1.2)) rfl ?_
                    cases h
                    exact zG_ri hm rfl rfl
                  · rw [if_neg c9] at h
                    refine zG_br hm rfl (cf' := (109, [some (zr 0 0), some (zi v1), some (zi v2), some (zr 16 (zix v1))], [], p1.2)) (if_neg c9) ?_
                    refine zG_run hm 3 (cf' := (117, [some (zr 0 0), some (zi v1), some (zi v2), some (zr 16 (zix v1))], [zi (p1.2 16 (zix v1) 6)], p1.2)) rfl ?_
                    cases h
                    exact zG_ri hm rfl rfl
                · rw [if_neg c8] at h
                  refine zG_tOut hm rfl (tgt := 118) (by omega) (by decide) ?_
                  refine zG_run hm 1 (cf' := (120, [some (zr 0 0), some (zi v1), some (zi v2), some (zr 16 (zix v1))], [zi (-2)], p1.2)) rfl ?_
                  cases h
                  exact zG_ri hm rfl rfl
    · rw [if_neg c10] at h
      cases h
  · rw [if_neg c11] at h
    refine zG_br hm rfl (cf' := (11, [some (zr 0 0), some (zi v1), some (zi v2), none], [], p1.2)) (if_neg c11) ?_
    refine zG_run hm 1 (cf' := (13, [some (zr 0 0), some (zi v1), some (zi v2), none], [zi (-2)], p1.2)) rfl ?_
    cases h
    exact zG_ri hm rfl rfl
theorem met_X10_of {v1 : Int} {v2 : Int} {M : zM} {q : Int × zM} {d : Nat} (hd : 1 ≤ d) (h : f_X10_of v1 v2 M = some q) : zMet 83 d [zr 0 0, zi v1, zi v2] M (some (zi q.1)) q.2 :=
  zMet_of (lv0 := [some (zr 0 0), some (zi v1), some (zi v2), none]) zmok_83 rfl rfl (fun v hv => by cases hv; trivial) (g_X10_of hd h)
def f_X11_of (v1 : Int) (v2 : Int) (M : zM) : Option (Int × zM) :=
  (f_X11_isThing v1 M).bind fun p1 =>
    if ¬ zw p1.1 = 0 then
      if zw v2 = 0 then
        if 0 ≤ zw (96 + v1) ∧ zw (96 + v1) < 5090 then
          some ((p1.2 43 0 (zix (96 + v1))), p1.2)
        else
          none
      else
        if zw v2 = 1 then
          if 0 ≤ zw (24 + v1) ∧ zw (24 + v1) < 5090 then
            some ((p1.2 43 0 (zix (24 + v1))), p1.2)
          else
            none
        else
          if zw v2 = 2 then
            if 0 ≤ zw (16 + v1) ∧ zw (16 + v1) < 5090 then
              some ((p1.2 43 0 (zix (16 + v1))), p1.2)
            else
              none
          else
            if zw v2 = 3 then
              if 0 ≤ zw (104 + v1) ∧ zw (104 + v1) < 5090 then
                some ((p1.2 43 0 (zix (104 + v1))), p1.2)
              else
                none
            else
              if zw v2 = 4 then
                if 0 ≤ zw (112 + v1) ∧ zw (112 + v1) < 5090 then
                  some ((p1.2 43 0 (zix (112 + v1))), p1.2)
                else
                  none
              else
                if zw v2 = 5 then
                  if 0 ≤ zw (120 + v1) ∧ zw (120 + v1) < 5090 then
                    some ((p1.2 43 0 (zix (120 + v1))), p1.2)
                  else
                    none
                else
                  some ((-2), p1.2)
    else
      some ((-2), p1.2)
theorem g_X11_of {v1 : Int} {v2 : Int} {M : zM} {q : Int × zM} {d : Nat} (hd : 2 ≤ d) (h : f_X11_of v1 v2 M = some q) : zG 197 d (0, [some (zr 42 0), some (zi v1), some (zi v2)], [], M) (some (zi q.1)) q.2 := by
  have hm := zmok_197
  unfold f_X11_of at h
  refine zG_run hm 2 (cf' := (2, [some (zr 42 0), some (zi v1), some (zi v2)], [zi v1, zr 42 0], M)) rfl ?_
  obtain ⟨p1, hp1, h⟩ := Option.bind_eq_some_iff.mp h
  refine zG_V hm zmok_123 rfl (as := [zi v1]) (rest := []) (st2 := [zi p1.1]) (pc2 := 5) rfl rfl (by omega) (met_X11_isThing (d := 1) (Nat.le_refl _) hp1) rfl ?_
  by_cases c14 : ¬ zw p1.1 = 0
  · rw [if_pos c14] at h
    refine zG_br hm rfl (cf' := (11, [some (zr 42 0), some (zi v1), some (zi v2)], [], p1.2)) (if_pos c14) ?_
    refine zG_run hm 1 (cf' := (12, [some (zr 42 0), some (zi v1), some (zi v2)], [zi v2], p1.2)) rfl ?_
    by_cases c2 : zw v2 = 0
    · rw [if_pos c2] at h
      refine zG_tIn hm rfl (tgt := 52) (off := 40) c2 (by decide) rfl (by decide) ?_
      refine zG_run hm 5 (cf' := (60, [some (zr 42 0), some (zi v1), some (zi v2)], [zi (96 + v1), zr 43 0], p1.2)) rfl ?_
      by_cases c3 : 0 ≤ zw (96 + v1) ∧ zw (96 + v1) < 5090
      · rw [if_pos c3] at h
        refine zG_br hm rfl (cf' := (61, [some (zr 42 0), some (zi v1), some (zi v2)], [zi (p1.2 43 0 (zix (96 + v1)))], p1.2)) (if_pos c3) ?_
        cases h
        exact zG_ri hm rfl rfl
      · rw [if_neg c3] at h
        cases h
    · rw [if_neg c2] at h
      by_cases c4 : zw v2 = 1
      · rw [if_pos c4] at h
        refine zG_tIn hm rfl (tgt := 62) (off := 50) c4 (by decide) rfl (by decide) ?_
        refine zG_run hm 5 (cf' := (70, [some (zr 42 0), some (zi v1), some (zi v2)], [zi (24 + v1), zr 43 0], p1.2)) rfl ?_
        by_cases c5 : 0 ≤ zw (24 + v1) ∧ zw (24 + v1) < 5090
        · rw [if_pos c5] at h
          refine zG_br hm rfl (cf' := (71, [some (zr 42 0), some (zi v1), some (zi v2)], [zi (p1.2 43 0 (zix (24 + v1)))], p1.2)) (if_pos c5) ?_
          cases h
          exact zG_ri hm rfl rfl
        · rw [if_neg c5] at h
          cases h
      · rw [if_neg c4] at h
        by_cases c6 : zw v2 = 2
        · rw [if_pos c6] at h
          refine zG_tIn hm rfl (tgt := 72) (off := 60) c6 (by decide) rfl (by decide) ?_
          refine zG_run hm 5 (cf' := (80, [some (zr 42 0), some (zi v1), some (zi v2)], [zi (16 + v1), zr 43 0], p1.2)) rfl ?_
          by_cases c7 : 0 ≤ zw (16 + v1) ∧ zw (16 + v1) < 5090
          · rw [if_pos c7] at h
            refine zG_br hm rfl (cf' := (81, [some (zr 42 0), some (zi v1), some (zi v2)], [zi (p1.2 43 0 (zix (16 + v1)))], p1.2)) (if_pos c7) ?_
            cases h
            exact zG_ri hm rfl rfl
          · rw [if_neg c7] at h
            cases h
        · rw [if_neg c6] at h
          by_cases c8 : zw v2 = 3
          · rw [if_pos c8] at h
            refine zG_tIn hm rfl (tgt := 82) (off := 70) c8 (by decide) rfl (by decide) ?_
            refine zG_run hm 5 (cf' := (90, [some (zr 42 0), some (zi v1), some (zi v2)], [zi (104 + v1), zr 43 0], p1.2)) rfl ?_
            by_cases c9 : 0 ≤ zw (104 + v1) ∧ zw (104 + v1) < 5090
            · rw [if_pos c9] at h
              refine zG_br hm rfl (cf' := (91, [some (zr 42 0), some (zi v1), some (zi v2)], [zi (p1.2 43 0 (zix (104 + v1)))], p1.2)) (if_pos c9) ?_
              cases h
              exact zG_ri hm rfl rfl
            · rw [if_neg c9] at h
              cases h
          · rw [if_neg c8] at h
            by_cases c10 : zw v2 = 4
            · rw [if_pos c10] at h
              refine zG_tIn hm rfl (tgt := 92) (off := 80) c10 (by decide) rfl (by decide) ?_
              refine zG_run hm 5 (cf' := (100, [some (zr 42 0), some (zi v1), some (zi v2)], [zi (112 + v1), zr 43 0], p1.2)) rfl ?_
              by_cases c11 : 0 ≤ zw (112 + v1) ∧ zw (112 + v1) < 5090
              · rw [if_pos c11] at h
                refine zG_br hm rfl (cf' := (101, [some (zr 42 0), some (zi v1), some (zi v2)], [zi (p1.2 43 0 (zix (112 + v1)))], p1.2)) (if_pos c11) ?_
                cases h
                exact zG_ri hm rfl rfl
              · rw [if_neg c11] at h
                cases h
            · rw [if_neg c10] at h
              by_cases c12 : zw v2 = 5
              · rw [if_pos c12] at h
                refine zG_tIn hm rfl (tgt := 102) (off := 90) c12 (by decide) rfl (by decide) ?_
                refine zG_run hm 5 (cf' := (110, [some (zr 42 0), some (zi v1), some (zi v2)], [zi (120 + v1), zr 43 0], p1.2)) rfl ?_
                by_cases c13 : 0 ≤ zw (120 + v1) ∧ zw (120 + v1) < 5090
                · rw [if_pos c13] at h
                  refine zG_br hm rfl (cf' := (111, [some (zr 42 0), some (zi v1), some (zi v2)], [zi (p1.2 43 0 (zix (120 + v1)))], p1.2)) (if_pos c13) ?_
                  cases h
                  exact zG_ri hm rfl rfl
                · rw [if_neg c13] at h
                  cases h
              · rw [if_neg c12] at h
                refine zG_tOut hm rfl (tgt := 112) (by omega) (by decide) ?_
                refine zG_run hm 1 (cf' := (114, [some (zr 42 0), some (zi v1), some (zi v2)], [zi (-2)], p1.2)) rfl ?_
                cases h
                exact zG_ri hm rfl rfl
  · rw [if_neg c14] at h
    refine zG_br hm rfl (cf' := (8, [some (zr 42 0), some (zi v1), some (zi v2)], [], p1.2)) (if_neg c14) ?_
    refine zG_run hm 1 (cf' := (10, [some (zr 42 0), some (zi v1), some (zi v2)], [zi (-2)], p1.2)) rfl ?_
    cases h
    exact zG_ri hm rfl rfl
theorem met_X11_of {v1 : Int} {v2 : Int} {M : zM} {q : Int × zM} {d : Nat} (hd : 2 ≤ d) (h : f_X11_of v1 v2 M = some q) : zMet 197 d [zr 42 0, zi v1, zi v2] M (some (zi q.1)) q.2 :=
  zMet_of (lv0 := [some (zr 42 0), some (zi v1), some (zi v2)]) zmok_197 rfl rfl (fun v hv => by cases hv; trivial) (g_X11_of hd h)
def f_X10_law_j42 (v1 : Int) (v2 : Int) (vs0 : Int) (M : zM) : Option (Int × zM) :=
  (f_X0_lawOf 0 v1 v2 vs0 M).bind fun p3 =>
    some (p3.1, p3.2)
theorem g_X10_law_j42 {v1 : Int} {v2 : Int} {vs0 : Int} {M : zM} {q : Int × zM} {d : Nat} (hd : 3 ≤ d) (h : f_X10_law_j42 v1 v2 vs0 M = some q) : zG 84 d (42, [some (zr 0 0), some (zi v1), some (zi v2), none], [zi vs0], M) (some (zi q.1)) q.2 := by
  have hm := zmok_84
  unfold f_X10_law_j42 at h
  refine zG_run hm 6 (cf' := (50, [some (zr 0 0), some (zi v1), some (zi v2), some (zi vs0)], [zi vs0, zi v2, zi v1, zr 11 0], M)) rfl ?_
  obtain ⟨p3, hp3, h⟩ := Option.bind_eq_some_iff.mp h
  refine zG_V hm zmok_16 rfl (as := [zi v1, zi v2, zi vs0]) (rest := []) (st2 := [zi p3.1]) (pc2 := 53) rfl rfl (by omega) (met_X0_lawOf (d := 2) (Nat.le_refl _) hp3) rfl ?_
  cases h
  exact zG_ri hm rfl rfl
def f_X10_law (v1 : Int) (v2 : Int) (M : zM) : Option (Int × zM) :=
  (f_X0_isKept 0 v1 M).bind fun p1 =>
    if zw p1.1 = 0 then
      some ((-100000), p1.2)
    else
      (f_X10_within v2 0 3 p1.2).bind fun p2 =>
        if ¬ zw p2.1 = 0 then
          if ¬ zw v2 = 3 then
            f_X10_law_j42 v1 v2 (-1) p2.2
          else
            (f_X0_lawOf 0 v1 2 (-1) p2.2).bind fun p4 =>
              f_X10_law_j42 v1 v2 p4.1 p4.2
        else
          some ((-100000), p2.2)
theorem g_X10_law {v1 : Int} {v2 : Int} {M : zM} {q : Int × zM} {d : Nat} (hd : 3 ≤ d) (h : f_X10_law v1 v2 M = some q) : zG 84 d (0, [some (zr 0 0), some (zi v1), some (zi v2), none], [], M) (some (zi q.1)) q.2 := by
  have hm := zmok_84
  unfold f_X10_law at h
  refine zG_run hm 3 (cf' := (5, [some (zr 0 0), some (zi v1), some (zi v2), none], [zi v1, zr 11 0], M)) rfl ?_
  obtain ⟨p1, hp1, h⟩ := Option.bind_eq_some_iff.mp h
  refine zG_V hm zmok_5 rfl (as := [zi v1]) (rest := []) (st2 := [zi p1.1]) (pc2 := 8) rfl rfl (by omega) (met_X0_isKept (d := 1) (Nat.le_refl _) hp1) rfl ?_
  by_cases c7 : zw p1.1 = 0
  · rw [if_pos c7] at h
    refine zG_br hm rfl (cf' := (20, [some (zr 0 0), some (zi v1), some (zi v2), none], [], p1.2)) (if_pos c7) ?_
    refine zG_run hm 1 (cf' := (22, [some (zr 0 0), some (zi v1), some (zi v2), none], [zi (-100000)], p1.2)) rfl ?_
    cases h
    exact zG_ri hm rfl rfl
  · rw [if_neg c7] at h
    refine zG_br hm rfl (cf' := (11, [some (zr 0 0), some (zi v1), some (zi v2), none], [], p1.2)) (if_neg c7) ?_
    refine zG_run hm 3 (cf' := (14, [some (zr 0 0), some (zi v1), some (zi v2), none], [zi 3, zi 0, zi v2], p1.2)) rfl ?_
    obtain ⟨p2, hp2, h⟩ := Option.bind_eq_some_iff.mp h
    refine zG_S hm zmok_108 rfl (as := [zi v2, zi 0, zi 3]) (rest := []) (st2 := [zi p2.1]) (pc2 := 17) rfl rfl (by omega) (met_X10_within (d := 0) (Nat.le_refl _) hp2) rfl ?_
    by_cases c6 : ¬ zw p2.1 = 0
    · rw [if_pos c6] at h
      refine zG_br hm rfl (cf' := (23, [some (zr 0 0), some (zi v1), some (zi v2), none], [], p2.2)) (if_pos c6) ?_
      refine zG_run hm 2 (cf' := (25, [some (zr 0 0), some (zi v1), some (zi v2), none], [zi 3, zi v2], p2.2)) rfl ?_
      by_cases c5 : ¬ zw v2 = 3
      · rw [if_pos c5] at h
        refine zG_br hm rfl (cf' := (41, [some (zr 0 0), some (zi v1), some (zi v2), none], [], p2.2)) (if_pos c5) ?_
        refine zG_run hm 1 (cf' := (42, [some (zr 0 0), some (zi v1), some (zi v2), none], [zi (-1)], p2.2)) rfl ?_
        refine zG_sub (lv' := [some (zr 0 0), some (zi v1), some (zi v2), none]) (zsb_s rfl (zsb_s rfl (zsb_s rfl (zsb_n zsb_0)))) ?_
        exact g_X10_law_j42 hd h
      · rw [if_neg c5] at h
        refine zG_br hm rfl (cf' := (28, [some (zr 0 0), some (zi v1), some (zi v2), none], [], p2.2)) (if_neg c5) ?_
        refine zG_run hm 5 (cf' := (35, [some (zr 0 0), some (zi v1), some (zi v2), none], [zi (-1), zi 2, zi v1, zr 11 0], p2.2)) rfl ?_
        obtain ⟨p4, hp4, h⟩ := Option.bind_eq_some_iff.mp h
        refine zG_V hm zmok_16 rfl (as := [zi v1, zi 2, zi (-1)]) (rest := []) (st2 := [zi p4.1]) (pc2 := 38) rfl rfl (by omega) (met_X0_lawOf (d := 2) (Nat.le_refl _) hp4) rfl ?_
        refine zG_run hm 1 (cf' := (42, [some (zr 0 0), some (zi v1), some (zi v2), none], [zi p4.1], p4.2)) rfl ?_
        refine zG_sub (lv' := [some (zr 0 0), some (zi v1), some (zi v2), none]) (zsb_s rfl (zsb_s rfl (zsb_s rfl (zsb_n zsb_0)))) ?_
        exact g_X10_law_j42 hd h
    · rw [if_neg c6] at h
      refine zG_br hm rfl (cf' := (20, [some (zr 0 0), some (zi v1), some (zi v2), none], [], p2.2)) (if_neg c6) ?_
      refine zG_run hm 1 (cf' := (22, [some (zr 0 0), some (zi v1), some (zi v2), none], [zi (-100000)], p2.2)) rfl ?_
      cases h
      exact zG_ri hm rfl rfl
theorem met_X10_law {v1 : Int} {v2 : Int} {M : zM} {q : Int × zM} {d : Nat} (hd : 3 ≤ d) (h : f_X10_law v1 v2 M = some q) : zMet 84 d [zr 0 0, zi v1, zi v2] M (some (zi q.1)) q.2 :=
  zMet_of (lv0 := [some (zr 0 0), some (zi v1), some (zi v2), none]) zmok_84 rfl rfl (fun v hv => by cases hv; trivial) (g_X10_law hd h)
def f_X11_law (v1 : Int) (v2 : Int) (M : zM) : Option (Int × zM) :=
  (f_X11_isThing v1 M).bind fun p1 =>
    if zw p1.1 = 0 then
      some ((-100000), p1.2)
    else
      if 0 ≤ zw (104 + v1) ∧ zw (104 + v1) < 5090 then
        if zw (p1.2 43 0 (zix (104 + v1))) = (-1) then
          (f_X11_laysNow  p1.2).bind fun p2 =>
            if zw v2 = 0 then
              (f_X11_dearsOf v1 p2).bind fun p4 =>
                some (p4.1, p4.2)
            else
              if zw v2 = 1 then
                (f_X11_afterOf v1 p2).bind fun p6 =>
                  some (p6.1, p6.2)
              else
                if zw v2 = 2 then
                  (f_X11_toOf v1 p2).bind fun p8 =>
                    some (p8.1, p8.2)
                else
                  if zw v2 = 3 then
                    (f_X11_bringsOf v1 p2).bind fun p10 =>
                      some (p10.1, p10.2)
                  else
                    some ((-100000), p2)
        else
          some ((-100000), p1.2)
      else
        none
theorem g_X11_law {v1 : Int} {v2 : Int} {M : zM} {q : Int × zM} {d : Nat} (hd : 5 ≤ d) (h : f_X11_law v1 v2 M = some q) : zG 198 d (0, [some (zr 42 0), some (zi v1), some (zi v2)], [], M) (some (zi q.1)) q.2 := by
  have hm := zmok_198
  unfold f_X11_law at h
  refine zG_run hm 2 (cf' := (2, [some (zr 42 0), some (zi v1), some (zi v2)], [zi v1, zr 42 0], M)) rfl ?_
  obtain ⟨p1, hp1, h⟩ := Option.bind_eq_some_iff.mp h
  refine zG_V hm zmok_123 rfl (as := [zi v1]) (rest := []) (st2 := [zi p1.1]) (pc2 := 5) rfl rfl (by omega) (met_X11_isThing (d := 1) (Nat.le_refl _) hp1) rfl ?_
  by_cases c13 : zw p1.1 = 0
  · rw [if_pos c13] at h
    refine zG_br hm rfl (cf' := (21, [some (zr 42 0), some (zi v1), some (zi v2)], [], p1.2)) (if_pos c13) ?_
    refine zG_run hm 1 (cf' := (24, [some (zr 42 0), some (zi v1), some (zi v2)], [zi (-100000)], p1.2)) rfl ?_
    cases h
    exact zG_ri hm rfl rfl
  · rw [if_neg c13] at h
    refine zG_br hm rfl (cf' := (8, [some (zr 42 0), some (zi v1), some (zi v2)], [], p1.2)) (if_neg c13) ?_
    refine zG_run hm 5 (cf' := (16, [some (zr 42 0), some (zi v1), some (zi v2)], [zi (104 + v1), zr 43 0], p1.2)) rfl ?_
    by_cases c12 : 0 ≤ zw (104 + v1) ∧ zw (104 + v1) < 5090
    · rw [if_pos c12] at h
      refine zG_br hm rfl (cf' := (17, [some (zr 42 0), some (zi v1), some (zi v2)], [zi (p1.2 43 0 (zix (104 + v1)))], p1.2)) (if_pos c12) ?_
      refine zG_run hm 1 (cf' := (18, [some (zr 42 0), some (zi v1), some (zi v2)], [zi (-1), zi (p1.2 43 0 (zix (104 + v1)))], p1.2)) rfl ?_
      by_cases c11 : zw (p1.2 43 0 (zix (104 + v1))) = (-1)
      · rw [if_pos c11] at h
        refine zG_br hm rfl (cf' := (25, [some (zr 42 0), some (zi v1), some (zi v2)], [], p1.2)) (if_pos c11) ?_
        refine zG_run hm 1 (cf' := (26, [some (zr 42 0), some (zi v1), some (zi v2)], [zr 42 0], p1.2)) rfl ?_
        obtain ⟨p2, hp2, h⟩ := Option.bind_eq_some_iff.mp h
        refine zG_V hm zmok_171 rfl (as := []) (rest := []) (st2 := []) (pc2 := 29) rfl rfl (by omega) (met_X11_laysNow (d := 0) (Nat.le_refl _) hp2) rfl ?_
        refine zG_run hm 1 (cf' := (30, [some (zr 42 0), some (zi v1), some (zi v2)], [zi v2], p2)) rfl ?_
        by_cases c3 : zw v2 = 0
        · rw [if_pos c3] at h
          refine zG_tIn hm rfl (tgt := 60) (off := 30) c3 (by decide) rfl (by decide) ?_
          refine zG_run hm 2 (cf' := (62, [some (zr 42 0), some (zi v1), some (zi v2)], [zi v1, zr 42 0], p2)) rfl ?_
          obtain ⟨p4, hp4, h⟩ := Option.bind_eq_some_iff.mp h
          refine zG_V hm zmok_175 rfl (as := [zi v1]) (rest := []) (st2 := [zi p4.1]) (pc2 := 65) rfl rfl (by omega) (met_X11_dearsOf (d := 3) (Nat.le_refl _) hp4) rfl ?_
          cases h
          exact zG_ri hm rfl rfl
        · rw [if_neg c3] at h
          by_cases c5 : zw v2 = 1
          · rw [if_pos c5] at h
            refine zG_tIn hm rfl (tgt := 66) (off := 36) c5 (by decide) rfl (by decide) ?_
            refine zG_run hm 2 (cf' := (68, [some (zr 42 0), some (zi v1), some (zi v2)], [zi v1, zr 42 0], p2)) rfl ?_
            obtain ⟨p6, hp6, h⟩ := Option.bind_eq_some_iff.mp h
            refine zG_V hm zmok_176 rfl (as := [zi v1]) (rest := []) (st2 := [zi p6.1]) (pc2 := 71) rfl rfl (by omega) (met_X11_afterOf (d := 3) (Nat.le_refl _) hp6) rfl ?_
            cases h
            exact zG_ri hm rfl rfl
          · rw [if_neg c5] at h
            by_cases c7 : zw v2 = 2
            · rw [if_pos c7] at h
              refine zG_tIn hm rfl (tgt := 72) (off := 42) c7 (by decide) rfl (by decide) ?_
              refine zG_run hm 2 (cf' := (74, [some (zr 42 0), some (zi v1), some (zi v2)], [zi v1, zr 42 0], p2)) rfl ?_
              obtain ⟨p8, hp8, h⟩ := Option.bind_eq_some_iff.mp h
              refine zG_V hm zmok_177 rfl (as := [zi v1]) (rest := []) (st2 := [zi p8.1]) (pc2 := 77) rfl rfl (by omega) (met_X11_toOf (d := 3) (Nat.le_refl _) hp8) rfl ?_
              cases h
              exact zG_ri hm rfl rfl
            · rw [if_neg c7] at h
              by_cases c9 : zw v2 = 3
              · rw [if_pos c9] at h
                refine zG_tIn hm rfl (tgt := 78) (off := 48) c9 (by decide) rfl (by decide) ?_
                refine zG_run hm 2 (cf' := (80, [some (zr 42 0), some (zi v1), some (zi v2)], [zi v1, zr 42 0], p2)) rfl ?_
                obtain ⟨p10, hp10, h⟩ := Option.bind_eq_some_iff.mp h
                refine zG_V hm zmok_178 rfl (as := [zi v1]) (rest := []) (st2 := [zi p10.1]) (pc2 := 83) rfl rfl (by omega) (met_X11_bringsOf (d := 4) (Nat.le_refl _) hp10) rfl ?_
                cases h
                exact zG_ri hm rfl rfl
              · rw [if_neg c9] at h
                refine zG_tOut hm rfl (tgt := 84) (by omega) (by decide) ?_
                refine zG_run hm 1 (cf' := (87, [some (zr 42 0), some (zi v1), some (zi v2)], [zi (-100000)], p2)) rfl ?_
                cases h
                exact zG_ri hm rfl rfl
      · rw [if_neg c11] at h
        refine zG_br hm rfl (cf' := (21, [some (zr 42 0), some (zi v1), some (zi v2)], [], p1.2)) (if_neg c11) ?_
        refine zG_run hm 1 (cf' := (24, [some (zr 42 0), some (zi v1), some (zi v2)], [zi (-100000)], p1.2)) rfl ?_
        cases h
        exact zG_ri hm rfl rfl
    · rw [if_neg c12] at h
      cases h
theorem met_X11_law {v1 : Int} {v2 : Int} {M : zM} {q : Int × zM} {d : Nat} (hd : 5 ≤ d) (h : f_X11_law v1 v2 M = some q) : zMet 198 d [zr 42 0, zi v1, zi v2] M (some (zi q.1)) q.2 :=
  zMet_of (lv0 := [some (zr 42 0), some (zi v1), some (zi v2)]) zmok_198 rfl rfl (fun v hv => by cases hv; trivial) (g_X11_law hd h)
def f_X10_cardDay (v0 : Int) (M : zM) : Option (Int × zM) :=
  some ((Int.tdiv (zw v0) 4800), M)
theorem g_X10_cardDay {v0 : Int} {M : zM} {q : Int × zM} {d : Nat} (hd : 0 ≤ d) (h : f_X10_cardDay v0 M = some q) : zG 113 d (0, [some (zi v0)], [], M) (some (zi q.1)) q.2 := by
  have hm := zmok_113
  unfold f_X10_cardDay at h
  refine zG_run hm 3 (cf' := (5, [some (zi v0)], [zi (Int.tdiv (zw v0) 4800)], M)) rfl ?_
  cases h
  exact zG_ri hm rfl rfl
theorem met_X10_cardDay {v0 : Int} {M : zM} {q : Int × zM} {d : Nat} (hd : 0 ≤ d) (h : f_X10_cardDay v0 M = some q) : zMet 113 d [zi v0] M (some (zi q.1)) q.2 :=
  zMet_of (lv0 := [some (zi v0)]) zmok_113 rfl rfl (fun v hv => by cases hv; trivial) (g_X10_cardDay hd h)
def f_X10_cardThing (v0 : Int) (M : zM) : Option (Int × zM) :=
  some ((zrem (zw (Int.tdiv (zw v0) 600)) 8), M)
theorem g_X10_cardThing {v0 : Int} {M : zM} {q : Int × zM} {d : Nat} (hd : 0 ≤ d) (h : f_X10_cardThing v0 M = some q) : zG 114 d (0, [some (zi v0)], [], M) (some (zi q.1)) q.2 := by
  have hm := zmok_114
  unfold f_X10_cardThing at h
  refine zG_run hm 5 (cf' := (8, [some (zi v0)], [zi (zrem (zw (Int.tdiv (zw v0) 600)) 8)], M)) rfl ?_
  cases h
  exact zG_ri hm rfl rfl
theorem met_X10_cardThing {v0 : Int} {M : zM} {q : Int × zM} {d : Nat} (hd : 0 ≤ d) (h : f_X10_cardThing v0 M = some q) : zMet 114 d [zi v0] M (some (zi q.1)) q.2 :=
  zMet_of (lv0 := [some (zi v0)]) zmok_114 rfl rfl (fun v hv => by cases hv; trivial) (g_X10_cardThing hd h)
def f_X10_cardTo (v0 : Int) (M : zM) : Option (Int × zM) :=
  some ((zrem (zw (Int.tdiv (zw v0) 100)) 6), M)
theorem g_X10_cardTo {v0 : Int} {M : zM} {q : Int × zM} {d : Nat} (hd : 0 ≤ d) (h : f_X10_cardTo v0 M = some q) : zG 115 d (0, [some (zi v0)], [], M) (some (zi q.1)) q.2 := by
  have hm := zmok_115
  unfold f_X10_cardTo at h
  refine zG_run hm 5 (cf' := (7, [some (zi v0)], [zi (zrem (zw (Int.tdiv (zw v0) 100)) 6)], M)) rfl ?_
  cases h
  exact zG_ri hm rfl rfl
theorem met_X10_cardTo {v0 : Int} {M : zM} {q : Int × zM} {d : Nat} (hd : 0 ≤ d) (h : f_X10_cardTo v0 M = some q) : zMet 115 d [zi v0] M (some (zi q.1)) q.2 :=
  zMet_of (lv0 := [some (zi v0)]) zmok_115 rfl rfl (fun v hv => by cases hv; trivial) (g_X10_cardTo hd h)
def f_X10_cardDear (v0 : Int) (M : zM) : Option (Int × zM) :=
  some ((zrem (zw v0) 100), M)
theorem g_X10_cardDear {v0 : Int} {M : zM} {q : Int × zM} {d : Nat} (hd : 0 ≤ d) (h : f_X10_cardDear v0 M = some q) : zG 116 d (0, [some (zi v0)], [], M) (some (zi q.1)) q.2 := by
  have hm := zmok_116
  unfold f_X10_cardDear at h
  refine zG_run hm 3 (cf' := (4, [some (zi v0)], [zi (zrem (zw v0) 100)], M)) rfl ?_
  cases h
  exact zG_ri hm rfl rfl
theorem met_X10_cardDear {v0 : Int} {M : zM} {q : Int × zM} {d : Nat} (hd : 0 ≤ d) (h : f_X10_cardDear v0 M = some q) : zMet 116 d [zi v0] M (some (zi q.1)) q.2 :=
  zMet_of (lv0 := [some (zi v0)]) zmok_116 rfl rfl (fun v hv => by cases hv; trivial) (g_X10_cardDear hd h)
def f_X10_book (v1 : Int) (v2 : Int) (M : zM) : Option (Int × zM) :=
  if ¬ zw v1 = (-1) then
    (f_X10_within v1 0 ((M 11 0 8) - 1) M).bind fun p1 =>
      if ¬ zw p1.1 = 0 then
        if 0 ≤ zw v1 ∧ zw v1 < 30 then
          if zw v2 = 0 then
            (f_X10_cardDay (p1.2 15 0 (zix v1)) p1.2).bind fun p3 =>
              some (p3.1, p3.2)
          else
            if zw v2 = 1 then
              (f_X10_cardThing (p1.2 15 0 (zix v1)) p1.2).bind fun p5 =>
                some (p5.1, p5.2)
            else
              if zw v2 = 2 then
                (f_X10_cardTo (p1.2 15 0 (zix v1)) p1.2).bind fun p7 =>
                  some (p7.1, p7.2)
              else
                if zw v2 = 3 then
                  (f_X10_cardDear (p1.2 15 0 (zix v1)) p1.2).bind fun p9 =>
                    some (p9.1, p9.2)
                else
                  some ((-2), p1.2)
        else
          none
      else
        some ((-2), p1.2)
  else
    some ((M 11 0 8), M)
theorem g_X10_book {v1 : Int} {v2 : Int} {M : zM} {q : Int × zM} {d : Nat} (hd : 1 ≤ d) (h : f_X10_book v1 v2 M = some q) : zG 85 d (0, [some (zr 0 0), some (zi v1), some (zi v2), none], [], M) (some (zi q.1)) q.2 := by
  have hm := zmok_85
  unfold f_X10_book at h
  refine zG_run hm 2 (cf' := (2, [some (zr 0 0), some (zi v1), some (zi v2), none], [zi (-1), zi v1], M)) rfl ?_
  by_cases c12 : ¬ zw v1 = (-1)
  · rw [if_pos c12] at h
    refine zG_br hm rfl (cf' := (13, [some (zr 0 0), some (zi v1), some (zi v2), none], [], M)) (if_pos c12) ?_
    refine zG_run hm 7 (cf' := (24, [some (zr 0 0), some (zi v1), some (zi v2), none], [zi ((M 11 0 8) - 1), zi 0, zi v1], M)) rfl ?_
    obtain ⟨p1, hp1, h⟩ := Option.bind_eq_some_iff.mp h
    refine zG_S hm zmok_108 rfl (as := [zi v1, zi 0, zi ((M 11 0 8) - 1)]) (rest := []) (st2 := [zi p1.1]) (pc2 := 27) rfl rfl (by omega) (met_X10_within (d := 0) (Nat.le_refl _) hp1) rfl ?_
    by_cases c11 : ¬ zw p1.1 = 0
    · rw [if_pos c11] at h
      refine zG_br hm rfl (cf' := (33, [some (zr 0 0), some (zi v1), some (zi v2), none], [], p1.2)) (if_pos c11) ?_
      refine zG_run hm 4 (cf' := (41, [some (zr 0 0), some (zi v1), some (zi v2), none], [zi v1, zr 15 0], p1.2)) rfl ?_
      by_cases c10 : 0 ≤ zw v1 ∧ zw v1 < 30
      · rw [if_pos c10] at h
        refine zG_br hm rfl (cf' := (42, [some (zr 0 0), some (zi v1), some (zi v2), none], [zi (p1.2 15 0 (zix v1))], p1.2)) (if_pos c10) ?_
        refine zG_run hm 2 (cf' := (44, [some (zr 0 0), some (zi v1), some (zi v2), some (zi (p1.2 15 0 (zix v1)))], [zi v2], p1.2)) rfl ?_
        by_cases c2 : zw v2 = 0
        · rw [if_pos c2] at h
          refine zG_tIn hm rfl (tgt := 76) (off := 32) c2 (by decide) rfl (by decide) ?_
          refine zG_run hm 1 (cf' := (77, [some (zr 0 0), some (zi v1), some (zi v2), some (zi (p1.2 15 0 (zix v1)))], [zi (p1.2 15 0 (zix v1))], p1.2)) rfl ?_
          obtain ⟨p3, hp3, h⟩ := Option.bind_eq_some_iff.mp h
          refine zG_S hm zmok_113 rfl (as := [zi (p1.2 15 0 (zix v1))]) (rest := []) (st2 := [zi p3.1]) (pc2 := 80) rfl rfl (by omega) (met_X10_cardDay (d := 0) (Nat.le_refl _) hp3) rfl ?_
          cases h
          exact zG_ri hm rfl rfl
        · rw [if_neg c2] at h
          by_cases c4 : zw v2 = 1
          · rw [if_pos c4] at h
            refine zG_tIn hm rfl (tgt := 81) (off := 37) c4 (by decide) rfl (by decide) ?_
            refine zG_run hm 1 (cf' := (82, [some (zr 0 0), some (zi v1), some (zi v2), some (zi (p1.2 15 0 (zix v1)))], [zi (p1.2 15 0 (zix v1))], p1.2)) rfl ?_
            obtain ⟨p5, hp5, h⟩ := Option.bind_eq_some_iff.mp h
            refine zG_S hm zmok_114 rfl (as := [zi (p1.2 15 0 (zix v1))]) (rest := []) (st2 := [zi p5.1]) (pc2 := 85) rfl rfl (by omega) (met_X10_cardThing (d := 0) (Nat.le_refl _) hp5) rfl ?_
            cases h
            exact zG_ri hm rfl rfl
          · rw [if_neg c4] at h
            by_cases c6 : zw v2 = 2
            · rw [if_pos c6] at h
              refine zG_tIn hm rfl (tgt := 86) (off := 42) c6 (by decide) rfl (by decide) ?_
              refine zG_run hm 1 (cf' := (87, [some (zr 0 0), some (zi v1), some (zi v2), some (zi (p1.2 15 0 (zix v1)))], [zi (p1.2 15 0 (zix v1))], p1.2)) rfl ?_
              obtain ⟨p7, hp7, h⟩ := Option.bind_eq_some_iff.mp h
              refine zG_S hm zmok_115 rfl (as := [zi (p1.2 15 0 (zix v1))]) (rest := []) (st2 := [zi p7.1]) (pc2 := 90) rfl rfl (by omega) (met_X10_cardTo (d := 0) (Nat.le_refl _) hp7) rfl ?_
              cases h
              exact zG_ri hm rfl rfl
            · rw [if_neg c6] at h
              by_cases c8 : zw v2 = 3
              · rw [if_pos c8] at h
                refine zG_tIn hm rfl (tgt := 91) (off := 47) c8 (by decide) rfl (by decide) ?_
                refine zG_run hm 1 (cf' := (92, [some (zr 0 0), some (zi v1), some (zi v2), some (zi (p1.2 15 0 (zix v1)))], [zi (p1.2 15 0 (zix v1))], p1.2)) rfl ?_
                obtain ⟨p9, hp9, h⟩ := Option.bind_eq_some_iff.mp h
                refine zG_S hm zmok_116 rfl (as := [zi (p1.2 15 0 (zix v1))]) (rest := []) (st2 := [zi p9.1]) (pc2 := 95) rfl rfl (by omega) (met_X10_cardDear (d := 0) (Nat.le_refl _) hp9) rfl ?_
                cases h
                exact zG_ri hm rfl rfl
              · rw [if_neg c8] at h
                refine zG_tOut hm rfl (tgt := 96) (by omega) (by decide) ?_
                refine zG_run hm 1 (cf' := (98, [some (zr 0 0), some (zi v1), some (zi v2), some (zi (p1.2 15 0 (zix v1)))], [zi (-2)], p1.2)) rfl ?_
                cases h
                exact zG_ri hm rfl rfl
      · rw [if_neg c10] at h
        cases h
    · rw [if_neg c11] at h
      refine zG_br hm rfl (cf' := (30, [some (zr 0 0), some (zi v1), some (zi v2), none], [], p1.2)) (if_neg c11) ?_
      refine zG_run hm 1 (cf' := (32, [some (zr 0 0), some (zi v1), some (zi v2), none], [zi (-2)], p1.2)) rfl ?_
      cases h
      exact zG_ri hm rfl rfl
  · rw [if_neg c12] at h
    refine zG_br hm rfl (cf' := (5, [some (zr 0 0), some (zi v1), some (zi v2), none], [], M)) (if_neg c12) ?_
    refine zG_run hm 3 (cf' := (12, [some (zr 0 0), some (zi v1), some (zi v2), none], [zi (M 11 0 8)], M)) rfl ?_
    cases h
    exact zG_ri hm rfl rfl
theorem met_X10_book {v1 : Int} {v2 : Int} {M : zM} {q : Int × zM} {d : Nat} (hd : 1 ≤ d) (h : f_X10_book v1 v2 M = some q) : zMet 85 d [zr 0 0, zi v1, zi v2] M (some (zi q.1)) q.2 :=
  zMet_of (lv0 := [some (zr 0 0), some (zi v1), some (zi v2), none]) zmok_85 rfl rfl (fun v hv => by cases hv; trivial) (g_X10_book hd h)
def f_X11_book (v1 : Int) (v2 : Int) (M : zM) : Option (Int × zM) :=
  if ¬ zw v1 = (-1) then
    (f_X11_in v1 0 ((M 43 0 130) - 1) M).bind fun p1 =>
      if zw p1.1 = 0 then
        some ((-2), p1.2)
      else
        (f_X11_in v2 0 3 p1.2).bind fun p2 =>
          if zw p2.1 = 0 then
            some ((-2), p2.2)
          else
            if 0 ≤ zw ((131 + (4 * v1)) + v2) ∧ zw ((131 + (4 * v1)) + v2) < 5090 then
              some ((p2.2 43 0 (zix ((131 + (4 * v1)) + v2))), p2.2)
            else
              none
  else
    some ((M 43 0 130), M)
theorem g_X11_book {v1 : Int} {v2 : Int} {M : zM} {q : Int × zM} {d : Nat} (hd : 1 ≤ d) (h : f_X11_book v1 v2 M = some q) : zG 199 d (0, [some (zr 42 0), some (zi v1), some (zi v2)], [], M) (some (zi q.1)) q.2 := by
  have hm := zmok_199
  unfold f_X11_book at h
  refine zG_run hm 2 (cf' := (2, [some (zr 42 0), some (zi v1), some (zi v2)], [zi (-1), zi v1], M)) rfl ?_
  by_cases c6 : ¬ zw v1 = (-1)
  · rw [if_pos c6] at h
    refine zG_br hm rfl (cf' := (14, [some (zr 42 0), some (zi v1), some (zi v2)], [], M)) (if_pos c6) ?_
    refine zG_run hm 8 (cf' := (26, [some (zr 42 0), some (zi v1), some (zi v2)], [zi ((M 43 0 130) - 1), zi 0, zi v1], M)) rfl ?_
    obtain ⟨p1, hp1, h⟩ := Option.bind_eq_some_iff.mp h
    refine zG_S hm zmok_117 rfl (as := [zi v1, zi 0, zi ((M 43 0 130) - 1)]) (rest := []) (st2 := [zi p1.1]) (pc2 := 29) rfl rfl (by omega) (met_X11_in (d := 0) (Nat.le_refl _) hp1) rfl ?_
    by_cases c5 : zw p1.1 = 0
    · rw [if_pos c5] at h
      refine zG_br hm rfl (cf' := (58, [some (zr 42 0), some (zi v1), some (zi v2)], [], p1.2)) (if_pos c5) ?_
      refine zG_run hm 1 (cf' := (60, [some (zr 42 0), some (zi v1), some (zi v2)], [zi (-2)], p1.2)) rfl ?_
      cases h
      exact zG_ri hm rfl rfl
    · rw [if_neg c5] at h
      refine zG_br hm rfl (cf' := (32, [some (zr 42 0), some (zi v1), some (zi v2)], [], p1.2)) (if_neg c5) ?_
      refine zG_run hm 3 (cf' := (35, [some (zr 42 0), some (zi v1), some (zi v2)], [zi 3, zi 0, zi v2], p1.2)) rfl ?_
      obtain ⟨p2, hp2, h⟩ := Option.bind_eq_some_iff.mp h
      refine zG_S hm zmok_117 rfl (as := [zi v2, zi 0, zi 3]) (rest := []) (st2 := [zi p2.1]) (pc2 := 38) rfl rfl (by omega) (met_X11_in (d := 0) (Nat.le_refl _) hp2) rfl ?_
      by_cases c4 : zw p2.1 = 0
      · rw [if_pos c4] at h
        refine zG_br hm rfl (cf' := (58, [some (zr 42 0), some (zi v1), some (zi v2)], [], p2.2)) (if_pos c4) ?_
        refine zG_run hm 1 (cf' := (60, [some (zr 42 0), some (zi v1), some (zi v2)], [zi (-2)], p2.2)) rfl ?_
        cases h
        exact zG_ri hm rfl rfl
      · rw [if_neg c4] at h
        refine zG_br hm rfl (cf' := (41, [some (zr 42 0), some (zi v1), some (zi v2)], [], p2.2)) (if_neg c4) ?_
        refine zG_run hm 9 (cf' := (54, [some (zr 42 0), some (zi v1), some (zi v2)], [zi ((131 + (4 * v1)) + v2), zr 43 0], p2.2)) rfl ?_
        by_cases c3 : 0 ≤ zw ((131 + (4 * v1)) + v2) ∧ zw ((131 + (4 * v1)) + v2) < 5090
        · rw [if_pos c3] at h
          refine zG_br hm rfl (cf' := (55, [some (zr 42 0), some (zi v1), some (zi v2)], [zi (p2.2 43 0 (zix ((131 + (4 * v1)) + v2)))], p2.2)) (if_pos c3) ?_
          refine zG_run hm 1 (cf' := (60, [some (zr 42 0), some (zi v1), some (zi v2)], [zi (p2.2 43 0 (zix ((131 + (4 * v1)) + v2)))], p2.2)) rfl ?_
          cases h
          exact zG_ri hm rfl rfl
        · rw [if_neg c3] at h
          cases h
  · rw [if_neg c6] at h
    refine zG_br hm rfl (cf' := (5, [some (zr 42 0), some (zi v1), some (zi v2)], [], M)) (if_neg c6) ?_
    refine zG_run hm 4 (cf' := (13, [some (zr 42 0), some (zi v1), some (zi v2)], [zi (M 43 0 130)], M)) rfl ?_
    cases h
    exact zG_ri hm rfl rfl
theorem met_X11_book {v1 : Int} {v2 : Int} {M : zM} {q : Int × zM} {d : Nat} (hd : 1 ≤ d) (h : f_X11_book v1 v2 M = some q) : zMet 199 d [zr 42 0, zi v1, zi v2] M (some (zi q.1)) q.2 :=
  zMet_of (lv0 := [some (zr 42 0), some (zi v1), some (zi v2)]) zmok_199 rfl rfl (fun v hv => by cases hv; trivial) (g_X11_book hd h)
def f_X8_copy (n0 : Nat) (n1 : Nat) (M : zM) : Option (zM) :=
  zlet (zput M 16 n0 0 (M 16 n1 0)) fun M1 =>
  zlet (zput M1 16 n0 1 (M1 16 n1 1)) fun M2 =>
  zlet (zput M2 16 n0 2 (M2 16 n1 2)) fun M3 =>
  zlet (zput M3 16 n0 3 (M3 16 n1 3)) fun M4 =>
  zlet (zput M4 16 n0 4 (M4 16 n1 4)) fun M5 =>
  zlet (zput M5 16 n0 5 (M5 16 n1 5)) fun M6 =>
  zlet (zput M6 16 n0 6 (M6 16 n1 6)) fun M7 =>
  some M7
theorem g_X8_copy {n0 : Nat} {n1 : Nat} {M : zM} {q : zM} {d : Nat} (hd : 0 ≤ d) (h : f_X8_copy n0 n1 M = some q) : zG 60 d (0, [some (zr 16 n0), some (zr 16 n1)], [], M) none q := by
  have hm := zmok_60
  unfold f_X8_copy at h
  refine zG_run hm 4 (cf' := (8, [some (zr 16 n0), some (zr 16 n1)], [], (zput M 16 n0 0 (M 16 n1 0)))) rfl ?_
  obtain ⟨M1, eM1, h⟩ := zlet_of h
  rw [eM1]
  refine zG_run hm 4 (cf' := (16, [some (zr 16 n0), some (zr 16 n1)], [], (zput M1 16 n0 1 (M1 16 n1 1)))) rfl ?_
  obtain ⟨M2, eM2, h⟩ := zlet_of h
  rw [eM2]
  refine zG_run hm 4 (cf' := (24, [some (zr 16 n0), some (zr 16 n1)], [], (zput M2 16 n0 2 (M2 16 n1 2)))) rfl ?_
  obtain ⟨M3, eM3, h⟩ := zlet_of h
  rw [eM3]
  refine zG_run hm 4 (cf' := (32, [some (zr 16 n0), some (zr 16 n1)], [], (zput M3 16 n0 3 (M3 16 n1 3)))) rfl ?_
  obtain ⟨M4, eM4, h⟩ := zlet_of h
  rw [eM4]
  refine zG_run hm 4 (cf' := (40, [some (zr 16 n0), some (zr 16 n1)], [], (zput M4 16 n0 4 (M4 16 n1 4)))) rfl ?_
  obtain ⟨M5, eM5, h⟩ := zlet_of h
  rw [eM5]
  refine zG_run hm 4 (cf' := (48, [some (zr 16 n0), some (zr 16 n1)], [], (zput M5 16 n0 5 (M5 16 n1 5)))) rfl ?_
  obtain ⟨M6, eM6, h⟩ := zlet_of h
  rw [eM6]
  refine zG_run hm 4 (cf' := (56, [some (zr 16 n0), some (zr 16 n1)], [], (zput M6 16 n0 6 (M6 16 n1 6)))) rfl ?_
  obtain ⟨M7, eM7, h⟩ := zlet_of h
  rw [eM7]
  cases h
  exact zG_rv hm rfl rfl
theorem met_X8_copy {n0 : Nat} {n1 : Nat} {M : zM} {q : zM} {d : Nat} (hd : 0 ≤ d) (h : f_X8_copy n0 n1 M = some q) : zMet 60 d [zr 16 n0, zr 16 n1] M none q :=
  zMet_of (lv0 := [some (zr 16 n0), some (zr 16 n1)]) zmok_60 rfl rfl (fun v hv => by cases hv) (g_X8_copy hd h)
def f_X0_copy_L47 (n0 : Nat) (n1 : Nat) (v2 : Int) (M : zM) : Option ((Int × zM) ⊕ (zM)) :=
  if 8 ≤ zw v2 then
    some (.inr M)
  else
    if 0 ≤ zw v2 ∧ zw v2 < 8 then
      if 0 ≤ zw v2 ∧ zw v2 < 8 then
        (f_X8_copy ((zix v2) + 8 * n0) ((zix v2) + 8 * n1) M).bind fun p4 =>
          some (.inl ((v2 + 1), p4))
      else
        none
    else
      none
theorem g_X0_copy_L47 {n0 : Nat} {n1 : Nat} {v2 : Int} {M : zM} {x : (Int × zM) ⊕ (zM)} {r : Option zV} {Mf : zM} {d : Nat} (hd : 1 ≤ d) (h : f_X0_copy_L47 n0 n1 v2 M = some x)
    (kc : ∀ s, x = .inl s → zG 0 d (47, [some (zr 11 n0), some (zr 11 n1), some (zi s.1)], [], s.2) r Mf)
    (kb : ∀ t, x = .inr t → zG 0 d (74, [some (zr 11 n0), some (zr 11 n1), none], [], t) r Mf) (kr : True) : zG 0 d (47, [some (zr 11 n0), some (zr 11 n1), some (zi v2)], [], M) r Mf := by
  have hm := zmok_0
  unfold f_X0_copy_L47 at h
  refine zG_run hm 2 (cf' := (50, [some (zr 11 n0), some (zr 11 n1), some (zi v2)], [zi 8, zi v2], M)) rfl ?_
  by_cases c7 : 8 ≤ zw v2
  · rw [if_pos c7] at h
    refine zG_br hm rfl (cf' := (74, [some (zr 11 n0), some (zr 11 n1), some (zi v2)], [], M)) (if_pos c7) ?_
    refine zG_sub (lv' := [some (zr 11 n0), some (zr 11 n1), none]) (zsb_s rfl (zsb_s rfl (zsb_n zsb_0))) ?_
    exact kb M (Option.some.inj h).symm
  · rw [if_neg c7] at h
    refine zG_br hm rfl (cf' := (53, [some (zr 11 n0), some (zr 11 n1), some (zi v2)], [], M)) (if_neg c7) ?_
    refine zG_run hm 3 (cf' := (58, [some (zr 11 n0), some (zr 11 n1), some (zi v2)], [zi v2, zr 14 n0], M)) rfl ?_
    by_cases c6 : 0 ≤ zw v2 ∧ zw v2 < 8
    · rw [if_pos c6] at h
      refine zG_br hm rfl (cf' := (59, [some (zr 11 n0), some (zr 11 n1), some (zi v2)], [zr 16 ((zix v2) + 8 * n0)], M)) (if_pos c6) ?_
      refine zG_run hm 3 (cf' := (64, [some (zr 11 n0), some (zr 11 n1), some (zi v2)], [zi v2, zr 14 n1, zr 16 ((zix v2) + 8 * n0)], M)) rfl ?_
      by_cases c5 : 0 ≤ zw v2 ∧ zw v2 < 8
      · rw [if_pos c5] at h
        refine zG_br hm rfl (cf' := (65, [some (zr 11 n0), some (zr 11 n1), some (zi v2)], [zr 16 ((zix v2) + 8 * n1), zr 16 ((zix v2) + 8 * n0)], M)) (if_pos c5) ?_
        obtain ⟨p4, hp4, h⟩ := Option.bind_eq_some_iff.mp h
        refine zG_V hm zmok_60 rfl (as := [zr 16 ((zix v2) + 8 * n1)]) (rest := []) (st2 := []) (pc2 := 68) rfl rfl (by omega) (met_X8_copy (d := 0) (Nat.le_refl _) hp4) rfl ?_
        refine zG_run hm 2 (cf' := (47, [some (zr 11 n0), some (zr 11 n1), some (zi (v2 + 1))], [], p4)) rfl ?_
        refine zG_sub (lv' := [some (zr 11 n0), some (zr 11 n1), some (zi (v2 + 1))]) (zsb_s rfl (zsb_s rfl (zsb_s rfl zsb_0))) ?_
        exact kc ((v2 + 1), p4) (Option.some.inj h).symm
      · rw [if_neg c5] at h
        cases h
    · rw [if_neg c6] at h
      cases h
theorem gl_X0_copy_L47 {n0 : Nat} {n1 : Nat} {y : zM} {r : Option zV} {Mf : zM} {d : Nat} (hd : 1 ≤ d)
    (kb : ∀ t, y = t → zG 0 d (74, [some (zr 11 n0), some (zr 11 n1), none], [], t) r Mf) (kr : True) : ∀ (n : Nat) (s : Int × zM), zlp (fun s : Int × zM => f_X0_copy_L47 n0 n1 s.1 s.2) n s = some y → zG 0 d (47, [some (zr 11 n0), some (zr 11 n1), some (zi s.1)], [], s.2) r Mf := by
  intro n
  induction n with
  | zero => intro s h; cases h
  | succ n ih =>
    intro s h
    rcases zlp_cases h with ⟨s', h1, h2⟩ | h1
    · exact g_X0_copy_L47 hd h1 (fun s2 e2 => by cases e2; exact ih _ h2) (fun t e2 => by cases e2) trivial
    · exact g_X0_copy_L47 hd h1 (fun s2 e2 => by cases e2) (fun t e2 => kb t (Sum.inr.inj e2)) trivial
def f_X0_copy (n0 : Nat) (n1 : Nat) (M : zM) : Option (zM) :=
  zlet (zcopy M 12 n1 0 12 n0 0 6) fun M1 =>
  zlet (zcopy M1 13 n1 0 13 n0 0 6) fun M2 =>
  zlet (zcopy M2 15 n1 0 15 n0 0 30) fun M3 =>
  (zlp (fun s : Int × zM => f_X0_copy_L47 n0 n1 s.1 s.2) zF (0, M3)).bind fun y8 =>
    zlet (zput y8 11 n0 6 (y8 11 n1 6)) fun M9 =>
    zlet (zput M9 11 n0 7 (M9 11 n1 7)) fun M10 =>
    zlet (zput M10 11 n0 8 (M10 11 n1 8)) fun M11 =>
    zlet (zput M11 11 n0 9 (M11 11 n1 9)) fun M12 =>
    zlet (zput M12 11 n0 10 (M12 11 n1 10)) fun M13 =>
    zlet (zput M13 11 n0 11 (M13 11 n1 11)) fun M14 =>
    zlet (zput M14 11 n0 12 (M14 11 n1 12)) fun M15 =>
    zlet (zput M15 11 n0 13 (M15 11 n1 13)) fun M16 =>
    some M16
theorem g_X0_copy {n0 : Nat} {n1 : Nat} {M : zM} {q : zM} {d : Nat} (hd : 1 ≤ d) (h : f_X0_copy n0 n1 M = some q) : zG 0 d (0, [some (zr 11 n0), some (zr 11 n1), none], [], M) none q := by
  have hm := zmok_0
  unfold f_X0_copy at h
  refine zG_run hm 7 (cf' := (12, [some (zr 11 n0), some (zr 11 n1), none], [zi 6, zi 0, zr 12 n0, zi 0, zr 12 n1], M)) rfl ?_
  refine zG_copy hm rfl 0 (Or.inl rfl) rfl (by decide) (by decide) (by decide) rfl rfl rfl ?_
  show zG 0 d (15, [some (zr 11 n0), some (zr 11 n1), none], [], (zcopy M 12 n1 0 12 n0 0 6)) _ _
  obtain ⟨M1, eM1, h⟩ := zlet_of h
  rw [eM1]
  refine zG_run hm 7 (cf' := (27, [some (zr 11 n0), some (zr 11 n1), none], [zi 6, zi 0, zr 13 n0, zi 0, zr 13 n1], M1)) rfl ?_
  refine zG_copy hm rfl 0 (Or.inl rfl) rfl (by decide) (by decide) (by decide) rfl rfl rfl ?_
  show zG 0 d (30, [some (zr 11 n0), some (zr 11 n1), none], [], (zcopy M1 13 n1 0 13 n0 0 6)) _ _
  obtain ⟨M2, eM2, h⟩ := zlet_of h
  rw [eM2]
  refine zG_run hm 7 (cf' := (42, [some (zr 11 n0), some (zr 11 n1), none], [zi 30, zi 0, zr 15 n0, zi 0, zr 15 n1], M2)) rfl ?_
  refine zG_copy hm rfl 0 (Or.inl rfl) rfl (by decide) (by decide) (by decide) rfl rfl rfl ?_
  show zG 0 d (45, [some (zr 11 n0), some (zr 11 n1), none], [], (zcopy M2 15 n1 0 15 n0 0 30)) _ _
  obtain ⟨M3, eM3, h⟩ := zlet_of h
  rw [eM3]
  refine zG_run hm 2 (cf' := (47, [some (zr 11 n0), some (zr 11 n1), some (zi 0)], [], M3)) rfl ?_
  refine zG_sub (lv' := [some (zr 11 n0), some (zr 11 n1), some (zi 0)]) (zsb_s rfl (zsb_s rfl (zsb_s rfl zsb_0))) ?_
  obtain ⟨y8, hy8, h⟩ := Option.bind_eq_some_iff.mp h
  refine gl_X0_copy_L47 hd (fun t e2 => ?_) trivial zF (0, M3) hy8
  cases e2
  refine zG_run hm 4 (cf' := (82, [some (zr 11 n0), some (zr 11 n1), none], [], (zput y8 11 n0 6 (y8 11 n1 6)))) rfl ?_
  obtain ⟨M9, eM9, h⟩ := zlet_of h
  rw [eM9]
  refine zG_run hm 4 (cf' := (90, [some (zr 11 n0), some (zr 11 n1), none], [], (zput M9 11 n0 7 (M9 11 n1 7)))) rfl ?_
  obtain ⟨M10, eM10, h⟩ := zlet_of h
  rw [eM10]
  refine zG_run hm 4 (cf' := (98, [some (zr 11 n0), some (zr 11 n1), none], [], (zput M10 11 n0 8 (M10 11 n1 8)))) rfl ?_
  obtain ⟨M11, eM11, h⟩ := zlet_of h
  rw [eM11]
  refine zG_run hm 4 (cf' := (106, [some (zr 11 n0), some (zr 11 n1), none], [], (zput M11 11 n0 9 (M11 11 n1 9)))) rfl ?_
  obtain ⟨M12, eM12, h⟩ := zlet_of h
  rw [eM12]
  refine zG_run hm 4 (cf' := (114, [some (zr 11 n0), some (zr 11 n1), none], [], (zput M12 11 n0 10 (M12 11 n1 10)))) rfl ?_
  obtain ⟨M13, eM13, h⟩ := zlet_of h
  rw [eM13]
  refine zG_run hm 4 (cf' := (122, [some (zr 11 n0), some (zr 11 n1), none], [], (zput M13 11 n0 11 (M13 11 n1 11)))) rfl ?_
  obtain ⟨M14, eM14, h⟩ := zlet_of h
  rw [eM14]
  refine zG_run hm 4 (cf' := (130, [some (zr 11 n0), some (zr 11 n1), none], [], (zput M14 11 n0 12 (M14 11 n1 12)))) rfl ?_
  obtain ⟨M15, eM15, h⟩ := zlet_of h
  rw [eM15]
  refine zG_run hm 4 (cf' := (138, [some (zr 11 n0), some (zr 11 n1), none], [], (zput M15 11 n0 13 (M15 11 n1 13)))) rfl ?_
  obtain ⟨M16, eM16, h⟩ := zlet_of h
  rw [eM16]
  cases h
  exact zG_rv hm rfl rfl
theorem met_X0_copy {n0 : Nat} {n1 : Nat} {M : zM} {q : zM} {d : Nat} (hd : 1 ≤ d) (h : f_X0_copy n0 n1 M = some q) : zMet 0 d [zr 11 n0, zr 11 n1] M none q :=
  zMet_of (lv0 := [some (zr 11 n0), some (zr 11 n1), none]) zmok_0 rfl rfl (fun v hv => by cases hv) (g_X0_copy hd h)
def f_X10_tryDays_L29 (v2 : Int) (v3 : Int) (M : zM) : Option ((Int × zM) ⊕ (zM)) :=
  if zw v2 ≤ zw v3 then
    some (.inr M)
  else
    (f_X0_passOne 2 M).bind fun p2 =>
      some (.inl ((v3 + 1), p2.2))
theorem g_X10_tryDays_L29 {v2 : Int} {v3 : Int} {M : zM} {x : (Int × zM) ⊕ (zM)} {r : Option zV} {Mf : zM} {d : Nat} (hd : 5 ≤ d) (h : f_X10_tryDays_L29 v2 v3 M = some x)
    (kc : ∀ s, x = .inl s → zG 89 d (29, [some (zr 0 0), none, some (zi v2), some (zi s.1)], [], s.2) r Mf)
    (kb : ∀ t, x = .inr t → zG 89 d (48, [none, none, none, none], [], t) r Mf) (kr : True) : zG 89 d (29, [some (zr 0 0), none, some (zi v2), some (zi v3)], [], M) r Mf := by
  have hm := zmok_89
  unfold f_X10_tryDays_L29 at h
  refine zG_run hm 2 (cf' := (31, [some (zr 0 0), none, some (zi v2), some (zi v3)], [zi v2, zi v3], M)) rfl ?_
  by_cases c3 : zw v2 ≤ zw v3
  · rw [if_pos c3] at h
    refine zG_br hm rfl (cf' := (48, [some (zr 0 0), none, some (zi v2), some (zi v3)], [], M)) (if_pos c3) ?_
    refine zG_sub (lv' := [none, none, none, none]) (zsb_n (zsb_n (zsb_n (zsb_n zsb_0)))) ?_
    exact kb M (Option.some.inj h).symm
  · rw [if_neg c3] at h
    refine zG_br hm rfl (cf' := (34, [some (zr 0 0), none, some (zi v2), some (zi v3)], [], M)) (if_neg c3) ?_
    refine zG_run hm 2 (cf' := (38, [some (zr 0 0), none, some (zi v2), some (zi v3)], [zr 11 2], M)) rfl ?_
    obtain ⟨p2, hp2, h⟩ := Option.bind_eq_some_iff.mp h
    refine zG_V hm zmok_14 rfl (as := []) (rest := []) (st2 := [zi p2.1]) (pc2 := 41) rfl rfl (by omega) (met_X0_passOne (d := 4) (Nat.le_refl _) hp2) rfl ?_
    refine zG_run hm 3 (cf' := (29, [some (zr 0 0), none, some (zi v2), some (zi (v3 + 1))], [], p2.2)) rfl ?_
    refine zG_sub (lv' := [some (zr 0 0), none, some (zi v2), some (zi (v3 + 1))]) (zsb_s rfl (zsb_n (zsb_s rfl (zsb_s rfl zsb_0)))) ?_
    exact kc ((v3 + 1), p2.2) (Option.some.inj h).symm
theorem gl_X10_tryDays_L29 {v2 : Int} {y : zM} {r : Option zV} {Mf : zM} {d : Nat} (hd : 5 ≤ d)
    (kb : ∀ t, y = t → zG 89 d (48, [none, none, none, none], [], t) r Mf) (kr : True) : ∀ (n : Nat) (s : Int × zM), zlp (fun s : Int × zM => f_X10_tryDays_L29 v2 s.1 s.2) n s = some y → zG 89 d (29, [some (zr 0 0), none, some (zi v2), some (zi s.1)], [], s.2) r Mf := by
  intro n
  induction n with
  | zero => intro s h; cases h
  | succ n ih =>
    intro s h
    rcases zlp_cases h with ⟨s', h1, h2⟩ | h1
    · exact g_X10_tryDays_L29 hd h1 (fun s2 e2 => by cases e2; exact ih _ h2) (fun t e2 => by cases e2) trivial
    · exact g_X10_tryDays_L29 hd h1 (fun s2 e2 => by cases e2) (fun t e2 => kb t (Sum.inr.inj e2)) trivial
def f_X10_tryDays (v1 : Int) (M : zM) : Option (zM) :=
  (f_X0_copy 2 0 M).bind fun p1 =>
    (zlp (fun s : Int × zM => f_X10_tryDays_L29 (if zw (9999 - (p1 11 0 10)) < zw v1 then (9999 - (p1 11 0 10)) else v1) s.1 s.2) zF (0, p1)).bind fun y4 =>
      some y4
theorem g_X10_tryDays {v1 : Int} {M : zM} {q : zM} {d : Nat} (hd : 5 ≤ d) (h : f_X10_tryDays v1 M = some q) : zG 89 d (0, [some (zr 0 0), some (zi v1), none, none], [], M) none q := by
  have hm := zmok_89
  unfold f_X10_tryDays at h
  refine zG_run hm 4 (cf' := (8, [some (zr 0 0), some (zi v1), none, none], [zr 11 0, zr 11 2], M)) rfl ?_
  obtain ⟨p1, hp1, h⟩ := Option.bind_eq_some_iff.mp h
  refine zG_V hm zmok_0 rfl (as := [zr 11 0]) (rest := []) (st2 := []) (pc2 := 11) rfl rfl (by omega) (met_X0_copy (d := 1) (Nat.le_refl _) hp1) rfl ?_
  refine zG_run hm 6 (cf' := (23, [some (zr 0 0), some (zi v1), none, none], [zi (9999 - (p1 11 0 10)), zi v1], p1)) rfl ?_
  refine zG_min hm rfl rfl ?_
  show zG 89 d (26, [some (zr 0 0), some (zi v1), none, none], [zi (if zw (9999 - (p1 11 0 10)) < zw v1 then (9999 - (p1 11 0 10)) else v1)], p1) _ _
  refine zG_run hm 3 (cf' := (29, [some (zr 0 0), some (zi v1), some (zi (if zw (9999 - (p1 11 0 10)) < zw v1 then (9999 - (p1 11 0 10)) else v1)), some (zi 0)], [], p1)) rfl ?_
  refine zG_sub (lv' := [some (zr 0 0), none, some (zi (if zw (9999 - (p1 11 0 10)) < zw v1 then (9999 - (p1 11 0 10)) else v1)), some (zi 0)]) (zsb_s rfl (zsb_n (zsb_s rfl (zsb_s rfl zsb_0)))) ?_
  obtain ⟨y4, hy4, h⟩ := Option.bind_eq_some_iff.mp h
  refine gl_X10_tryDays_L29 hd (fun t e2 => ?_) trivial zF (0, p1) hy4
  cases e2
  cases h
  exact zG_rv hm rfl rfl
theorem met_X10_tryDays {v1 : Int} {M : zM} {q : zM} {d : Nat} (hd : 5 ≤ d) (h : f_X10_tryDays v1 M = some q) : zMet 89 d [zr 0 0, zi v1] M none q :=
  zMet_of (lv0 := [some (zr 0 0), some (zi v1), none, none]) zmok_89 rfl rfl (fun v hv => by cases hv) (g_X10_tryDays hd h)
def f_X10_foretold (v1 : Int) (v2 : Int) (v3 : Int) (M : zM) : Option (Int × zM) :=
  (f_X10_within v1 1 60 M).bind fun p1 =>
    if zw p1.1 = 0 then
      some ((-2), p1.2)
    else
      (f_X0_hasThing 0 v2 p1.2).bind fun p2 =>
        if zw p2.1 = 0 then
          some ((-2), p2.2)
        else
          (f_X10_within v3 0 1 p2.2).bind fun p3 =>
            if ¬ zw p3.1 = 0 then
              (f_X10_tryDays v1 p3.2).bind fun p4 =>
                if 0 ≤ zw v2 ∧ zw v2 < 8 then
                  if ¬ zw v3 = 0 then
                    some ((p4 16 ((zix v2) + 16) 4), p4)
                  else
                    some ((p4 16 ((zix v2) + 16) 3), p4)
                else
                  none
            else
              some ((-2), p3.2)
theorem g_X10_foretold {v1 : Int} {v2 : Int} {v3 : Int} {M : zM} {q : Int × zM} {d : Nat} (hd : 6 ≤ d) (h : f_X10_foretold v1 v2 v3 M = some q) : zG 87 d (0, [some (zr 0 0), some (zi v1), some (zi v2), some (zi v3), none], [], M) (some (zi q.1)) q.2 := by
  have hm := zmok_87
  unfold f_X10_foretold at h
  refine zG_run hm 3 (cf' := (4, [some (zr 0 0), some (zi v1), some (zi v2), some (zi v3), none], [zi 60, zi 1, zi v1], M)) rfl ?_
  obtain ⟨p1, hp1, h⟩ := Option.bind_eq_some_iff.mp h
  refine zG_S hm zmok_108 rfl (as := [zi v1, zi 1, zi 60]) (rest := []) (st2 := [zi p1.1]) (pc2 := 7) rfl rfl (by omega) (met_X10_within (d := 0) (Nat.le_refl _) hp1) rfl ?_
  by_cases c9 : zw p1.1 = 0
  · rw [if_pos c9] at h
    refine zG_br hm rfl (cf' := (30, [some (zr 0 0), some (zi v1), some (zi v2), some (zi v3), none], [], p1.2)) (if_pos c9) ?_
    refine zG_run hm 1 (cf' := (32, [some (zr 0 0), some (zi v1), some (zi v2), some (zi v3), none], [zi (-2)], p1.2)) rfl ?_
    cases h
    exact zG_ri hm rfl rfl
  · rw [if_neg c9] at h
    refine zG_br hm rfl (cf' := (10, [some (zr 0 0), some (zi v1), some (zi v2), some (zi v3), none], [], p1.2)) (if_neg c9) ?_
    refine zG_run hm 3 (cf' := (15, [some (zr 0 0), some (zi v1), some (zi v2), some (zi v3), none], [zi v2, zr 11 0], p1.2)) rfl ?_
    obtain ⟨p2, hp2, h⟩ := Option.bind_eq_some_iff.mp h
    refine zG_V hm zmok_4 rfl (as := [zi v2]) (rest := []) (st2 := [zi p2.1]) (pc2 := 18) rfl rfl (by omega) (met_X0_hasThing (d := 0) (Nat.le_refl _) hp2) rfl ?_
    by_cases c8 : zw p2.1 = 0
    · rw [if_pos c8] at h
      refine zG_br hm rfl (cf' := (30, [some (zr 0 0), some (zi v1), some (zi v2), some (zi v3), none], [], p2.2)) (if_pos c8) ?_
      refine zG_run hm 1 (cf' := (32, [some (zr 0 0), some (zi v1), some (zi v2), some (zi v3), none], [zi (-2)], p2.2)) rfl ?_
      cases h
      exact zG_ri hm rfl rfl
    · rw [if_neg c8] at h
      refine zG_br hm rfl (cf' := (21, [some (zr 0 0), some (zi v1), some (zi v2), some (zi v3), none], [], p2.2)) (if_neg c8) ?_
      refine zG_run hm 3 (cf' := (24, [some (zr 0 0), some (zi v1), some (zi v2), some (zi v3), none], [zi 1, zi 0, zi v3], p2.2)) rfl ?_
      obtain ⟨p3, hp3, h⟩ := Option.bind_eq_some_iff.mp h
      refine zG_S hm zmok_108 rfl (as := [zi v3, zi 0, zi 1]) (rest := []) (st2 := [zi p3.1]) (pc2 := 27) rfl rfl (by omega) (met_X10_within (d := 0) (Nat.le_refl _) hp3) rfl ?_
      by_cases c7 : ¬ zw p3.1 = 0
      · rw [if_pos c7] at h
        refine zG_br hm rfl (cf' := (33, [some (zr 0 0), some (zi v1), some (zi v2), some (zi v3), none], [], p3.2)) (if_pos c7) ?_
        refine zG_run hm 2 (cf' := (35, [some (zr 0 0), some (zi v1), some (zi v2), some (zi v3), none], [zi v1, zr 0 0], p3.2)) rfl ?_
        obtain ⟨p4, hp4, h⟩ := Option.bind_eq_some_iff.mp h
        refine zG_V hm zmok_89 rfl (as := [zi v1]) (rest := []) (st2 := []) (pc2 := 38) rfl rfl (by omega) (met_X10_tryDays (d := 5) (Nat.le_refl _) hp4) rfl ?_
        refine zG_run hm 4 (cf' := (46, [some (zr 0 0), some (zi v1), some (zi v2), some (zi v3), none], [zi v2, zr 14 2], p4)) rfl ?_
        by_cases c6 : 0 ≤ zw v2 ∧ zw v2 < 8
        · rw [if_pos c6] at h
          refine zG_br hm rfl (cf' := (47, [some (zr 0 0), some (zi v1), some (zi v2), some (zi v3), none], [zr 16 ((zix v2) + 16)], p4)) (if_pos c6) ?_
          refine zG_run hm 2 (cf' := (50, [some (zr 0 0), some (zi v1), some (zi v2), some (zi v3), some (zr 16 ((zix v2) + 16))], [zi v3], p4)) rfl ?_
          by_cases c5 : ¬ zw v3 = 0
          · rw [if_pos c5] at h
            refine zG_br hm rfl (cf' := (61, [some (zr 0 0), some (zi v1), some (zi v2), some (zi v3), some (zr 16 ((zix v2) + 16))], [], p4)) (if_pos c5) ?_
            refine zG_run hm 2 (cf' := (66, [some (zr 0 0), some (zi v1), some (zi v2), some (zi v3), some (zr 16 ((zix v2) + 16))], [zi (p4 16 ((zix v2) + 16) 4)], p4)) rfl ?_
            cases h
            exact zG_ri hm rfl rfl
          · rw [if_neg c5] at h
            refine zG_br hm rfl (cf' := (53, [some (zr 0 0), some (zi v1), some (zi v2), some (zi v3), some (zr 16 ((zix v2) + 16))], [], p4)) (if_neg c5) ?_
            refine zG_run hm 3 (cf' := (66, [some (zr 0 0), some (zi v1), some (zi v2), some (zi v3), some (zr 16 ((zix v2) + 16))], [zi (p4 16 ((zix v2) + 16) 3)], p4)) rfl ?_
            cases h
            exact zG_ri hm rfl rfl
        · rw [if_neg c6] at h
          cases h
      · rw [if_neg c7] at h
        refine zG_br hm rfl (cf' := (30, [some (zr 0 0), some (zi v1), some (zi v2), some (zi v3), none], [], p3.2)) (if_neg c7) ?_
        refine zG_run hm 1 (cf' := (32, [some (zr 0 0), some (zi v1), some (zi v2), some (zi v3), none], [zi (-2)], p3.2)) rfl ?_
        cases h
        exact zG_ri hm rfl rfl
theorem met_X10_foretold {v1 : Int} {v2 : Int} {v3 : Int} {M : zM} {q : Int × zM} {d : Nat} (hd : 6 ≤ d) (h : f_X10_foretold v1 v2 v3 M = some q) : zMet 87 d [zr 0 0, zi v1, zi v2, zi v3] M (some (zi q.1)) q.2 :=
  zMet_of (lv0 := [some (zr 0 0), some (zi v1), some (zi v2), some (zi v3), none]) zmok_87 rfl rfl (fun v hv => by cases hv; trivial) (g_X10_foretold hd h)
def f_X11_foretold (v1 : Int) (v2 : Int) (v3 : Int) (M : zM) : Option (Int × zM) :=
  (f_X11_in v1 1 60 M).bind fun p1 =>
    if zw p1.1 = 0 then
      some ((-2), p1.2)
    else
      (f_X11_isThing v2 p1.2).bind fun p2 =>
        if zw p2.1 = 0 then
          some ((-2), p2.2)
        else
          (f_X11_in v3 0 1 p2.2).bind fun p3 =>
            if ¬ zw p3.1 = 0 then
              (f_X11_laysNow  p3.2).bind fun p4 =>
                (f_X11_passesThrough v1 p4).bind fun p5 =>
                  if ¬ zw v3 = 0 then
                    if 0 ≤ zw (14 + v2) ∧ zw (14 + v2) < 161 then
                      some ((p5 68 0 (zix (14 + v2))), p5)
                    else
                      none
                  else
                    if 0 ≤ zw (6 + v2) ∧ zw (6 + v2) < 161 then
                      some ((p5 68 0 (zix (6 + v2))), p5)
                    else
                      none
            else
              some ((-2), p3.2)
theorem g_X11_foretold {v1 : Int} {v2 : Int} {v3 : Int} {M : zM} {q : Int × zM} {d : Nat} (hd : 8 ≤ d) (h : f_X11_foretold v1 v2 v3 M = some q) : zG 200 d (0, [some (zr 42 0), some (zi v1), some (zi v2), some (zi v3)], [], M) (some (zi q.1)) q.2 := by
  have hm := zmok_200
  unfold f_X11_foretold at h
  refine zG_run hm 3 (cf' := (4, [some (zr 42 0), some (zi v1), some (zi v2), some (zi v3)], [zi 60, zi 1, zi v1], M)) rfl ?_
  obtain ⟨p1, hp1, h⟩ := Option.bind_eq_some_iff.mp h
  refine zG_S hm zmok_117 rfl (as := [zi v1, zi 1, zi 60]) (rest := []) (st2 := [zi p1.1]) (pc2 := 7) rfl rfl (by omega) (met_X11_in (d := 0) (Nat.le_refl _) hp1) rfl ?_
  by_cases c11 : zw p1.1 = 0
  · rw [if_pos c11] at h
    refine zG_br hm rfl (cf' := (27, [some (zr 42 0), some (zi v1), some (zi v2), some (zi v3)], [], p1.2)) (if_pos c11) ?_
    refine zG_run hm 1 (cf' := (29, [some (zr 42 0), some (zi v1), some (zi v2), some (zi v3)], [zi (-2)], p1.2)) rfl ?_
    cases h
    exact zG_ri hm rfl rfl
  · rw [if_neg c11] at h
    refine zG_br hm rfl (cf' := (10, [some (zr 42 0), some (zi v1), some (zi v2), some (zi v3)], [], p1.2)) (if_neg c11) ?_
    refine zG_run hm 2 (cf' := (12, [some (zr 42 0), some (zi v1), some (zi v2), some (zi v3)], [zi v2, zr 42 0], p1.2)) rfl ?_
    obtain ⟨p2, hp2, h⟩ := Option.bind_eq_some_iff.mp h
    refine zG_V hm zmok_123 rfl (as := [zi v2]) (rest := []) (st2 := [zi p2.1]) (pc2 := 15) rfl rfl (by omega) (met_X11_isThing (d := 1) (Nat.le_refl _) hp2) rfl ?_
    by_cases c10 : zw p2.1 = 0
    · rw [if_pos c10] at h
      refine zG_br hm rfl (cf' := (27, [some (zr 42 0), some (zi v1), some (zi v2), some (zi v3)], [], p2.2)) (if_pos c10) ?_
      refine zG_run hm 1 (cf' := (29, [some (zr 42 0), some (zi v1), some (zi v2), some (zi v3)], [zi (-2)], p2.2)) rfl ?_
      cases h
      exact zG_ri hm rfl rfl
    · rw [if_neg c10] at h
      refine zG_br hm rfl (cf' := (18, [some (zr 42 0), some (zi v1), some (zi v2), some (zi v3)], [], p2.2)) (if_neg c10) ?_
      refine zG_run hm 3 (cf' := (21, [some (zr 42 0), some (zi v1), some (zi v2), some (zi v3)], [zi 1, zi 0, zi v3], p2.2)) rfl ?_
      obtain ⟨p3, hp3, h⟩ := Option.bind_eq_some_iff.mp h
      refine zG_S hm zmok_117 rfl (as := [zi v3, zi 0, zi 1]) (rest := []) (st2 := [zi p3.1]) (pc2 := 24) rfl rfl (by omega) (met_X11_in (d := 0) (Nat.le_refl _) hp3) rfl ?_
      by_cases c9 : ¬ zw p3.1 = 0
      · rw [if_pos c9] at h
        refine zG_br hm rfl (cf' := (30, [some (zr 42 0), some (zi v1), some (zi v2), some (zi v3)], [], p3.2)) (if_pos c9) ?_
        refine zG_run hm 1 (cf' := (31, [some (zr 42 0), some (zi v1), some (zi v2), some (zi v3)], [zr 42 0], p3.2)) rfl ?_
        obtain ⟨p4, hp4, h⟩ := Option.bind_eq_some_iff.mp h
        refine zG_V hm zmok_171 rfl (as := []) (rest := []) (st2 := []) (pc2 := 34) rfl rfl (by omega) (met_X11_laysNow (d := 0) (Nat.le_refl _) hp4) rfl ?_
        refine zG_run hm 2 (cf' := (36, [some (zr 42 0), some (zi v1), some (zi v2), some (zi v3)], [zi v1, zr 42 0], p4)) rfl ?_
        obtain ⟨p5, hp5, h⟩ := Option.bind_eq_some_iff.mp h
        refine zG_V hm zmok_186 rfl (as := [zi v1]) (rest := []) (st2 := []) (pc2 := 39) rfl rfl (by omega) (met_X11_passesThrough (d := 7) (Nat.le_refl _) hp5) rfl ?_
        refine zG_run hm 1 (cf' := (40, [some (zr 42 0), some (zi v1), some (zi v2), some (zi v3)], [zi v3], p5)) rfl ?_
        by_cases c8 : ¬ zw v3 = 0
        · rw [if_pos c8] at h
          refine zG_br hm rfl (cf' := (55, [some (zr 42 0), some (zi v1), some (zi v2), some (zi v3)], [], p5)) (if_pos c8) ?_
          refine zG_run hm 5 (cf' := (63, [some (zr 42 0), some (zi v1), some (zi v2), some (zi v3)], [zi (14 + v2), zr 68 0], p5)) rfl ?_
          by_cases c6 : 0 ≤ zw (14 + v2) ∧ zw (14 + v2) < 161
          · rw [if_pos c6] at h
            refine zG_br hm rfl (cf' := (64, [some (zr 42 0), some (zi v1), some (zi v2), some (zi v3)], [zi (p5 68 0 (zix (14 + v2)))], p5)) (if_pos c6) ?_
            cases h
            exact zG_ri hm rfl rfl
          · rw [if_neg c6] at h
            cases h
        · rw [if_neg c8] at h
          refine zG_br hm rfl (cf' := (43, [some (zr 42 0), some (zi v1), some (zi v2), some (zi v3)], [], p5)) (if_neg c8) ?_
          refine zG_run hm 5 (cf' := (51, [some (zr 42 0), some (zi v1), some (zi v2), some (zi v3)], [zi (6 + v2), zr 68 0], p5)) rfl ?_
          by_cases c7 : 0 ≤ zw (6 + v2) ∧ zw (6 + v2) < 161
          · rw [if_pos c7] at h
            refine zG_br hm rfl (cf' := (52, [some (zr 42 0), some (zi v1), some (zi v2), some (zi v3)], [zi (p5 68 0 (zix (6 + v2)))], p5)) (if_pos c7) ?_
            refine zG_run hm 1 (cf' := (64, [some (zr 42 0), some (zi v1), some (zi v2), some (zi v3)], [zi (p5 68 0 (zix (6 + v2)))], p5)) rfl ?_
            cases h
            exact zG_ri hm rfl rfl
          · rw [if_neg c7] at h
            cases h
      · rw [if_neg c9] at h
        refine zG_br hm rfl (cf' := (27, [some (zr 42 0), some (zi v1), some (zi v2), some (zi v3)], [], p3.2)) (if_neg c9) ?_
        refine zG_run hm 1 (cf' := (29, [some (zr 42 0), some (zi v1), some (zi v2), some (zi v3)], [zi (-2)], p3.2)) rfl ?_
        cases h
        exact zG_ri hm rfl rfl
theorem met_X11_foretold {v1 : Int} {v2 : Int} {v3 : Int} {M : zM} {q : Int × zM} {d : Nat} (hd : 8 ≤ d) (h : f_X11_foretold v1 v2 v3 M = some q) : zMet 200 d [zr 42 0, zi v1, zi v2, zi v3] M (some (zi q.1)) q.2 :=
  zMet_of (lv0 := [some (zr 42 0), some (zi v1), some (zi v2), some (zi v3)]) zmok_200 rfl rfl (fun v hv => by cases hv; trivial) (g_X11_foretold hd h)
def f_X10_pence (v1 : Int) (v2 : Int) (M : zM) : Option (Int × zM) :=
  (f_X10_within v1 1 60 M).bind fun p1 =>
    if zw p1.1 = 0 then
      some ((-2000000), p1.2)
    else
      (f_X0_hasOwner 0 v2 p1.2).bind fun p2 =>
        if ¬ zw p2.1 = 0 then
          (f_X10_tryDays v1 p2.2).bind fun p3 =>
            if 0 ≤ zw v2 ∧ zw v2 < 6 then
              some ((p3 13 2 (zix v2)), p3)
            else
              none
        else
          some ((-2000000), p2.2)
theorem g_X10_pence {v1 : Int} {v2 : Int} {M : zM} {q : Int × zM} {d : Nat} (hd : 6 ≤ d) (h : f_X10_pence v1 v2 M = some q) : zG 88 d (0, [some (zr 0 0), some (zi v1), some (zi v2)], [], M) (some (zi q.1)) q.2 := by
  have hm := zmok_88
  unfold f_X10_pence at h
  refine zG_run hm 3 (cf' := (4, [some (zr 0 0), some (zi v1), some (zi v2)], [zi 60, zi 1, zi v1], M)) rfl ?_
  obtain ⟨p1, hp1, h⟩ := Option.bind_eq_some_iff.mp h
  refine zG_S hm zmok_108 rfl (as := [zi v1, zi 1, zi 60]) (rest := []) (st2 := [zi p1.1]) (pc2 := 7) rfl rfl (by omega) (met_X10_within (d := 0) (Nat.le_refl _) hp1) rfl ?_
  by_cases c6 : zw p1.1 = 0
  · rw [if_pos c6] at h
    refine zG_br hm rfl (cf' := (21, [some (zr 0 0), some (zi v1), some (zi v2)], [], p1.2)) (if_pos c6) ?_
    refine zG_run hm 1 (cf' := (23, [some (zr 0 0), some (zi v1), some (zi v2)], [zi (-2000000)], p1.2)) rfl ?_
    cases h
    exact zG_ri hm rfl rfl
  · rw [if_neg c6] at h
    refine zG_br hm rfl (cf' := (10, [some (zr 0 0), some (zi v1), some (zi v2)], [], p1.2)) (if_neg c6) ?_
    refine zG_run hm 3 (cf' := (15, [some (zr 0 0), some (zi v1), some (zi v2)], [zi v2, zr 11 0], p1.2)) rfl ?_
    obtain ⟨p2, hp2, h⟩ := Option.bind_eq_some_iff.mp h
    refine zG_V hm zmok_3 rfl (as := [zi v2]) (rest := []) (st2 := [zi p2.1]) (pc2 := 18) rfl rfl (by omega) (met_X0_hasOwner (d := 0) (Nat.le_refl _) hp2) rfl ?_
    by_cases c5 : ¬ zw p2.1 = 0
    · rw [if_pos c5] at h
      refine zG_br hm rfl (cf' := (24, [some (zr 0 0), some (zi v1), some (zi v2)], [], p2.2)) (if_pos c5) ?_
      refine zG_run hm 2 (cf' := (26, [some (zr 0 0), some (zi v1), some (zi v2)], [zi v1, zr 0 0], p2.2)) rfl ?_
      obtain ⟨p3, hp3, h⟩ := Option.bind_eq_some_iff.mp h
      refine zG_V hm zmok_89 rfl (as := [zi v1]) (rest := []) (st2 := []) (pc2 := 29) rfl rfl (by omega) (met_X10_tryDays (d := 5) (Nat.le_refl _) hp3) rfl ?_
      refine zG_run hm 4 (cf' := (37, [some (zr 0 0), some (zi v1), some (zi v2)], [zi v2, zr 13 2], p3)) rfl ?_
      by_cases c4 : 0 ≤ zw v2 ∧ zw v2 < 6
      · rw [if_pos c4] at h
        refine zG_br hm rfl (cf' := (38, [some (zr 0 0), some (zi v1), some (zi v2)], [zi (p3 13 2 (zix v2))], p3)) (if_pos c4) ?_
        cases h
        exact zG_ri hm rfl rfl
      · rw [if_neg c4] at h
        cases h
    · rw [if_neg c5] at h
      refine zG_br hm rfl (cf' := (21, [some (zr 0 0), some (zi v1), some (zi v2)], [], p2.2)) (if_neg c5) ?_
      refine zG_run hm 1 (cf' := (23, [some (zr 0 0), some (zi v1), some (zi v2)], [zi (-2000000)], p2.2)) rfl ?_
      cases h
      exact zG_ri hm rfl rfl
theorem met_X10_pence {v1 : Int} {v2 : Int} {M : zM} {q : Int × zM} {d : Nat} (hd : 6 ≤ d) (h : f_X10_pence v1 v2 M = some q) : zMet 88 d [zr 0 0, zi v1, zi v2] M (some (zi q.1)) q.2 :=
  zMet_of (lv0 := [some (zr 0 0), some (zi v1), some (zi v2)]) zmok_88 rfl rfl (fun v hv => by cases hv; trivial) (g_X10_pence hd h)
def f_X11_pence (v1 : Int) (v2 : Int) (M : zM) : Option (Int × zM) :=
  (f_X11_in v1 1 60 M).bind fun p1 =>
    if zw p1.1 = 0 then
      some ((-2000000), p1.2)
    else
      (f_X11_isOwner v2 p1.2).bind fun p2 =>
        if ¬ zw p2.1 = 0 then
          (f_X11_laysNow  p2.2).bind fun p3 =>
            (f_X11_passesThrough v1 p3).bind fun p4 =>
              if 0 ≤ zw (0 + v2) ∧ zw (0 + v2) < 161 then
                some ((p4 68 0 (zix (0 + v2))), p4)
              else
                none
        else
          some ((-2000000), p2.2)
theorem g_X11_pence {v1 : Int} {v2 : Int} {M : zM} {q : Int × zM} {d : Nat} (hd : 8 ≤ d) (h : f_X11_pence v1 v2 M = some q) : zG 201 d (0, [some (zr 42 0), some (zi v1), some (zi v2)], [], M) (some (zi q.1)) q.2 := by
  have hm := zmok_201
  unfold f_X11_pence at h
  refine zG_run hm 3 (cf' := (4, [some (zr 42 0), some (zi v1), some (zi v2)], [zi 60, zi 1, zi v1], M)) rfl ?_
  obtain ⟨p1, hp1, h⟩ := Option.bind_eq_some_iff.mp h
  refine zG_S hm zmok_117 rfl (as := [zi v1, zi 1, zi 60]) (rest := []) (st2 := [zi p1.1]) (pc2 := 7) rfl rfl (by omega) (met_X11_in (d := 0) (Nat.le_refl _) hp1) rfl ?_
  by_cases c7 : zw p1.1 = 0
  · rw [if_pos c7] at h
    refine zG_br hm rfl (cf' := (18, [some (zr 42 0), some (zi v1), some (zi v2)], [], p1.2)) (if_pos c7) ?_
    refine zG_run hm 1 (cf' := (21, [some (zr 42 0), some (zi v1), some (zi v2)], [zi (-2000000)], p1.2)) rfl ?_
    cases h
    exact zG_ri hm rfl rfl
  · rw [if_neg c7] at h
    refine zG_br hm rfl (cf' := (10, [some (zr 42 0), some (zi v1), some (zi v2)], [], p1.2)) (if_neg c7) ?_
    refine zG_run hm 2 (cf' := (12, [some (zr 42 0), some (zi v1), some (zi v2)], [zi v2, zr 42 0], p1.2)) rfl ?_
    obtain ⟨p2, hp2, h⟩ := Option.bind_eq_some_iff.mp h
    refine zG_V hm zmok_122 rfl (as := [zi v2]) (rest := []) (st2 := [zi p2.1]) (pc2 := 15) rfl rfl (by omega) (met_X11_isOwner (d := 1) (Nat.le_refl _) hp2) rfl ?_
    by_cases c6 : ¬ zw p2.1 = 0
    · rw [if_pos c6] at h
      refine zG_br hm rfl (cf' := (22, [some (zr 42 0), some (zi v1), some (zi v2)], [], p2.2)) (if_pos c6) ?_
      refine zG_run hm 1 (cf' := (23, [some (zr 42 0), some (zi v1), some (zi v2)], [zr 42 0], p2.2)) rfl ?_
      obtain ⟨p3, hp3, h⟩ := Option.bind_eq_some_iff.mp h
      refine zG_V hm zmok_171 rfl (as := []) (rest := []) (st2 := []) (pc2 := 26) rfl rfl (by omega) (met_X11_laysNow (d := 0) (Nat.le_refl _) hp3) rfl ?_
      refine zG_run hm 2 (cf' := (28, [some (zr 42 0), some (zi v1), some (zi v2)], [zi v1, zr 42 0], p3)) rfl ?_
      obtain ⟨p4, hp4, h⟩ := Option.bind_eq_some_iff.mp h
      refine zG_V hm zmok_186 rfl (as := [zi v1]) (rest := []) (st2 := []) (pc2 := 31) rfl rfl (by omega) (met_X11_passesThrough (d := 7) (Nat.le_refl _) hp4) rfl ?_
      refine zG_run hm 5 (cf' := (38, [some (zr 42 0), some (zi v1), some (zi v2)], [zi (0 + v2), zr 68 0], p4)) rfl ?_
      by_cases c5 : 0 ≤ zw (0 + v2) ∧ zw (0 + v2) < 161
      · rw [if_pos c5] at h
        refine zG_br hm rfl (cf' := (39, [some (zr 42 0), some (zi v1), some (zi v2)], [zi (p4 68 0 (zix (0 + v2)))], p4)) (if_pos c5) ?_
        cases h
        exact zG_ri hm rfl rfl
      · rw [if_neg c5] at h
        cases h
    · rw [if_neg c6] at h
      refine zG_br hm rfl (cf' := (18, [some (zr 42 0), some (zi v1), some (zi v2)], [], p2.2)) (if_neg c6) ?_
      refine zG_run hm 1 (cf' := (21, [some (zr 42 0), some (zi v1), some (zi v2)], [zi (-2000000)], p2.2)) rfl ?_
      cases h
      exact zG_ri hm rfl rfl
theorem met_X11_pence {v1 : Int} {v2 : Int} {M : zM} {q : Int × zM} {d : Nat} (hd : 8 ≤ d) (h : f_X11_pence v1 v2 M = some q) : zMet 201 d [zr 42 0, zi v1, zi v2] M (some (zi q.1)) q.2 :=
  zMet_of (lv0 := [some (zr 42 0), some (zi v1), some (zi v2)]) zmok_201 rfl rfl (fun v hv => by cases hv; trivial) (g_X11_pence hd h)
def f_X10_plan (v1 : Int) (v2 : Int) (M : zM) : Option (Int × zM) :=
  if ¬ zw v1 = (-1) then
    (f_X0_hasThing 0 v1 M).bind fun p1 =>
      if zw p1.1 = 0 then
        some ((-2), p1.2)
      else
        (f_X10_within v2 0 60 p1.2).bind fun p2 =>
          if zw p2.1 = 0 then
            some ((-2), p2.2)
          else
            if zw (p2.2 23 0 7) < 8 then
              if 0 ≤ zw (p2.2 23 0 7) ∧ zw (p2.2 23 0 7) < 8 then
                zlet (zput p2.2 24 0 (zix (p2.2 23 0 7)) v1) fun M3 =>
                if 0 ≤ zw (M3 23 0 7) ∧ zw (M3 23 0 7) < 8 then
                  zlet (zput M3 25 0 (zix (M3 23 0 7)) v2) fun M4 =>
                  zlet (zput M4 23 0 7 ((M4 23 0 7) + 1)) fun M5 =>
                  some ((M5 23 0 7), M5)
                else
                  none
              else
                none
            else
              some ((-2), p2.2)
  else
    zlet (zput M 23 0 7 0) fun M11 =>
    some (0, M11)
theorem g_X10_plan {v1 : Int} {v2 : Int} {M : zM} {q : Int × zM} {d : Nat} (hd : 1 ≤ d) (h : f_X10_plan v1 v2 M = some q) : zG 90 d (0, [some (zr 0 0), some (zi v1), some (zi v2)], [], M) (some (zi q.1)) q.2 := by
  have hm := zmok_90
  unfold f_X10_plan at h
  refine zG_run hm 2 (cf' := (2, [some (zr 0 0), some (zi v1), some (zi v2)], [zi (-1), zi v1], M)) rfl ?_
  by_cases c12 : ¬ zw v1 = (-1)
  · rw [if_pos c12] at h
    refine zG_br hm rfl (cf' := (15, [some (zr 0 0), some (zi v1), some (zi v2)], [], M)) (if_pos c12) ?_
    refine zG_run hm 3 (cf' := (20, [some (zr 0 0), some (zi v1), some (zi v2)], [zi v1, zr 11 0], M)) rfl ?_
    obtain ⟨p1, hp1, h⟩ := Option.bind_eq_some_iff.mp h
    refine zG_V hm zmok_4 rfl (as := [zi v1]) (rest := []) (st2 := [zi p1.1]) (pc2 := 23) rfl rfl (by omega) (met_X0_hasThing (d := 0) (Nat.le_refl _) hp1) rfl ?_
    by_cases c10 : zw p1.1 = 0
    · rw [if_pos c10] at h
      refine zG_br hm rfl (cf' := (48, [some (zr 0 0), some (zi v1), some (zi v2)], [], p1.2)) (if_pos c10) ?_
      refine zG_run hm 1 (cf' := (50, [some (zr 0 0), some (zi v1), some (zi v2)], [zi (-2)], p1.2)) rfl ?_
      cases h
      exact zG_ri hm rfl rfl
    · rw [if_neg c10] at h
      refine zG_br hm rfl (cf' := (26, [some (zr 0 0), some (zi v1), some (zi v2)], [], p1.2)) (if_neg c10) ?_
      refine zG_run hm 3 (cf' := (30, [some (zr 0 0), some (zi v1), some (zi v2)], [zi 60, zi 0, zi v2], p1.2)) rfl ?_
      obtain ⟨p2, hp2, h⟩ := Option.bind_eq_some_iff.mp h
      refine zG_S hm zmok_108 rfl (as := [zi v2, zi 0, zi 60]) (rest := []) (st2 := [zi p2.1]) (pc2 := 33) rfl rfl (by omega) (met_X10_within (d := 0) (Nat.le_refl _) hp2) rfl ?_
      by_cases c9 : zw p2.1 = 0
      · rw [if_pos c9] at h
        refine zG_br hm rfl (cf' := (48, [some (zr 0 0), some (zi v1), some (zi v2)], [], p2.2)) (if_pos c9) ?_
        refine zG_run hm 1 (cf' := (50, [some (zr 0 0), some (zi v1), some (zi v2)], [zi (-2)], p2.2)) rfl ?_
        cases h
        exact zG_ri hm rfl rfl
      · rw [if_neg c9] at h
        refine zG_br hm rfl (cf' := (36, [some (zr 0 0), some (zi v1), some (zi v2)], [], p2.2)) (if_neg c9) ?_
        refine zG_run hm 4 (cf' := (45, [some (zr 0 0), some (zi v1), some (zi v2)], [zi 8, zi (p2.2 23 0 7)], p2.2)) rfl ?_
        by_cases c8 : zw (p2.2 23 0 7) < 8
        · rw [if_pos c8] at h
          refine zG_br hm rfl (cf' := (51, [some (zr 0 0), some (zi v1), some (zi v2)], [], p2.2)) (if_pos c8) ?_
          refine zG_run hm 7 (cf' := (66, [some (zr 0 0), some (zi v1), some (zi v2)], [zi v1, zi (p2.2 23 0 7), zr 24 0], p2.2)) rfl ?_
          by_cases c7 : 0 ≤ zw (p2.2 23 0 7) ∧ zw (p2.2 23 0 7) < 8
          · rw [if_pos c7] at h
            refine zG_br hm rfl (cf' := (67, [some (zr 0 0), some (zi v1), some (zi v2)], [], (zput p2.2 24 0 (zix (p2.2 23 0 7)) v1))) (if_pos c7) ?_
            obtain ⟨M3, eM3, h⟩ := zlet_of h
            rw [eM3]
            refine zG_run hm 7 (cf' := (82, [some (zr 0 0), some (zi v1), some (zi v2)], [zi v2, zi (M3 23 0 7), zr 25 0], M3)) rfl ?_
            by_cases c6 : 0 ≤ zw (M3 23 0 7) ∧ zw (M3 23 0 7) < 8
            · rw [if_pos c6] at h
              refine zG_br hm rfl (cf' := (83, [some (zr 0 0), some (zi v1), some (zi v2)], [], (zput M3 25 0 (zix (M3 23 0 7)) v2))) (if_pos c6) ?_
              obtain ⟨M4, eM4, h⟩ := zlet_of h
              rw [eM4]
              refine zG_run hm 7 (cf' := (96, [some (zr 0 0), some (zi v1), some (zi v2)], [], (zput M4 23 0 7 ((M4 23 0 7) + 1)))) rfl ?_
              obtain ⟨M5, eM5, h⟩ := zlet_of h
              rw [eM5]
              refine zG_run hm 3 (cf' := (103, [some (zr 0 0), some (zi v1), some (zi v2)], [zi (M5 23 0 7)], M5)) rfl ?_
              cases h
              exact zG_ri hm rfl rfl
            · rw [if_neg c6] at h
              cases h
          · rw [if_neg c7] at h
            cases h
        · rw [if_neg c8] at h
          refine zG_br hm rfl (cf' := (48, [some (zr 0 0), some (zi v1), some (zi v2)], [], p2.2)) (if_neg c8) ?_
          refine zG_run hm 1 (cf' := (50, [some (zr 0 0), some (zi v1), some (zi v2)], [zi (-2)], p2.2)) rfl ?_
          cases h
          exact zG_ri hm rfl rfl
  · rw [if_neg c12] at h
    refine zG_br hm rfl (cf' := (5, [some (zr 0 0), some (zi v1), some (zi v2)], [], M)) (if_neg c12) ?_
    refine zG_run hm 4 (cf' := (13, [some (zr 0 0), some (zi v1), some (zi v2)], [], (zput M 23 0 7 0))) rfl ?_
    obtain ⟨M11, eM11, h⟩ := zlet_of h
    rw [eM11]
    refine zG_run hm 1 (cf' := (14, [some (zr 0 0), some (zi v1), some (zi v2)], [zi 0], M11)) rfl ?_
    cases h
    exact zG_ri hm rfl rfl
theorem met_X10_plan {v1 : Int} {v2 : Int} {M : zM} {q : Int × zM} {d : Nat} (hd : 1 ≤ d) (h : f_X10_plan v1 v2 M = some q) : zMet 90 d [zr 0 0, zi v1, zi v2] M (some (zi q.1)) q.2 :=
  zMet_of (lv0 := [some (zr 0 0), some (zi v1), some (zi v2)]) zmok_90 rfl rfl (fun v hv => by cases hv; trivial) (g_X10_plan hd h)
def f_X11_plan (v1 : Int) (v2 : Int) (M : zM) : Option (Int × zM) :=
  if ¬ zw v1 = (-1) then
    (f_X11_isThing v1 M).bind fun p1 =>
      if zw p1.1 = 0 then
        some ((-2), p1.2)
      else
        (f_X11_in v2 0 60 p1.2).bind fun p2 =>
          if zw p2.1 = 0 then
            some ((-2), p2.2)
          else
            if ¬ zw (p2.2 43 0 6) = 8 then
              if 0 ≤ zw (32 + (2 * (p2.2 43 0 6))) ∧ zw (32 + (2 * (p2.2 43 0 6))) < 5090 then
                zlet (zput p2.2 43 0 (zix (32 + (2 * (p2.2 43 0 6)))) v1) fun M3 =>
                if 0 ≤ zw ((32 + (2 * (M3 43 0 6))) + 1) ∧ zw ((32 + (2 * (M3 43 0 6))) + 1) < 5090 then
                  zlet (zput M3 43 0 (zix ((32 + (2 * (M3 43 0 6))) + 1)) v2) fun M4 =>
                  zlet (zput M4 43 0 6 ((M4 43 0 6) + 1)) fun M5 =>
                  some ((M5 43 0 6), M5)
                else
                  none
              else
                none
            else
              some ((-2), p2.2)
  else
    zlet (zput M 43 0 6 0) fun M11 =>
    some (0, M11)
theorem g_X11_plan {v1 : Int} {v2 : Int} {M : zM} {q : Int × zM} {d : Nat} (hd : 2 ≤ d) (h : f_X11_plan v1 v2 M = some q) : zG 202 d (0, [some (zr 42 0), some (zi v1), some (zi v2)], [], M) (some (zi q.1)) q.2 := by
  have hm := zmok_202
  unfold f_X11_plan at h
  refine zG_run hm 2 (cf' := (2, [some (zr 42 0), some (zi v1), some (zi v2)], [zi (-1), zi v1], M)) rfl ?_
  by_cases c12 : ¬ zw v1 = (-1)
  · rw [if_pos c12] at h
    refine zG_br hm rfl (cf' := (15, [some (zr 42 0), some (zi v1), some (zi v2)], [], M)) (if_pos c12) ?_
    refine zG_run hm 2 (cf' := (17, [some (zr 42 0), some (zi v1), some (zi v2)], [zi v1, zr 42 0], M)) rfl ?_
    obtain ⟨p1, hp1, h⟩ := Option.bind_eq_some_iff.mp h
    refine zG_V hm zmok_123 rfl (as := [zi v1]) (rest := []) (st2 := [zi p1.1]) (pc2 := 20) rfl rfl (by omega) (met_X11_isThing (d := 1) (Nat.le_refl _) hp1) rfl ?_
    by_cases c10 : zw p1.1 = 0
    · rw [if_pos c10] at h
      refine zG_br hm rfl (cf' := (45, [some (zr 42 0), some (zi v1), some (zi v2)], [], p1.2)) (if_pos c10) ?_
      refine zG_run hm 1 (cf' := (47, [some (zr 42 0), some (zi v1), some (zi v2)], [zi (-2)], p1.2)) rfl ?_
      cases h
      exact zG_ri hm rfl rfl
    · rw [if_neg c10] at h
      refine zG_br hm rfl (cf' := (23, [some (zr 42 0), some (zi v1), some (zi v2)], [], p1.2)) (if_neg c10) ?_
      refine zG_run hm 3 (cf' := (27, [some (zr 42 0), some (zi v1), some (zi v2)], [zi 60, zi 0, zi v2], p1.2)) rfl ?_
      obtain ⟨p2, hp2, h⟩ := Option.bind_eq_some_iff.mp h
      refine zG_S hm zmok_117 rfl (as := [zi v2, zi 0, zi 60]) (rest := []) (st2 := [zi p2.1]) (pc2 := 30) rfl rfl (by omega) (met_X11_in (d := 0) (Nat.le_refl _) hp2) rfl ?_
      by_cases c9 : zw p2.1 = 0
      · rw [if_pos c9] at h
        refine zG_br hm rfl (cf' := (45, [some (zr 42 0), some (zi v1), some (zi v2)], [], p2.2)) (if_pos c9) ?_
        refine zG_run hm 1 (cf' := (47, [some (zr 42 0), some (zi v1), some (zi v2)], [zi (-2)], p2.2)) rfl ?_
        cases h
        exact zG_ri hm rfl rfl
      · rw [if_neg c9] at h
        refine zG_br hm rfl (cf' := (33, [some (zr 42 0), some (zi v1), some (zi v2)], [], p2.2)) (if_neg c9) ?_
        refine zG_run hm 5 (cf' := (42, [some (zr 42 0), some (zi v1), some (zi v2)], [zi 8, zi (p2.2 43 0 6)], p2.2)) rfl ?_
        by_cases c8 : ¬ zw (p2.2 43 0 6) = 8
        · rw [if_pos c8] at h
          refine zG_br hm rfl (cf' := (48, [some (zr 42 0), some (zi v1), some (zi v2)], [], p2.2)) (if_pos c8) ?_
          refine zG_run hm 11 (cf' := (65, [some (zr 42 0), some (zi v1), some (zi v2)], [zi v1, zi (32 + (2 * (p2.2 43 0 6))), zr 43 0], p2.2)) rfl ?_
          by_cases c7 : 0 ≤ zw (32 + (2 * (p2.2 43 0 6))) ∧ zw (32 + (2 * (p2.2 43 0 6))) < 5090
          · rw [if_pos c7] at h
            refine zG_br hm rfl (cf' := (66, [some (zr 42 0), some (zi v1), some (zi v2)], [], (zput p2.2 43 0 (zix (32 + (2 * (p2.2 43 0 6)))) v1))) (if_pos c7) ?_
            obtain ⟨M3, eM3, h⟩ := zlet_of h
            rw [eM3]
            refine zG_run hm 13 (cf' := (85, [some (zr 42 0), some (zi v1), some (zi v2)], [zi v2, zi ((32 + (2 * (M3 43 0 6))) + 1), zr 43 0], M3)) rfl ?_
            by_cases c6 : 0 ≤ zw ((32 + (2 * (M3 43 0 6))) + 1) ∧ zw ((32 + (2 * (M3 43 0 6))) + 1) < 5090
            · rw [if_pos c6] at h
              refine zG_br hm rfl (cf' := (86, [some (zr 42 0), some (zi v1), some (zi v2)], [], (zput M3 43 0 (zix ((32 + (2 * (M3 43 0 6))) + 1)) v2))) (if_pos c6) ?_
              obtain ⟨M4, eM4, h⟩ := zlet_of h
              rw [eM4]
              refine zG_run hm 8 (cf' := (97, [some (zr 42 0), some (zi v1), some (zi v2)], [], (zput M4 43 0 6 ((M4 43 0 6) + 1)))) rfl ?_
              obtain ⟨M5, eM5, h⟩ := zlet_of h
              rw [eM5]
              refine zG_run hm 4 (cf' := (104, [some (zr 42 0), some (zi v1), some (zi v2)], [zi (M5 43 0 6)], M5)) rfl ?_
              cases h
              exact zG_ri hm rfl rfl
            · rw [if_neg c6] at h
              cases h
          · rw [if_neg c7] at h
            cases h
        · rw [if_neg c8] at h
          refine zG_br hm rfl (cf' := (45, [some (zr 42 0), some (zi v1), some (zi v2)], [], p2.2)) (if_neg c8) ?_
          refine zG_run hm 1 (cf' := (47, [some (zr 42 0), some (zi v1), some (zi v2)], [zi (-2)], p2.2)) rfl ?_
          cases h
          exact zG_ri hm rfl rfl
  · rw [if_neg c12] at h
    refine zG_br hm rfl (cf' := (5, [some (zr 42 0), some (zi v1), some (zi v2)], [], M)) (if_neg c12) ?_
    refine zG_run hm 5 (cf' := (13, [some (zr 42 0), some (zi v1), some (zi v2)], [], (zput M 43 0 6 0))) rfl ?_
    obtain ⟨M11, eM11, h⟩ := zlet_of h
    rw [eM11]
    refine zG_run hm 1 (cf' := (14, [some (zr 42 0), some (zi v1), some (zi v2)], [zi 0], M11)) rfl ?_
    cases h
    exact zG_ri hm rfl rfl
theorem met_X11_plan {v1 : Int} {v2 : Int} {M : zM} {q : Int × zM} {d : Nat} (hd : 2 ≤ d) (h : f_X11_plan v1 v2 M = some q) : zMet 202 d [zr 42 0, zi v1, zi v2] M (some (zi q.1)) q.2 :=
  zMet_of (lv0 := [some (zr 42 0), some (zi v1), some (zi v2)]) zmok_202 rfl rfl (fun v hv => by cases hv; trivial) (g_X11_plan hd h)
def f_X10_firstThatCannot_j63 (v1 : Int) (v2 : Int) (M : zM) : Option ((Int × zM) ⊕ ((Int × zM) ⊕ (zM))) :=
  some (.inl ((v2 + 1), M))
theorem g_X10_firstThatCannot_j63 {v1 : Int} {v2 : Int} {M : zM} {x : (Int × zM) ⊕ ((Int × zM) ⊕ (zM))} {r : Option zV} {Mf : zM} {d : Nat} (hd : 3 ≤ d) (h : f_X10_firstThatCannot_j63 v1 v2 M = some x)
    (kc : ∀ s, x = .inl s → zG 92 d (2, [some (zr 0 0), some (zi v1), some (zi s.1)], [], s.2) r Mf)
    (kb : ∀ t, x = .inr (.inr t) → zG 92 d (69, [none, none, none], [], t) r Mf) (kr : ∀ q, x = .inr (.inl q) → r = some (zi q.1) ∧ Mf = q.2) : zG 92 d (63, [some (zr 0 0), some (zi v1), some (zi v2)], [], M) r Mf := by
  have hm := zmok_92
  unfold f_X10_firstThatCannot_j63 at h
  refine zG_run hm 2 (cf' := (2, [some (zr 0 0), some (zi v1), some (zi (v2 + 1))], [], M)) rfl ?_
  refine zG_sub (lv' := [some (zr 0 0), some (zi v1), some (zi (v2 + 1))]) (zsb_s rfl (zsb_s rfl (zsb_s rfl zsb_0))) ?_
  exact kc ((v2 + 1), M) (Option.some.inj h).symm
def f_X10_firstThatCannot_L2 (v1 : Int) (v2 : Int) (M : zM) : Option ((Int × zM) ⊕ ((Int × zM) ⊕ (zM))) :=
  if zw (M 23 0 7) ≤ zw v2 then
    some (.inr (.inr M))
  else
    if 0 ≤ zw v2 ∧ zw v2 < 8 then
      if ¬ zw (M 25 0 (zix v2)) = zw v1 then
        f_X10_firstThatCannot_j63 v1 v2 M
      else
        if 0 ≤ zw v2 ∧ zw v2 < 8 then
          (f_X0_canTake 2 (M 24 0 (zix v2)) M).bind fun p1 =>
            if ¬ zw p1.1 = 0 then
              if 0 ≤ zw v2 ∧ zw v2 < 8 then
                (f_X0_take 2 (p1.2 24 0 (zix v2)) p1.2).bind fun p2 =>
                  f_X10_firstThatCannot_j63 v1 v2 p2
              else
                none
            else
              some (.inr (.inl (v2, p1.2)))
        else
          none
    else
      none
theorem g_X10_firstThatCannot_L2 {v1 : Int} {v2 : Int} {M : zM} {x : (Int × zM) ⊕ ((Int × zM) ⊕ (zM))} {r : Option zV} {Mf : zM} {d : Nat} (hd : 3 ≤ d) (h : f_X10_firstThatCannot_L2 v1 v2 M = some x)
    (kc : ∀ s, x = .inl s → zG 92 d (2, [some (zr 0 0), some (zi v1), some (zi s.1)], [], s.2) r Mf)
    (kb : ∀ t, x = .inr (.inr t) → zG 92 d (69, [none, none, none], [], t) r Mf) (kr : ∀ q, x = .inr (.inl q) → r = some (zi q.1) ∧ Mf = q.2) : zG 92 d (2, [some (zr 0 0), some (zi v1), some (zi v2)], [], M) r Mf := by
  have hm := zmok_92
  unfold f_X10_firstThatCannot_L2 at h
  refine zG_run hm 4 (cf' := (10, [some (zr 0 0), some (zi v1), some (zi v2)], [zi (M 23 0 7), zi v2], M)) rfl ?_
  by_cases c8 : zw (M 23 0 7) ≤ zw v2
  · rw [if_pos c8] at h
    refine zG_br hm rfl (cf' := (69, [some (zr 0 0), some (zi v1), some (zi v2)], [], M)) (if_pos c8) ?_
    refine zG_sub (lv' := [none, none, none]) (zsb_n (zsb_n (zsb_n zsb_0))) ?_
    exact kb M (Option.some.inj h).symm
  · rw [if_neg c8] at h
    refine zG_br hm rfl (cf' := (13, [some (zr 0 0), some (zi v1), some (zi v2)], [], M)) (if_neg c8) ?_
    refine zG_run hm 4 (cf' := (21, [some (zr 0 0), some (zi v1), some (zi v2)], [zi v2, zr 25 0], M)) rfl ?_
    by_cases c7 : 0 ≤ zw v2 ∧ zw v2 < 8
    · rw [if_pos c7] at h
      refine zG_br hm rfl (cf' := (22, [some (zr 0 0), some (zi v1), some (zi v2)], [zi (M 25 0 (zix v2))], M)) (if_pos c7) ?_
      refine zG_run hm 1 (cf' := (23, [some (zr 0 0), some (zi v1), some (zi v2)], [zi v1, zi (M 25 0 (zix v2))], M)) rfl ?_
      by_cases c6 : ¬ zw (M 25 0 (zix v2)) = zw v1
      · rw [if_pos c6] at h
        refine zG_br hm rfl (cf' := (63, [some (zr 0 0), some (zi v1), some (zi v2)], [], M)) (if_pos c6) ?_
        refine zG_sub (lv' := [some (zr 0 0), some (zi v1), some (zi v2)]) (zsb_s rfl (zsb_s rfl (zsb_s rfl zsb_0))) ?_
        exact g_X10_firstThatCannot_j63 hd h kc kb kr
      · rw [if_neg c6] at h
        refine zG_br hm rfl (cf' := (26, [some (zr 0 0), some (zi v1), some (zi v2)], [], M)) (if_neg c6) ?_
        refine zG_run hm 6 (cf' := (38, [some (zr 0 0), some (zi v1), some (zi v2)], [zi v2, zr 24 0, zr 11 2], M)) rfl ?_
        by_cases c5 : 0 ≤ zw v2 ∧ zw v2 < 8
        · rw [if_pos c5] at h
          refine zG_br hm rfl (cf' := (39, [some (zr 0 0), some (zi v1), some (zi v2)], [zi (M 24 0 (zix v2)), zr 11 2], M)) (if_pos c5) ?_
          obtain ⟨p1, hp1, h⟩ := Option.bind_eq_some_iff.mp h
          refine zG_V hm zmok_6 rfl (as := [zi (M 24 0 (zix v2))]) (rest := []) (st2 := [zi p1.1]) (pc2 := 42) rfl rfl (by omega) (met_X0_canTake (d := 2) (Nat.le_refl _) hp1) rfl ?_
          by_cases c4 : ¬ zw p1.1 = 0
          · rw [if_pos c4] at h
            refine zG_br hm rfl (cf' := (47, [some (zr 0 0), some (zi v1), some (zi v2)], [], p1.2)) (if_pos c4) ?_
            refine zG_run hm 6 (cf' := (59, [some (zr 0 0), some (zi v1), some (zi v2)], [zi v2, zr 24 0, zr 11 2], p1.2)) rfl ?_
            by_cases c3 : 0 ≤ zw v2 ∧ zw v2 < 8
            · rw [if_pos c3] at h
              refine zG_br hm rfl (cf' := (60, [some (zr 0 0), some (zi v1), some (zi v2)], [zi (p1.2 24 0 (zix v2)), zr 11 2], p1.2)) (if_pos c3) ?_
              obtain ⟨p2, hp2, h⟩ := Option.bind_eq_some_iff.mp h
              refine zG_V hm zmok_12 rfl (as := [zi (p1.2 24 0 (zix v2))]) (rest := []) (st2 := []) (pc2 := 63) rfl rfl (by omega) (met_X0_take (d := 0) (Nat.le_refl _) hp2) rfl ?_
              refine zG_sub (lv' := [some (zr 0 0), some (zi v1), some (zi v2)]) (zsb_s rfl (zsb_s rfl (zsb_s rfl zsb_0))) ?_
              exact g_X10_firstThatCannot_j63 hd h kc kb kr
            · rw [if_neg c3] at h
              cases h
          · rw [if_neg c4] at h
            refine zG_br hm rfl (cf' := (45, [some (zr 0 0), some (zi v1), some (zi v2)], [], p1.2)) (if_neg c4) ?_
            refine zG_run hm 1 (cf' := (46, [some (zr 0 0), some (zi v1), some (zi v2)], [zi v2], p1.2)) rfl ?_
            obtain ⟨rfl, rfl⟩ := kr (v2, p1.2) (Option.some.inj h).symm
            exact zG_ri hm rfl rfl
        · rw [if_neg c5] at h
          cases h
    · rw [if_neg c7] at h
      cases h
theorem gl_X10_firstThatCannot_L2 {v1 : Int} {y : (Int × zM) ⊕ (zM)} {r : Option zV} {Mf : zM} {d : Nat} (hd : 3 ≤ d)
    (kb : ∀ t, y = .inr t → zG 92 d (69, [none, none, none], [], t) r Mf) (kr : ∀ q, y = .inl q → r = some (zi q.1) ∧ Mf = q.2) : ∀ (n : Nat) (s : Int × zM), zlp (fun s : Int × zM => f_X10_firstThatCannot_L2 v1 s.1 s.2) n s = some y → zG 92 d (2, [some (zr 0 0), some (zi v1), some (zi s.1)], [], s.2) r Mf := by
  intro n
  induction n with
  | zero => intro s h; cases h
  | succ n ih =>
    intro s h
    rcases zlp_cases h with ⟨s', h1, h2⟩ | h1
    · exact g_X10_firstThatCannot_L2 hd h1 (fun s2 e2 => by cases e2; exact ih _ h2) (fun t e2 => by cases e2) (fun q e2 => by cases e2)
    · exact g_X10_firstThatCannot_L2 hd h1 (fun s2 e2 => by cases e2) (fun t e2 => kb t (Sum.inr.inj e2)) (fun q e2 => kr q (Sum.inr.inj e2))
def f_X10_firstThatCannot (v1 : Int) (M : zM) : Option (Int × zM) :=
  (zlp (fun s : Int × zM => f_X10_firstThatCannot_L2 v1 s.1 s.2) zF (0, M)).bind fun y9 =>
    match y9 with
    | .inl q11 => some q11
    | .inr t10 =>
      some ((-1), t10)
theorem g_X10_firstThatCannot {v1 : Int} {M : zM} {q : Int × zM} {d : Nat} (hd : 3 ≤ d) (h : f_X10_firstThatCannot v1 M = some q) : zG 92 d (0, [some (zr 0 0), some (zi v1), none], [], M) (some (zi q.1)) q.2 := by
  have hm := zmok_92
  unfold f_X10_firstThatCannot at h
  refine zG_run hm 2 (cf' := (2, [some (zr 0 0), some (zi v1), some (zi 0)], [], M)) rfl ?_
  refine zG_sub (lv' := [some (zr 0 0), some (zi v1), some (zi 0)]) (zsb_s rfl (zsb_s rfl (zsb_s rfl zsb_0))) ?_
  obtain ⟨y9, hy9, h⟩ := Option.bind_eq_some_iff.mp h
  refine gl_X10_firstThatCannot_L2 hd (fun t10 e2 => ?_) (fun q e2 => ?_) zF (0, M) hy9
  · cases e2
    refine zG_run hm 1 (cf' := (70, [none, none, none], [zi (-1)], t10)) rfl ?_
    cases h
    exact zG_ri hm rfl rfl
  · cases e2
    cases h
    exact ⟨rfl, rfl⟩
theorem met_X10_firstThatCannot {v1 : Int} {M : zM} {q : Int × zM} {d : Nat} (hd : 3 ≤ d) (h : f_X10_firstThatCannot v1 M = some q) : zMet 92 d [zr 0 0, zi v1] M (some (zi q.1)) q.2 :=
  zMet_of (lv0 := [some (zr 0 0), some (zi v1), none]) zmok_92 rfl rfl (fun v hv => by cases hv; trivial) (g_X10_firstThatCannot hd h)
def f_X10_first_j47 (v1 : Int) (v2 : Int) (M : zM) : Option ((Int × zM) ⊕ ((Int × zM) ⊕ (zM))) :=
  (f_X10_firstThatCannot v2 M).bind fun p2 =>
    if zw p2.1 = (-1) then
      some (.inl ((v2 + 1), p2.2))
    else
      some (.inr (.inl (p2.1, p2.2)))
theorem g_X10_first_j47 {v1 : Int} {v2 : Int} {M : zM} {x : (Int × zM) ⊕ ((Int × zM) ⊕ (zM))} {r : Option zV} {Mf : zM} {d : Nat} (hd : 5 ≤ d) (h : f_X10_first_j47 v1 v2 M = some x)
    (kc : ∀ s, x = .inl s → zG 91 d (30, [some (zr 0 0), some (zi v1), some (zi s.1), none], [], s.2) r Mf)
    (kb : ∀ t, x = .inr (.inr t) → zG 91 d (66, [none, none, none, none], [], t) r Mf) (kr : ∀ q, x = .inr (.inl q) → r = some (zi q.1) ∧ Mf = q.2) : zG 91 d (47, [some (zr 0 0), some (zi v1), some (zi v2), none], [], M) r Mf := by
  have hm := zmok_91
  unfold f_X10_first_j47 at h
  refine zG_run hm 2 (cf' := (49, [some (zr 0 0), some (zi v1), some (zi v2), none], [zi v2, zr 0 0], M)) rfl ?_
  obtain ⟨p2, hp2, h⟩ := Option.bind_eq_some_iff.mp h
  refine zG_V hm zmok_92 rfl (as := [zi v2]) (rest := []) (st2 := [zi p2.1]) (pc2 := 52) rfl rfl (by omega) (met_X10_firstThatCannot (d := 3) (Nat.le_refl _) hp2) rfl ?_
  refine zG_run hm 3 (cf' := (55, [some (zr 0 0), some (zi v1), some (zi v2), some (zi p2.1)], [zi (-1), zi p2.1], p2.2)) rfl ?_
  by_cases c3 : zw p2.1 = (-1)
  · rw [if_pos c3] at h
    refine zG_br hm rfl (cf' := (60, [some (zr 0 0), some (zi v1), some (zi v2), some (zi p2.1)], [], p2.2)) (if_pos c3) ?_
    refine zG_run hm 2 (cf' := (30, [some (zr 0 0), some (zi v1), some (zi (v2 + 1)), some (zi p2.1)], [], p2.2)) rfl ?_
    refine zG_sub (lv' := [some (zr 0 0), some (zi v1), some (zi (v2 + 1)), none]) (zsb_s rfl (zsb_s rfl (zsb_s rfl (zsb_n zsb_0)))) ?_
    exact kc ((v2 + 1), p2.2) (Option.some.inj h).symm
  · rw [if_neg c3] at h
    refine zG_br hm rfl (cf' := (58, [some (zr 0 0), some (zi v1), some (zi v2), some (zi p2.1)], [], p2.2)) (if_neg c3) ?_
    refine zG_run hm 1 (cf' := (59, [some (zr 0 0), some (zi v1), some (zi v2), some (zi p2.1)], [zi p2.1], p2.2)) rfl ?_
    obtain ⟨rfl, rfl⟩ := kr (p2.1, p2.2) (Option.some.inj h).symm
    exact zG_ri hm rfl rfl
def f_X10_first_L30 (v1 : Int) (v2 : Int) (M : zM) : Option ((Int × zM) ⊕ ((Int × zM) ⊕ (zM))) :=
  if zw v1 < zw v2 then
    some (.inr (.inr M))
  else
    if zw v2 ≤ 0 then
      f_X10_first_j47 v1 v2 M
    else
      (f_X0_passOne 2 M).bind fun p4 =>
        f_X10_first_j47 v1 v2 p4.2
theorem g_X10_first_L30 {v1 : Int} {v2 : Int} {M : zM} {x : (Int × zM) ⊕ ((Int × zM) ⊕ (zM))} {r : Option zV} {Mf : zM} {d : Nat} (hd : 5 ≤ d) (h : f_X10_first_L30 v1 v2 M = some x)
    (kc : ∀ s, x = .inl s → zG 91 d (30, [some (zr 0 0), some (zi v1), some (zi s.1), none], [], s.2) r Mf)
    (kb : ∀ t, x = .inr (.inr t) → zG 91 d (66, [none, none, none, none], [], t) r Mf) (kr : ∀ q, x = .inr (.inl q) → r = some (zi q.1) ∧ Mf = q.2) : zG 91 d (30, [some (zr 0 0), some (zi v1), some (zi v2), none], [], M) r Mf := by
  have hm := zmok_91
  unfold f_X10_first_L30 at h
  refine zG_run hm 2 (cf' := (32, [some (zr 0 0), some (zi v1), some (zi v2), none], [zi v1, zi v2], M)) rfl ?_
  by_cases c6 : zw v1 < zw v2
  · rw [if_pos c6] at h
    refine zG_br hm rfl (cf' := (66, [some (zr 0 0), some (zi v1), some (zi v2), none], [], M)) (if_pos c6) ?_
    refine zG_sub (lv' := [none, none, none, none]) (zsb_n (zsb_n (zsb_n (zsb_n zsb_0)))) ?_
    exact kb M (Option.some.inj h).symm
  · rw [if_neg c6] at h
    refine zG_br hm rfl (cf' := (35, [some (zr 0 0), some (zi v1), some (zi v2), none], [], M)) (if_neg c6) ?_
    refine zG_run hm 1 (cf' := (36, [some (zr 0 0), some (zi v1), some (zi v2), none], [zi v2], M)) rfl ?_
    by_cases c5 : zw v2 ≤ 0
    · rw [if_pos c5] at h
      refine zG_br hm rfl (cf' := (47, [some (zr 0 0), some (zi v1), some (zi v2), none], [], M)) (if_pos c5) ?_
      refine zG_sub (lv' := [some (zr 0 0), some (zi v1), some (zi v2), none]) (zsb_s rfl (zsb_s rfl (zsb_s rfl (zsb_n zsb_0)))) ?_
      exact g_X10_first_j47 hd h kc kb kr
    · rw [if_neg c5] at h
      refine zG_br hm rfl (cf' := (39, [some (zr 0 0), some (zi v1), some (zi v2), none], [], M)) (if_neg c5) ?_
      refine zG_run hm 2 (cf' := (43, [some (zr 0 0), some (zi v1), some (zi v2), none], [zr 11 2], M)) rfl ?_
      obtain ⟨p4, hp4, h⟩ := Option.bind_eq_some_iff.mp h
      refine zG_V hm zmok_14 rfl (as := []) (rest := []) (st2 := [zi p4.1]) (pc2 := 46) rfl rfl (by omega) (met_X0_passOne (d := 4) (Nat.le_refl _) hp4) rfl ?_
      refine zG_run hm 1 (cf' := (47, [some (zr 0 0), some (zi v1), some (zi v2), none], [], p4.2)) rfl ?_
      refine zG_sub (lv' := [some (zr 0 0), some (zi v1), some (zi v2), none]) (zsb_s rfl (zsb_s rfl (zsb_s rfl (zsb_n zsb_0)))) ?_
      exact g_X10_first_j47 hd h kc kb kr
theorem gl_X10_first_L30 {v1 : Int} {y : (Int × zM) ⊕ (zM)} {r : Option zV} {Mf : zM} {d : Nat} (hd : 5 ≤ d)
    (kb : ∀ t, y = .inr t → zG 91 d (66, [none, none, none, none], [], t) r Mf) (kr : ∀ q, y = .inl q → r = some (zi q.1) ∧ Mf = q.2) : ∀ (n : Nat) (s : Int × zM), zlp (fun s : Int × zM => f_X10_first_L30 v1 s.1 s.2) n s = some y → zG 91 d (30, [some (zr 0 0), some (zi v1), some (zi s.1), none], [], s.2) r Mf := by
  intro n
  induction n with
  | zero => intro s h; cases h
  | succ n ih =>
    intro s h
    rcases zlp_cases h with ⟨s', h1, h2⟩ | h1
    · exact g_X10_first_L30 hd h1 (fun s2 e2 => by cases e2; exact ih _ h2) (fun t e2 => by cases e2) (fun q e2 => by cases e2)
    · exact g_X10_first_L30 hd h1 (fun s2 e2 => by cases e2) (fun t e2 => kb t (Sum.inr.inj e2)) (fun q e2 => kr q (Sum.inr.inj e2))
def f_X10_first  (M : zM) : Option (Int × zM) :=
  (f_X0_copy 2 0 M).bind fun p1 =>
    (zlp (fun s : Int × zM => f_X10_first_L30 (if zw (9999 - (p1 11 0 10)) < 60 then (9999 - (p1 11 0 10)) else 60) s.1 s.2) zF (0, p1)).bind fun y7 =>
      match y7 with
      | .inl q9 => some q9
      | .inr t8 =>
        some ((-1), t8)
theorem g_X10_first  {M : zM} {q : Int × zM} {d : Nat} (hd : 5 ≤ d) (h : f_X10_first  M = some q) : zG 91 d (0, [some (zr 0 0), none, none, none], [], M) (some (zi q.1)) q.2 := by
  have hm := zmok_91
  unfold f_X10_first at h
  refine zG_run hm 4 (cf' := (8, [some (zr 0 0), none, none, none], [zr 11 0, zr 11 2], M)) rfl ?_
  obtain ⟨p1, hp1, h⟩ := Option.bind_eq_some_iff.mp h
  refine zG_V hm zmok_0 rfl (as := [zr 11 0]) (rest := []) (st2 := []) (pc2 := 11) rfl rfl (by omega) (met_X0_copy (d := 1) (Nat.le_refl _) hp1) rfl ?_
  refine zG_run hm 6 (cf' := (24, [some (zr 0 0), none, none, none], [zi (9999 - (p1 11 0 10)), zi 60], p1)) rfl ?_
  refine zG_min hm rfl rfl ?_
  show zG 91 d (27, [some (zr 0 0), none, none, none], [zi (if zw (9999 - (p1 11 0 10)) < 60 then (9999 - (p1 11 0 10)) else 60)], p1) _ _
  refine zG_run hm 3 (cf' := (30, [some (zr 0 0), some (zi (if zw (9999 - (p1 11 0 10)) < 60 then (9999 - (p1 11 0 10)) else 60)), some (zi 0), none], [], p1)) rfl ?_
  refine zG_sub (lv' := [some (zr 0 0), some (zi (if zw (9999 - (p1 11 0 10)) < 60 then (9999 - (p1 11 0 10)) else 60)), some (zi 0), none]) (zsb_s rfl (zsb_s rfl (zsb_s rfl (zsb_n zsb_0)))) ?_
  obtain ⟨y7, hy7, h⟩ := Option.bind_eq_some_iff.mp h
  refine gl_X10_first_L30 hd (fun t8 e2 => ?_) (fun q e2 => ?_) zF (0, p1) hy7
  · cases e2
    refine zG_run hm 1 (cf' := (67, [none, none, none, none], [zi (-1)], t8)) rfl ?_
    cases h
    exact zG_ri hm rfl rfl
  · cases e2
    cases h
    exact ⟨rfl, rfl⟩
theorem met_X10_first  {M : zM} {q : Int × zM} {d : Nat} (hd : 5 ≤ d) (h : f_X10_first  M = some q) : zMet 91 d [zr 0 0] M (some (zi q.1)) q.2 :=
  zMet_of (lv0 := [some (zr 0 0), none, none, none]) zmok_91 rfl rfl (fun v hv => by cases hv; trivial) (g_X10_first hd h)
def f_X11_first_j78 (v2 : Int) (v3 : Int) (M : zM) : Option ((Int × zM) ⊕ ((Int × zM) ⊕ (zM))) :=
  some (.inl ((v3 + 1), M))
theorem g_X11_first_j78 {v2 : Int} {v3 : Int} {M : zM} {x : (Int × zM) ⊕ ((Int × zM) ⊕ (zM))} {r : Option zV} {Mf : zM} {d : Nat} (hd : 8 ≤ d) (h : f_X11_first_j78 v2 v3 M = some x)
    (kc : ∀ s, x = .inl s → zG 203 d (20, [some (zr 42 0), none, some (zi v2), some (zi s.1), none], [], s.2) r Mf)
    (kb : ∀ t, x = .inr (.inr t) → zG 203 d (84, [some (zr 42 0), none, some (zi v2), none, none], [], t) r Mf) (kr : ∀ q, x = .inr (.inl q) → r = some (zi q.1) ∧ Mf = q.2) : zG 203 d (78, [some (zr 42 0), none, some (zi v2), some (zi v3), none], [], M) r Mf := by
  have hm := zmok_203
  unfold f_X11_first_j78 at h
  refine zG_run hm 2 (cf' := (20, [some (zr 42 0), none, some (zi v2), some (zi (v3 + 1)), none], [], M)) rfl ?_
  refine zG_sub (lv' := [some (zr 42 0), none, some (zi v2), some (zi (v3 + 1)), none]) (zsb_s rfl (zsb_n (zsb_s rfl (zsb_s rfl (zsb_n zsb_0))))) ?_
  exact kc ((v3 + 1), M) (Option.some.inj h).symm
def f_X11_first_L20 (v2 : Int) (v3 : Int) (M : zM) : Option ((Int × zM) ⊕ ((Int × zM) ⊕ (zM))) :=
  if zw (M 43 0 6) ≤ zw v3 then
    some (.inr (.inr M))
  else
    if 0 ≤ zw ((32 + (2 * v3)) + 1) ∧ zw ((32 + (2 * v3)) + 1) < 5090 then
      if ¬ zw (M 43 0 (zix ((32 + (2 * v3)) + 1))) = zw v2 then
        f_X11_first_j78 v2 v3 M
      else
        if 0 ≤ zw (32 + (2 * v3)) ∧ zw (32 + (2 * v3)) < 5090 then
          (f_X11_mayStealNow (M 43 0 (zix (32 + (2 * v3)))) M).bind fun p2 =>
            if ¬ zw p2.1 = 0 then
              (f_X11_stealsNow (M 43 0 (zix (32 + (2 * v3)))) p2.2).bind fun p3 =>
                f_X11_first_j78 v2 v3 p3
            else
              some (.inr (.inl (v3, p2.2)))
        else
          none
    else
      none
theorem g_X11_first_L20 {v2 : Int} {v3 : Int} {M : zM} {x : (Int × zM) ⊕ ((Int × zM) ⊕ (zM))} {r : Option zV} {Mf : zM} {d : Nat} (hd : 8 ≤ d) (h : f_X11_first_L20 v2 v3 M = some x)
    (kc : ∀ s, x = .inl s → zG 203 d (20, [some (zr 42 0), none, some (zi v2), some (zi s.1), none], [], s.2) r Mf)
    (kb : ∀ t, x = .inr (.inr t) → zG 203 d (84, [some (zr 42 0), none, some (zi v2), none, none], [], t) r Mf) (kr : ∀ q, x = .inr (.inl q) → r = some (zi q.1) ∧ Mf = q.2) : zG 203 d (20, [some (zr 42 0), none, some (zi v2), some (zi v3), none], [], M) r Mf := by
  have hm := zmok_203
  unfold f_X11_first_L20 at h
  refine zG_run hm 5 (cf' := (28, [some (zr 42 0), none, some (zi v2), some (zi v3), none], [zi (M 43 0 6), zi v3], M)) rfl ?_
  by_cases c8 : zw (M 43 0 6) ≤ zw v3
  · rw [if_pos c8] at h
    refine zG_br hm rfl (cf' := (84, [some (zr 42 0), none, some (zi v2), some (zi v3), none], [], M)) (if_pos c8) ?_
    refine zG_sub (lv' := [some (zr 42 0), none, some (zi v2), none, none]) (zsb_s rfl (zsb_n (zsb_s rfl (zsb_n (zsb_n zsb_0))))) ?_
    exact kb M (Option.some.inj h).symm
  · rw [if_neg c8] at h
    refine zG_br hm rfl (cf' := (31, [some (zr 42 0), none, some (zi v2), some (zi v3), none], [], M)) (if_neg c8) ?_
    refine zG_run hm 9 (cf' := (43, [some (zr 42 0), none, some (zi v2), some (zi v3), none], [zi ((32 + (2 * v3)) + 1), zr 43 0], M)) rfl ?_
    by_cases c7 : 0 ≤ zw ((32 + (2 * v3)) + 1) ∧ zw ((32 + (2 * v3)) + 1) < 5090
    · rw [if_pos c7] at h
      refine zG_br hm rfl (cf' := (44, [some (zr 42 0), none, some (zi v2), some (zi v3), none], [zi (M 43 0 (zix ((32 + (2 * v3)) + 1)))], M)) (if_pos c7) ?_
      refine zG_run hm 1 (cf' := (45, [some (zr 42 0), none, some (zi v2), some (zi v3), none], [zi v2, zi (M 43 0 (zix ((32 + (2 * v3)) + 1)))], M)) rfl ?_
      by_cases c6 : ¬ zw (M 43 0 (zix ((32 + (2 * v3)) + 1))) = zw v2
      · rw [if_pos c6] at h
        refine zG_br hm rfl (cf' := (78, [some (zr 42 0), none, some (zi v2), some (zi v3), none], [], M)) (if_pos c6) ?_
        refine zG_sub (lv' := [some (zr 42 0), none, some (zi v2), some (zi v3), none]) (zsb_s rfl (zsb_n (zsb_s rfl (zsb_s rfl (zsb_n zsb_0))))) ?_
        exact g_X11_first_j78 hd h kc kb kr
      · rw [if_neg c6] at h
        refine zG_br hm rfl (cf' := (48, [some (zr 42 0), none, some (zi v2), some (zi v3), none], [], M)) (if_neg c6) ?_
        refine zG_run hm 7 (cf' := (58, [some (zr 42 0), none, some (zi v2), some (zi v3), none], [zi (32 + (2 * v3)), zr 43 0], M)) rfl ?_
        by_cases c5 : 0 ≤ zw (32 + (2 * v3)) ∧ zw (32 + (2 * v3)) < 5090
        · rw [if_pos c5] at h
          refine zG_br hm rfl (cf' := (59, [some (zr 42 0), none, some (zi v2), some (zi v3), none], [zi (M 43 0 (zix (32 + (2 * v3))))], M)) (if_pos c5) ?_
          refine zG_run hm 3 (cf' := (64, [some (zr 42 0), none, some (zi v2), some (zi v3), some (zi (M 43 0 (zix (32 + (2 * v3)))))], [zi (M 43 0 (zix (32 + (2 * v3)))), zr 42 0], M)) rfl ?_
          obtain ⟨p2, hp2, h⟩ := Option.bind_eq_some_iff.mp h
          refine zG_V hm zmok_180 rfl (as := [zi (M 43 0 (zix (32 + (2 * v3))))]) (rest := []) (st2 := [zi p2.1]) (pc2 := 67) rfl rfl (by omega) (met_X11_mayStealNow (d := 2) (Nat.le_refl _) hp2) rfl ?_
          by_cases c4 : ¬ zw p2.1 = 0
          · rw [if_pos c4] at h
            refine zG_br hm rfl (cf' := (72, [some (zr 42 0), none, some (zi v2), some (zi v3), some (zi (M 43 0 (zix (32 + (2 * v3)))))], [], p2.2)) (if_pos c4) ?_
            refine zG_run hm 2 (cf' := (75, [some (zr 42 0), none, some (zi v2), some (zi v3), some (zi (M 43 0 (zix (32 + (2 * v3)))))], [zi (M 43 0 (zix (32 + (2 * v3)))), zr 42 0], p2.2)) rfl ?_
            obtain ⟨p3, hp3, h⟩ := Option.bind_eq_some_iff.mp h
            refine zG_V hm zmok_181 rfl (as := [zi (M 43 0 (zix (32 + (2 * v3))))]) (rest := []) (st2 := []) (pc2 := 78) rfl rfl (by omega) (met_X11_stealsNow (d := 0) (Nat.le_refl _) hp3) rfl ?_
            refine zG_sub (lv' := [some (zr 42 0), none, some (zi v2), some (zi v3), none]) (zsb_s rfl (zsb_n (zsb_s rfl (zsb_s rfl (zsb_n zsb_0))))) ?_
            exact g_X11_first_j78 hd h kc kb kr
          · rw [if_neg c4] at h
            refine zG_br hm rfl (cf' := (70, [some (zr 42 0), none, some (zi v2), some (zi v3), some (zi (M 43 0 (zix (32 + (2 * v3)))))], [], p2.2)) (if_neg c4) ?_
            refine zG_run hm 1 (cf' := (71, [some (zr 42 0), none, some (zi v2), some (zi v3), some (zi (M 43 0 (zix (32 + (2 * v3)))))], [zi v3], p2.2)) rfl ?_
            obtain ⟨rfl, rfl⟩ := kr (v3, p2.2) (Option.some.inj h).symm
            exact zG_ri hm rfl rfl
        · rw [if_neg c5] at h
          cases h
    · rw [if_neg c7] at h
      cases h
theorem gl_X11_first_L20 {v2 : Int} {y : (Int × zM) ⊕ (zM)} {r : Option zV} {Mf : zM} {d : Nat} (hd : 8 ≤ d)
    (kb : ∀ t, y = .inr t → zG 203 d (84, [some (zr 42 0), none, some (zi v2), none, none], [], t) r Mf) (kr : ∀ q, y = .inl q → r = some (zi q.1) ∧ Mf = q.2) : ∀ (n : Nat) (s : Int × zM), zlp (fun s : Int × zM => f_X11_first_L20 v2 s.1 s.2) n s = some y → zG 203 d (20, [some (zr 42 0), none, some (zi v2), some (zi s.1), none], [], s.2) r Mf := by
  intro n
  induction n with
  | zero => intro s h; cases h
  | succ n ih =>
    intro s h
    rcases zlp_cases h with ⟨s', h1, h2⟩ | h1
    · exact g_X11_first_L20 hd h1 (fun s2 e2 => by cases e2; exact ih _ h2) (fun t e2 => by cases e2) (fun q e2 => by cases e2)
    · exact g_X11_first_L20 hd h1 (fun s2 e2 => by cases e2) (fun t e2 => kb t (Sum.inr.inj e2)) (fun q e2 => kr q (Sum.inr.inj e2))
def f_X11_first_L8 (v1 : Int) (v2 : Int) (M : zM) : Option ((Int × Int × zM) ⊕ ((Int × zM) ⊕ (zM))) :=
  if 61 ≤ zw v2 then
    some (.inr (.inr M))
  else
    if zw v1 = 0 then
      some (.inr (.inr M))
    else
      (zlp (fun s : Int × zM => f_X11_first_L20 v2 s.1 s.2) zF (0, M)).bind fun y9 =>
        match y9 with
        | .inl q13 => some (.inr (.inl q13))
        | .inr t10 =>
          (f_X11_canPass  t10).bind fun p11 =>
            (f_X11_passesThrough 1 p11.2).bind fun p12 =>
              some (.inl (p11.1, (v2 + 1), p12))
theorem g_X11_first_L8 {v1 : Int} {v2 : Int} {M : zM} {x : (Int × Int × zM) ⊕ ((Int × zM) ⊕ (zM))} {r : Option zV} {Mf : zM} {d : Nat} (hd : 8 ≤ d) (h : f_X11_first_L8 v1 v2 M = some x)
    (kc : ∀ s, x = .inl s → zG 203 d (8, [some (zr 42 0), some (zi s.1), some (zi s.2.1), none, none], [], s.2.2) r Mf)
    (kb : ∀ t, x = .inr (.inr t) → zG 203 d (100, [none, none, none, none, none], [], t) r Mf) (kr : ∀ q, x = .inr (.inl q) → r = some (zi q.1) ∧ Mf = q.2) : zG 203 d (8, [some (zr 42 0), some (zi v1), some (zi v2), none, none], [], M) r Mf := by
  have hm := zmok_203
  unfold f_X11_first_L8 at h
  refine zG_run hm 2 (cf' := (11, [some (zr 42 0), some (zi v1), some (zi v2), none, none], [zi 61, zi v2], M)) rfl ?_
  by_cases c15 : 61 ≤ zw v2
  · rw [if_pos c15] at h
    refine zG_br hm rfl (cf' := (100, [some (zr 42 0), some (zi v1), some (zi v2), none, none], [], M)) (if_pos c15) ?_
    refine zG_sub (lv' := [none, none, none, none, none]) (zsb_n (zsb_n (zsb_n (zsb_n (zsb_n zsb_0))))) ?_
    exact kb M (Option.some.inj h).symm
  · rw [if_neg c15] at h
    refine zG_br hm rfl (cf' := (14, [some (zr 42 0), some (zi v1), some (zi v2), none, none], [], M)) (if_neg c15) ?_
    refine zG_run hm 1 (cf' := (15, [some (zr 42 0), some (zi v1), some (zi v2), none, none], [zi v1], M)) rfl ?_
    by_cases c14 : zw v1 = 0
    · rw [if_pos c14] at h
      refine zG_br hm rfl (cf' := (100, [some (zr 42 0), some (zi v1), some (zi v2), none, none], [], M)) (if_pos c14) ?_
      refine zG_sub (lv' := [none, none, none, none, none]) (zsb_n (zsb_n (zsb_n (zsb_n (zsb_n zsb_0))))) ?_
      exact kb M (Option.some.inj h).symm
    · rw [if_neg c14] at h
      refine zG_br hm rfl (cf' := (18, [some (zr 42 0), some (zi v1), some (zi v2), none, none], [], M)) (if_neg c14) ?_
      refine zG_run hm 2 (cf' := (20, [some (zr 42 0), some (zi v1), some (zi v2), some (zi 0), none], [], M)) rfl ?_
      refine zG_sub (lv' := [some (zr 42 0), none, some (zi v2), some (zi 0), none]) (zsb_s rfl (zsb_n (zsb_s rfl (zsb_s rfl (zsb_n zsb_0))))) ?_
      obtain ⟨y9, hy9, h⟩ := Option.bind_eq_some_iff.mp h
      refine gl_X11_first_L20 hd (fun t10 e2 => ?_) (fun q e2 => ?_) zF (0, M) hy9
      · cases e2
        refine zG_run hm 1 (cf' := (85, [some (zr 42 0), none, some (zi v2), none, none], [zr 42 0], t10)) rfl ?_
        obtain ⟨p11, hp11, h⟩ := Option.bind_eq_some_iff.mp h
        refine zG_V hm zmok_184 rfl (as := []) (rest := []) (st2 := [zi p11.1]) (pc2 := 88) rfl rfl (by omega) (met_X11_canPass (d := 0) (Nat.le_refl _) hp11) rfl ?_
        refine zG_run hm 3 (cf' := (91, [some (zr 42 0), some (zi p11.1), some (zi v2), none, none], [zi 1, zr 42 0], p11.2)) rfl ?_
        obtain ⟨p12, hp12, h⟩ := Option.bind_eq_some_iff.mp h
        refine zG_V hm zmok_186 rfl (as := [zi 1]) (rest := []) (st2 := []) (pc2 := 94) rfl rfl (by omega) (met_X11_passesThrough (d := 7) (Nat.le_refl _) hp12) rfl ?_
        refine zG_run hm 2 (cf' := (8, [some (zr 42 0), some (zi p11.1), some (zi (v2 + 1)), none, none], [], p12)) rfl ?_
        refine zG_sub (lv' := [some (zr 42 0), some (zi p11.1), some (zi (v2 + 1)), none, none]) (zsb_s rfl (zsb_s rfl (zsb_s rfl (zsb_n (zsb_n zsb_0))))) ?_
        exact kc (p11.1, (v2 + 1), p12) (Option.some.inj h).symm
      · cases e2
        exact kr q (Option.some.inj h).symm
theorem gl_X11_first_L8  {y : (Int × zM) ⊕ (zM)} {r : Option zV} {Mf : zM} {d : Nat} (hd : 8 ≤ d)
    (kb : ∀ t, y = .inr t → zG 203 d (100, [none, none, none, none, none], [], t) r Mf) (kr : ∀ q, y = .inl q → r = some (zi q.1) ∧ Mf = q.2) : ∀ (n : Nat) (s : Int × Int × zM), zlp (fun s : Int × Int × zM => f_X11_first_L8  s.1 s.2.1 s.2.2) n s = some y → zG 203 d (8, [some (zr 42 0), some (zi s.1), some (zi s.2.1), none, none], [], s.2.2) r Mf := by
  intro n
  induction n with
  | zero => intro s h; cases h
  | succ n ih =>
    intro s h
    rcases zlp_cases h with ⟨s', h1, h2⟩ | h1
    · exact g_X11_first_L8 hd h1 (fun s2 e2 => by cases e2; exact ih _ h2) (fun t e2 => by cases e2) (fun q e2 => by cases e2)
    · exact g_X11_first_L8 hd h1 (fun s2 e2 => by cases e2) (fun t e2 => kb t (Sum.inr.inj e2)) (fun q e2 => kr q (Sum.inr.inj e2))
def f_X11_first  (M : zM) : Option (Int × zM) :=
  (f_X11_laysNow  M).bind fun p1 =>
    (zlp (fun s : Int × Int × zM => f_X11_first_L8  s.1 s.2.1 s.2.2) zF (1, 0, p1)).bind fun y16 =>
      match y16 with
      | .inl q18 => some q18
      | .inr t17 =>
        some ((-1), t17)
theorem g_X11_first  {M : zM} {q : Int × zM} {d : Nat} (hd : 8 ≤ d) (h : f_X11_first  M = some q) : zG 203 d (0, [some (zr 42 0), none, none, none, none], [], M) (some (zi q.1)) q.2 := by
  have hm := zmok_203
  unfold f_X11_first at h
  refine zG_run hm 1 (cf' := (1, [some (zr 42 0), none, none, none, none], [zr 42 0], M)) rfl ?_
  obtain ⟨p1, hp1, h⟩ := Option.bind_eq_some_iff.mp h
  refine zG_V hm zmok_171 rfl (as := []) (rest := []) (st2 := []) (pc2 := 4) rfl rfl (by omega) (met_X11_laysNow (d := 0) (Nat.le_refl _) hp1) rfl ?_
  refine zG_run hm 4 (cf' := (8, [some (zr 42 0), some (zi 1), some (zi 0), none, none], [], p1)) rfl ?_
  refine zG_sub (lv' := [some (zr 42 0), some (zi 1), some (zi 0), none, none]) (zsb_s rfl (zsb_s rfl (zsb_s rfl (zsb_n (zsb_n zsb_0))))) ?_
  obtain ⟨y16, hy16, h⟩ := Option.bind_eq_some_iff.mp h
  refine gl_X11_first_L8 hd (fun t17 e2 => ?_) (fun q e2 => ?_) zF (1, 0, p1) hy16
  · cases e2
    refine zG_run hm 1 (cf' := (101, [none, none, none, none, none], [zi (-1)], t17)) rfl ?_
    cases h
    exact zG_ri hm rfl rfl
  · cases e2
    cases h
    exact ⟨rfl, rfl⟩
theorem met_X11_first  {M : zM} {q : Int × zM} {d : Nat} (hd : 8 ≤ d) (h : f_X11_first  M = some q) : zMet 203 d [zr 42 0] M (some (zi q.1)) q.2 :=
  zMet_of (lv0 := [some (zr 42 0), none, none, none, none]) zmok_203 rfl rfl (fun v hv => by cases hv; trivial) (g_X11_first hd h)
def f_X3_look_j22 (rec : Nat → Int → Int → Int → zM → Option zM) (v2 : Int) (M : zM) : Option (zM) :=
  if 0 ≤ zw (M 31 0 5) ∧ zw (M 31 0 5) < 8 then
    if ¬ zw (M 16 ((zix (M 31 0 5)) + 16) 4) = zw (M 31 0 6) then
      some M
    else
      zlet (zput M 31 0 4 v2) fun M1 =>
      zlet (zcopy M1 33 0 0 34 0 0 3) fun M2 =>
      some M2
  else
    none
theorem g_X3_look_j22 {rec : Nat → Int → Int → Int → zM → Option zM} {v2 : Int} {M : zM} {q : zM} {d : Nat} {dr : Nat} (hrec : ∀ (t : Nat) (a b c : Int) (M q : zM), rec t a b c M = some q → zRec t dr a b c M q) (hdr : dr + 1 ≤ d) (hd : 4 ≤ d) (h : f_X3_look_j22 rec v2 M = some q) : zG 38 d (22, [some (zr 31 0), none, some (zi v2), none], [], M) none q := by
  have hm := zmok_38
  unfold f_X3_look_j22 at h
  refine zG_run hm 5 (cf' := (33, [some (zr 31 0), none, some (zi v2), none], [zi (M 31 0 5), zr 14 2], M)) rfl ?_
  by_cases c4 : 0 ≤ zw (M 31 0 5) ∧ zw (M 31 0 5) < 8
  · rw [if_pos c4] at h
    refine zG_br hm rfl (cf' := (34, [some (zr 31 0), none, some (zi v2), none], [zr 16 ((zix (M 31 0 5)) + 16)], M)) (if_pos c4) ?_
    refine zG_run hm 3 (cf' := (41, [some (zr 31 0), none, some (zi v2), none], [zi (M 31 0 6), zi (M 16 ((zix (M 31 0 5)) + 16) 4)], M)) rfl ?_
    by_cases c3 : ¬ zw (M 16 ((zix (M 31 0 5)) + 16) 4) = zw (M 31 0 6)
    · rw [if_pos c3] at h
      refine zG_br hm rfl (cf' := (63, [some (zr 31 0), none, some (zi v2), none], [], M)) (if_pos c3) ?_
      cases h
      exact zG_rv hm rfl rfl
    · rw [if_neg c3] at h
      refine zG_br hm rfl (cf' := (44, [some (zr 31 0), none, some (zi v2), none], [], M)) (if_neg c3) ?_
      refine zG_run hm 3 (cf' := (49, [some (zr 31 0), none, some (zi v2), none], [], (zput M 31 0 4 v2))) rfl ?_
      obtain ⟨M1, eM1, h⟩ := zlet_of h
      rw [eM1]
      refine zG_run hm 7 (cf' := (60, [some (zr 31 0), none, some (zi v2), none], [zi 3, zi 0, zr 34 0, zi 0, zr 33 0], M1)) rfl ?_
      refine zG_copy hm rfl 0 (Or.inl rfl) rfl (by decide) (by decide) (by decide) rfl rfl rfl ?_
      show zG 38 d (63, [some (zr 31 0), none, some (zi v2), none], [], (zcopy M1 33 0 0 34 0 0 3)) _ _
      obtain ⟨M2, eM2, h⟩ := zlet_of h
      rw [eM2]
      cases h
      exact zG_rv hm rfl rfl
  · rw [if_neg c4] at h
    cases h
def f_X3_look_j127 (rec : Nat → Int → Int → Int → zM → Option zM) (v1 : Int) (v2 : Int) (v3 : Int) (M : zM) : Option ((Int × zM) ⊕ (zM)) :=
  some (.inl ((v3 + 1), M))
theorem g_X3_look_j127 {rec : Nat → Int → Int → Int → zM → Option zM} {v1 : Int} {v2 : Int} {v3 : Int} {M : zM} {x : (Int × zM) ⊕ (zM)} {r : Option zV} {Mf : zM} {d : Nat} {dr : Nat} (hrec : ∀ (t : Nat) (a b c : Int) (M q : zM), rec t a b c M = some q → zRec t dr a b c M q) (hdr : dr + 1 ≤ d) (hd : 4 ≤ d) (h : f_X3_look_j127 rec v1 v2 v3 M = some x)
    (kc : ∀ s, x = .inl s → zG 38 d (86, [some (zr 31 0), some (zi v1), some (zi v2), some (zi s.1)], [], s.2) r Mf)
    (kb : ∀ t, x = .inr t → zG 38 d (133, [some (zr 31 0), some (zi v1), some (zi v2), none], [], t) r Mf) (kr : True) : zG 38 d (127, [some (zr 31 0), some (zi v1), some (zi v2), some (zi v3)], [], M) r Mf := by
  have hm := zmok_38
  unfold f_X3_look_j127 at h
  refine zG_run hm 2 (cf' := (86, [some (zr 31 0), some (zi v1), some (zi v2), some (zi (v3 + 1))], [], M)) rfl ?_
  refine zG_sub (lv' := [some (zr 31 0), some (zi v1), some (zi v2), some (zi (v3 + 1))]) (zsb_s rfl (zsb_s rfl (zsb_s rfl (zsb_s rfl zsb_0)))) ?_
  exact kc ((v3 + 1), M) (Option.some.inj h).symm
def f_X3_look_L86 (rec : Nat → Int → Int → Int → zM → Option zM) (v1 : Int) (v2 : Int) (v3 : Int) (M : zM) : Option ((Int × zM) ⊕ (zM)) :=
  if zw (M 11 2 7) ≤ zw v3 then
    some (.inr M)
  else
    (f_X0_canTake 2 v3 M).bind fun p7 =>
      if zw p7.1 = 0 then
        f_X3_look_j127 rec v1 v2 v3 p7.2
      else
        (f_X0_take 2 v3 p7.2).bind fun p8 =>
          (rec 8 v1 (v2 + 1) (1 + v3) p8).bind fun p9 =>
            f_X3_look_j127 rec v1 v2 v3 p9
theorem g_X3_look_L86 {rec : Nat → Int → Int → Int → zM → Option zM} {v1 : Int} {v2 : Int} {v3 : Int} {M : zM} {x : (Int × zM) ⊕ (zM)} {r : Option zV} {Mf : zM} {d : Nat} {dr : Nat} (hrec : ∀ (t : Nat) (a b c : Int) (M q : zM), rec t a b c M = some q → zRec t dr a b c M q) (hdr : dr + 1 ≤ d) (hd : 4 ≤ d) (h : f_X3_look_L86 rec v1 v2 v3 M = some x)
    (kc : ∀ s, x = .inl s → zG 38 d (86, [some (zr 31 0), some (zi v1), some (zi v2), some (zi s.1)], [], s.2) r Mf)
    (kb : ∀ t, x = .inr t → zG 38 d (133, [some (zr 31 0), some (zi v1), some (zi v2), none], [], t) r Mf) (kr : True) : zG 38 d (86, [some (zr 31 0), some (zi v1), some (zi v2), some (zi v3)], [], M) r Mf := by
  have hm := zmok_38
  unfold f_X3_look_L86 at h
  refine zG_run hm 4 (cf' := (94, [some (zr 31 0), some (zi v1), some (zi v2), some (zi v3)], [zi (M 11 2 7), zi v3], M)) rfl ?_
  by_cases c11 : zw (M 11 2 7) ≤ zw v3
  · rw [if_pos c11] at h
    refine zG_br hm rfl (cf' := (133, [some (zr 31 0), some (zi v1), some (zi v2), some (zi v3)], [], M)) (if_pos c11) ?_
    refine zG_sub (lv' := [some (zr 31 0), some (zi v1), some (zi v2), none]) (zsb_s rfl (zsb_s rfl (zsb_s rfl (zsb_n zsb_0)))) ?_
    exact kb M (Option.some.inj h).symm
  · rw [if_neg c11] at h
    refine zG_br hm rfl (cf' := (97, [some (zr 31 0), some (zi v1), some (zi v2), some (zi v3)], [], M)) (if_neg c11) ?_
    refine zG_run hm 3 (cf' := (102, [some (zr 31 0), some (zi v1), some (zi v2), some (zi v3)], [zi v3, zr 11 2], M)) rfl ?_
    obtain ⟨p7, hp7, h⟩ := Option.bind_eq_some_iff.mp h
    refine zG_V hm zmok_6 rfl (as := [zi v3]) (rest := []) (st2 := [zi p7.1]) (pc2 := 105) rfl rfl (by omega) (met_X0_canTake (d := 2) (Nat.le_refl _) hp7) rfl ?_
    by_cases c10 : zw p7.1 = 0
    · rw [if_pos c10] at h
      refine zG_br hm rfl (cf' := (127, [some (zr 31 0), some (zi v1), some (zi v2), some (zi v3)], [], p7.2)) (if_pos c10) ?_
      refine zG_sub (lv' := [some (zr 31 0), some (zi v1), some (zi v2), some (zi v3)]) (zsb_s rfl (zsb_s rfl (zsb_s rfl (zsb_s rfl zsb_0)))) ?_
      exact g_X3_look_j127 hrec hdr hd h kc kb kr
    · rw [if_neg c10] at h
      refine zG_br hm rfl (cf' := (108, [some (zr 31 0), some (zi v1), some (zi v2), some (zi v3)], [], p7.2)) (if_neg c10) ?_
      refine zG_run hm 3 (cf' := (113, [some (zr 31 0), some (zi v1), some (zi v2), some (zi v3)], [zi v3, zr 11 2], p7.2)) rfl ?_
      obtain ⟨p8, hp8, h⟩ := Option.bind_eq_some_iff.mp h
      refine zG_V hm zmok_12 rfl (as := [zi v3]) (rest := []) (st2 := []) (pc2 := 116) rfl rfl (by omega) (met_X0_take (d := 0) (Nat.le_refl _) hp8) rfl ?_
      refine zG_run hm 8 (cf' := (124, [some (zr 31 0), some (zi v1), some (zi v2), some (zi v3)], [zi (1 + v3), zi (v2 + 1), zi v1, zr 31 0], p8)) rfl ?_
      obtain ⟨p9, hp9, h⟩ := Option.bind_eq_some_iff.mp h
      refine zG_V hm zmok_39 rfl (as := [zi v1, zi (v2 + 1), zi (1 + v3)]) (rest := []) (st2 := []) (pc2 := 127) rfl rfl hdr (hrec _ _ _ _ _ _ hp9) rfl ?_
      refine zG_sub (lv' := [some (zr 31 0), some (zi v1), some (zi v2), some (zi v3)]) (zsb_s rfl (zsb_s rfl (zsb_s rfl (zsb_s rfl zsb_0)))) ?_
      exact g_X3_look_j127 hrec hdr hd h kc kb kr
theorem gl_X3_look_L86 {rec : Nat → Int → Int → Int → zM → Option zM} {v1 : Int} {v2 : Int} {y : zM} {r : Option zV} {Mf : zM} {d : Nat} {dr : Nat} (hrec : ∀ (t : Nat) (a b c : Int) (M q : zM), rec t a b c M = some q → zRec t dr a b c M q) (hdr : dr + 1 ≤ d) (hd : 4 ≤ d)
    (kb : ∀ t, y = t → zG 38 d (133, [some (zr 31 0), some (zi v1), some (zi v2), none], [], t) r Mf) (kr : True) : ∀ (n : Nat) (s : Int × zM), zlp (fun s : Int × zM => f_X3_look_L86 rec v1 v2 s.1 s.2) n s = some y → zG 38 d (86, [some (zr 31 0), some (zi v1), some (zi v2), some (zi s.1)], [], s.2) r Mf := by
  intro n
  induction n with
  | zero => intro s h; cases h
  | succ n ih =>
    intro s h
    rcases zlp_cases h with ⟨s', h1, h2⟩ | h1
    · exact g_X3_look_L86 hrec hdr hd h1 (fun s2 e2 => by cases e2; exact ih _ h2) (fun t e2 => by cases e2) trivial
    · exact g_X3_look_L86 hrec hdr hd h1 (fun s2 e2 => by cases e2) (fun t e2 => kb t (Sum.inr.inj e2)) trivial
def f_X3_look_j178 (rec : Nat → Int → Int → Int → zM → Option zM) (v1 : Int) (v2 : Int) (v3 : Int) (M : zM) : Option ((Int × zM) ⊕ (zM)) :=
  some (.inl ((v3 + 1), M))
theorem g_X3_look_j178 {rec : Nat → Int → Int → Int → zM → Option zM} {v1 : Int} {v2 : Int} {v3 : Int} {M : zM} {x : (Int × zM) ⊕ (zM)} {r : Option zV} {Mf : zM} {d : Nat} {dr : Nat} (hrec : ∀ (t : Nat) (a b c : Int) (M q : zM), rec t a b c M = some q → zRec t dr a b c M q) (hdr : dr + 1 ≤ d) (hd : 4 ≤ d) (h : f_X3_look_j178 rec v1 v2 v3 M = some x)
    (kc : ∀ s, x = .inl s → zG 38 d (135, [some (zr 31 0), some (zi v1), some (zi v2), some (zi s.1)], [], s.2) r Mf)
    (kb : ∀ t, x = .inr t → zG 38 d (184, [none, none, none, none], [], t) r Mf) (kr : True) : zG 38 d (178, [some (zr 31 0), some (zi v1), some (zi v2), some (zi v3)], [], M) r Mf := by
  have hm := zmok_38
  unfold f_X3_look_j178 at h
  refine zG_run hm 2 (cf' := (135, [some (zr 31 0), some (zi v1), some (zi v2), some (zi (v3 + 1))], [], M)) rfl ?_
  refine zG_sub (lv' := [some (zr 31 0), some (zi v1), some (zi v2), some (zi (v3 + 1))]) (zsb_s rfl (zsb_s rfl (zsb_s rfl (zsb_s rfl zsb_0)))) ?_
  exact kc ((v3 + 1), M) (Option.some.inj h).symm
def f_X3_look_L135 (rec : Nat → Int → Int → Int → zM → Option zM) (v1 : Int) (v2 : Int) (v3 : Int) (M : zM) : Option ((Int × zM) ⊕ (zM)) :=
  if zw (M 11 2 7) ≤ zw v3 then
    some (.inr M)
  else
    (f_X0_isKept 2 v3 M).bind fun p13 =>
      if zw p13.1 = 0 then
        f_X3_look_j178 rec v1 v2 v3 p13.2
      else
        (f_X0_comeBack 2 v3 p13.2).bind fun p14 =>
          (rec 8 v1 (v2 + 1) (10 + v3) p14.2).bind fun p15 =>
            f_X3_look_j178 rec v1 v2 v3 p15
theorem g_X3_look_L135 {rec : Nat → Int → Int → Int → zM → Option zM} {v1 : Int} {v2 : Int} {v3 : Int} {M : zM} {x : (Int × zM) ⊕ (zM)} {r : Option zV} {Mf : zM} {d : Nat} {dr : Nat} (hrec : ∀ (t : Nat) (a b c : Int) (M q : zM), rec t a b c M = some q → zRec t dr a b c M q) (hdr : dr + 1 ≤ d) (hd : 4 ≤ d) (h : f_X3_look_L135 rec v1 v2 v3 M = some x)
    (kc : ∀ s, x = .inl s → zG 38 d (135, [some (zr 31 0), some (zi v1), some (zi v2), some (zi s.1)], [], s.2) r Mf)
    (kb : ∀ t, x = .inr t → zG 38 d (184, [none, none, none, none], [], t) r Mf) (kr : True) : zG 38 d (135, [some (zr 31 0), some (zi v1), some (zi v2), some (zi v3)], [], M) r Mf := by
  have hm := zmok_38
  unfold f_X3_look_L135 at h
  refine zG_run hm 4 (cf' := (143, [some (zr 31 0), some (zi v1), some (zi v2), some (zi v3)], [zi (M 11 2 7), zi v3], M)) rfl ?_
  by_cases c17 : zw (M 11 2 7) ≤ zw v3
  · rw [if_pos c17] at h
    refine zG_br hm rfl (cf' := (184, [some (zr 31 0), some (zi v1), some (zi v2), some (zi v3)], [], M)) (if_pos c17) ?_
    refine zG_sub (lv' := [none, none, none, none]) (zsb_n (zsb_n (zsb_n (zsb_n zsb_0)))) ?_
    exact kb M (Option.some.inj h).symm
  · rw [if_neg c17] at h
    refine zG_br hm rfl (cf' := (146, [some (zr 31 0), some (zi v1), some (zi v2), some (zi v3)], [], M)) (if_neg c17) ?_
    refine zG_run hm 3 (cf' := (151, [some (zr 31 0), some (zi v1), some (zi v2), some (zi v3)], [zi v3, zr 11 2], M)) rfl ?_
    obtain ⟨p13, hp13, h⟩ := Option.bind_eq_some_iff.mp h
    refine zG_V hm zmok_5 rfl (as := [zi v3]) (rest := []) (st2 := [zi p13.1]) (pc2 := 154) rfl rfl (by omega) (met_X0_isKept (d := 1) (Nat.le_refl _) hp13) rfl ?_
    by_cases c16 : zw p13.1 = 0
    · rw [if_pos c16] at h
      refine zG_br hm rfl (cf' := (178, [some (zr 31 0), some (zi v1), some (zi v2), some (zi v3)], [], p13.2)) (if_pos c16) ?_
      refine zG_sub (lv' := [some (zr 31 0), some (zi v1), some (zi v2), some (zi v3)]) (zsb_s rfl (zsb_s rfl (zsb_s rfl (zsb_s rfl zsb_0)))) ?_
      exact g_X3_look_j178 hrec hdr hd h kc kb kr
    · rw [if_neg c16] at h
      refine zG_br hm rfl (cf' := (157, [some (zr 31 0), some (zi v1), some (zi v2), some (zi v3)], [], p13.2)) (if_neg c16) ?_
      refine zG_run hm 3 (cf' := (162, [some (zr 31 0), some (zi v1), some (zi v2), some (zi v3)], [zi v3, zr 11 2], p13.2)) rfl ?_
      obtain ⟨p14, hp14, h⟩ := Option.bind_eq_some_iff.mp h
      refine zG_V hm zmok_13 rfl (as := [zi v3]) (rest := []) (st2 := [zi p14.1]) (pc2 := 165) rfl rfl (by omega) (met_X0_comeBack (d := 3) (Nat.le_refl _) hp14) rfl ?_
      refine zG_run hm 9 (cf' := (175, [some (zr 31 0), some (zi v1), some (zi v2), some (zi v3)], [zi (10 + v3), zi (v2 + 1), zi v1, zr 31 0], p14.2)) rfl ?_
      obtain ⟨p15, hp15, h⟩ := Option.bind_eq_some_iff.mp h
      refine zG_V hm zmok_39 rfl (as := [zi v1, zi (v2 + 1), zi (10 + v3)]) (rest := []) (st2 := []) (pc2 := 178) rfl rfl hdr (hrec _ _ _ _ _ _ hp15) rfl ?_
      refine zG_sub (lv' := [some (zr 31 0), some (zi v1), some (zi v2), some (zi v3)]) (zsb_s rfl (zsb_s rfl (zsb_s rfl (zsb_s rfl zsb_0)))) ?_
      exact g_X3_look_j178 hrec hdr hd h kc kb kr
theorem gl_X3_look_L135 {rec : Nat → Int → Int → Int → zM → Option zM} {v1 : Int} {v2 : Int} {y : zM} {r : Option zV} {Mf : zM} {d : Nat} {dr : Nat} (hrec : ∀ (t : Nat) (a b c : Int) (M q : zM), rec t a b c M = some q → zRec t dr a b c M q) (hdr : dr + 1 ≤ d) (hd : 4 ≤ d)
    (kb : ∀ t, y = t → zG 38 d (184, [none, none, none, none], [], t) r Mf) (kr : True) : ∀ (n : Nat) (s : Int × zM), zlp (fun s : Int × zM => f_X3_look_L135 rec v1 v2 s.1 s.2) n s = some y → zG 38 d (135, [some (zr 31 0), some (zi v1), some (zi v2), some (zi s.1)], [], s.2) r Mf := by
  intro n
  induction n with
  | zero => intro s h; cases h
  | succ n ih =>
    intro s h
    rcases zlp_cases h with ⟨s', h1, h2⟩ | h1
    · exact g_X3_look_L135 hrec hdr hd h1 (fun s2 e2 => by cases e2; exact ih _ h2) (fun t e2 => by cases e2) trivial
    · exact g_X3_look_L135 hrec hdr hd h1 (fun s2 e2 => by cases e2) (fun t e2 => kb t (Sum.inr.inj e2)) trivial
def f_X3_look (rec : Nat → Int → Int → Int → zM → Option zM) (v1 : Int) (v2 : Int) (M : zM) : Option (zM) :=
  if zw v2 < zw (M 31 0 4) then
    if zw (M 31 0 7) ≤ zw v1 then
      f_X3_look_j22 rec v2 M
    else
      if zw v1 < 3 then
        if 0 ≤ zw v1 ∧ zw v1 < 3 then
          (f_X0_save 2 ((zix v1) + 60) M).bind fun p5 =>
            (rec 8 v1 v2 0 p5).bind fun p6 =>
              (zlp (fun s : Int × zM => f_X3_look_L86 rec v1 v2 s.1 s.2) zF (0, p6)).bind fun y12 =>
                (zlp (fun s : Int × zM => f_X3_look_L135 rec v1 v2 s.1 s.2) zF (0, y12)).bind fun y18 =>
                  some y18
        else
          none
      else
        f_X3_look_j22 rec v2 M
  else
    some M
theorem g_X3_look {rec : Nat → Int → Int → Int → zM → Option zM} {v1 : Int} {v2 : Int} {M : zM} {q : zM} {d : Nat} {dr : Nat} (hrec : ∀ (t : Nat) (a b c : Int) (M q : zM), rec t a b c M = some q → zRec t dr a b c M q) (hdr : dr + 1 ≤ d) (hd : 4 ≤ d) (h : f_X3_look rec v1 v2 M = some q) : zG 38 d (0, [some (zr 31 0), some (zi v1), some (zi v2), none], [], M) none q := by
  have hm := zmok_38
  unfold f_X3_look at h
  refine zG_run hm 3 (cf' := (5, [some (zr 31 0), some (zi v1), some (zi v2), none], [zi (M 31 0 4), zi v2], M)) rfl ?_
  by_cases c22 : zw v2 < zw (M 31 0 4)
  · rw [if_pos c22] at h
    refine zG_br hm rfl (cf' := (9, [some (zr 31 0), some (zi v1), some (zi v2), none], [], M)) (if_pos c22) ?_
    refine zG_run hm 3 (cf' := (14, [some (zr 31 0), some (zi v1), some (zi v2), none], [zi (M 31 0 7), zi v1], M)) rfl ?_
    by_cases c21 : zw (M 31 0 7) ≤ zw v1
    · rw [if_pos c21] at h
      refine zG_br hm rfl (cf' := (22, [some (zr 31 0), some (zi v1), some (zi v2), none], [], M)) (if_pos c21) ?_
      refine zG_sub (lv' := [some (zr 31 0), none, some (zi v2), none]) (zsb_s rfl (zsb_n (zsb_s rfl (zsb_n zsb_0)))) ?_
      exact g_X3_look_j22 hrec hdr hd h
    · rw [if_neg c21] at h
      refine zG_br hm rfl (cf' := (17, [some (zr 31 0), some (zi v1), some (zi v2), none], [], M)) (if_neg c21) ?_
      refine zG_run hm 2 (cf' := (19, [some (zr 31 0), some (zi v1), some (zi v2), none], [zi 3, zi v1], M)) rfl ?_
      by_cases c20 : zw v1 < 3
      · rw [if_pos c20] at h
        refine zG_br hm rfl (cf' := (64, [some (zr 31 0), some (zi v1), some (zi v2), none], [], M)) (if_pos c20) ?_
        refine zG_run hm 5 (cf' := (73, [some (zr 31 0), some (zi v1), some (zi v2), none], [zi v1, zr 32 0, zr 11 2], M)) rfl ?_
        by_cases c19 : 0 ≤ zw v1 ∧ zw v1 < 3
        · rw [if_pos c19] at h
          refine zG_br hm rfl (cf' := (74, [some (zr 31 0), some (zi v1), some (zi v2), none], [zr 22 ((zix v1) + 60), zr 11 2], M)) (if_pos c19) ?_
          obtain ⟨p5, hp5, h⟩ := Option.bind_eq_some_iff.mp h
          refine zG_V hm zmok_1 rfl (as := [zr 22 ((zix v1) + 60)]) (rest := []) (st2 := []) (pc2 := 77) rfl rfl (by omega) (met_X0_save (d := 0) (Nat.le_refl _) hp5) rfl ?_
          refine zG_run hm 4 (cf' := (81, [some (zr 31 0), some (zi v1), some (zi v2), none], [zi 0, zi v2, zi v1, zr 31 0], p5)) rfl ?_
          obtain ⟨p6, hp6, h⟩ := Option.bind_eq_some_iff.mp h
          refine zG_V hm zmok_39 rfl (as := [zi v1, zi v2, zi 0]) (rest := []) (st2 := []) (pc2 := 84) rfl rfl hdr (hrec _ _ _ _ _ _ hp6) rfl ?_
          refine zG_run hm 2 (cf' := (86, [some (zr 31 0), some (zi v1), some (zi v2), some (zi 0)], [], p6)) rfl ?_
          refine zG_sub (lv' := [some (zr 31 0), some (zi v1), some (zi v2), some (zi 0)]) (zsb_s rfl (zsb_s rfl (zsb_s rfl (zsb_s rfl zsb_0)))) ?_
          obtain ⟨y12, hy12, h⟩ := Option.bind_eq_some_iff.mp h
          refine gl_X3_look_L86 hrec hdr hd (fun t e2 => ?_) trivial zF (0, p6) hy12
          cases e2
          refine zG_run hm 2 (cf' := (135, [some (zr 31 0), some (zi v1), some (zi v2), some (zi 0)], [], y12)) rfl ?_
          refine zG_sub (lv' := [some (zr 31 0), some (zi v1), some (zi v2), some (zi 0)]) (zsb_s rfl (zsb_s rfl (zsb_s rfl (zsb_s rfl zsb_0)))) ?_
          obtain ⟨y18, hy18, h⟩ := Option.bind_eq_some_iff.mp h
          refine gl_X3_look_L135 hrec hdr hd (fun t e2 => ?_) trivial zF (0, y12) hy18
          cases e2
          cases h
          exact zG_rv hm rfl rfl
        · rw [if_neg c19] at h
          cases h
      · rw [if_neg c20] at h
        refine zG_br hm rfl (cf' := (22, [some (zr 31 0), some (zi v1), some (zi v2), none], [], M)) (if_neg c20) ?_
        refine zG_sub (lv' := [some (zr 31 0), none, some (zi v2), none]) (zsb_s rfl (zsb_n (zsb_s rfl (zsb_n zsb_0)))) ?_
        exact g_X3_look_j22 hrec hdr hd h
  · rw [if_neg c22] at h
    refine zG_br hm rfl (cf' := (8, [some (zr 31 0), some (zi v1), some (zi v2), none], [], M)) (if_neg c22) ?_
    cases h
    exact zG_rv hm rfl rfl
theorem met_X3_look {rec : Nat → Int → Int → Int → zM → Option zM} {v1 : Int} {v2 : Int} {M : zM} {q : zM} {d : Nat} {dr : Nat} (hrec : ∀ (t : Nat) (a b c : Int) (M q : zM), rec t a b c M = some q → zRec t dr a b c M q) (hdr : dr + 1 ≤ d) (hd : 4 ≤ d) (h : f_X3_look rec v1 v2 M = some q) : zMet 38 d [zr 31 0, zi v1, zi v2] M none q :=
  zMet_of (lv0 := [some (zr 31 0), some (zi v1), some (zi v2), none]) zmok_38 rfl rfl (fun v hv => by cases hv) (g_X3_look hrec hdr hd h)
