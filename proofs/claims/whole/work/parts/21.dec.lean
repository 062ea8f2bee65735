/-! methods, decompiled: 1 -/
def f_X11_bound (v0 : Int) (M : zM) : Option (Int × zM) :=
  if zw (zlcmp (zwl v0) (1000000)) ≤ 0 then
    if 0 ≤ zw (zlcmp (zwl v0) ((-1000000))) then
      some (v0, M)
    else
      some ((-1000000), M)
  else
    some (1000000, M)
theorem g_X11_bound {v0 : Int} {M : zM} {q : Int × zM} {d : Nat} (hd : 0 ≤ d) (h : f_X11_bound v0 M = some q) : zG 165 d (0, [some (zl v0), none], [], M) (some (zl q.1)) q.2 := by
  have hm := zmok_165
  unfold f_X11_bound at h
  refine zG_run hm 3 (cf' := (5, [some (zl v0), none], [zi (zlcmp (zwl v0) (1000000))], M)) rfl ?_
  by_cases c2 : zw (zlcmp (zwl v0) (1000000)) ≤ 0
  · rw [if_pos c2] at h
    refine zG_br hm rfl (cf' := (14, [some (zl v0), none], [], M)) (if_pos c2) ?_
    refine zG_run hm 3 (cf' := (19, [some (zl v0), none], [zi (zlcmp (zwl v0) ((-1000000)))], M)) rfl ?_
    by_cases c1 : 0 ≤ zw (zlcmp (zwl v0) ((-1000000)))
    · rw [if_pos c1] at h
      refine zG_br hm rfl (cf' := (28, [some (zl v0), none], [], M)) (if_pos c1) ?_
      refine zG_run hm 1 (cf' := (29, [some (zl v0), none], [zl v0], M)) rfl ?_
      cases h
      exact zG_rl hm rfl rfl
    · rw [if_neg c1] at h
      refine zG_br hm rfl (cf' := (22, [some (zl v0), none], [], M)) (if_neg c1) ?_
      refine zG_run hm 2 (cf' := (29, [some (zl v0), none], [zl (-1000000)], M)) rfl ?_
      cases h
      exact zG_rl hm rfl rfl
  · rw [if_neg c2] at h
    refine zG_br hm rfl (cf' := (8, [some (zl v0), none], [], M)) (if_neg c2) ?_
    refine zG_run hm 2 (cf' := (29, [some (zl v0), none], [zl 1000000], M)) rfl ?_
    cases h
    exact zG_rl hm rfl rfl
theorem met_X11_bound {v0 : Int} {M : zM} {q : Int × zM} {d : Nat} (hd : 0 ≤ d) (h : f_X11_bound v0 M = some q) : zMet 165 d [zl v0] M (some (zl q.1)) q.2 :=
  zMet_of (lv0 := [some (zl v0), none]) zmok_165 rfl rfl (fun v hv => by cases hv; trivial) (g_X11_bound hd h)
def f_X11_leftOf_j20 (v0 : Int) (vs0 : Int) (M : zM) : Option (Int × zM) :=
  if zwl vs0 = 0 then
    none
  else
    if 0 ≤ zw (zlcmp (zwl (zrem (zwl v0) (zwl vs0))) (0)) then
      some ((zrem (zwl v0) (zwl vs0)), M)
    else
      some (((zrem (zwl v0) (zwl vs0)) + vs0), M)
theorem g_X11_leftOf_j20 {v0 : Int} {vs0 : Int} {M : zM} {q : Int × zM} {d : Nat} (hd : 0 ≤ d) (h : f_X11_leftOf_j20 v0 vs0 M = some q) : zG 166 d (20, [some (zl v0), none, none, none, none, none, none, none], [zl vs0], M) (some (zl q.1)) q.2 := by
  have hm := zmok_166
  unfold f_X11_leftOf_j20 at h
  refine zG_run hm 3 (cf' := (25, [some (zl v0), none, none, none, some (zl vs0), none, none, none], [zl vs0, zl v0], M)) rfl ?_
  by_cases c2 : zwl vs0 = 0
  · rw [if_pos c2] at h
    cases h
  · rw [if_neg c2] at h
    refine zG_br hm rfl (cf' := (26, [some (zl v0), none, none, none, some (zl vs0), none, none, none], [zl (zrem (zwl v0) (zwl vs0))], M)) (if_neg c2) ?_
    refine zG_run hm 4 (cf' := (32, [some (zl v0), none, none, none, some (zl vs0), none, some (zl (zrem (zwl v0) (zwl vs0))), none], [zi (zlcmp (zwl (zrem (zwl v0) (zwl vs0))) (0))], M)) rfl ?_
    by_cases c1 : 0 ≤ zw (zlcmp (zwl (zrem (zwl v0) (zwl vs0))) (0))
    · rw [if_pos c1] at h
      refine zG_br hm rfl (cf' := (43, [some (zl v0), none, none, none, some (zl vs0), none, some (zl (zrem (zwl v0) (zwl vs0))), none], [], M)) (if_pos c1) ?_
      refine zG_run hm 1 (cf' := (45, [some (zl v0), none, none, none, some (zl vs0), none, some (zl (zrem (zwl v0) (zwl vs0))), none], [zl (zrem (zwl v0) (zwl vs0))], M)) rfl ?_
      cases h
      exact zG_rl hm rfl rfl
    · rw [if_neg c1] at h
      refine zG_br hm rfl (cf' := (35, [some (zl v0), none, none, none, some (zl vs0), none, some (zl (zrem (zwl v0) (zwl vs0))), none], [], M)) (if_neg c1) ?_
      refine zG_run hm 4 (cf' := (45, [some (zl v0), none, none, none, some (zl vs0), none, some (zl (zrem (zwl v0) (zwl vs0))), none], [zl ((zrem (zwl v0) (zwl vs0)) + vs0)], M)) rfl ?_
      cases h
      exact zG_rl hm rfl rfl
def f_X11_leftOf (v0 : Int) (v2 : Int) (M : zM) : Option (Int × zM) :=
  if ¬ zw (zlcmp (zwl v2) (0)) = 0 then
    if 0 ≤ zw (zlcmp (zwl v2) (0)) then
      f_X11_leftOf_j20 v0 v2 M
    else
      f_X11_leftOf_j20 v0 (-v2) M
  else
    some (0, M)
theorem g_X11_leftOf {v0 : Int} {v2 : Int} {M : zM} {q : Int × zM} {d : Nat} (hd : 0 ≤ d) (h : f_X11_leftOf v0 v2 M = some q) : zG 166 d (0, [some (zl v0), none, some (zl v2), none, none, none, none, none], [], M) (some (zl q.1)) q.2 := by
  have hm := zmok_166
  unfold f_X11_leftOf at h
  refine zG_run hm 3 (cf' := (3, [some (zl v0), none, some (zl v2), none, none, none, none, none], [zi (zlcmp (zwl v2) (0))], M)) rfl ?_
  by_cases c4 : ¬ zw (zlcmp (zwl v2) (0)) = 0
  · rw [if_pos c4] at h
    refine zG_br hm rfl (cf' := (8, [some (zl v0), none, some (zl v2), none, none, none, none, none], [], M)) (if_pos c4) ?_
    refine zG_run hm 3 (cf' := (11, [some (zl v0), none, some (zl v2), none, none, none, none, none], [zi (zlcmp (zwl v2) (0))], M)) rfl ?_
    by_cases c3 : 0 ≤ zw (zlcmp (zwl v2) (0))
    · rw [if_pos c3] at h
      refine zG_br hm rfl (cf' := (19, [some (zl v0), none, some (zl v2), none, none, none, none, none], [], M)) (if_pos c3) ?_
      refine zG_run hm 1 (cf' := (20, [some (zl v0), none, some (zl v2), none, none, none, none, none], [zl v2], M)) rfl ?_
      refine zG_sub (lv' := [some (zl v0), none, none, none, none, none, none, none]) (zsb_s rfl (zsb_n (zsb_n (zsb_n (zsb_n (zsb_n (zsb_n (zsb_n zsb_0)))))))) ?_
      exact g_X11_leftOf_j20 hd h
    · rw [if_neg c3] at h
      refine zG_br hm rfl (cf' := (14, [some (zl v0), none, some (zl v2), none, none, none, none, none], [], M)) (if_neg c3) ?_
      refine zG_run hm 3 (cf' := (20, [some (zl v0), none, some (zl v2), none, none, none, none, none], [zl (-v2)], M)) rfl ?_
      refine zG_sub (lv' := [some (zl v0), none, none, none, none, none, none, none]) (zsb_s rfl (zsb_n (zsb_n (zsb_n (zsb_n (zsb_n (zsb_n (zsb_n zsb_0)))))))) ?_
      exact g_X11_leftOf_j20 hd h
  · rw [if_neg c4] at h
    refine zG_br hm rfl (cf' := (6, [some (zl v0), none, some (zl v2), none, none, none, none, none], [], M)) (if_neg c4) ?_
    refine zG_run hm 1 (cf' := (7, [some (zl v0), none, some (zl v2), none, none, none, none, none], [zl 0], M)) rfl ?_
    cases h
    exact zG_rl hm rfl rfl
theorem met_X11_leftOf {v0 : Int} {v2 : Int} {M : zM} {q : Int × zM} {d : Nat} (hd : 0 ≤ d) (h : f_X11_leftOf v0 v2 M = some q) : zMet 166 d [zl v0, zl v2] M (some (zl q.1)) q.2 :=
  zMet_of (lv0 := [some (zl v0), none, some (zl v2), none, none, none, none, none]) zmok_166 rfl rfl (fun v hv => by cases hv; trivial) (g_X11_leftOf hd h)
def f_X11_worked (v0 : Int) (v1 : Int) (v3 : Int) (M : zM) : Option (Int × zM) :=
  if zw v0 = 35 then
    if zw (zlcmp (zwl v1) (zwl v3)) = 0 then
      some (0, M)
    else
      some (1, M)
  else
    if zw v0 = 42 then
      (f_X11_bound (v1 * v3) M).bind fun p4 =>
        some (p4.1, p4.2)
    else
      if zw v0 = 43 then
        (f_X11_bound (v1 + v3) M).bind fun p6 =>
          some (p6.1, p6.2)
      else
        if zw v0 = 45 then
          (f_X11_bound (v1 - v3) M).bind fun p8 =>
            some (p8.1, p8.2)
        else
          if zw v0 = 47 then
            if ¬ zw (zlcmp (zwl v3) (0)) = 0 then
              if zwl v3 = 0 then
                none
              else
                some ((Int.tdiv (zwl v1) (zwl v3)), M)
            else
              some (0, M)
          else
            if zw v0 = 60 then
              if 0 ≤ zw (zlcmp (zwl v1) (zwl v3)) then
                some (0, M)
              else
                some (1, M)
            else
              if zw v0 = 61 then
                if ¬ zw (zlcmp (zwl v1) (zwl v3)) = 0 then
                  some (0, M)
                else
                  some (1, M)
              else
                if zw v0 = 62 then
                  if zw (zlcmp (zwl v1) (zwl v3)) ≤ 0 then
                    some (0, M)
                  else
                    some (1, M)
                else
                  if zw v0 = 300 then
                    if 0 < zw (zlcmp (zwl v1) (zwl v3)) then
                      some (0, M)
                    else
                      some (1, M)
                  else
                    if zw v0 = 301 then
                      if zw (zlcmp (zwl v1) (zwl v3)) < 0 then
                        some (0, M)
                      else
                        some (1, M)
                    else
                      if zw v0 = 403 then
                        (f_X11_leftOf v1 v3 M).bind fun p23 =>
                          some (p23.1, p23.2)
                      else
                        if zw v0 = 406 then
                          some ((v1 * v3), M)
                        else
                          if zw (zlcmp (zwl (v1 + v3)) (0)) ≤ 0 then
                            some (0, M)
                          else
                            some (1, M)
theorem g_X11_worked {v0 : Int} {v1 : Int} {v3 : Int} {M : zM} {q : Int × zM} {d : Nat} (hd : 1 ≤ d) (h : f_X11_worked v0 v1 v3 M = some q) : zG 167 d (0, [some (zi v0), some (zl v1), none, some (zl v3), none], [], M) (some (zl q.1)) q.2 := by
  have hm := zmok_167
  unfold f_X11_worked at h
  refine zG_run hm 1 (cf' := (1, [some (zi v0), some (zl v1), none, some (zl v3), none], [zi v0], M)) rfl ?_
  by_cases c1 : zw v0 = 35
  · rw [if_pos c1] at h
    refine zG_lk hm rfl (tgt := 179) (off := 178) (by decide) (by rw [c1]; decide) (by decide) ?_
    refine zG_run hm 3 (cf' := (182, [some (zi v0), some (zl v1), none, some (zl v3), none], [zi (zlcmp (zwl v1) (zwl v3))], M)) rfl ?_
    by_cases c2 : zw (zlcmp (zwl v1) (zwl v3)) = 0
    · rw [if_pos c2] at h
      refine zG_br hm rfl (cf' := (189, [some (zi v0), some (zl v1), none, some (zl v3), none], [], M)) (if_pos c2) ?_
      refine zG_run hm 1 (cf' := (190, [some (zi v0), some (zl v1), none, some (zl v3), none], [zl 0], M)) rfl ?_
      cases h
      exact zG_rl hm rfl rfl
    · rw [if_neg c2] at h
      refine zG_br hm rfl (cf' := (185, [some (zi v0), some (zl v1), none, some (zl v3), none], [], M)) (if_neg c2) ?_
      refine zG_run hm 2 (cf' := (190, [some (zi v0), some (zl v1), none, some (zl v3), none], [zl 1], M)) rfl ?_
      cases h
      exact zG_rl hm rfl rfl
  · rw [if_neg c1] at h
    by_cases c3 : zw v0 = 42
    · rw [if_pos c3] at h
      refine zG_lk hm rfl (tgt := 122) (off := 121) (by decide) (by rw [c3]; decide) (by decide) ?_
      refine zG_run hm 3 (cf' := (125, [some (zi v0), some (zl v1), none, some (zl v3), none], [zl (v1 * v3)], M)) rfl ?_
      obtain ⟨p4, hp4, h⟩ := Option.bind_eq_some_iff.mp h
      refine zG_S hm zmok_165 rfl (as := [zl (v1 * v3)]) (rest := []) (st2 := [zl p4.1]) (pc2 := 128) rfl rfl (by omega) (met_X11_bound (d := 0) (Nat.le_refl _) hp4) rfl ?_
      cases h
      exact zG_rl hm rfl rfl
    · rw [if_neg c3] at h
      by_cases c5 : zw v0 = 43
      · rw [if_pos c5] at h
        refine zG_lk hm rfl (tgt := 108) (off := 107) (by decide) (by rw [c5]; decide) (by decide) ?_
        refine zG_run hm 3 (cf' := (111, [some (zi v0), some (zl v1), none, some (zl v3), none], [zl (v1 + v3)], M)) rfl ?_
        obtain ⟨p6, hp6, h⟩ := Option.bind_eq_some_iff.mp h
        refine zG_S hm zmok_165 rfl (as := [zl (v1 + v3)]) (rest := []) (st2 := [zl p6.1]) (pc2 := 114) rfl rfl (by omega) (met_X11_bound (d := 0) (Nat.le_refl _) hp6) rfl ?_
        cases h
        exact zG_rl hm rfl rfl
      · rw [if_neg c5] at h
        by_cases c7 : zw v0 = 45
        · rw [if_pos c7] at h
          refine zG_lk hm rfl (tgt := 115) (off := 114) (by decide) (by rw [c7]; decide) (by decide) ?_
          refine zG_run hm 3 (cf' := (118, [some (zi v0), some (zl v1), none, some (zl v3), none], [zl (v1 - v3)], M)) rfl ?_
          obtain ⟨p8, hp8, h⟩ := Option.bind_eq_some_iff.mp h
          refine zG_S hm zmok_165 rfl (as := [zl (v1 - v3)]) (rest := []) (st2 := [zl p8.1]) (pc2 := 121) rfl rfl (by omega) (met_X11_bound (d := 0) (Nat.le_refl _) hp8) rfl ?_
          cases h
          exact zG_rl hm rfl rfl
        · rw [if_neg c7] at h
          by_cases c9 : zw v0 = 47
          · rw [if_pos c9] at h
            refine zG_lk hm rfl (tgt := 129) (off := 128) (by decide) (by rw [c9]; decide) (by decide) ?_
            refine zG_run hm 3 (cf' := (132, [some (zi v0), some (zl v1), none, some (zl v3), none], [zi (zlcmp (zwl v3) (0))], M)) rfl ?_
            by_cases c11 : ¬ zw (zlcmp (zwl v3) (0)) = 0
            · rw [if_pos c11] at h
              refine zG_br hm rfl (cf' := (139, [some (zi v0), some (zl v1), none, some (zl v3), none], [], M)) (if_pos c11) ?_
              refine zG_run hm 2 (cf' := (141, [some (zi v0), some (zl v1), none, some (zl v3), none], [zl v3, zl v1], M)) rfl ?_
              by_cases c10 : zwl v3 = 0
              · rw [if_pos c10] at h
                cases h
              · rw [if_neg c10] at h
                refine zG_br hm rfl (cf' := (142, [some (zi v0), some (zl v1), none, some (zl v3), none], [zl (Int.tdiv (zwl v1) (zwl v3))], M)) (if_neg c10) ?_
                cases h
                exact zG_rl hm rfl rfl
            · rw [if_neg c11] at h
              refine zG_br hm rfl (cf' := (135, [some (zi v0), some (zl v1), none, some (zl v3), none], [], M)) (if_neg c11) ?_
              refine zG_run hm 2 (cf' := (142, [some (zi v0), some (zl v1), none, some (zl v3), none], [zl 0], M)) rfl ?_
              cases h
              exact zG_rl hm rfl rfl
          · rw [if_neg c9] at h
            by_cases c12 : zw v0 = 60
            · rw [if_pos c12] at h
              refine zG_lk hm rfl (tgt := 143) (off := 142) (by decide) (by rw [c12]; decide) (by decide) ?_
              refine zG_run hm 3 (cf' := (146, [some (zi v0), some (zl v1), none, some (zl v3), none], [zi (zlcmp (zwl v1) (zwl v3))], M)) rfl ?_
              by_cases c13 : 0 ≤ zw (zlcmp (zwl v1) (zwl v3))
              · rw [if_pos c13] at h
                refine zG_br hm rfl (cf' := (153, [some (zi v0), some (zl v1), none, some (zl v3), none], [], M)) (if_pos c13) ?_
                refine zG_run hm 1 (cf' := (154, [some (zi v0), some (zl v1), none, some (zl v3), none], [zl 0], M)) rfl ?_
                cases h
                exact zG_rl hm rfl rfl
              · rw [if_neg c13] at h
                refine zG_br hm rfl (cf' := (149, [some (zi v0), some (zl v1), none, some (zl v3), none], [], M)) (if_neg c13) ?_
                refine zG_run hm 2 (cf' := (154, [some (zi v0), some (zl v1), none, some (zl v3), none], [zl 1], M)) rfl ?_
                cases h
                exact zG_rl hm rfl rfl
            · rw [if_neg c12] at h
              by_cases c14 : zw v0 = 61
              · rw [if_pos c14] at h
                refine zG_lk hm rfl (tgt := 167) (off := 166) (by decide) (by rw [c14]; decide) (by decide) ?_
                refine zG_run hm 3 (cf' := (170, [some (zi v0), some (zl v1), none, some (zl v3), none], [zi (zlcmp (zwl v1) (zwl v3))], M)) rfl ?_
                by_cases c15 : ¬ zw (zlcmp (zwl v1) (zwl v3)) = 0
                · rw [if_pos c15] at h
                  refine zG_br hm rfl (cf' := (177, [some (zi v0), some (zl v1), none, some (zl v3), none], [], M)) (if_pos c15) ?_
                  refine zG_run hm 1 (cf' := (178, [some (zi v0), some (zl v1), none, some (zl v3), none], [zl 0], M)) rfl ?_
                  cases h
                  exact zG_rl hm rfl rfl
                · rw [if_neg c15] at h
                  refine zG_br hm rfl (cf' := (173, [some (zi v0), some (zl v1), none, some (zl v3), none], [], M)) (if_neg c15) ?_
                  refine zG_run hm 2 (cf' := (178, [some (zi v0), some (zl v1), none, some (zl v3), none], [zl 1], M)) rfl ?_
                  cases h
                  exact zG_rl hm rfl rfl
              · rw [if_neg c14] at h
                by_cases c16 : zw v0 = 62
                · rw [if_pos c16] at h
                  refine zG_lk hm rfl (tgt := 155) (off := 154) (by decide) (by rw [c16]; decide) (by decide) ?_
                  refine zG_run hm 3 (cf' := (158, [some (zi v0), some (zl v1), none, some (zl v3), none], [zi (zlcmp (zwl v1) (zwl v3))], M)) rfl ?_
                  by_cases c17 : zw (zlcmp (zwl v1) (zwl v3)) ≤ 0
                  · rw [if_pos c17] at h
                    refine zG_br hm rfl (cf' := (165, [some (zi v0), some (zl v1), none, some (zl v3), none], [], M)) (if_pos c17) ?_
                    refine zG_run hm 1 (cf' := (166, [some (zi v0), some (zl v1), none, some (zl v3), none], [zl 0], M)) rfl ?_
                    cases h
                    exact zG_rl hm rfl rfl
                  · rw [if_neg c17] at h
                    refine zG_br hm rfl (cf' := (161, [some (zi v0), some (zl v1), none, some (zl v3), none], [], M)) (if_neg c17) ?_
                    refine zG_run hm 2 (cf' := (166, [some (zi v0), some (zl v1), none, some (zl v3), none], [zl 1], M)) rfl ?_
                    cases h
                    exact zG_rl hm rfl rfl
                · rw [if_neg c16] at h
                  by_cases c18 : zw v0 = 300
                  · rw [if_pos c18] at h
                    refine zG_lk hm rfl (tgt := 191) (off := 190) (by decide) (by rw [c18]; decide) (by decide) ?_
                    refine zG_run hm 3 (cf' := (194, [some (zi v0), some (zl v1), none, some (zl v3), none], [zi (zlcmp (zwl v1) (zwl v3))], M)) rfl ?_
                    by_cases c19 : 0 < zw (zlcmp (zwl v1) (zwl v3))
                    · rw [if_pos c19] at h
                      refine zG_br hm rfl (cf' := (201, [some (zi v0), some (zl v1), none, some (zl v3), none], [], M)) (if_pos c19) ?_
                      refine zG_run hm 1 (cf' := (202, [some (zi v0), some (zl v1), none, some (zl v3), none], [zl 0], M)) rfl ?_
                      cases h
                      exact zG_rl hm rfl rfl
                    · rw [if_neg c19] at h
                      refine zG_br hm rfl (cf' := (197, [some (zi v0), some (zl v1), none, some (zl v3), none], [], M)) (if_neg c19) ?_
                      refine zG_run hm 2 (cf' := (202, [some (zi v0), some (zl v1), none, some (zl v3), none], [zl 1], M)) rfl ?_
                      cases h
                      exact zG_rl hm rfl rfl
                  · rw [if_neg c18] at h
                    by_cases c20 : zw v0 = 301
                    · rw [if_pos c20] at h
                      refine zG_lk hm rfl (tgt := 203) (off := 202) (by decide) (by rw [c20]; decide) (by decide) ?_
                      refine zG_run hm 3 (cf' := (206, [some (zi v0), some (zl v1), none, some (zl v3), none], [zi (zlcmp (zwl v1) (zwl v3))], M)) rfl ?_
                      by_cases c21 : zw (zlcmp (zwl v1) (zwl v3)) < 0
                      · rw [if_pos c21] at h
                        refine zG_br hm rfl (cf' := (213, [some (zi v0), some (zl v1), none, some (zl v3), none], [], M)) (if_pos c21) ?_
                        refine zG_run hm 1 (cf' := (214, [some (zi v0), some (zl v1), none, some (zl v3), none], [zl 0], M)) rfl ?_
                        cases h
                        exact zG_rl hm rfl rfl
                      · rw [if_neg c21] at h
                        refine zG_br hm rfl (cf' := (209, [some (zi v0), some (zl v1), none, some (zl v3), none], [], M)) (if_neg c21) ?_
                        refine zG_run hm 2 (cf' := (214, [some (zi v0), some (zl v1), none, some (zl v3), none], [zl 1], M)) rfl ?_
                        cases h
                        exact zG_rl hm rfl rfl
                    · rw [if_neg c20] at h
                      by_cases c22 : zw v0 = 403
                      · rw [if_pos c22] at h
                        refine zG_lk hm rfl (tgt := 215) (off := 214) (by decide) (by rw [c22]; decide) (by decide) ?_
                        refine zG_run hm 2 (cf' := (217, [some (zi v0), some (zl v1), none, some (zl v3), none], [zl v3, zl v1], M)) rfl ?_
                        obtain ⟨p23, hp23, h⟩ := Option.bind_eq_some_iff.mp h
                        refine zG_S hm zmok_166 rfl (as := [zl v1, zl v3]) (rest := []) (st2 := [zl p23.1]) (pc2 := 220) rfl rfl (by omega) (met_X11_leftOf (d := 0) (Nat.le_refl _) hp23) rfl ?_
                        cases h
                        exact zG_rl hm rfl rfl
                      · rw [if_neg c22] at h
                        by_cases c24 : zw v0 = 406
                        · rw [if_pos c24] at h
                          refine zG_lk hm rfl (tgt := 221) (off := 220) (by decide) (by rw [c24]; decide) (by decide) ?_
                          refine zG_run hm 3 (cf' := (224, [some (zi v0), some (zl v1), none, some (zl v3), none], [zl (v1 * v3)], M)) rfl ?_
                          cases h
                          exact zG_rl hm rfl rfl
                        · rw [if_neg c24] at h
                          refine zG_lk hm rfl (tgt := 225) (off := 224) (by decide) (by simp [Op.lookupswitch.offset, Ne.symm c1, Ne.symm c3, Ne.symm c5, Ne.symm c7, Ne.symm c9, Ne.symm c12, Ne.symm c14, Ne.symm c16, Ne.symm c18, Ne.symm c20, Ne.symm c22, Ne.symm c24]) (by decide) ?_
                          refine zG_run hm 5 (cf' := (230, [some (zi v0), some (zl v1), none, some (zl v3), none], [zi (zlcmp (zwl (v1 + v3)) (0))], M)) rfl ?_
                          by_cases c25 : zw (zlcmp (zwl (v1 + v3)) (0)) ≤ 0
                          · rw [if_pos c25] at h
                            refine zG_br hm rfl (cf' := (237, [some (zi v0), some (zl v1), none, some (zl v3), none], [], M)) (if_pos c25) ?_
                            refine zG_run hm 1 (cf' := (238, [some (zi v0), some (zl v1), none, some (zl v3), none], [zl 0], M)) rfl ?_
                            cases h
                            exact zG_rl hm rfl rfl
                          · rw [if_neg c25] at h
                            refine zG_br hm rfl (cf' := (233, [some (zi v0), some (zl v1), none, some (zl v3), none], [], M)) (if_neg c25) ?_
                            refine zG_run hm 2 (cf' := (238, [some (zi v0), some (zl v1), none, some (zl v3), none], [zl 1], M)) rfl ?_
                            cases h
                            exact zG_rl hm rfl rfl
theorem met_X11_worked {v0 : Int} {v1 : Int} {v3 : Int} {M : zM} {q : Int × zM} {d : Nat} (hd : 1 ≤ d) (h : f_X11_worked v0 v1 v3 M = some q) : zMet 167 d [zi v0, zl v1, zl v3] M (some (zl q.1)) q.2 :=
  zMet_of (lv0 := [some (zi v0), some (zl v1), none, some (zl v3), none]) zmok_167 rfl rfl (fun v hv => by cases hv; trivial) (g_X11_worked hd h)
def f_X11_saysOf_j227 (v2 : Int) (v3 : Int) (M : zM) : Option ((Int × Int × zM) ⊕ (zM)) :=
  some (.inl (v2, (v3 + 1), M))
theorem g_X11_saysOf_j227 {v2 : Int} {v3 : Int} {M : zM} {x : (Int × Int × zM) ⊕ (zM)} {r : Option zV} {Mf : zM} {d : Nat} (hd : 2 ≤ d) (h : f_X11_saysOf_j227 v2 v3 M = some x)
    (kc : ∀ s, x = .inl s → zG 168 d (4, [some (zr 42 0), none, some (zi s.1), some (zi s.2.1), none], [], s.2.2) r Mf)
    (kb : ∀ t, x = .inr t → zG 168 d (233, [some (zr 42 0), none, none, none, none], [], t) r Mf) (kr : True) : zG 168 d (227, [some (zr 42 0), none, some (zi v2), some (zi v3), none], [], M) r Mf := by
  have hm := zmok_168
  unfold f_X11_saysOf_j227 at h
  refine zG_run hm 2 (cf' := (4, [some (zr 42 0), none, some (zi v2), some (zi (v3 + 1)), none], [], M)) rfl ?_
  refine zG_sub (lv' := [some (zr 42 0), none, some (zi v2), some (zi (v3 + 1)), none]) (zsb_s rfl (zsb_n (zsb_s rfl (zsb_s rfl (zsb_n zsb_0))))) ?_
  exact kc (v2, (v3 + 1), M) (Option.some.inj h).symm
def f_X11_saysOf_j75 (v2 : Int) (v3 : Int) (vs0 : Int) (vs1 : Int) (M : zM) : Option ((Int × Int × zM) ⊕ (zM)) :=
  if 0 ≤ zw vs1 ∧ zw vs1 < 200 then
    zlet (zput M 67 0 (zix vs1) vs0) fun M1 =>
    f_X11_saysOf_j227 (v2 + 1) v3 M1
  else
    none
theorem g_X11_saysOf_j75 {v2 : Int} {v3 : Int} {vs0 : Int} {vs1 : Int} {M : zM} {x : (Int × Int × zM) ⊕ (zM)} {r : Option zV} {Mf : zM} {d : Nat} (hd : 2 ≤ d) (h : f_X11_saysOf_j75 v2 v3 vs0 vs1 M = some x)
    (kc : ∀ s, x = .inl s → zG 168 d (4, [some (zr 42 0), none, some (zi s.1), some (zi s.2.1), none], [], s.2.2) r Mf)
    (kb : ∀ t, x = .inr t → zG 168 d (233, [some (zr 42 0), none, none, none, none], [], t) r Mf) (kr : True) : zG 168 d (75, [some (zr 42 0), none, some (zi v2), some (zi v3), none], [zl vs0, zi vs1, zr 67 0], M) r Mf := by
  have hm := zmok_168
  unfold f_X11_saysOf_j75 at h
  by_cases c2 : 0 ≤ zw vs1 ∧ zw vs1 < 200
  · rw [if_pos c2] at h
    refine zG_br hm rfl (cf' := (76, [some (zr 42 0), none, some (zi v2), some (zi v3), none], [], (zput M 67 0 (zix vs1) vs0))) (if_pos c2) ?_
    obtain ⟨M1, eM1, h⟩ := zlet_of h
    rw [eM1]
    refine zG_run hm 2 (cf' := (227, [some (zr 42 0), none, some (zi (v2 + 1)), some (zi v3), none], [], M1)) rfl ?_
    refine zG_sub (lv' := [some (zr 42 0), none, some (zi (v2 + 1)), some (zi v3), none]) (zsb_s rfl (zsb_n (zsb_s rfl (zsb_s rfl (zsb_n zsb_0))))) ?_
    exact g_X11_saysOf_j227 hd h kc kb kr
  · rw [if_neg c2] at h
    cases h
def f_X11_saysOf_j40 (v2 : Int) (v3 : Int) (v4 : Int) (M : zM) : Option ((Int × Int × zM) ⊕ (zM)) :=
  if ¬ zw v4 = 400 then
    if 0 ≤ zw v3 ∧ zw v3 < 1600 then
      if 0 ≤ zw (M 53 0 (zix v3)) ∧ zw (M 53 0 (zix v3)) < 8 then
        f_X11_saysOf_j75 v2 v3 (zw (M 66 0 (zix (M 53 0 (zix v3))))) v2 M
      else
        none
    else
      none
  else
    if 0 ≤ zw v3 ∧ zw v3 < 1600 then
      f_X11_saysOf_j75 v2 v3 (zw (M 53 0 (zix v3))) v2 M
    else
      none
theorem g_X11_saysOf_j40 {v2 : Int} {v3 : Int} {v4 : Int} {M : zM} {x : (Int × Int × zM) ⊕ (zM)} {r : Option zV} {Mf : zM} {d : Nat} (hd : 2 ≤ d) (h : f_X11_saysOf_j40 v2 v3 v4 M = some x)
    (kc : ∀ s, x = .inl s → zG 168 d (4, [some (zr 42 0), none, some (zi s.1), some (zi s.2.1), none], [], s.2.2) r Mf)
    (kb : ∀ t, x = .inr t → zG 168 d (233, [some (zr 42 0), none, none, none, none], [], t) r Mf) (kr : True) : zG 168 d (40, [some (zr 42 0), none, some (zi v2), some (zi v3), some (zi v4)], [], M) r Mf := by
  have hm := zmok_168
  unfold f_X11_saysOf_j40 at h
  refine zG_run hm 5 (cf' := (50, [some (zr 42 0), none, some (zi v2), some (zi v3), some (zi v4)], [zi 400, zi v4, zi v2, zr 67 0], M)) rfl ?_
  by_cases c6 : ¬ zw v4 = 400
  · rw [if_pos c6] at h
    refine zG_br hm rfl (cf' := (63, [some (zr 42 0), none, some (zi v2), some (zi v3), some (zi v4)], [zi v2, zr 67 0], M)) (if_pos c6) ?_
    refine zG_run hm 5 (cf' := (72, [some (zr 42 0), none, some (zi v2), some (zi v3), some (zi v4)], [zi v3, zr 53 0, zr 66 0, zi v2, zr 67 0], M)) rfl ?_
    by_cases c4 : 0 ≤ zw v3 ∧ zw v3 < 1600
    · rw [if_pos c4] at h
      refine zG_br hm rfl (cf' := (73, [some (zr 42 0), none, some (zi v2), some (zi v3), some (zi v4)], [zi (M 53 0 (zix v3)), zr 66 0, zi v2, zr 67 0], M)) (if_pos c4) ?_
      by_cases c3 : 0 ≤ zw (M 53 0 (zix v3)) ∧ zw (M 53 0 (zix v3)) < 8
      · rw [if_pos c3] at h
        refine zG_br hm rfl (cf' := (74, [some (zr 42 0), none, some (zi v2), some (zi v3), some (zi v4)], [zi (M 66 0 (zix (M 53 0 (zix v3)))), zi v2, zr 67 0], M)) (if_pos c3) ?_
        refine zG_run hm 1 (cf' := (75, [some (zr 42 0), none, some (zi v2), some (zi v3), some (zi v4)], [zl (zw (M 66 0 (zix (M 53 0 (zix v3))))), zi v2, zr 67 0], M)) rfl ?_
        refine zG_sub (lv' := [some (zr 42 0), none, some (zi v2), some (zi v3), none]) (zsb_s rfl (zsb_n (zsb_s rfl (zsb_s rfl (zsb_n zsb_0))))) ?_
        exact g_X11_saysOf_j75 hd h kc kb kr
      · rw [if_neg c3] at h
        cases h
    · rw [if_neg c4] at h
      cases h
  · rw [if_neg c6] at h
    refine zG_br hm rfl (cf' := (53, [some (zr 42 0), none, some (zi v2), some (zi v3), some (zi v4)], [zi v2, zr 67 0], M)) (if_neg c6) ?_
    refine zG_run hm 3 (cf' := (58, [some (zr 42 0), none, some (zi v2), some (zi v3), some (zi v4)], [zi v3, zr 53 0, zi v2, zr 67 0], M)) rfl ?_
    by_cases c5 : 0 ≤ zw v3 ∧ zw v3 < 1600
    · rw [if_pos c5] at h
      refine zG_br hm rfl (cf' := (59, [some (zr 42 0), none, some (zi v2), some (zi v3), some (zi v4)], [zi (M 53 0 (zix v3)), zi v2, zr 67 0], M)) (if_pos c5) ?_
      refine zG_run hm 2 (cf' := (75, [some (zr 42 0), none, some (zi v2), some (zi v3), some (zi v4)], [zl (zw (M 53 0 (zix v3))), zi v2, zr 67 0], M)) rfl ?_
      refine zG_sub (lv' := [some (zr 42 0), none, some (zi v2), some (zi v3), none]) (zsb_s rfl (zsb_n (zsb_s rfl (zsb_s rfl (zsb_n zsb_0))))) ?_
      exact g_X11_saysOf_j75 hd h kc kb kr
    · rw [if_neg c5] at h
      cases h
def f_X11_saysOf_j116 (v2 : Int) (vs0 : Int) (M : zM) : Option ((Int × Int × zM) ⊕ (zM)) :=
  f_X11_saysOf_j227 v2 vs0 M
theorem g_X11_saysOf_j116 {v2 : Int} {vs0 : Int} {M : zM} {x : (Int × Int × zM) ⊕ (zM)} {r : Option zV} {Mf : zM} {d : Nat} (hd : 2 ≤ d) (h : f_X11_saysOf_j116 v2 vs0 M = some x)
    (kc : ∀ s, x = .inl s → zG 168 d (4, [some (zr 42 0), none, some (zi s.1), some (zi s.2.1), none], [], s.2.2) r Mf)
    (kb : ∀ t, x = .inr t → zG 168 d (233, [some (zr 42 0), none, none, none, none], [], t) r Mf) (kr : True) : zG 168 d (116, [some (zr 42 0), none, some (zi v2), none, none], [zi vs0], M) r Mf := by
  have hm := zmok_168
  unfold f_X11_saysOf_j116 at h
  refine zG_run hm 2 (cf' := (227, [some (zr 42 0), none, some (zi v2), some (zi vs0), none], [], M)) rfl ?_
  refine zG_sub (lv' := [some (zr 42 0), none, some (zi v2), some (zi vs0), none]) (zsb_s rfl (zsb_n (zsb_s rfl (zsb_s rfl (zsb_n zsb_0))))) ?_
  exact g_X11_saysOf_j227 hd h kc kb kr
def f_X11_saysOf_L4 (v2 : Int) (v3 : Int) (M : zM) : Option ((Int × Int × zM) ⊕ (zM)) :=
  if 0 ≤ zw v3 ∧ zw v3 < 1600 then
    if zw (M 52 0 (zix v3)) = 408 then
      some (.inr M)
    else
      if 0 ≤ zw v3 ∧ zw v3 < 1600 then
        if zw (M 52 0 (zix v3)) = 400 then
          f_X11_saysOf_j40 v2 v3 (M 52 0 (zix v3)) M
        else
          if ¬ zw (M 52 0 (zix v3)) = 401 then
            if ¬ zw (M 52 0 (zix v3)) = 404 then
              if ¬ zw (M 52 0 (zix v3)) = 409 then
                if ¬ zw (M 52 0 (zix v3)) = 402 then
                  if ¬ zw (M 52 0 (zix v3)) = 405 then
                    if 0 ≤ zw ((v2 + (-1)) - 1) ∧ zw ((v2 + (-1)) - 1) < 200 then
                      if 0 ≤ zw (v2 + (-1)) ∧ zw (v2 + (-1)) < 200 then
                        (f_X11_worked (M 52 0 (zix v3)) (M 67 0 (zix ((v2 + (-1)) - 1))) (M 67 0 (zix (v2 + (-1)))) M).bind fun p7 =>
                          if 0 ≤ zw ((v2 + (-1)) - 1) ∧ zw ((v2 + (-1)) - 1) < 200 then
                            zlet (zput p7.2 67 0 (zix ((v2 + (-1)) - 1)) p7.1) fun M8 =>
                            f_X11_saysOf_j227 (v2 + (-1)) v3 M8
                          else
                            none
                      else
                        none
                    else
                      none
                  else
                    if 0 ≤ zw (v2 - 1) ∧ zw (v2 - 1) < 200 then
                      if 0 ≤ zw (v2 - 1) ∧ zw (v2 - 1) < 200 then
                        zlet (zput M 67 0 (zix (v2 - 1)) (1 - (M 67 0 (zix (v2 - 1))))) fun M12 =>
                        f_X11_saysOf_j227 v2 v3 M12
                      else
                        none
                    else
                      none
                else
                  if 0 ≤ zw (v2 - 1) ∧ zw (v2 - 1) < 200 then
                    if 0 ≤ zw (v2 - 1) ∧ zw (v2 - 1) < 200 then
                      zlet (zput M 67 0 (zix (v2 - 1)) (-(M 67 0 (zix (v2 - 1))))) fun M16 =>
                      f_X11_saysOf_j227 v2 v3 M16
                    else
                      none
                  else
                    none
              else
                if 0 ≤ zw v3 ∧ zw v3 < 1600 then
                  f_X11_saysOf_j227 v2 ((M 53 0 (zix v3)) - 1) M
                else
                  none
            else
              if 0 ≤ zw (v2 + (-1)) ∧ zw (v2 + (-1)) < 200 then
                if ¬ zw (zlcmp (zwl (M 67 0 (zix (v2 + (-1))))) (0)) = 0 then
                  f_X11_saysOf_j116 (v2 + (-1)) v3 M
                else
                  if 0 ≤ zw v3 ∧ zw v3 < 1600 then
                    f_X11_saysOf_j116 (v2 + (-1)) ((M 53 0 (zix v3)) - 1) M
                  else
                    none
              else
                none
          else
            f_X11_saysOf_j40 v2 v3 (M 52 0 (zix v3)) M
      else
        none
  else
    none
theorem g_X11_saysOf_L4 {v2 : Int} {v3 : Int} {M : zM} {x : (Int × Int × zM) ⊕ (zM)} {r : Option zV} {Mf : zM} {d : Nat} (hd : 2 ≤ d) (h : f_X11_saysOf_L4 v2 v3 M = some x)
    (kc : ∀ s, x = .inl s → zG 168 d (4, [some (zr 42 0), none, some (zi s.1), some (zi s.2.1), none], [], s.2.2) r Mf)
    (kb : ∀ t, x = .inr t → zG 168 d (233, [some (zr 42 0), none, none, none, none], [], t) r Mf) (kr : True) : zG 168 d (4, [some (zr 42 0), none, some (zi v2), some (zi v3), none], [], M) r Mf := by
  have hm := zmok_168
  unfold f_X11_saysOf_L4 at h
  refine zG_run hm 3 (cf' := (9, [some (zr 42 0), none, some (zi v2), some (zi v3), none], [zi v3, zr 52 0], M)) rfl ?_
  by_cases c30 : 0 ≤ zw v3 ∧ zw v3 < 1600
  · rw [if_pos c30] at h
    refine zG_br hm rfl (cf' := (10, [some (zr 42 0), none, some (zi v2), some (zi v3), none], [zi (M 52 0 (zix v3))], M)) (if_pos c30) ?_
    refine zG_run hm 1 (cf' := (13, [some (zr 42 0), none, some (zi v2), some (zi v3), none], [zi 408, zi (M 52 0 (zix v3))], M)) rfl ?_
    by_cases c29 : zw (M 52 0 (zix v3)) = 408
    · rw [if_pos c29] at h
      refine zG_br hm rfl (cf' := (233, [some (zr 42 0), none, some (zi v2), some (zi v3), none], [], M)) (if_pos c29) ?_
      refine zG_sub (lv' := [some (zr 42 0), none, none, none, none]) (zsb_s rfl (zsb_n (zsb_n (zsb_n (zsb_n zsb_0))))) ?_
      exact kb M (Option.some.inj h).symm
    · rw [if_neg c29] at h
      refine zG_br hm rfl (cf' := (16, [some (zr 42 0), none, some (zi v2), some (zi v3), none], [], M)) (if_neg c29) ?_
      refine zG_run hm 3 (cf' := (21, [some (zr 42 0), none, some (zi v2), some (zi v3), none], [zi v3, zr 52 0], M)) rfl ?_
      by_cases c28 : 0 ≤ zw v3 ∧ zw v3 < 1600
      · rw [if_pos c28] at h
        refine zG_br hm rfl (cf' := (22, [some (zr 42 0), none, some (zi v2), some (zi v3), none], [zi (M 52 0 (zix v3))], M)) (if_pos c28) ?_
        refine zG_run hm 3 (cf' := (29, [some (zr 42 0), none, some (zi v2), some (zi v3), some (zi (M 52 0 (zix v3)))], [zi 400, zi (M 52 0 (zix v3))], M)) rfl ?_
        by_cases c27 : zw (M 52 0 (zix v3)) = 400
        · rw [if_pos c27] at h
          refine zG_br hm rfl (cf' := (40, [some (zr 42 0), none, some (zi v2), some (zi v3), some (zi (M 52 0 (zix v3)))], [], M)) (if_pos c27) ?_
          refine zG_sub (lv' := [some (zr 42 0), none, some (zi v2), some (zi v3), some (zi (M 52 0 (zix v3)))]) (zsb_s rfl (zsb_n (zsb_s rfl (zsb_s rfl (zsb_s rfl zsb_0))))) ?_
          exact g_X11_saysOf_j40 hd h kc kb kr
        · rw [if_neg c27] at h
          refine zG_br hm rfl (cf' := (32, [some (zr 42 0), none, some (zi v2), some (zi v3), some (zi (M 52 0 (zix v3)))], [], M)) (if_neg c27) ?_
          refine zG_run hm 2 (cf' := (37, [some (zr 42 0), none, some (zi v2), some (zi v3), some (zi (M 52 0 (zix v3)))], [zi 401, zi (M 52 0 (zix v3))], M)) rfl ?_
          by_cases c26 : ¬ zw (M 52 0 (zix v3)) = 401
          · rw [if_pos c26] at h
            refine zG_br hm rfl (cf' := (82, [some (zr 42 0), none, some (zi v2), some (zi v3), some (zi (M 52 0 (zix v3)))], [], M)) (if_pos c26) ?_
            refine zG_run hm 2 (cf' := (87, [some (zr 42 0), none, some (zi v2), some (zi v3), some (zi (M 52 0 (zix v3)))], [zi 404, zi (M 52 0 (zix v3))], M)) rfl ?_
            by_cases c25 : ¬ zw (M 52 0 (zix v3)) = 404
            · rw [if_pos c25] at h
              refine zG_br hm rfl (cf' := (120, [some (zr 42 0), none, some (zi v2), some (zi v3), some (zi (M 52 0 (zix v3)))], [], M)) (if_pos c25) ?_
              refine zG_run hm 2 (cf' := (125, [some (zr 42 0), none, some (zi v2), some (zi v3), some (zi (M 52 0 (zix v3)))], [zi 409, zi (M 52 0 (zix v3))], M)) rfl ?_
              by_cases c21 : ¬ zw (M 52 0 (zix v3)) = 409
              · rw [if_pos c21] at h
                refine zG_br hm rfl (cf' := (140, [some (zr 42 0), none, some (zi v2), some (zi v3), some (zi (M 52 0 (zix v3)))], [], M)) (if_pos c21) ?_
                refine zG_run hm 2 (cf' := (145, [some (zr 42 0), none, some (zi v2), some (zi v3), some (zi (M 52 0 (zix v3)))], [zi 402, zi (M 52 0 (zix v3))], M)) rfl ?_
                by_cases c19 : ¬ zw (M 52 0 (zix v3)) = 402
                · rw [if_pos c19] at h
                  refine zG_br hm rfl (cf' := (168, [some (zr 42 0), none, some (zi v2), some (zi v3), some (zi (M 52 0 (zix v3)))], [], M)) (if_pos c19) ?_
                  refine zG_run hm 2 (cf' := (173, [some (zr 42 0), none, some (zi v2), some (zi v3), some (zi (M 52 0 (zix v3)))], [zi 405, zi (M 52 0 (zix v3))], M)) rfl ?_
                  by_cases c15 : ¬ zw (M 52 0 (zix v3)) = 405
                  · rw [if_pos c15] at h
                    refine zG_br hm rfl (cf' := (197, [some (zr 42 0), none, some (zi v2), some (zi v3), some (zi (M 52 0 (zix v3)))], [], M)) (if_pos c15) ?_
                    refine zG_run hm 12 (cf' := (216, [some (zr 42 0), none, some (zi (v2 + (-1))), some (zi v3), some (zi (M 52 0 (zix v3)))], [zi ((v2 + (-1)) - 1), zr 67 0, zi (M 52 0 (zix v3)), zi ((v2 + (-1)) - 1), zr 67 0], M)) rfl ?_
                    by_cases c11 : 0 ≤ zw ((v2 + (-1)) - 1) ∧ zw ((v2 + (-1)) - 1) < 200
                    · rw [if_pos c11] at h
                      refine zG_br hm rfl (cf' := (217, [some (zr 42 0), none, some (zi (v2 + (-1))), some (zi v3), some (zi (M 52 0 (zix v3)))], [zl (M 67 0 (zix ((v2 + (-1)) - 1))), zi (M 52 0 (zix v3)), zi ((v2 + (-1)) - 1), zr 67 0], M)) (if_pos c11) ?_
                      refine zG_run hm 3 (cf' := (222, [some (zr 42 0), none, some (zi (v2 + (-1))), some (zi v3), some (zi (M 52 0 (zix v3)))], [zi (v2 + (-1)), zr 67 0, zl (M 67 0 (zix ((v2 + (-1)) - 1))), zi (M 52 0 (zix v3)), zi ((v2 + (-1)) - 1), zr 67 0], M)) rfl ?_
                      by_cases c10 : 0 ≤ zw (v2 + (-1)) ∧ zw (v2 + (-1)) < 200
                      · rw [if_pos c10] at h
                        refine zG_br hm rfl (cf' := (223, [some (zr 42 0), none, some (zi (v2 + (-1))), some (zi v3), some (zi (M 52 0 (zix v3)))], [zl (M 67 0 (zix (v2 + (-1)))), zl (M 67 0 (zix ((v2 + (-1)) - 1))), zi (M 52 0 (zix v3)), zi ((v2 + (-1)) - 1), zr 67 0], M)) (if_pos c10) ?_
                        obtain ⟨p7, hp7, h⟩ := Option.bind_eq_some_iff.mp h
                        refine zG_S hm zmok_167 rfl (as := [zi (M 52 0 (zix v3)), zl (M 67 0 (zix ((v2 + (-1)) - 1))), zl (M 67 0 (zix (v2 + (-1))))]) (rest := [zi ((v2 + (-1)) - 1), zr 67 0]) (st2 := [zl p7.1, zi ((v2 + (-1)) - 1), zr 67 0]) (pc2 := 226) rfl rfl (by omega) (met_X11_worked (d := 1) (Nat.le_refl _) hp7) rfl ?_
                        by_cases c9 : 0 ≤ zw ((v2 + (-1)) - 1) ∧ zw ((v2 + (-1)) - 1) < 200
                        · rw [if_pos c9] at h
                          refine zG_br hm rfl (cf' := (227, [some (zr 42 0), none, some (zi (v2 + (-1))), some (zi v3), some (zi (M 52 0 (zix v3)))], [], (zput p7.2 67 0 (zix ((v2 + (-1)) - 1)) p7.1))) (if_pos c9) ?_
                          obtain ⟨M8, eM8, h⟩ := zlet_of h
                          rw [eM8]
                          refine zG_sub (lv' := [some (zr 42 0), none, some (zi (v2 + (-1))), some (zi v3), none]) (zsb_s rfl (zsb_n (zsb_s rfl (zsb_s rfl (zsb_n zsb_0))))) ?_
                          exact g_X11_saysOf_j227 hd h kc kb kr
                        · rw [if_neg c9] at h
                          cases h
                      · rw [if_neg c10] at h
                        cases h
                    · rw [if_neg c11] at h
                      cases h
                  · rw [if_neg c15] at h
                    refine zG_br hm rfl (cf' := (176, [some (zr 42 0), none, some (zi v2), some (zi v3), some (zi (M 52 0 (zix v3)))], [], M)) (if_neg c15) ?_
                    refine zG_run hm 11 (cf' := (191, [some (zr 42 0), none, some (zi v2), some (zi v3), some (zi (M 52 0 (zix v3)))], [zi (v2 - 1), zr 67 0, zl 1, zi (v2 - 1), zr 67 0], M)) rfl ?_
                    by_cases c14 : 0 ≤ zw (v2 - 1) ∧ zw (v2 - 1) < 200
                    · rw [if_pos c14] at h
                      refine zG_br hm rfl (cf' := (192, [some (zr 42 0), none, some (zi v2), some (zi v3), some (zi (M 52 0 (zix v3)))], [zl (M 67 0 (zix (v2 - 1))), zl 1, zi (v2 - 1), zr 67 0], M)) (if_pos c14) ?_
                      refine zG_run hm 1 (cf' := (193, [some (zr 42 0), none, some (zi v2), some (zi v3), some (zi (M 52 0 (zix v3)))], [zl (1 - (M 67 0 (zix (v2 - 1)))), zi (v2 - 1), zr 67 0], M)) rfl ?_
                      by_cases c13 : 0 ≤ zw (v2 - 1) ∧ zw (v2 - 1) < 200
                      · rw [if_pos c13] at h
                        refine zG_br hm rfl (cf' := (194, [some (zr 42 0), none, some (zi v2), some (zi v3), some (zi (M 52 0 (zix v3)))], [], (zput M 67 0 (zix (v2 - 1)) (1 - (M 67 0 (zix (v2 - 1))))))) (if_pos c13) ?_
                        obtain ⟨M12, eM12, h⟩ := zlet_of h
                        rw [eM12]
                        refine zG_run hm 1 (cf' := (227, [some (zr 42 0), none, some (zi v2), some (zi v3), some (zi (M 52 0 (zix v3)))], [], M12)) rfl ?_
                        refine zG_sub (lv' := [some (zr 42 0), none, some (zi v2), some (zi v3), none]) (zsb_s rfl (zsb_n (zsb_s rfl (zsb_s rfl (zsb_n zsb_0))))) ?_
                        exact g_X11_saysOf_j227 hd h kc kb kr
                      · rw [if_neg c13] at h
                        cases h
                    · rw [if_neg c14] at h
                      cases h
                · rw [if_neg c19] at h
                  refine zG_br hm rfl (cf' := (148, [some (zr 42 0), none, some (zi v2), some (zi v3), some (zi (M 52 0 (zix v3)))], [], M)) (if_neg c19) ?_
                  refine zG_run hm 10 (cf' := (162, [some (zr 42 0), none, some (zi v2), some (zi v3), some (zi (M 52 0 (zix v3)))], [zi (v2 - 1), zr 67 0, zi (v2 - 1), zr 67 0], M)) rfl ?_
                  by_cases c18 : 0 ≤ zw (v2 - 1) ∧ zw (v2 - 1) < 200
                  · rw [if_pos c18] at h
                    refine zG_br hm rfl (cf' := (163, [some (zr 42 0), none, some (zi v2), some (zi v3), some (zi (M 52 0 (zix v3)))], [zl (M 67 0 (zix (v2 - 1))), zi (v2 - 1), zr 67 0], M)) (if_pos c18) ?_
                    refine zG_run hm 1 (cf' := (164, [some (zr 42 0), none, some (zi v2), some (zi v3), some (zi (M 52 0 (zix v3)))], [zl (-(M 67 0 (zix (v2 - 1)))), zi (v2 - 1), zr 67 0], M)) rfl ?_
                    by_cases c17 : 0 ≤ zw (v2 - 1) ∧ zw (v2 - 1) < 200
                    · rw [if_pos c17] at h
                      refine zG_br hm rfl (cf' := (165, [some (zr 42 0), none, some (zi v2), some (zi v3), some (zi (M 52 0 (zix v3)))], [], (zput M 67 0 (zix (v2 - 1)) (-(M 67 0 (zix (v2 - 1))))))) (if_pos c17) ?_
                      obtain ⟨M16, eM16, h⟩ := zlet_of h
                      rw [eM16]
                      refine zG_run hm 1 (cf' := (227, [some (zr 42 0), none, some (zi v2), some (zi v3), some (zi (M 52 0 (zix v3)))], [], M16)) rfl ?_
                      refine zG_sub (lv' := [some (zr 42 0), none, some (zi v2), some (zi v3), none]) (zsb_s rfl (zsb_n (zsb_s rfl (zsb_s rfl (zsb_n zsb_0))))) ?_
                      exact g_X11_saysOf_j227 hd h kc kb kr
                    · rw [if_neg c17] at h
                      cases h
                  · rw [if_neg c18] at h
                    cases h
              · rw [if_neg c21] at h
                refine zG_br hm rfl (cf' := (128, [some (zr 42 0), none, some (zi v2), some (zi v3), some (zi (M 52 0 (zix v3)))], [], M)) (if_neg c21) ?_
                refine zG_run hm 3 (cf' := (133, [some (zr 42 0), none, some (zi v2), some (zi v3), some (zi (M 52 0 (zix v3)))], [zi v3, zr 53 0], M)) rfl ?_
                by_cases c20 : 0 ≤ zw v3 ∧ zw v3 < 1600
                · rw [if_pos c20] at h
                  refine zG_br hm rfl (cf' := (134, [some (zr 42 0), none, some (zi v2), some (zi v3), some (zi (M 52 0 (zix v3)))], [zi (M 53 0 (zix v3))], M)) (if_pos c20) ?_
                  refine zG_run hm 4 (cf' := (227, [some (zr 42 0), none, some (zi v2), some (zi ((M 53 0 (zix v3)) - 1)), some (zi (M 52 0 (zix v3)))], [], M)) rfl ?_
                  refine zG_sub (lv' := [some (zr 42 0), none, some (zi v2), some (zi ((M 53 0 (zix v3)) - 1)), none]) (zsb_s rfl (zsb_n (zsb_s rfl (zsb_s rfl (zsb_n zsb_0))))) ?_
                  exact g_X11_saysOf_j227 hd h kc kb kr
                · rw [if_neg c20] at h
                  cases h
            · rw [if_neg c25] at h
              refine zG_br hm rfl (cf' := (90, [some (zr 42 0), none, some (zi v2), some (zi v3), some (zi (M 52 0 (zix v3)))], [], M)) (if_neg c25) ?_
              refine zG_run hm 4 (cf' := (98, [some (zr 42 0), none, some (zi (v2 + (-1))), some (zi v3), some (zi (M 52 0 (zix v3)))], [zi (v2 + (-1)), zr 67 0], M)) rfl ?_
              by_cases c24 : 0 ≤ zw (v2 + (-1)) ∧ zw (v2 + (-1)) < 200
              · rw [if_pos c24] at h
                refine zG_br hm rfl (cf' := (99, [some (zr 42 0), none, some (zi (v2 + (-1))), some (zi v3), some (zi (M 52 0 (zix v3)))], [zl (M 67 0 (zix (v2 + (-1))))], M)) (if_pos c24) ?_
                refine zG_run hm 2 (cf' := (101, [some (zr 42 0), none, some (zi (v2 + (-1))), some (zi v3), some (zi (M 52 0 (zix v3)))], [zi (zlcmp (zwl (M 67 0 (zix (v2 + (-1))))) (0))], M)) rfl ?_
                by_cases c23 : ¬ zw (zlcmp (zwl (M 67 0 (zix (v2 + (-1))))) (0)) = 0
                · rw [if_pos c23] at h
                  refine zG_br hm rfl (cf' := (115, [some (zr 42 0), none, some (zi (v2 + (-1))), some (zi v3), some (zi (M 52 0 (zix v3)))], [], M)) (if_pos c23) ?_
                  refine zG_run hm 1 (cf' := (116, [some (zr 42 0), none, some (zi (v2 + (-1))), some (zi v3), some (zi (M 52 0 (zix v3)))], [zi v3], M)) rfl ?_
                  refine zG_sub (lv' := [some (zr 42 0), none, some (zi (v2 + (-1))), none, none]) (zsb_s rfl (zsb_n (zsb_s rfl (zsb_n (zsb_n zsb_0))))) ?_
                  exact g_X11_saysOf_j116 hd h kc kb kr
                · rw [if_neg c23] at h
                  refine zG_br hm rfl (cf' := (104, [some (zr 42 0), none, some (zi (v2 + (-1))), some (zi v3), some (zi (M 52 0 (zix v3)))], [], M)) (if_neg c23) ?_
                  refine zG_run hm 3 (cf' := (109, [some (zr 42 0), none, some (zi (v2 + (-1))), some (zi v3), some (zi (M 52 0 (zix v3)))], [zi v3, zr 53 0], M)) rfl ?_
                  by_cases c22 : 0 ≤ zw v3 ∧ zw v3 < 1600
                  · rw [if_pos c22] at h
                    refine zG_br hm rfl (cf' := (110, [some (zr 42 0), none, some (zi (v2 + (-1))), some (zi v3), some (zi (M 52 0 (zix v3)))], [zi (M 53 0 (zix v3))], M)) (if_pos c22) ?_
                    refine zG_run hm 3 (cf' := (116, [some (zr 42 0), none, some (zi (v2 + (-1))), some (zi v3), some (zi (M 52 0 (zix v3)))], [zi ((M 53 0 (zix v3)) - 1)], M)) rfl ?_
                    refine zG_sub (lv' := [some (zr 42 0), none, some (zi (v2 + (-1))), none, none]) (zsb_s rfl (zsb_n (zsb_s rfl (zsb_n (zsb_n zsb_0))))) ?_
                    exact g_X11_saysOf_j116 hd h kc kb kr
                  · rw [if_neg c22] at h
                    cases h
              · rw [if_neg c24] at h
                cases h
          · rw [if_neg c26] at h
            refine zG_br hm rfl (cf' := (40, [some (zr 42 0), none, some (zi v2), some (zi v3), some (zi (M 52 0 (zix v3)))], [], M)) (if_neg c26) ?_
            refine zG_sub (lv' := [some (zr 42 0), none, some (zi v2), some (zi v3), some (zi (M 52 0 (zix v3)))]) (zsb_s rfl (zsb_n (zsb_s rfl (zsb_s rfl (zsb_s rfl zsb_0))))) ?_
            exact g_X11_saysOf_j40 hd h kc kb kr
      · rw [if_neg c28] at h
        cases h
  · rw [if_neg c30] at h
    cases h
theorem gl_X11_saysOf_L4  {y : zM} {r : Option zV} {Mf : zM} {d : Nat} (hd : 2 ≤ d)
    (kb : ∀ t, y = t → zG 168 d (233, [some (zr 42 0), none, none, none, none], [], t) r Mf) (kr : True) : ∀ (n : Nat) (s : Int × Int × zM), zlp (fun s : Int × Int × zM => f_X11_saysOf_L4  s.1 s.2.1 s.2.2) n s = some y → zG 168 d (4, [some (zr 42 0), none, some (zi s.1), some (zi s.2.1), none], [], s.2.2) r Mf := by
  intro n
  induction n with
  | zero => intro s h; cases h
  | succ n ih =>
    intro s h
    rcases zlp_cases h with ⟨s', h1, h2⟩ | h1
    · exact g_X11_saysOf_L4 hd h1 (fun s2 e2 => by cases e2; exact ih _ h2) (fun t e2 => by cases e2) trivial
    · exact g_X11_saysOf_L4 hd h1 (fun s2 e2 => by cases e2) (fun t e2 => kb t (Sum.inr.inj e2)) trivial
def f_X11_saysOf (v1 : Int) (M : zM) : Option (Int × zM) :=
  (zlp (fun s : Int × Int × zM => f_X11_saysOf_L4  s.1 s.2.1 s.2.2) zF (0, v1, M)).bind fun y31 =>
    some ((y31 67 0 0), y31)
theorem g_X11_saysOf {v1 : Int} {M : zM} {q : Int × zM} {d : Nat} (hd : 2 ≤ d) (h : f_X11_saysOf v1 M = some q) : zG 168 d (0, [some (zr 42 0), some (zi v1), none, none, none], [], M) (some (zl q.1)) q.2 := by
  have hm := zmok_168
  unfold f_X11_saysOf at h
  refine zG_run hm 4 (cf' := (4, [some (zr 42 0), some (zi v1), some (zi 0), some (zi v1), none], [], M)) rfl ?_
  refine zG_sub (lv' := [some (zr 42 0), none, some (zi 0), some (zi v1), none]) (zsb_s rfl (zsb_n (zsb_s rfl (zsb_s rfl (zsb_n zsb_0))))) ?_
  obtain ⟨y31, hy31, h⟩ := Option.bind_eq_some_iff.mp h
  refine gl_X11_saysOf_L4 hd (fun t e2 => ?_) trivial zF (0, v1, M) hy31
  cases e2
  refine zG_run hm 4 (cf' := (239, [some (zr 42 0), none, none, none, none], [zl (y31 67 0 0)], y31)) rfl ?_
  cases h
  exact zG_rl hm rfl rfl
theorem met_X11_saysOf {v1 : Int} {M : zM} {q : Int × zM} {d : Nat} (hd : 2 ≤ d) (h : f_X11_saysOf v1 M = some q) : zMet 168 d [zr 42 0, zi v1] M (some (zl q.1)) q.2 :=
  zMet_of (lv0 := [some (zr 42 0), some (zi v1), none, none, none]) zmok_168 rfl rfl (fun v hv => by cases hv; trivial) (g_X11_saysOf hd h)
def f_X11_held (v0 : Int) (v2 : Int) (v3 : Int) (M : zM) : Option (Int × zM) :=
  if 0 ≤ zw (zlcmp (zwl v0) (zwl (zw v2))) then
    if zw (zlcmp (zwl v0) (zwl (zw v3))) ≤ 0 then
      some (v0, M)
    else
      some (v3, M)
  else
    some (v2, M)
theorem g_X11_held {v0 : Int} {v2 : Int} {v3 : Int} {M : zM} {q : Int × zM} {d : Nat} (hd : 0 ≤ d) (h : f_X11_held v0 v2 v3 M = some q) : zG 120 d (0, [some (zl v0), none, some (zi v2), some (zi v3)], [], M) (some (zi q.1)) q.2 := by
  have hm := zmok_120
  unfold f_X11_held at h
  refine zG_run hm 4 (cf' := (4, [some (zl v0), none, some (zi v2), some (zi v3)], [zi (zlcmp (zwl v0) (zwl (zw v2)))], M)) rfl ?_
  by_cases c2 : 0 ≤ zw (zlcmp (zwl v0) (zwl (zw v2)))
  · rw [if_pos c2] at h
    refine zG_br hm rfl (cf' := (11, [some (zl v0), none, some (zi v2), some (zi v3)], [], M)) (if_pos c2) ?_
    refine zG_run hm 4 (cf' := (15, [some (zl v0), none, some (zi v2), some (zi v3)], [zi (zlcmp (zwl v0) (zwl (zw v3)))], M)) rfl ?_
    by_cases c1 : zw (zlcmp (zwl v0) (zwl (zw v3))) ≤ 0
    · rw [if_pos c1] at h
      refine zG_br hm rfl (cf' := (22, [some (zl v0), none, some (zi v2), some (zi v3)], [], M)) (if_pos c1) ?_
      refine zG_run hm 2 (cf' := (24, [some (zl v0), none, some (zi v2), some (zi v3)], [zi v0], M)) rfl ?_
      cases h
      exact zG_ri hm rfl rfl
    · rw [if_neg c1] at h
      refine zG_br hm rfl (cf' := (18, [some (zl v0), none, some (zi v2), some (zi v3)], [], M)) (if_neg c1) ?_
      refine zG_run hm 2 (cf' := (24, [some (zl v0), none, some (zi v2), some (zi v3)], [zi v3], M)) rfl ?_
      cases h
      exact zG_ri hm rfl rfl
  · rw [if_neg c2] at h
    refine zG_br hm rfl (cf' := (7, [some (zl v0), none, some (zi v2), some (zi v3)], [], M)) (if_neg c2) ?_
    refine zG_run hm 2 (cf' := (24, [some (zl v0), none, some (zi v2), some (zi v3)], [zi v2], M)) rfl ?_
    cases h
    exact zG_ri hm rfl rfl
theorem met_X11_held {v0 : Int} {v2 : Int} {v3 : Int} {M : zM} {q : Int × zM} {d : Nat} (hd : 0 ≤ d) (h : f_X11_held v0 v2 v3 M = some q) : zMet 120 d [zl v0, zi v2, zi v3] M (some (zi q.1)) q.2 :=
  zMet_of (lv0 := [some (zl v0), none, some (zi v2), some (zi v3)]) zmok_120 rfl rfl (fun v hv => by cases hv; trivial) (g_X11_held hd h)
def f_X11_toOf (v1 : Int) (M : zM) : Option (Int × zM) :=
  (f_X11_ordersOf 2 M).bind fun p1 =>
    (f_X11_names v1 p1.2).bind fun p2 =>
      if ¬ zw p1.1 = (-1) then
        (f_X11_saysOf p1.1 p2).bind fun p3 =>
          (f_X11_held p3.1 0 ((p3.2 43 0 0) - 1) p3.2).bind fun p4 =>
            some (p4.1, p4.2)
      else
        if 0 ≤ zw (30 + v1) ∧ zw (30 + v1) < 161 then
          some ((p2 68 0 (zix (30 + v1))), p2)
        else
          none
theorem g_X11_toOf {v1 : Int} {M : zM} {q : Int × zM} {d : Nat} (hd : 3 ≤ d) (h : f_X11_toOf v1 M = some q) : zG 177 d (0, [some (zr 42 0), some (zi v1), none], [], M) (some (zi q.1)) q.2 := by
  have hm := zmok_177
  unfold f_X11_toOf at h
  refine zG_run hm 2 (cf' := (2, [some (zr 42 0), some (zi v1), none], [zi 2, zr 42 0], M)) rfl ?_
  obtain ⟨p1, hp1, h⟩ := Option.bind_eq_some_iff.mp h
  refine zG_V hm zmok_170 rfl (as := [zi 2]) (rest := []) (st2 := [zi p1.1]) (pc2 := 5) rfl rfl (by omega) (met_X11_ordersOf (d := 0) (Nat.le_refl _) hp1) rfl ?_
  refine zG_run hm 3 (cf' := (8, [some (zr 42 0), some (zi v1), some (zi p1.1)], [zi v1, zr 42 0], p1.2)) rfl ?_
  obtain ⟨p2, hp2, h⟩ := Option.bind_eq_some_iff.mp h
  refine zG_V hm zmok_174 rfl (as := [zi v1]) (rest := []) (st2 := []) (pc2 := 11) rfl rfl (by omega) (met_X11_names (d := 0) (Nat.le_refl _) hp2) rfl ?_
  refine zG_run hm 2 (cf' := (13, [some (zr 42 0), some (zi v1), some (zi p1.1)], [zi (-1), zi p1.1], p2)) rfl ?_
  by_cases c6 : ¬ zw p1.1 = (-1)
  · rw [if_pos c6] at h
    refine zG_br hm rfl (cf' := (28, [some (zr 42 0), some (zi v1), some (zi p1.1)], [], p2)) (if_pos c6) ?_
    refine zG_run hm 2 (cf' := (30, [some (zr 42 0), some (zi v1), some (zi p1.1)], [zi p1.1, zr 42 0], p2)) rfl ?_
    obtain ⟨p3, hp3, h⟩ := Option.bind_eq_some_iff.mp h
    refine zG_V hm zmok_168 rfl (as := [zi p1.1]) (rest := []) (st2 := [zl p3.1]) (pc2 := 33) rfl rfl (by omega) (met_X11_saysOf (d := 2) (Nat.le_refl _) hp3) rfl ?_
    refine zG_run hm 7 (cf' := (42, [some (zr 42 0), some (zi v1), some (zi p1.1)], [zi ((p3.2 43 0 0) - 1), zi 0, zl p3.1], p3.2)) rfl ?_
    obtain ⟨p4, hp4, h⟩ := Option.bind_eq_some_iff.mp h
    refine zG_S hm zmok_120 rfl (as := [zl p3.1, zi 0, zi ((p3.2 43 0 0) - 1)]) (rest := []) (st2 := [zi p4.1]) (pc2 := 45) rfl rfl (by omega) (met_X11_held (d := 0) (Nat.le_refl _) hp4) rfl ?_
    cases h
    exact zG_ri hm rfl rfl
  · rw [if_neg c6] at h
    refine zG_br hm rfl (cf' := (16, [some (zr 42 0), some (zi v1), some (zi p1.1)], [], p2)) (if_neg c6) ?_
    refine zG_run hm 5 (cf' := (24, [some (zr 42 0), some (zi v1), some (zi p1.1)], [zi (30 + v1), zr 68 0], p2)) rfl ?_
    by_cases c5 : 0 ≤ zw (30 + v1) ∧ zw (30 + v1) < 161
    · rw [if_pos c5] at h
      refine zG_br hm rfl (cf' := (25, [some (zr 42 0), some (zi v1), some (zi p1.1)], [zi (p2 68 0 (zix (30 + v1)))], p2)) (if_pos c5) ?_
      refine zG_run hm 1 (cf' := (45, [some (zr 42 0), some (zi v1), some (zi p1.1)], [zi (p2 68 0 (zix (30 + v1)))], p2)) rfl ?_
      cases h
      exact zG_ri hm rfl rfl
    · rw [if_neg c5] at h
      cases h
theorem met_X11_toOf {v1 : Int} {M : zM} {q : Int × zM} {d : Nat} (hd : 3 ≤ d) (h : f_X11_toOf v1 M = some q) : zMet 177 d [zr 42 0, zi v1] M (some (zi q.1)) q.2 :=
  zMet_of (lv0 := [some (zr 42 0), some (zi v1), none]) zmok_177 rfl rfl (fun v hv => by cases hv; trivial) (g_X11_toOf hd h)
def f_X11_bringsOf (v1 : Int) (M : zM) : Option (Int × zM) :=
  (f_X11_toOf v1 M).bind fun p1 =>
    (f_X11_ordersOf 3 p1.2).bind fun p2 =>
      (f_X11_names v1 p2.2).bind fun p3 =>
        if 0 ≤ zw (0 + p1.1) ∧ zw (0 + p1.1) < 161 then
          zlet (zput p3 66 0 7 (p3 68 0 (zix (0 + p1.1)))) fun M4 =>
          if ¬ zw p2.1 = (-1) then
            (f_X11_saysOf p2.1 M4).bind fun p5 =>
              (f_X11_held p5.1 (-9999) 9999 p5.2).bind fun p6 =>
                some (p6.1, p6.2)
          else
            if 0 ≤ zw (6 + v1) ∧ zw (6 + v1) < 161 then
              some ((M4 68 0 (zix (6 + v1))), M4)
            else
              none
        else
          none
theorem g_X11_bringsOf {v1 : Int} {M : zM} {q : Int × zM} {d : Nat} (hd : 4 ≤ d) (h : f_X11_bringsOf v1 M = some q) : zG 178 d (0, [some (zr 42 0), some (zi v1), none, none], [], M) (some (zi q.1)) q.2 := by
  have hm := zmok_178
  unfold f_X11_bringsOf at h
  refine zG_run hm 2 (cf' := (2, [some (zr 42 0), some (zi v1), none, none], [zi v1, zr 42 0], M)) rfl ?_
  obtain ⟨p1, hp1, h⟩ := Option.bind_eq_some_iff.mp h
  refine zG_V hm zmok_177 rfl (as := [zi v1]) (rest := []) (st2 := [zi p1.1]) (pc2 := 5) rfl rfl (by omega) (met_X11_toOf (d := 3) (Nat.le_refl _) hp1) rfl ?_
  refine zG_run hm 3 (cf' := (8, [some (zr 42 0), some (zi v1), some (zi p1.1), none], [zi 3, zr 42 0], p1.2)) rfl ?_
  obtain ⟨p2, hp2, h⟩ := Option.bind_eq_some_iff.mp h
  refine zG_V hm zmok_170 rfl (as := [zi 3]) (rest := []) (st2 := [zi p2.1]) (pc2 := 11) rfl rfl (by omega) (met_X11_ordersOf (d := 0) (Nat.le_refl _) hp2) rfl ?_
  refine zG_run hm 3 (cf' := (14, [some (zr 42 0), some (zi v1), some (zi p1.1), some (zi p2.1)], [zi v1, zr 42 0], p2.2)) rfl ?_
  obtain ⟨p3, hp3, h⟩ := Option.bind_eq_some_iff.mp h
  refine zG_V hm zmok_174 rfl (as := [zi v1]) (rest := []) (st2 := []) (pc2 := 17) rfl rfl (by omega) (met_X11_names (d := 0) (Nat.le_refl _) hp3) rfl ?_
  refine zG_run hm 8 (cf' := (30, [some (zr 42 0), some (zi v1), some (zi p1.1), some (zi p2.1)], [zi (0 + p1.1), zr 68 0, zi 7, zr 66 0], p3)) rfl ?_
  by_cases c9 : 0 ≤ zw (0 + p1.1) ∧ zw (0 + p1.1) < 161
  · rw [if_pos c9] at h
    refine zG_br hm rfl (cf' := (31, [some (zr 42 0), some (zi v1), some (zi p1.1), some (zi p2.1)], [zi (p3 68 0 (zix (0 + p1.1))), zi 7, zr 66 0], p3)) (if_pos c9) ?_
    refine zG_run hm 1 (cf' := (32, [some (zr 42 0), some (zi v1), some (zi p1.1), some (zi p2.1)], [], (zput p3 66 0 7 (p3 68 0 (zix (0 + p1.1)))))) rfl ?_
    obtain ⟨M4, eM4, h⟩ := zlet_of h
    rw [eM4]
    refine zG_run hm 2 (cf' := (34, [some (zr 42 0), some (zi v1), some (zi p1.1), some (zi p2.1)], [zi (-1), zi p2.1], M4)) rfl ?_
    by_cases c8 : ¬ zw p2.1 = (-1)
    · rw [if_pos c8] at h
      refine zG_br hm rfl (cf' := (49, [some (zr 42 0), some (zi v1), some (zi p1.1), some (zi p2.1)], [], M4)) (if_pos c8) ?_
      refine zG_run hm 2 (cf' := (51, [some (zr 42 0), some (zi v1), some (zi p1.1), some (zi p2.1)], [zi p2.1, zr 42 0], M4)) rfl ?_
      obtain ⟨p5, hp5, h⟩ := Option.bind_eq_some_iff.mp h
      refine zG_V hm zmok_168 rfl (as := [zi p2.1]) (rest := []) (st2 := [zl p5.1]) (pc2 := 54) rfl rfl (by omega) (met_X11_saysOf (d := 2) (Nat.le_refl _) hp5) rfl ?_
      refine zG_run hm 2 (cf' := (60, [some (zr 42 0), some (zi v1), some (zi p1.1), some (zi p2.1)], [zi 9999, zi (-9999), zl p5.1], p5.2)) rfl ?_
      obtain ⟨p6, hp6, h⟩ := Option.bind_eq_some_iff.mp h
      refine zG_S hm zmok_120 rfl (as := [zl p5.1, zi (-9999), zi 9999]) (rest := []) (st2 := [zi p6.1]) (pc2 := 63) rfl rfl (by omega) (met_X11_held (d := 0) (Nat.le_refl _) hp6) rfl ?_
      cases h
      exact zG_ri hm rfl rfl
    · rw [if_neg c8] at h
      refine zG_br hm rfl (cf' := (37, [some (zr 42 0), some (zi v1), some (zi p1.1), some (zi p2.1)], [], M4)) (if_neg c8) ?_
      refine zG_run hm 5 (cf' := (45, [some (zr 42 0), some (zi v1), some (zi p1.1), some (zi p2.1)], [zi (6 + v1), zr 68 0], M4)) rfl ?_
      by_cases c7 : 0 ≤ zw (6 + v1) ∧ zw (6 + v1) < 161
      · rw [if_pos c7] at h
        refine zG_br hm rfl (cf' := (46, [some (zr 42 0), some (zi v1), some (zi p1.1), some (zi p2.1)], [zi (M4 68 0 (zix (6 + v1)))], M4)) (if_pos c7) ?_
        refine zG_run hm 1 (cf' := (63, [some (zr 42 0), some (zi v1), some (zi p1.1), some (zi p2.1)], [zi (M4 68 0 (zix (6 + v1)))], M4)) rfl ?_
        cases h
        exact zG_ri hm rfl rfl
      · rw [if_neg c7] at h
        cases h
  · rw [if_neg c9] at h
    cases h
theorem met_X11_bringsOf {v1 : Int} {M : zM} {q : Int × zM} {d : Nat} (hd : 4 ≤ d) (h : f_X11_bringsOf v1 M = some q) : zMet 178 d [zr 42 0, zi v1] M (some (zi q.1)) q.2 :=
  zMet_of (lv0 := [some (zr 42 0), some (zi v1), none, none]) zmok_178 rfl rfl (fun v hv => by cases hv; trivial) (g_X11_bringsOf hd h)
def f_X11_writes_j51 (v1 : Int) (v2 : Int) (M : zM) : Option (zM) :=
  if 0 ≤ zw (41 + (4 * (M 68 0 40))) ∧ zw (41 + (4 * (M 68 0 40))) < 161 then
    zlet (zput M 68 0 (zix (41 + (4 * (M 68 0 40)))) (M 68 0 38)) fun M1 =>
    if 0 ≤ zw ((41 + (4 * (M 68 0 40))) + 1) ∧ zw ((41 + (4 * (M 68 0 40))) + 1) < 161 then
      zlet (zput M1 68 0 (zix ((41 + (4 * (M 68 0 40))) + 1)) v1) fun M2 =>
      if 0 ≤ zw ((41 + (4 * (M 68 0 40))) + 2) ∧ zw ((41 + (4 * (M 68 0 40))) + 2) < 161 then
        zlet (zput M2 68 0 (zix ((41 + (4 * (M 68 0 40))) + 2)) v2) fun M3 =>
        if 0 ≤ zw (6 + v1) ∧ zw (6 + v1) < 161 then
          if 0 ≤ zw ((41 + (4 * (M 68 0 40))) + 3) ∧ zw ((41 + (4 * (M 68 0 40))) + 3) < 161 then
            zlet (zput M3 68 0 (zix ((41 + (4 * (M 68 0 40))) + 3)) (M3 68 0 (zix (6 + v1)))) fun M4 =>
            zlet (zput M4 68 0 40 ((M4 68 0 40) + 1)) fun M5 =>
            some M5
          else
            none
        else
          none
      else
        none
    else
      none
  else
    none
theorem g_X11_writes_j51 {v1 : Int} {v2 : Int} {M : zM} {q : zM} {d : Nat} (hd : 0 ≤ d) (h : f_X11_writes_j51 v1 v2 M = some q) : zG 182 d (51, [some (zr 42 0), some (zi v1), some (zi v2), none], [], M) none q := by
  have hm := zmok_182
  unfold f_X11_writes_j51 at h
  refine zG_run hm 16 (cf' := (76, [some (zr 42 0), some (zi v1), some (zi v2), some (zi (41 + (4 * (M 68 0 40))))], [zi (M 68 0 38), zi (41 + (4 * (M 68 0 40))), zr 68 0], M)) rfl ?_
  by_cases c10 : 0 ≤ zw (41 + (4 * (M 68 0 40))) ∧ zw (41 + (4 * (M 68 0 40))) < 161
  · rw [if_pos c10] at h
    refine zG_br hm rfl (cf' := (77, [some (zr 42 0), some (zi v1), some (zi v2), some (zi (41 + (4 * (M 68 0 40))))], [], (zput M 68 0 (zix (41 + (4 * (M 68 0 40)))) (M 68 0 38)))) (if_pos c10) ?_
    obtain ⟨M1, eM1, h⟩ := zlet_of h
    rw [eM1]
    refine zG_run hm 6 (cf' := (85, [some (zr 42 0), some (zi v1), some (zi v2), some (zi (41 + (4 * (M 68 0 40))))], [zi v1, zi ((41 + (4 * (M 68 0 40))) + 1), zr 68 0], M1)) rfl ?_
    by_cases c9 : 0 ≤ zw ((41 + (4 * (M 68 0 40))) + 1) ∧ zw ((41 + (4 * (M 68 0 40))) + 1) < 161
    · rw [if_pos c9] at h
      refine zG_br hm rfl (cf' := (86, [some (zr 42 0), some (zi v1), some (zi v2), some (zi (41 + (4 * (M 68 0 40))))], [], (zput M1 68 0 (zix ((41 + (4 * (M 68 0 40))) + 1)) v1))) (if_pos c9) ?_
      obtain ⟨M2, eM2, h⟩ := zlet_of h
      rw [eM2]
      refine zG_run hm 6 (cf' := (94, [some (zr 42 0), some (zi v1), some (zi v2), some (zi (41 + (4 * (M 68 0 40))))], [zi v2, zi ((41 + (4 * (M 68 0 40))) + 2), zr 68 0], M2)) rfl ?_
      by_cases c8 : 0 ≤ zw ((41 + (4 * (M 68 0 40))) + 2) ∧ zw ((41 + (4 * (M 68 0 40))) + 2) < 161
      · rw [if_pos c8] at h
        refine zG_br hm rfl (cf' := (95, [some (zr 42 0), some (zi v1), some (zi v2), some (zi (41 + (4 * (M 68 0 40))))], [], (zput M2 68 0 (zix ((41 + (4 * (M 68 0 40))) + 2)) v2))) (if_pos c8) ?_
        obtain ⟨M3, eM3, h⟩ := zlet_of h
        rw [eM3]
        refine zG_run hm 10 (cf' := (110, [some (zr 42 0), some (zi v1), some (zi v2), some (zi (41 + (4 * (M 68 0 40))))], [zi (6 + v1), zr 68 0, zi ((41 + (4 * (M 68 0 40))) + 3), zr 68 0], M3)) rfl ?_
        by_cases c7 : 0 ≤ zw (6 + v1) ∧ zw (6 + v1) < 161
        · rw [if_pos c7] at h
          refine zG_br hm rfl (cf' := (111, [some (zr 42 0), some (zi v1), some (zi v2), some (zi (41 + (4 * (M 68 0 40))))], [zi (M3 68 0 (zix (6 + v1))), zi ((41 + (4 * (M 68 0 40))) + 3), zr 68 0], M3)) (if_pos c7) ?_
          by_cases c6 : 0 ≤ zw ((41 + (4 * (M 68 0 40))) + 3) ∧ zw ((41 + (4 * (M 68 0 40))) + 3) < 161
          · rw [if_pos c6] at h
            refine zG_br hm rfl (cf' := (112, [some (zr 42 0), some (zi v1), some (zi v2), some (zi (41 + (4 * (M 68 0 40))))], [], (zput M3 68 0 (zix ((41 + (4 * (M 68 0 40))) + 3)) (M3 68 0 (zix (6 + v1)))))) (if_pos c6) ?_
            obtain ⟨M4, eM4, h⟩ := zlet_of h
            rw [eM4]
            refine zG_run hm 8 (cf' := (123, [some (zr 42 0), some (zi v1), some (zi v2), some (zi (41 + (4 * (M 68 0 40))))], [], (zput M4 68 0 40 ((M4 68 0 40) + 1)))) rfl ?_
            obtain ⟨M5, eM5, h⟩ := zlet_of h
            rw [eM5]
            cases h
            exact zG_rv hm rfl rfl
          · rw [if_neg c6] at h
            cases h
        · rw [if_neg c7] at h
          cases h
      · rw [if_neg c8] at h
        cases h
    · rw [if_neg c9] at h
      cases h
  · rw [if_neg c10] at h
    cases h
def f_X11_writes_L15 (v1 : Int) (v2 : Int) (v3 : Int) (M : zM) : Option ((Int × zM) ⊕ (zM)) :=
  if 157 ≤ zw v3 then
    some (.inr M)
  else
    if 0 ≤ zw (v3 + 4) ∧ zw (v3 + 4) < 161 then
      if 0 ≤ zw v3 ∧ zw v3 < 161 then
        zlet (zput M 68 0 (zix v3) (M 68 0 (zix (v3 + 4)))) fun M11 =>
        some (.inl ((v3 + 1), M11))
      else
        none
    else
      none
theorem g_X11_writes_L15 {v1 : Int} {v2 : Int} {v3 : Int} {M : zM} {x : (Int × zM) ⊕ (zM)} {r : Option zV} {Mf : zM} {d : Nat} (hd : 0 ≤ d) (h : f_X11_writes_L15 v1 v2 v3 M = some x)
    (kc : ∀ s, x = .inl s → zG 182 d (15, [some (zr 42 0), some (zi v1), some (zi v2), some (zi s.1)], [], s.2) r Mf)
    (kb : ∀ t, x = .inr t → zG 182 d (42, [some (zr 42 0), some (zi v1), some (zi v2), none], [], t) r Mf) (kr : True) : zG 182 d (15, [some (zr 42 0), some (zi v1), some (zi v2), some (zi v3)], [], M) r Mf := by
  have hm := zmok_182
  unfold f_X11_writes_L15 at h
  refine zG_run hm 2 (cf' := (19, [some (zr 42 0), some (zi v1), some (zi v2), some (zi v3)], [zi 157, zi v3], M)) rfl ?_
  by_cases c14 : 157 ≤ zw v3
  · rw [if_pos c14] at h
    refine zG_br hm rfl (cf' := (42, [some (zr 42 0), some (zi v1), some (zi v2), some (zi v3)], [], M)) (if_pos c14) ?_
    refine zG_sub (lv' := [some (zr 42 0), some (zi v1), some (zi v2), none]) (zsb_s rfl (zsb_s rfl (zsb_s rfl (zsb_n zsb_0)))) ?_
    exact kb M (Option.some.inj h).symm
  · rw [if_neg c14] at h
    refine zG_br hm rfl (cf' := (22, [some (zr 42 0), some (zi v1), some (zi v2), some (zi v3)], [], M)) (if_neg c14) ?_
    refine zG_run hm 8 (cf' := (34, [some (zr 42 0), some (zi v1), some (zi v2), some (zi v3)], [zi (v3 + 4), zr 68 0, zi v3, zr 68 0], M)) rfl ?_
    by_cases c13 : 0 ≤ zw (v3 + 4) ∧ zw (v3 + 4) < 161
    · rw [if_pos c13] at h
      refine zG_br hm rfl (cf' := (35, [some (zr 42 0), some (zi v1), some (zi v2), some (zi v3)], [zi (M 68 0 (zix (v3 + 4))), zi v3, zr 68 0], M)) (if_pos c13) ?_
      by_cases c12 : 0 ≤ zw v3 ∧ zw v3 < 161
      · rw [if_pos c12] at h
        refine zG_br hm rfl (cf' := (36, [some (zr 42 0), some (zi v1), some (zi v2), some (zi v3)], [], (zput M 68 0 (zix v3) (M 68 0 (zix (v3 + 4)))))) (if_pos c12) ?_
        obtain ⟨M11, eM11, h⟩ := zlet_of h
        rw [eM11]
        refine zG_run hm 2 (cf' := (15, [some (zr 42 0), some (zi v1), some (zi v2), some (zi (v3 + 1))], [], M11)) rfl ?_
        refine zG_sub (lv' := [some (zr 42 0), some (zi v1), some (zi v2), some (zi (v3 + 1))]) (zsb_s rfl (zsb_s rfl (zsb_s rfl (zsb_s rfl zsb_0)))) ?_
        exact kc ((v3 + 1), M11) (Option.some.inj h).symm
      · rw [if_neg c12] at h
        cases h
    · rw [if_neg c13] at h
      cases h
theorem gl_X11_writes_L15 {v1 : Int} {v2 : Int} {y : zM} {r : Option zV} {Mf : zM} {d : Nat} (hd : 0 ≤ d)
    (kb : ∀ t, y = t → zG 182 d (42, [some (zr 42 0), some (zi v1), some (zi v2), none], [], t) r Mf) (kr : True) : ∀ (n : Nat) (s : Int × zM), zlp (fun s : Int × zM => f_X11_writes_L15 v1 v2 s.1 s.2) n s = some y → zG 182 d (15, [some (zr 42 0), some (zi v1), some (zi v2), some (zi s.1)], [], s.2) r Mf := by
  intro n
  induction n with
  | zero => intro s h; cases h
  | succ n ih =>
    intro s h
    rcases zlp_cases h with ⟨s', h1, h2⟩ | h1
    · exact g_X11_writes_L15 hd h1 (fun s2 e2 => by cases e2; exact ih _ h2) (fun t e2 => by cases e2) trivial
    · exact g_X11_writes_L15 hd h1 (fun s2 e2 => by cases e2) (fun t e2 => kb t (Sum.inr.inj e2)) trivial
def f_X11_writes (v1 : Int) (v2 : Int) (M : zM) : Option (zM) :=
  if ¬ zw (M 68 0 40) = 30 then
    f_X11_writes_j51 v1 v2 M
  else
    (zlp (fun s : Int × zM => f_X11_writes_L15 v1 v2 s.1 s.2) zF (41, M)).bind fun y15 =>
      zlet (zput y15 68 0 40 29) fun M16 =>
      f_X11_writes_j51 v1 v2 M16
theorem g_X11_writes {v1 : Int} {v2 : Int} {M : zM} {q : zM} {d : Nat} (hd : 0 ≤ d) (h : f_X11_writes v1 v2 M = some q) : zG 182 d (0, [some (zr 42 0), some (zi v1), some (zi v2), none], [], M) none q := by
  have hm := zmok_182
  unfold f_X11_writes at h
  refine zG_run hm 5 (cf' := (9, [some (zr 42 0), some (zi v1), some (zi v2), none], [zi 30, zi (M 68 0 40)], M)) rfl ?_
  by_cases c17 : ¬ zw (M 68 0 40) = 30
  · rw [if_pos c17] at h
    refine zG_br hm rfl (cf' := (51, [some (zr 42 0), some (zi v1), some (zi v2), none], [], M)) (if_pos c17) ?_
    refine zG_sub (lv' := [some (zr 42 0), some (zi v1), some (zi v2), none]) (zsb_s rfl (zsb_s rfl (zsb_s rfl (zsb_n zsb_0)))) ?_
    exact g_X11_writes_j51 hd h
  · rw [if_neg c17] at h
    refine zG_br hm rfl (cf' := (12, [some (zr 42 0), some (zi v1), some (zi v2), none], [], M)) (if_neg c17) ?_
    refine zG_run hm 2 (cf' := (15, [some (zr 42 0), some (zi v1), some (zi v2), some (zi 41)], [], M)) rfl ?_
    refine zG_sub (lv' := [some (zr 42 0), some (zi v1), some (zi v2), some (zi 41)]) (zsb_s rfl (zsb_s rfl (zsb_s rfl (zsb_s rfl zsb_0)))) ?_
    obtain ⟨y15, hy15, h⟩ := Option.bind_eq_some_iff.mp h
    refine gl_X11_writes_L15 hd (fun t e2 => ?_) trivial zF (41, M) hy15
    cases e2
    refine zG_run hm 5 (cf' := (51, [some (zr 42 0), some (zi v1), some (zi v2), none], [], (zput y15 68 0 40 29))) rfl ?_
    obtain ⟨M16, eM16, h⟩ := zlet_of h
    rw [eM16]
    refine zG_sub (lv' := [some (zr 42 0), some (zi v1), some (zi v2), none]) (zsb_s rfl (zsb_s rfl (zsb_s rfl (zsb_n zsb_0)))) ?_
    exact g_X11_writes_j51 hd h
theorem met_X11_writes {v1 : Int} {v2 : Int} {M : zM} {q : zM} {d : Nat} (hd : 0 ≤ d) (h : f_X11_writes v1 v2 M = some q) : zMet 182 d [zr 42 0, zi v1, zi v2] M none q :=
  zMet_of (lv0 := [some (zr 42 0), some (zi v1), some (zi v2), none]) zmok_182 rfl rfl (fun v hv => by cases hv) (g_X11_writes hd h)
def f_X11_comesBack (v1 : Int) (M : zM) : Option (Int × zM) :=
  (f_X11_toOf v1 M).bind fun p1 =>
    (f_X11_bringsOf v1 p1.2).bind fun p2 =>
      if 0 ≤ zw (0 + p1.1) ∧ zw (0 + p1.1) < 161 then
        (f_X11_held (zw ((p2.2 68 0 (zix (0 + p1.1))) + p2.1)) (-1000000) 1000000 p2.2).bind fun p3 =>
          if 0 ≤ zw (0 + p1.1) ∧ zw (0 + p1.1) < 161 then
            zlet (zput p3.2 68 0 (zix (0 + p1.1)) p3.1) fun M4 =>
            (f_X11_writes v1 p1.1 M4).bind fun p5 =>
              if 0 ≤ zw (14 + v1) ∧ zw (14 + v1) < 161 then
                zlet (zput p5 68 0 (zix (14 + v1)) p1.1) fun M6 =>
                if 0 ≤ zw (22 + v1) ∧ zw (22 + v1) < 161 then
                  zlet (zput M6 68 0 (zix (22 + v1)) (-1)) fun M7 =>
                  if 0 ≤ zw (30 + v1) ∧ zw (30 + v1) < 161 then
                    zlet (zput M7 68 0 (zix (30 + v1)) (-1)) fun M8 =>
                    some (p1.1, M8)
                  else
                    none
                else
                  none
              else
                none
          else
            none
      else
        none
theorem g_X11_comesBack {v1 : Int} {M : zM} {q : Int × zM} {d : Nat} (hd : 5 ≤ d) (h : f_X11_comesBack v1 M = some q) : zG 183 d (0, [some (zr 42 0), some (zi v1), none, none], [], M) (some (zi q.1)) q.2 := by
  have hm := zmok_183
  unfold f_X11_comesBack at h
  refine zG_run hm 2 (cf' := (2, [some (zr 42 0), some (zi v1), none, none], [zi v1, zr 42 0], M)) rfl ?_
  obtain ⟨p1, hp1, h⟩ := Option.bind_eq_some_iff.mp h
  refine zG_V hm zmok_177 rfl (as := [zi v1]) (rest := []) (st2 := [zi p1.1]) (pc2 := 5) rfl rfl (by omega) (met_X11_toOf (d := 3) (Nat.le_refl _) hp1) rfl ?_
  refine zG_run hm 3 (cf' := (8, [some (zr 42 0), some (zi v1), some (zi p1.1), none], [zi v1, zr 42 0], p1.2)) rfl ?_
  obtain ⟨p2, hp2, h⟩ := Option.bind_eq_some_iff.mp h
  refine zG_V hm zmok_178 rfl (as := [zi v1]) (rest := []) (st2 := [zi p2.1]) (pc2 := 11) rfl rfl (by omega) (met_X11_bringsOf (d := 4) (Nat.le_refl _) hp2) rfl ?_
  refine zG_run hm 11 (cf' := (26, [some (zr 42 0), some (zi v1), some (zi p1.1), some (zi p2.1)], [zi (0 + p1.1), zr 68 0, zi (0 + p1.1), zr 68 0], p2.2)) rfl ?_
  by_cases c13 : 0 ≤ zw (0 + p1.1) ∧ zw (0 + p1.1) < 161
  · rw [if_pos c13] at h
    refine zG_br hm rfl (cf' := (27, [some (zr 42 0), some (zi v1), some (zi p1.1), some (zi p2.1)], [zi (p2.2 68 0 (zix (0 + p1.1))), zi (0 + p1.1), zr 68 0], p2.2)) (if_pos c13) ?_
    refine zG_run hm 5 (cf' := (36, [some (zr 42 0), some (zi v1), some (zi p1.1), some (zi p2.1)], [zi 1000000, zi (-1000000), zl (zw ((p2.2 68 0 (zix (0 + p1.1))) + p2.1)), zi (0 + p1.1), zr 68 0], p2.2)) rfl ?_
    obtain ⟨p3, hp3, h⟩ := Option.bind_eq_some_iff.mp h
    refine zG_S hm zmok_120 rfl (as := [zl (zw ((p2.2 68 0 (zix (0 + p1.1))) + p2.1)), zi (-1000000), zi 1000000]) (rest := [zi (0 + p1.1), zr 68 0]) (st2 := [zi p3.1, zi (0 + p1.1), zr 68 0]) (pc2 := 39) rfl rfl (by omega) (met_X11_held (d := 0) (Nat.le_refl _) hp3) rfl ?_
    by_cases c12 : 0 ≤ zw (0 + p1.1) ∧ zw (0 + p1.1) < 161
    · rw [if_pos c12] at h
      refine zG_br hm rfl (cf' := (40, [some (zr 42 0), some (zi v1), some (zi p1.1), some (zi p2.1)], [], (zput p3.2 68 0 (zix (0 + p1.1)) p3.1))) (if_pos c12) ?_
      obtain ⟨M4, eM4, h⟩ := zlet_of h
      rw [eM4]
      refine zG_run hm 3 (cf' := (43, [some (zr 42 0), some (zi v1), some (zi p1.1), some (zi p2.1)], [zi p1.1, zi v1, zr 42 0], M4)) rfl ?_
      obtain ⟨p5, hp5, h⟩ := Option.bind_eq_some_iff.mp h
      refine zG_V hm zmok_182 rfl (as := [zi v1, zi p1.1]) (rest := []) (st2 := []) (pc2 := 46) rfl rfl (by omega) (met_X11_writes (d := 0) (Nat.le_refl _) hp5) rfl ?_
      refine zG_run hm 6 (cf' := (55, [some (zr 42 0), some (zi v1), some (zi p1.1), some (zi p2.1)], [zi p1.1, zi (14 + v1), zr 68 0], p5)) rfl ?_
      by_cases c11 : 0 ≤ zw (14 + v1) ∧ zw (14 + v1) < 161
      · rw [if_pos c11] at h
        refine zG_br hm rfl (cf' := (56, [some (zr 42 0), some (zi v1), some (zi p1.1), some (zi p2.1)], [], (zput p5 68 0 (zix (14 + v1)) p1.1))) (if_pos c11) ?_
        obtain ⟨M6, eM6, h⟩ := zlet_of h
        rw [eM6]
        refine zG_run hm 6 (cf' := (65, [some (zr 42 0), some (zi v1), some (zi p1.1), some (zi p2.1)], [zi (-1), zi (22 + v1), zr 68 0], M6)) rfl ?_
        by_cases c10 : 0 ≤ zw (22 + v1) ∧ zw (22 + v1) < 161
        · rw [if_pos c10] at h
          refine zG_br hm rfl (cf' := (66, [some (zr 42 0), some (zi v1), some (zi p1.1), some (zi p2.1)], [], (zput M6 68 0 (zix (22 + v1)) (-1)))) (if_pos c10) ?_
          obtain ⟨M7, eM7, h⟩ := zlet_of h
          rw [eM7]
          refine zG_run hm 6 (cf' := (75, [some (zr 42 0), some (zi v1), some (zi p1.1), some (zi p2.1)], [zi (-1), zi (30 + v1), zr 68 0], M7)) rfl ?_
          by_cases c9 : 0 ≤ zw (30 + v1) ∧ zw (30 + v1) < 161
          · rw [if_pos c9] at h
            refine zG_br hm rfl (cf' := (76, [some (zr 42 0), some (zi v1), some (zi p1.1), some (zi p2.1)], [], (zput M7 68 0 (zix (30 + v1)) (-1)))) (if_pos c9) ?_
            obtain ⟨M8, eM8, h⟩ := zlet_of h
            rw [eM8]
            refine zG_run hm 1 (cf' := (77, [some (zr 42 0), some (zi v1), some (zi p1.1), some (zi p2.1)], [zi p1.1], M8)) rfl ?_
            cases h
            exact zG_ri hm rfl rfl
          · rw [if_neg c9] at h
            cases h
        · rw [if_neg c10] at h
          cases h
      · rw [if_neg c11] at h
        cases h
    · rw [if_neg c12] at h
      cases h
  · rw [if_neg c13] at h
    cases h
theorem met_X11_comesBack {v1 : Int} {M : zM} {q : Int × zM} {d : Nat} (hd : 5 ≤ d) (h : f_X11_comesBack v1 M = some q) : zMet 183 d [zr 42 0, zi v1] M (some (zi q.1)) q.2 :=
  zMet_of (lv0 := [some (zr 42 0), some (zi v1), none, none]) zmok_183 rfl rfl (fun v hv => by cases hv; trivial) (g_X11_comesBack hd h)
def f_X11_send (v1 : Int) (M : zM) : Option (Int × zM) :=
  (f_X11_isThing v1 M).bind fun p1 =>
    if zw p1.1 = 0 then
      some ((-1), p1.2)
    else
      if 0 ≤ zw (104 + v1) ∧ zw (104 + v1) < 5090 then
        if zw (p1.2 43 0 (zix (104 + v1))) = (-1) then
          (f_X11_keepsStep  p1.2).bind fun p2 =>
            (f_X11_laysNow  p2).bind fun p3 =>
              (f_X11_comesBack v1 p3).bind fun p4 =>
                (f_X11_keepsNow  p4.2).bind fun p5 =>
                  some (p4.1, p5)
        else
          some ((-1), p1.2)
      else
        none
theorem g_X11_send {v1 : Int} {M : zM} {q : Int × zM} {d : Nat} (hd : 6 ≤ d) (h : f_X11_send v1 M = some q) : zG 188 d (0, [some (zr 42 0), some (zi v1), none], [], M) (some (zi q.1)) q.2 := by
  have hm := zmok_188
  unfold f_X11_send at h
  refine zG_run hm 2 (cf' := (2, [some (zr 42 0), some (zi v1), none], [zi v1, zr 42 0], M)) rfl ?_
  obtain ⟨p1, hp1, h⟩ := Option.bind_eq_some_iff.mp h
  refine zG_V hm zmok_123 rfl (as := [zi v1]) (rest := []) (st2 := [zi p1.1]) (pc2 := 5) rfl rfl (by omega) (met_X11_isThing (d := 1) (Nat.le_refl _) hp1) rfl ?_
  by_cases c8 : zw p1.1 = 0
  · rw [if_pos c8] at h
    refine zG_br hm rfl (cf' := (21, [some (zr 42 0), some (zi v1), none], [], p1.2)) (if_pos c8) ?_
    refine zG_run hm 1 (cf' := (22, [some (zr 42 0), some (zi v1), none], [zi (-1)], p1.2)) rfl ?_
    cases h
    exact zG_ri hm rfl rfl
  · rw [if_neg c8] at h
    refine zG_br hm rfl (cf' := (8, [some (zr 42 0), some (zi v1), none], [], p1.2)) (if_neg c8) ?_
    refine zG_run hm 5 (cf' := (16, [some (zr 42 0), some (zi v1), none], [zi (104 + v1), zr 43 0], p1.2)) rfl ?_
    by_cases c7 : 0 ≤ zw (104 + v1) ∧ zw (104 + v1) < 5090
    · rw [if_pos c7] at h
      refine zG_br hm rfl (cf' := (17, [some (zr 42 0), some (zi v1), none], [zi (p1.2 43 0 (zix (104 + v1)))], p1.2)) (if_pos c7) ?_
      refine zG_run hm 1 (cf' := (18, [some (zr 42 0), some (zi v1), none], [zi (-1), zi (p1.2 43 0 (zix (104 + v1)))], p1.2)) rfl ?_
      by_cases c6 : zw (p1.2 43 0 (zix (104 + v1))) = (-1)
      · rw [if_pos c6] at h
        refine zG_br hm rfl (cf' := (23, [some (zr 42 0), some (zi v1), none], [], p1.2)) (if_pos c6) ?_
        refine zG_run hm 1 (cf' := (24, [some (zr 42 0), some (zi v1), none], [zr 42 0], p1.2)) rfl ?_
        obtain ⟨p2, hp2, h⟩ := Option.bind_eq_some_iff.mp h
        refine zG_V hm zmok_128 rfl (as := []) (rest := []) (st2 := []) (pc2 := 27) rfl rfl (by omega) (met_X11_keepsStep (d := 0) (Nat.le_refl _) hp2) rfl ?_
        refine zG_run hm 1 (cf' := (28, [some (zr 42 0), some (zi v1), none], [zr 42 0], p2)) rfl ?_
        obtain ⟨p3, hp3, h⟩ := Option.bind_eq_some_iff.mp h
        refine zG_V hm zmok_171 rfl (as := []) (rest := []) (st2 := []) (pc2 := 31) rfl rfl (by omega) (met_X11_laysNow (d := 0) (Nat.le_refl _) hp3) rfl ?_
        refine zG_run hm 2 (cf' := (33, [some (zr 42 0), some (zi v1), none], [zi v1, zr 42 0], p3)) rfl ?_
        obtain ⟨p4, hp4, h⟩ := Option.bind_eq_some_iff.mp h
        refine zG_V hm zmok_183 rfl (as := [zi v1]) (rest := []) (st2 := [zi p4.1]) (pc2 := 36) rfl rfl (by omega) (met_X11_comesBack (d := 5) (Nat.le_refl _) hp4) rfl ?_
        refine zG_run hm 2 (cf' := (38, [some (zr 42 0), some (zi v1), some (zi p4.1)], [zr 42 0], p4.2)) rfl ?_
        obtain ⟨p5, hp5, h⟩ := Option.bind_eq_some_iff.mp h
        refine zG_V hm zmok_172 rfl (as := []) (rest := []) (st2 := []) (pc2 := 41) rfl rfl (by omega) (met_X11_keepsNow (d := 0) (Nat.le_refl _) hp5) rfl ?_
        refine zG_run hm 1 (cf' := (42, [some (zr 42 0), some (zi v1), some (zi p4.1)], [zi p4.1], p5)) rfl ?_
        cases h
        exact zG_ri hm rfl rfl
      · rw [if_neg c6] at h
        refine zG_br hm rfl (cf' := (21, [some (zr 42 0), some (zi v1), none], [], p1.2)) (if_neg c6) ?_
        refine zG_run hm 1 (cf' := (22, [some (zr 42 0), some (zi v1), none], [zi (-1)], p1.2)) rfl ?_
        cases h
        exact zG_ri hm rfl rfl
    · rw [if_neg c7] at h
      cases h
theorem met_X11_send {v1 : Int} {M : zM} {q : Int × zM} {d : Nat} (hd : 6 ≤ d) (h : f_X11_send v1 M = some q) : zMet 188 d [zr 42 0, zi v1] M (some (zi q.1)) q.2 :=
  zMet_of (lv0 := [some (zr 42 0), some (zi v1), none]) zmok_188 rfl rfl (fun v hv => by cases hv; trivial) (g_X11_send hd h)
def f_X0_canHand (n0 : Nat) (v1 : Int) (v2 : Int) (M : zM) : Option (Int × zM) :=
  (f_X0_hasThing n0 v1 M).bind fun p1 =>
    if zw p1.1 = 0 then
      some (0, p1.2)
    else
      (f_X0_hasOwner n0 v2 p1.2).bind fun p2 =>
        if zw p2.1 = 0 then
          some (0, p2.2)
        else
          if 0 ≤ zw v1 ∧ zw v1 < 8 then
            if zw (p2.2 16 ((zix v1) + 8 * n0) 4) = (-1) then
              some (0, p2.2)
            else
              if 0 ≤ zw v1 ∧ zw v1 < 8 then
                if zw (p2.2 16 ((zix v1) + 8 * n0) 4) = zw v2 then
                  some (0, p2.2)
                else
                  some (1, p2.2)
              else
                none
          else
            none
theorem g_X0_canHand {n0 : Nat} {v1 : Int} {v2 : Int} {M : zM} {q : Int × zM} {d : Nat} (hd : 1 ≤ d) (h : f_X0_canHand n0 v1 v2 M = some q) : zG 7 d (0, [some (zr 11 n0), some (zi v1), some (zi v2)], [], M) (some (zi q.1)) q.2 := by
  have hm := zmok_7
  unfold f_X0_canHand at h
  refine zG_run hm 2 (cf' := (2, [some (zr 11 n0), some (zi v1), some (zi v2)], [zi v1, zr 11 n0], M)) rfl ?_
  obtain ⟨p1, hp1, h⟩ := Option.bind_eq_some_iff.mp h
  refine zG_V hm zmok_4 rfl (as := [zi v1]) (rest := []) (st2 := [zi p1.1]) (pc2 := 5) rfl rfl (by omega) (met_X0_hasThing (d := 0) (Nat.le_refl _) hp1) rfl ?_
  by_cases c8 : zw p1.1 = 0
  · rw [if_pos c8] at h
    refine zG_br hm rfl (cf' := (46, [some (zr 11 n0), some (zi v1), some (zi v2)], [], p1.2)) (if_pos c8) ?_
    refine zG_run hm 1 (cf' := (47, [some (zr 11 n0), some (zi v1), some (zi v2)], [zi 0], p1.2)) rfl ?_
    cases h
    exact zG_rz hm rfl rfl (Or.inl rfl)
  · rw [if_neg c8] at h
    refine zG_br hm rfl (cf' := (8, [some (zr 11 n0), some (zi v1), some (zi v2)], [], p1.2)) (if_neg c8) ?_
    refine zG_run hm 2 (cf' := (10, [some (zr 11 n0), some (zi v1), some (zi v2)], [zi v2, zr 11 n0], p1.2)) rfl ?_
    obtain ⟨p2, hp2, h⟩ := Option.bind_eq_some_iff.mp h
    refine zG_V hm zmok_3 rfl (as := [zi v2]) (rest := []) (st2 := [zi p2.1]) (pc2 := 13) rfl rfl (by omega) (met_X0_hasOwner (d := 0) (Nat.le_refl _) hp2) rfl ?_
    by_cases c7 : zw p2.1 = 0
    · rw [if_pos c7] at h
      refine zG_br hm rfl (cf' := (46, [some (zr 11 n0), some (zi v1), some (zi v2)], [], p2.2)) (if_pos c7) ?_
      refine zG_run hm 1 (cf' := (47, [some (zr 11 n0), some (zi v1), some (zi v2)], [zi 0], p2.2)) rfl ?_
      cases h
      exact zG_rz hm rfl rfl (Or.inl rfl)
    · rw [if_neg c7] at h
      refine zG_br hm rfl (cf' := (16, [some (zr 11 n0), some (zi v1), some (zi v2)], [], p2.2)) (if_neg c7) ?_
      refine zG_run hm 3 (cf' := (21, [some (zr 11 n0), some (zi v1), some (zi v2)], [zi v1, zr 14 n0], p2.2)) rfl ?_
      by_cases c6 : 0 ≤ zw v1 ∧ zw v1 < 8
      · rw [if_pos c6] at h
        refine zG_br hm rfl (cf' := (22, [some (zr 11 n0), some (zi v1), some (zi v2)], [zr 16 ((zix v1) + 8 * n0)], p2.2)) (if_pos c6) ?_
        refine zG_run hm 2 (cf' := (26, [some (zr 11 n0), some (zi v1), some (zi v2)], [zi (-1), zi (p2.2 16 ((zix v1) + 8 * n0) 4)], p2.2)) rfl ?_
        by_cases c5 : zw (p2.2 16 ((zix v1) + 8 * n0) 4) = (-1)
        · rw [if_pos c5] at h
          refine zG_br hm rfl (cf' := (46, [some (zr 11 n0), some (zi v1), some (zi v2)], [], p2.2)) (if_pos c5) ?_
          refine zG_run hm 1 (cf' := (47, [some (zr 11 n0), some (zi v1), some (zi v2)], [zi 0], p2.2)) rfl ?_
          cases h
          exact zG_rz hm rfl rfl (Or.inl rfl)
        · rw [if_neg c5] at h
          refine zG_br hm rfl (cf' := (29, [some (zr 11 n0), some (zi v1), some (zi v2)], [], p2.2)) (if_neg c5) ?_
          refine zG_run hm 3 (cf' := (34, [some (zr 11 n0), some (zi v1), some (zi v2)], [zi v1, zr 14 n0], p2.2)) rfl ?_
          by_cases c4 : 0 ≤ zw v1 ∧ zw v1 < 8
          · rw [if_pos c4] at h
            refine zG_br hm rfl (cf' := (35, [some (zr 11 n0), some (zi v1), some (zi v2)], [zr 16 ((zix v1) + 8 * n0)], p2.2)) (if_pos c4) ?_
            refine zG_run hm 2 (cf' := (39, [some (zr 11 n0), some (zi v1), some (zi v2)], [zi v2, zi (p2.2 16 ((zix v1) + 8 * n0) 4)], p2.2)) rfl ?_
            by_cases c3 : zw (p2.2 16 ((zix v1) + 8 * n0) 4) = zw v2
            · rw [if_pos c3] at h
              refine zG_br hm rfl (cf' := (46, [some (zr 11 n0), some (zi v1), some (zi v2)], [], p2.2)) (if_pos c3) ?_
              refine zG_run hm 1 (cf' := (47, [some (zr 11 n0), some (zi v1), some (zi v2)], [zi 0], p2.2)) rfl ?_
              cases h
              exact zG_rz hm rfl rfl (Or.inl rfl)
            · rw [if_neg c3] at h
              refine zG_br hm rfl (cf' := (42, [some (zr 11 n0), some (zi v1), some (zi v2)], [], p2.2)) (if_neg c3) ?_
              refine zG_run hm 2 (cf' := (47, [some (zr 11 n0), some (zi v1), some (zi v2)], [zi 1], p2.2)) rfl ?_
              cases h
              exact zG_rz hm rfl rfl (Or.inr rfl)
          · rw [if_neg c4] at h
            cases h
      · rw [if_neg c6] at h
        cases h
theorem met_X0_canHand {n0 : Nat} {v1 : Int} {v2 : Int} {M : zM} {q : Int × zM} {d : Nat} (hd : 1 ≤ d) (h : f_X0_canHand n0 v1 v2 M = some q) : zMet 7 d [zr 11 n0, zi v1, zi v2] M (some (zi q.1)) q.2 :=
  zMet_of (lv0 := [some (zr 11 n0), some (zi v1), some (zi v2)]) zmok_7 rfl rfl (fun v hv => by cases hv; trivial) (g_X0_canHand hd h)
def f_X10_give (v1 : Int) (v2 : Int) (M : zM) : Option (Int × zM) :=
  (f_X0_canHand 0 v1 v2 M).bind fun p1 =>
    if ¬ zw p1.1 = 0 then
      (f_X5_keep 0 0 p1.2).bind fun p2 =>
        if 0 ≤ zw v1 ∧ zw v1 < 8 then
          zlet (zput p2 16 (zix v1) 4 v2) fun M3 =>
          some (1, M3)
        else
          none
    else
      some (0, p1.2)
theorem g_X10_give {v1 : Int} {v2 : Int} {M : zM} {q : Int × zM} {d : Nat} (hd : 2 ≤ d) (h : f_X10_give v1 v2 M = some q) : zG 71 d (0, [some (zr 0 0), some (zi v1), some (zi v2)], [], M) (some (zi q.1)) q.2 := by
  have hm := zmok_71
  unfold f_X10_give at h
  refine zG_run hm 4 (cf' := (6, [some (zr 0 0), some (zi v1), some (zi v2)], [zi v2, zi v1, zr 11 0], M)) rfl ?_
  obtain ⟨p1, hp1, h⟩ := Option.bind_eq_some_iff.mp h
  refine zG_V hm zmok_7 rfl (as := [zi v1, zi v2]) (rest := []) (st2 := [zi p1.1]) (pc2 := 9) rfl rfl (by omega) (met_X0_canHand (d := 1) (Nat.le_refl _) hp1) rfl ?_
  by_cases c5 : ¬ zw p1.1 = 0
  · rw [if_pos c5] at h
    refine zG_br hm rfl (cf' := (14, [some (zr 0 0), some (zi v1), some (zi v2)], [], p1.2)) (if_pos c5) ?_
    refine zG_run hm 4 (cf' := (22, [some (zr 0 0), some (zi v1), some (zi v2)], [zr 11 0, zr 20 0], p1.2)) rfl ?_
    obtain ⟨p2, hp2, h⟩ := Option.bind_eq_some_iff.mp h
    refine zG_V hm zmok_50 rfl (as := [zr 11 0]) (rest := []) (st2 := []) (pc2 := 25) rfl rfl (by omega) (met_X5_keep (d := 1) (Nat.le_refl _) hp2) rfl ?_
    refine zG_run hm 4 (cf' := (33, [some (zr 0 0), some (zi v1), some (zi v2)], [zi v1, zr 14 0], p2)) rfl ?_
    by_cases c4 : 0 ≤ zw v1 ∧ zw v1 < 8
    · rw [if_pos c4] at h
      refine zG_br hm rfl (cf' := (34, [some (zr 0 0), some (zi v1), some (zi v2)], [zr 16 (zix v1)], p2)) (if_pos c4) ?_
      refine zG_run hm 2 (cf' := (38, [some (zr 0 0), some (zi v1), some (zi v2)], [], (zput p2 16 (zix v1) 4 v2))) rfl ?_
      obtain ⟨M3, eM3, h⟩ := zlet_of h
      rw [eM3]
      refine zG_run hm 1 (cf' := (39, [some (zr 0 0), some (zi v1), some (zi v2)], [zi 1], M3)) rfl ?_
      cases h
      exact zG_rz hm rfl rfl (Or.inr rfl)
    · rw [if_neg c4] at h
      cases h
  · rw [if_neg c5] at h
    refine zG_br hm rfl (cf' := (12, [some (zr 0 0), some (zi v1), some (zi v2)], [], p1.2)) (if_neg c5) ?_
    refine zG_run hm 1 (cf' := (13, [some (zr 0 0), some (zi v1), some (zi v2)], [zi 0], p1.2)) rfl ?_
    cases h
    exact zG_rz hm rfl rfl (Or.inl rfl)
theorem met_X10_give {v1 : Int} {v2 : Int} {M : zM} {q : Int × zM} {d : Nat} (hd : 2 ≤ d) (h : f_X10_give v1 v2 M = some q) : zMet 71 d [zr 0 0, zi v1, zi v2] M (some (zi q.1)) q.2 :=
  zMet_of (lv0 := [some (zr 0 0), some (zi v1), some (zi v2)]) zmok_71 rfl rfl (fun v hv => by cases hv; trivial) (g_X10_give hd h)
def f_X11_give (v1 : Int) (v2 : Int) (M : zM) : Option (Int × zM) :=
  (f_X11_isThing v1 M).bind fun p1 =>
    if zw p1.1 = 0 then
      some (0, p1.2)
    else
      (f_X11_isOwner v2 p1.2).bind fun p2 =>
        if zw p2.1 = 0 then
          some (0, p2.2)
        else
          if 0 ≤ zw (104 + v1) ∧ zw (104 + v1) < 5090 then
            if zw (p2.2 43 0 (zix (104 + v1))) = (-1) then
              some (0, p2.2)
            else
              if 0 ≤ zw (104 + v1) ∧ zw (104 + v1) < 5090 then
                if ¬ zw (p2.2 43 0 (zix (104 + v1))) = zw v2 then
                  (f_X11_keepsStep  p2.2).bind fun p3 =>
                    if 0 ≤ zw (104 + v1) ∧ zw (104 + v1) < 5090 then
                      zlet (zput p3 43 0 (zix (104 + v1)) v2) fun M4 =>
                      some (1, M4)
                    else
                      none
                else
                  some (0, p2.2)
              else
                none
          else
            none
theorem g_X11_give {v1 : Int} {v2 : Int} {M : zM} {q : Int × zM} {d : Nat} (hd : 2 ≤ d) (h : f_X11_give v1 v2 M = some q) : zG 189 d (0, [some (zr 42 0), some (zi v1), some (zi v2)], [], M) (some (zi q.1)) q.2 := by
  have hm := zmok_189
  unfold f_X11_give at h
  refine zG_run hm 2 (cf' := (2, [some (zr 42 0), some (zi v1), some (zi v2)], [zi v1, zr 42 0], M)) rfl ?_
  obtain ⟨p1, hp1, h⟩ := Option.bind_eq_some_iff.mp h
  refine zG_V hm zmok_123 rfl (as := [zi v1]) (rest := []) (st2 := [zi p1.1]) (pc2 := 5) rfl rfl (by omega) (met_X11_isThing (d := 1) (Nat.le_refl _) hp1) rfl ?_
  by_cases c11 : zw p1.1 = 0
  · rw [if_pos c11] at h
    refine zG_br hm rfl (cf' := (42, [some (zr 42 0), some (zi v1), some (zi v2)], [], p1.2)) (if_pos c11) ?_
    refine zG_run hm 1 (cf' := (43, [some (zr 42 0), some (zi v1), some (zi v2)], [zi 0], p1.2)) rfl ?_
    cases h
    exact zG_rz hm rfl rfl (Or.inl rfl)
  · rw [if_neg c11] at h
    refine zG_br hm rfl (cf' := (8, [some (zr 42 0), some (zi v1), some (zi v2)], [], p1.2)) (if_neg c11) ?_
    refine zG_run hm 2 (cf' := (10, [some (zr 42 0), some (zi v1), some (zi v2)], [zi v2, zr 42 0], p1.2)) rfl ?_
    obtain ⟨p2, hp2, h⟩ := Option.bind_eq_some_iff.mp h
    refine zG_V hm zmok_122 rfl (as := [zi v2]) (rest := []) (st2 := [zi p2.1]) (pc2 := 13) rfl rfl (by omega) (met_X11_isOwner (d := 1) (Nat.le_refl _) hp2) rfl ?_
    by_cases c10 : zw p2.1 = 0
    · rw [if_pos c10] at h
      refine zG_br hm rfl (cf' := (42, [some (zr 42 0), some (zi v1), some (zi v2)], [], p2.2)) (if_pos c10) ?_
      refine zG_run hm 1 (cf' := (43, [some (zr 42 0), some (zi v1), some (zi v2)], [zi 0], p2.2)) rfl ?_
      cases h
      exact zG_rz hm rfl rfl (Or.inl rfl)
    · rw [if_neg c10] at h
      refine zG_br hm rfl (cf' := (16, [some (zr 42 0), some (zi v1), some (zi v2)], [], p2.2)) (if_neg c10) ?_
      refine zG_run hm 5 (cf' := (24, [some (zr 42 0), some (zi v1), some (zi v2)], [zi (104 + v1), zr 43 0], p2.2)) rfl ?_
      by_cases c9 : 0 ≤ zw (104 + v1) ∧ zw (104 + v1) < 5090
      · rw [if_pos c9] at h
        refine zG_br hm rfl (cf' := (25, [some (zr 42 0), some (zi v1), some (zi v2)], [zi (p2.2 43 0 (zix (104 + v1)))], p2.2)) (if_pos c9) ?_
        refine zG_run hm 1 (cf' := (26, [some (zr 42 0), some (zi v1), some (zi v2)], [zi (-1), zi (p2.2 43 0 (zix (104 + v1)))], p2.2)) rfl ?_
        by_cases c8 : zw (p2.2 43 0 (zix (104 + v1))) = (-1)
        · rw [if_pos c8] at h
          refine zG_br hm rfl (cf' := (42, [some (zr 42 0), some (zi v1), some (zi v2)], [], p2.2)) (if_pos c8) ?_
          refine zG_run hm 1 (cf' := (43, [some (zr 42 0), some (zi v1), some (zi v2)], [zi 0], p2.2)) rfl ?_
          cases h
          exact zG_rz hm rfl rfl (Or.inl rfl)
        · rw [if_neg c8] at h
          refine zG_br hm rfl (cf' := (29, [some (zr 42 0), some (zi v1), some (zi v2)], [], p2.2)) (if_neg c8) ?_
          refine zG_run hm 5 (cf' := (37, [some (zr 42 0), some (zi v1), some (zi v2)], [zi (104 + v1), zr 43 0], p2.2)) rfl ?_
          by_cases c7 : 0 ≤ zw (104 + v1) ∧ zw (104 + v1) < 5090
          · rw [if_pos c7] at h
            refine zG_br hm rfl (cf' := (38, [some (zr 42 0), some (zi v1), some (zi v2)], [zi (p2.2 43 0 (zix (104 + v1)))], p2.2)) (if_pos c7) ?_
            refine zG_run hm 1 (cf' := (39, [some (zr 42 0), some (zi v1), some (zi v2)], [zi v2, zi (p2.2 43 0 (zix (104 + v1)))], p2.2)) rfl ?_
            by_cases c6 : ¬ zw (p2.2 43 0 (zix (104 + v1))) = zw v2
            · rw [if_pos c6] at h
              refine zG_br hm rfl (cf' := (44, [some (zr 42 0), some (zi v1), some (zi v2)], [], p2.2)) (if_pos c6) ?_
              refine zG_run hm 1 (cf' := (45, [some (zr 42 0), some (zi v1), some (zi v2)], [zr 42 0], p2.2)) rfl ?_
              obtain ⟨p3, hp3, h⟩ := Option.bind_eq_some_iff.mp h
              refine zG_V hm zmok_128 rfl (as := []) (rest := []) (st2 := []) (pc2 := 48) rfl rfl (by omega) (met_X11_keepsStep (d := 0) (Nat.le_refl _) hp3) rfl ?_
              refine zG_run hm 6 (cf' := (57, [some (zr 42 0), some (zi v1), some (zi v2)], [zi v2, zi (104 + v1), zr 43 0], p3)) rfl ?_
              by_cases c5 : 0 ≤ zw (104 + v1) ∧ zw (104 + v1) < 5090
              · rw [if_pos c5] at h
                refine zG_br hm rfl (cf' := (58, [some (zr 42 0), some (zi v1), some (zi v2)], [], (zput p3 43 0 (zix (104 + v1)) v2))) (if_pos c5) ?_
                obtain ⟨M4, eM4, h⟩ := zlet_of h
                rw [eM4]
                refine zG_run hm 1 (cf' := (59, [some (zr 42 0), some (zi v1), some (zi v2)], [zi 1], M4)) rfl ?_
                cases h
                exact zG_rz hm rfl rfl (Or.inr rfl)
              · rw [if_neg c5] at h
                cases h
            · rw [if_neg c6] at h
              refine zG_br hm rfl (cf' := (42, [some (zr 42 0), some (zi v1), some (zi v2)], [], p2.2)) (if_neg c6) ?_
              refine zG_run hm 1 (cf' := (43, [some (zr 42 0), some (zi v1), some (zi v2)], [zi 0], p2.2)) rfl ?_
              cases h
              exact zG_rz hm rfl rfl (Or.inl rfl)
          · rw [if_neg c7] at h
            cases h
      · rw [if_neg c9] at h
        cases h
theorem met_X11_give {v1 : Int} {v2 : Int} {M : zM} {q : Int × zM} {d : Nat} (hd : 2 ≤ d) (h : f_X11_give v1 v2 M = some q) : zMet 189 d [zr 42 0, zi v1, zi v2] M (some (zi q.1)) q.2 :=
  zMet_of (lv0 := [some (zr 42 0), some (zi v1), some (zi v2)]) zmok_189 rfl rfl (fun v hv => by cases hv; trivial) (g_X11_give hd h)
def f_X0_grow (n0 : Nat) (v1 : Int) (M : zM) : Option (zM) :=
  if 0 ≤ zw v1 ∧ zw v1 < 8 then
    (f_X0_lawOf n0 v1 0 (-1) M).bind fun p1 =>
      (f_X10_between ((M 16 ((zix v1) + 8 * n0) 3) + p1.1) 0 99 p1.2).bind fun p2 =>
        zlet (zput p2.2 16 ((zix v1) + 8 * n0) 3 p2.1) fun M3 =>
        some M3
  else
    none
theorem g_X0_grow {n0 : Nat} {v1 : Int} {M : zM} {q : zM} {d : Nat} (hd : 3 ≤ d) (h : f_X0_grow n0 v1 M = some q) : zG 15 d (0, [some (zr 11 n0), some (zi v1), none], [], M) none q := by
  have hm := zmok_15
  unfold f_X0_grow at h
  refine zG_run hm 3 (cf' := (5, [some (zr 11 n0), some (zi v1), none], [zi v1, zr 14 n0], M)) rfl ?_
  by_cases c4 : 0 ≤ zw v1 ∧ zw v1 < 8
  · rw [if_pos c4] at h
    refine zG_br hm rfl (cf' := (6, [some (zr 11 n0), some (zi v1), none], [zr 16 ((zix v1) + 8 * n0)], M)) (if_pos c4) ?_
    refine zG_run hm 8 (cf' := (16, [some (zr 11 n0), some (zi v1), some (zr 16 ((zix v1) + 8 * n0))], [zi (-1), zi 0, zi v1, zr 11 n0, zi (M 16 ((zix v1) + 8 * n0) 3), zr 16 ((zix v1) + 8 * n0)], M)) rfl ?_
    obtain ⟨p1, hp1, h⟩ := Option.bind_eq_some_iff.mp h
    refine zG_V hm zmok_16 rfl (as := [zi v1, zi 0, zi (-1)]) (rest := [zi (M 16 ((zix v1) + 8 * n0) 3), zr 16 ((zix v1) + 8 * n0)]) (st2 := [zi p1.1, zi (M 16 ((zix v1) + 8 * n0) 3), zr 16 ((zix v1) + 8 * n0)]) (pc2 := 19) rfl rfl (by omega) (met_X0_lawOf (d := 2) (Nat.le_refl _) hp1) rfl ?_
    refine zG_run hm 3 (cf' := (23, [some (zr 11 n0), some (zi v1), some (zr 16 ((zix v1) + 8 * n0))], [zi 99, zi 0, zi ((M 16 ((zix v1) + 8 * n0) 3) + p1.1), zr 16 ((zix v1) + 8 * n0)], p1.2)) rfl ?_
    obtain ⟨p2, hp2, h⟩ := Option.bind_eq_some_iff.mp h
    refine zG_S hm zmok_109 rfl (as := [zi ((M 16 ((zix v1) + 8 * n0) 3) + p1.1), zi 0, zi 99]) (rest := [zr 16 ((zix v1) + 8 * n0)]) (st2 := [zi p2.1, zr 16 ((zix v1) + 8 * n0)]) (pc2 := 26) rfl rfl (by omega) (met_X10_between (d := 0) (Nat.le_refl _) hp2) rfl ?_
    refine zG_run hm 1 (cf' := (29, [some (zr 11 n0), some (zi v1), some (zr 16 ((zix v1) + 8 * n0))], [], (zput p2.2 16 ((zix v1) + 8 * n0) 3 p2.1))) rfl ?_
    obtain ⟨M3, eM3, h⟩ := zlet_of h
    rw [eM3]
    cases h
    exact zG_rv hm rfl rfl
  · rw [if_neg c4] at h
    cases h
theorem met_X0_grow {n0 : Nat} {v1 : Int} {M : zM} {q : zM} {d : Nat} (hd : 3 ≤ d) (h : f_X0_grow n0 v1 M = some q) : zMet 15 d [zr 11 n0, zi v1] M none q :=
  zMet_of (lv0 := [some (zr 11 n0), some (zi v1), none]) zmok_15 rfl rfl (fun v hv => by cases hv) (g_X0_grow hd h)
def f_X0_passOne_j68 (n0 : Nat) (v1 : Int) (v2 : Int) (M : zM) : Option ((Int × Int × zM) ⊕ (Int × zM)) :=
  some (.inl (v1, (v2 + 1), M))
theorem g_X0_passOne_j68 {n0 : Nat} {v1 : Int} {v2 : Int} {M : zM} {x : (Int × Int × zM) ⊕ (Int × zM)} {r : Option zV} {Mf : zM} {d : Nat} (hd : 4 ≤ d) (h : f_X0_passOne_j68 n0 v1 v2 M = some x)
    (kc : ∀ s, x = .inl s → zG 14 d (14, [some (zr 11 n0), some (zi s.1), some (zi s.2.1)], [], s.2.2) r Mf)
    (kb : ∀ t, x = .inr t → zG 14 d (74, [none, some (zi t.1), none], [], t.2) r Mf) (kr : True) : zG 14 d (68, [some (zr 11 n0), some (zi v1), some (zi v2)], [], M) r Mf := by
  have hm := zmok_14
  unfold f_X0_passOne_j68 at h
  refine zG_run hm 2 (cf' := (14, [some (zr 11 n0), some (zi v1), some (zi (v2 + 1))], [], M)) rfl ?_
  refine zG_sub (lv' := [some (zr 11 n0), some (zi v1), some (zi (v2 + 1))]) (zsb_s rfl (zsb_s rfl (zsb_s rfl zsb_0))) ?_
  exact kc (v1, (v2 + 1), M) (Option.some.inj h).symm
def f_X0_passOne_L14 (n0 : Nat) (v1 : Int) (v2 : Int) (M : zM) : Option ((Int × Int × zM) ⊕ (Int × zM)) :=
  if zw (M 11 n0 7) ≤ zw v2 then
    some (.inr (v1, M))
  else
    (f_X0_isKept n0 v2 M).bind fun p2 =>
      if zw p2.1 = 0 then
        f_X0_passOne_j68 n0 v1 v2 p2.2
      else
        (f_X0_grow n0 v2 p2.2).bind fun p3 =>
          if 0 ≤ zw v2 ∧ zw v2 < 8 then
            (f_X0_lawOf n0 v2 1 (-1) p3).bind fun p4 =>
              if zw ((p3 11 n0 10) - (p3 16 ((zix v2) + 8 * n0) 5)) < zw p4.1 then
                f_X0_passOne_j68 n0 v1 v2 p4.2
              else
                (f_X0_comeBack n0 v2 p4.2).bind fun p5 =>
                  f_X0_passOne_j68 n0 (v1 + 1) v2 p5.2
          else
            none
theorem g_X0_passOne_L14 {n0 : Nat} {v1 : Int} {v2 : Int} {M : zM} {x : (Int × Int × zM) ⊕ (Int × zM)} {r : Option zV} {Mf : zM} {d : Nat} (hd : 4 ≤ d) (h : f_X0_passOne_L14 n0 v1 v2 M = some x)
    (kc : ∀ s, x = .inl s → zG 14 d (14, [some (zr 11 n0), some (zi s.1), some (zi s.2.1)], [], s.2.2) r Mf)
    (kb : ∀ t, x = .inr t → zG 14 d (74, [none, some (zi t.1), none], [], t.2) r Mf) (kr : True) : zG 14 d (14, [some (zr 11 n0), some (zi v1), some (zi v2)], [], M) r Mf := by
  have hm := zmok_14
  unfold f_X0_passOne_L14 at h
  refine zG_run hm 3 (cf' := (19, [some (zr 11 n0), some (zi v1), some (zi v2)], [zi (M 11 n0 7), zi v2], M)) rfl ?_
  by_cases c9 : zw (M 11 n0 7) ≤ zw v2
  · rw [if_pos c9] at h
    refine zG_br hm rfl (cf' := (74, [some (zr 11 n0), some (zi v1), some (zi v2)], [], M)) (if_pos c9) ?_
    refine zG_sub (lv' := [none, some (zi v1), none]) (zsb_n (zsb_s rfl (zsb_n zsb_0))) ?_
    exact kb (v1, M) (Option.some.inj h).symm
  · rw [if_neg c9] at h
    refine zG_br hm rfl (cf' := (22, [some (zr 11 n0), some (zi v1), some (zi v2)], [], M)) (if_neg c9) ?_
    refine zG_run hm 2 (cf' := (24, [some (zr 11 n0), some (zi v1), some (zi v2)], [zi v2, zr 11 n0], M)) rfl ?_
    obtain ⟨p2, hp2, h⟩ := Option.bind_eq_some_iff.mp h
    refine zG_V hm zmok_5 rfl (as := [zi v2]) (rest := []) (st2 := [zi p2.1]) (pc2 := 27) rfl rfl (by omega) (met_X0_isKept (d := 1) (Nat.le_refl _) hp2) rfl ?_
    by_cases c8 : zw p2.1 = 0
    · rw [if_pos c8] at h
      refine zG_br hm rfl (cf' := (68, [some (zr 11 n0), some (zi v1), some (zi v2)], [], p2.2)) (if_pos c8) ?_
      refine zG_sub (lv' := [some (zr 11 n0), some (zi v1), some (zi v2)]) (zsb_s rfl (zsb_s rfl (zsb_s rfl zsb_0))) ?_
      exact g_X0_passOne_j68 hd h kc kb kr
    · rw [if_neg c8] at h
      refine zG_br hm rfl (cf' := (30, [some (zr 11 n0), some (zi v1), some (zi v2)], [], p2.2)) (if_neg c8) ?_
      refine zG_run hm 2 (cf' := (32, [some (zr 11 n0), some (zi v1), some (zi v2)], [zi v2, zr 11 n0], p2.2)) rfl ?_
      obtain ⟨p3, hp3, h⟩ := Option.bind_eq_some_iff.mp h
      refine zG_V hm zmok_15 rfl (as := [zi v2]) (rest := []) (st2 := []) (pc2 := 35) rfl rfl (by omega) (met_X0_grow (d := 3) (Nat.le_refl _) hp3) rfl ?_
      refine zG_run hm 5 (cf' := (44, [some (zr 11 n0), some (zi v1), some (zi v2)], [zi v2, zr 14 n0, zi (p3 11 n0 10)], p3)) rfl ?_
      by_cases c7 : 0 ≤ zw v2 ∧ zw v2 < 8
      · rw [if_pos c7] at h
        refine zG_br hm rfl (cf' := (45, [some (zr 11 n0), some (zi v1), some (zi v2)], [zr 16 ((zix v2) + 8 * n0), zi (p3 11 n0 10)], p3)) (if_pos c7) ?_
        refine zG_run hm 6 (cf' := (53, [some (zr 11 n0), some (zi v1), some (zi v2)], [zi (-1), zi 1, zi v2, zr 11 n0, zi ((p3 11 n0 10) - (p3 16 ((zix v2) + 8 * n0) 5))], p3)) rfl ?_
        obtain ⟨p4, hp4, h⟩ := Option.bind_eq_some_iff.mp h
        refine zG_V hm zmok_16 rfl (as := [zi v2, zi 1, zi (-1)]) (rest := [zi ((p3 11 n0 10) - (p3 16 ((zix v2) + 8 * n0) 5))]) (st2 := [zi p4.1, zi ((p3 11 n0 10) - (p3 16 ((zix v2) + 8 * n0) 5))]) (pc2 := 56) rfl rfl (by omega) (met_X0_lawOf (d := 2) (Nat.le_refl _) hp4) rfl ?_
        by_cases c6 : zw ((p3 11 n0 10) - (p3 16 ((zix v2) + 8 * n0) 5)) < zw p4.1
        · rw [if_pos c6] at h
          refine zG_br hm rfl (cf' := (68, [some (zr 11 n0), some (zi v1), some (zi v2)], [], p4.2)) (if_pos c6) ?_
          refine zG_sub (lv' := [some (zr 11 n0), some (zi v1), some (zi v2)]) (zsb_s rfl (zsb_s rfl (zsb_s rfl zsb_0))) ?_
          exact g_X0_passOne_j68 hd h kc kb kr
        · rw [if_neg c6] at h
          refine zG_br hm rfl (cf' := (59, [some (zr 11 n0), some (zi v1), some (zi v2)], [], p4.2)) (if_neg c6) ?_
          refine zG_run hm 2 (cf' := (61, [some (zr 11 n0), some (zi v1), some (zi v2)], [zi v2, zr 11 n0], p4.2)) rfl ?_
          obtain ⟨p5, hp5, h⟩ := Option.bind_eq_some_iff.mp h
          refine zG_V hm zmok_13 rfl (as := [zi v2]) (rest := []) (st2 := [zi p5.1]) (pc2 := 64) rfl rfl (by omega) (met_X0_comeBack (d := 3) (Nat.le_refl _) hp5) rfl ?_
          refine zG_run hm 2 (cf' := (68, [some (zr 11 n0), some (zi (v1 + 1)), some (zi v2)], [], p5.2)) rfl ?_
          refine zG_sub (lv' := [some (zr 11 n0), some (zi (v1 + 1)), some (zi v2)]) (zsb_s rfl (zsb_s rfl (zsb_s rfl zsb_0))) ?_
          exact g_X0_passOne_j68 hd h kc kb kr
      · rw [if_neg c7] at h
        cases h
theorem gl_X0_passOne_L14 {n0 : Nat} {y : Int × zM} {r : Option zV} {Mf : zM} {d : Nat} (hd : 4 ≤ d)
    (kb : ∀ t, y = t → zG 14 d (74, [none, some (zi t.1), none], [], t.2) r Mf) (kr : True) : ∀ (n : Nat) (s : Int × Int × zM), zlp (fun s : Int × Int × zM => f_X0_passOne_L14 n0 s.1 s.2.1 s.2.2) n s = some y → zG 14 d (14, [some (zr 11 n0), some (zi s.1), some (zi s.2.1)], [], s.2.2) r Mf := by
  intro n
  induction n with
  | zero => intro s h; cases h
  | succ n ih =>
    intro s h
    rcases zlp_cases h with ⟨s', h1, h2⟩ | h1
    · exact g_X0_passOne_L14 hd h1 (fun s2 e2 => by cases e2; exact ih _ h2) (fun t e2 => by cases e2) trivial
    · exact g_X0_passOne_L14 hd h1 (fun s2 e2 => by cases e2) (fun t e2 => kb t (Sum.inr.inj e2)) trivial
def f_X0_passOne (n0 : Nat) (M : zM) : Option (Int × zM) :=
  zlet (zput M 11 n0 10 ((M 11 n0 10) + 1)) fun M1 =>
  (zlp (fun s : Int × Int × zM => f_X0_passOne_L14 n0 s.1 s.2.1 s.2.2) zF (0, 0, M1)).bind fun y10 =>
    some (y10.1, y10.2)
theorem g_X0_passOne {n0 : Nat} {M : zM} {q : Int × zM} {d : Nat} (hd : 4 ≤ d) (h : f_X0_passOne n0 M = some q) : zG 14 d (0, [some (zr 11 n0), none, none], [], M) (some (zi q.1)) q.2 := by
  have hm := zmok_14
  unfold f_X0_passOne at h
  refine zG_run hm 8 (cf' := (12, [some (zr 11 n0), some (zi 0), none], [], (zput M 11 n0 10 ((M 11 n0 10) + 1)))) rfl ?_
  obtain ⟨M1, eM1, h⟩ := zlet_of h
  rw [eM1]
  refine zG_run hm 2 (cf' := (14, [some (zr 11 n0), some (zi 0), some (zi 0)], [], M1)) rfl ?_
  refine zG_sub (lv' := [some (zr 11 n0), some (zi 0), some (zi 0)]) (zsb_s rfl (zsb_s rfl (zsb_s rfl zsb_0))) ?_
  obtain ⟨y10, hy10, h⟩ := Option.bind_eq_some_iff.mp h
  refine gl_X0_passOne_L14 hd (fun t e2 => ?_) trivial zF (0, 0, M1) hy10
  cases e2
  refine zG_run hm 1 (cf' := (75, [none, some (zi y10.1), none], [zi y10.1], y10.2)) rfl ?_
  cases h
  exact zG_ri hm rfl rfl
theorem met_X0_passOne {n0 : Nat} {M : zM} {q : Int × zM} {d : Nat} (hd : 4 ≤ d) (h : f_X0_passOne n0 M = some q) : zMet 14 d [zr 11 n0] M (some (zi q.1)) q.2 :=
  zMet_of (lv0 := [some (zr 11 n0), none, none]) zmok_14 rfl rfl (fun v hv => by cases hv; trivial) (g_X0_passOne hd h)
def f_X10_day_L31 (v1 : Int) (v2 : Int) (v3 : Int) (M : zM) : Option ((Int × Int × zM) ⊕ (Int × zM)) :=
  if zw v1 ≤ zw v3 then
    some (.inr (v2, M))
  else
    (f_X5_keep 0 0 M).bind fun p2 =>
      (f_X0_passOne 0 p2).bind fun p3 =>
        some (.inl ((v2 + p3.1), (v3 + 1), p3.2))
theorem g_X10_day_L31 {v1 : Int} {v2 : Int} {v3 : Int} {M : zM} {x : (Int × Int × zM) ⊕ (Int × zM)} {r : Option zV} {Mf : zM} {d : Nat} (hd : 5 ≤ d) (h : f_X10_day_L31 v1 v2 v3 M = some x)
    (kc : ∀ s, x = .inl s → zG 72 d (31, [some (zr 0 0), some (zi v1), some (zi s.1), some (zi s.2.1)], [], s.2.2) r Mf)
    (kb : ∀ t, x = .inr t → zG 72 d (63, [none, none, some (zi t.1), none], [], t.2) r Mf) (kr : True) : zG 72 d (31, [some (zr 0 0), some (zi v1), some (zi v2), some (zi v3)], [], M) r Mf := by
  have hm := zmok_72
  unfold f_X10_day_L31 at h
  refine zG_run hm 2 (cf' := (33, [some (zr 0 0), some (zi v1), some (zi v2), some (zi v3)], [zi v1, zi v3], M)) rfl ?_
  by_cases c4 : zw v1 ≤ zw v3
  · rw [if_pos c4] at h
    refine zG_br hm rfl (cf' := (63, [some (zr 0 0), some (zi v1), some (zi v2), some (zi v3)], [], M)) (if_pos c4) ?_
    refine zG_sub (lv' := [none, none, some (zi v2), none]) (zsb_n (zsb_n (zsb_s rfl (zsb_n zsb_0)))) ?_
    exact kb (v2, M) (Option.some.inj h).symm
  · rw [if_neg c4] at h
    refine zG_br hm rfl (cf' := (36, [some (zr 0 0), some (zi v1), some (zi v2), some (zi v3)], [], M)) (if_neg c4) ?_
    refine zG_run hm 4 (cf' := (44, [some (zr 0 0), some (zi v1), some (zi v2), some (zi v3)], [zr 11 0, zr 20 0], M)) rfl ?_
    obtain ⟨p2, hp2, h⟩ := Option.bind_eq_some_iff.mp h
    refine zG_V hm zmok_50 rfl (as := [zr 11 0]) (rest := []) (st2 := []) (pc2 := 47) rfl rfl (by omega) (met_X5_keep (d := 1) (Nat.le_refl _) hp2) rfl ?_
    refine zG_run hm 3 (cf' := (52, [some (zr 0 0), some (zi v1), some (zi v2), some (zi v3)], [zr 11 0, zi v2], p2)) rfl ?_
    obtain ⟨p3, hp3, h⟩ := Option.bind_eq_some_iff.mp h
    refine zG_V hm zmok_14 rfl (as := []) (rest := [zi v2]) (st2 := [zi p3.1, zi v2]) (pc2 := 55) rfl rfl (by omega) (met_X0_passOne (d := 4) (Nat.le_refl _) hp3) rfl ?_
    refine zG_run hm 4 (cf' := (31, [some (zr 0 0), some (zi v1), some (zi (v2 + p3.1)), some (zi (v3 + 1))], [], p3.2)) rfl ?_
    refine zG_sub (lv' := [some (zr 0 0), some (zi v1), some (zi (v2 + p3.1)), some (zi (v3 + 1))]) (zsb_s rfl (zsb_s rfl (zsb_s rfl (zsb_s rfl zsb_0)))) ?_
    exact kc ((v2 + p3.1), (v3 + 1), p3.2) (Option.some.inj h).symm
theorem gl_X10_day_L31 {v1 : Int} {y : Int × zM} {r : Option zV} {Mf : zM} {d : Nat} (hd : 5 ≤ d)
    (kb : ∀ t, y = t → zG 72 d (63, [none, none, some (zi t.1), none], [], t.2) r Mf) (kr : True) : ∀ (n : Nat) (s : Int × Int × zM), zlp (fun s : Int × Int × zM => f_X10_day_L31 v1 s.1 s.2.1 s.2.2) n s = some y → zG 72 d (31, [some (zr 0 0), some (zi v1), some (zi s.1), some (zi s.2.1)], [], s.2.2) r Mf := by
  intro n
  induction n with
  | zero => intro s h; cases h
  | succ n ih =>
    intro s h
    rcases zlp_cases h with ⟨s', h1, h2⟩ | h1
    · exact g_X10_day_L31 hd h1 (fun s2 e2 => by cases e2; exact ih _ h2) (fun t e2 => by cases e2) trivial
    · exact g_X10_day_L31 hd h1 (fun s2 e2 => by cases e2) (fun t e2 => kb t (Sum.inr.inj e2)) trivial
def f_X10_day (v1 : Int) (M : zM) : Option (Int × zM) :=
  (f_X10_within v1 1 60 M).bind fun p1 =>
    if zw p1.1 = 0 then
      some ((-1), p1.2)
    else
      if zw v1 ≤ zw (9999 - (p1.2 11 0 10)) then
        (zlp (fun s : Int × Int × zM => f_X10_day_L31 v1 s.1 s.2.1 s.2.2) zF (0, 0, p1.2)).bind fun y5 =>
          some (y5.1, y5.2)
      else
        some ((-1), p1.2)
theorem g_X10_day {v1 : Int} {M : zM} {q : Int × zM} {d : Nat} (hd : 5 ≤ d) (h : f_X10_day v1 M = some q) : zG 72 d (0, [some (zr 0 0), some (zi v1), none, none], [], M) (some (zi q.1)) q.2 := by
  have hm := zmok_72
  unfold f_X10_day at h
  refine zG_run hm 3 (cf' := (4, [some (zr 0 0), some (zi v1), none, none], [zi 60, zi 1, zi v1], M)) rfl ?_
  obtain ⟨p1, hp1, h⟩ := Option.bind_eq_some_iff.mp h
  refine zG_S hm zmok_108 rfl (as := [zi v1, zi 1, zi 60]) (rest := []) (st2 := [zi p1.1]) (pc2 := 7) rfl rfl (by omega) (met_X10_within (d := 0) (Nat.le_refl _) hp1) rfl ?_
  by_cases c7 : zw p1.1 = 0
  · rw [if_pos c7] at h
    refine zG_br hm rfl (cf' := (25, [some (zr 0 0), some (zi v1), none, none], [], p1.2)) (if_pos c7) ?_
    refine zG_run hm 1 (cf' := (26, [some (zr 0 0), some (zi v1), none, none], [zi (-1)], p1.2)) rfl ?_
    cases h
    exact zG_ri hm rfl rfl
  · rw [if_neg c7] at h
    refine zG_br hm rfl (cf' := (10, [some (zr 0 0), some (zi v1), none, none], [], p1.2)) (if_neg c7) ?_
    refine zG_run hm 6 (cf' := (22, [some (zr 0 0), some (zi v1), none, none], [zi (9999 - (p1.2 11 0 10)), zi v1], p1.2)) rfl ?_
    by_cases c6 : zw v1 ≤ zw (9999 - (p1.2 11 0 10))
    · rw [if_pos c6] at h
      refine zG_br hm rfl (cf' := (27, [some (zr 0 0), some (zi v1), none, none], [], p1.2)) (if_pos c6) ?_
      refine zG_run hm 4 (cf' := (31, [some (zr 0 0), some (zi v1), some (zi 0), some (zi 0)], [], p1.2)) rfl ?_
      refine zG_sub (lv' := [some (zr 0 0), some (zi v1), some (zi 0), some (zi 0)]) (zsb_s rfl (zsb_s rfl (zsb_s rfl (zsb_s rfl zsb_0)))) ?_
      obtain ⟨y5, hy5, h⟩ := Option.bind_eq_some_iff.mp h
      refine gl_X10_day_L31 hd (fun t e2 => ?_) trivial zF (0, 0, p1.2) hy5
      cases e2
      refine zG_run hm 1 (cf' := (64, [none, none, some (zi y5.1), none], [zi y5.1], y5.2)) rfl ?_
      cases h
      exact zG_ri hm rfl rfl
    · rw [if_neg c6] at h
      refine zG_br hm rfl (cf' := (25, [some (zr 0 0), some (zi v1), none, none], [], p1.2)) (if_neg c6) ?_
      refine zG_run hm 1 (cf' := (26, [some (zr 0 0), some (zi v1), none, none], [zi (-1)], p1.2)) rfl ?_
      cases h
      exact zG_ri hm rfl rfl
theorem met_X10_day {v1 : Int} {M : zM} {q : Int × zM} {d : Nat} (hd : 5 ≤ d) (h : f_X10_day v1 M = some q) : zMet 72 d [zr 0 0, zi v1] M (some (zi q.1)) q.2 :=
  zMet_of (lv0 := [some (zr 0 0), some (zi v1), none, none]) zmok_72 rfl rfl (fun v hv => by cases hv; trivial) (g_X10_day hd h)
def f_X11_dearsOf (v1 : Int) (M : zM) : Option (Int × zM) :=
  (f_X11_ordersOf 0 M).bind fun p1 =>
    (f_X11_names v1 p1.2).bind fun p2 =>
      if ¬ zw p1.1 = (-1) then
        (f_X11_saysOf p1.1 p2).bind fun p3 =>
          (f_X11_held p3.1 (-99) 99 p3.2).bind fun p4 =>
            some (p4.1, p4.2)
      else
        some (1, p2)
theorem g_X11_dearsOf {v1 : Int} {M : zM} {q : Int × zM} {d : Nat} (hd : 3 ≤ d) (h : f_X11_dearsOf v1 M = some q) : zG 175 d (0, [some (zr 42 0), some (zi v1), none], [], M) (some (zi q.1)) q.2 := by
  have hm := zmok_175
  unfold f_X11_dearsOf at h
  refine zG_run hm 2 (cf' := (2, [some (zr 42 0), some (zi v1), none], [zi 0, zr 42 0], M)) rfl ?_
  obtain ⟨p1, hp1, h⟩ := Option.bind_eq_some_iff.mp h
  refine zG_V hm zmok_170 rfl (as := [zi 0]) (rest := []) (st2 := [zi p1.1]) (pc2 := 5) rfl rfl (by omega) (met_X11_ordersOf (d := 0) (Nat.le_refl _) hp1) rfl ?_
  refine zG_run hm 3 (cf' := (8, [some (zr 42 0), some (zi v1), some (zi p1.1)], [zi v1, zr 42 0], p1.2)) rfl ?_
  obtain ⟨p2, hp2, h⟩ := Option.bind_eq_some_iff.mp h
  refine zG_V hm zmok_174 rfl (as := [zi v1]) (rest := []) (st2 := []) (pc2 := 11) rfl rfl (by omega) (met_X11_names (d := 0) (Nat.le_refl _) hp2) rfl ?_
  refine zG_run hm 2 (cf' := (13, [some (zr 42 0), some (zi v1), some (zi p1.1)], [zi (-1), zi p1.1], p2)) rfl ?_
  by_cases c5 : ¬ zw p1.1 = (-1)
  · rw [if_pos c5] at h
    refine zG_br hm rfl (cf' := (20, [some (zr 42 0), some (zi v1), some (zi p1.1)], [], p2)) (if_pos c5) ?_
    refine zG_run hm 2 (cf' := (22, [some (zr 42 0), some (zi v1), some (zi p1.1)], [zi p1.1, zr 42 0], p2)) rfl ?_
    obtain ⟨p3, hp3, h⟩ := Option.bind_eq_some_iff.mp h
    refine zG_V hm zmok_168 rfl (as := [zi p1.1]) (rest := []) (st2 := [zl p3.1]) (pc2 := 25) rfl rfl (by omega) (met_X11_saysOf (d := 2) (Nat.le_refl _) hp3) rfl ?_
    refine zG_run hm 2 (cf' := (29, [some (zr 42 0), some (zi v1), some (zi p1.1)], [zi 99, zi (-99), zl p3.1], p3.2)) rfl ?_
    obtain ⟨p4, hp4, h⟩ := Option.bind_eq_some_iff.mp h
    refine zG_S hm zmok_120 rfl (as := [zl p3.1, zi (-99), zi 99]) (rest := []) (st2 := [zi p4.1]) (pc2 := 32) rfl rfl (by omega) (met_X11_held (d := 0) (Nat.le_refl _) hp4) rfl ?_
    cases h
    exact zG_ri hm rfl rfl
  · rw [if_neg c5] at h
    refine zG_br hm rfl (cf' := (16, [some (zr 42 0), some (zi v1), some (zi p1.1)], [], p2)) (if_neg c5) ?_
    refine zG_run hm 2 (cf' := (32, [some (zr 42 0), some (zi v1), some (zi p1.1)], [zi 1], p2)) rfl ?_
    cases h
    exact zG_ri hm rfl rfl
theorem met_X11_dearsOf {v1 : Int} {M : zM} {q : Int × zM} {d : Nat} (hd : 3 ≤ d) (h : f_X11_dearsOf v1 M = some q) : zMet 175 d [zr 42 0, zi v1] M (some (zi q.1)) q.2 :=
  zMet_of (lv0 := [some (zr 42 0), some (zi v1), none]) zmok_175 rfl rfl (fun v hv => by cases hv; trivial) (g_X11_dearsOf hd h)
def f_X11_afterOf (v1 : Int) (M : zM) : Option (Int × zM) :=
  (f_X11_ordersOf 1 M).bind fun p1 =>
    (f_X11_names v1 p1.2).bind fun p2 =>
      if ¬ zw p1.1 = (-1) then
        (f_X11_saysOf p1.1 p2).bind fun p3 =>
          (f_X11_held p3.1 0 9999 p3.2).bind fun p4 =>
            some (p4.1, p4.2)
      else
        some (9, p2)
theorem g_X11_afterOf {v1 : Int} {M : zM} {q : Int × zM} {d : Nat} (hd : 3 ≤ d) (h : f_X11_afterOf v1 M = some q) : zG 176 d (0, [some (zr 42 0), some (zi v1), none], [], M) (some (zi q.1)) q.2 := by
  have hm := zmok_176
  unfold f_X11_afterOf at h
  refine zG_run hm 2 (cf' := (2, [some (zr 42 0), some (zi v1), none], [zi 1, zr 42 0], M)) rfl ?_
  obtain ⟨p1, hp1, h⟩ := Option.bind_eq_some_iff.mp h
  refine zG_V hm zmok_170 rfl (as := [zi 1]) (rest := []) (st2 := [zi p1.1]) (pc2 := 5) rfl rfl (by omega) (met_X11_ordersOf (d := 0) (Nat.le_refl _) hp1) rfl ?_
  refine zG_run hm 3 (cf' := (8, [some (zr 42 0), some (zi v1), some (zi p1.1)], [zi v1, zr 42 0], p1.2)) rfl ?_
  obtain ⟨p2, hp2, h⟩ := Option.bind_eq_some_iff.mp h
  refine zG_V hm zmok_174 rfl (as := [zi v1]) (rest := []) (st2 := []) (pc2 := 11) rfl rfl (by omega) (met_X11_names (d := 0) (Nat.le_refl _) hp2) rfl ?_
  refine zG_run hm 2 (cf' := (13, [some (zr 42 0), some (zi v1), some (zi p1.1)], [zi (-1), zi p1.1], p2)) rfl ?_
  by_cases c5 : ¬ zw p1.1 = (-1)
  · rw [if_pos c5] at h
    refine zG_br hm rfl (cf' := (21, [some (zr 42 0), some (zi v1), some (zi p1.1)], [], p2)) (if_pos c5) ?_
    refine zG_run hm 2 (cf' := (23, [some (zr 42 0), some (zi v1), some (zi p1.1)], [zi p1.1, zr 42 0], p2)) rfl ?_
    obtain ⟨p3, hp3, h⟩ := Option.bind_eq_some_iff.mp h
    refine zG_V hm zmok_168 rfl (as := [zi p1.1]) (rest := []) (st2 := [zl p3.1]) (pc2 := 26) rfl rfl (by omega) (met_X11_saysOf (d := 2) (Nat.le_refl _) hp3) rfl ?_
    refine zG_run hm 2 (cf' := (30, [some (zr 42 0), some (zi v1), some (zi p1.1)], [zi 9999, zi 0, zl p3.1], p3.2)) rfl ?_
    obtain ⟨p4, hp4, h⟩ := Option.bind_eq_some_iff.mp h
    refine zG_S hm zmok_120 rfl (as := [zl p3.1, zi 0, zi 9999]) (rest := []) (st2 := [zi p4.1]) (pc2 := 33) rfl rfl (by omega) (met_X11_held (d := 0) (Nat.le_refl _) hp4) rfl ?_
    cases h
    exact zG_ri hm rfl rfl
  · rw [if_neg c5] at h
    refine zG_br hm rfl (cf' := (16, [some (zr 42 0), some (zi v1), some (zi p1.1)], [], p2)) (if_neg c5) ?_
    refine zG_run hm 2 (cf' := (33, [some (zr 42 0), some (zi v1), some (zi p1.1)], [zi 9], p2)) rfl ?_
    cases h
    exact zG_ri hm rfl rfl
theorem met_X11_afterOf {v1 : Int} {M : zM} {q : Int × zM} {d : Nat} (hd : 3 ≤ d) (h : f_X11_afterOf v1 M = some q) : zMet 176 d [zr 42 0, zi v1] M (some (zi q.1)) q.2 :=
  zMet_of (lv0 := [some (zr 42 0), some (zi v1), none]) zmok_176 rfl rfl (fun v hv => by cases hv; trivial) (g_X11_afterOf hd h)
def f_X11_dayPasses_j98 (v1 : Int) (v2 : Int) (M : zM) : Option ((Int × Int × zM) ⊕ (Int × zM)) :=
  some (.inl (v1, (v2 + 1), M))
theorem g_X11_dayPasses_j98 {v1 : Int} {v2 : Int} {M : zM} {x : (Int × Int × zM) ⊕ (Int × zM)} {r : Option zV} {Mf : zM} {d : Nat} (hd : 6 ≤ d) (h : f_X11_dayPasses_j98 v1 v2 M = some x)
    (kc : ∀ s, x = .inl s → zG 185 d (15, [some (zr 42 0), some (zi s.1), some (zi s.2.1), none], [], s.2.2) r Mf)
    (kb : ∀ t, x = .inr t → zG 185 d (104, [none, some (zi t.1), none, none], [], t.2) r Mf) (kr : True) : zG 185 d (98, [some (zr 42 0), some (zi v1), some (zi v2), none], [], M) r Mf := by
  have hm := zmok_185
  unfold f_X11_dayPasses_j98 at h
  refine zG_run hm 2 (cf' := (15, [some (zr 42 0), some (zi v1), some (zi (v2 + 1)), none], [], M)) rfl ?_
  refine zG_sub (lv' := [some (zr 42 0), some (zi v1), some (zi (v2 + 1)), none]) (zsb_s rfl (zsb_s rfl (zsb_s rfl (zsb_n zsb_0)))) ?_
  exact kc (v1, (v2 + 1), M) (Option.some.inj h).symm
def f_X11_dayPasses_L15 (v1 : Int) (v2 : Int) (M : zM) : Option ((Int × Int × zM) ⊕ (Int × zM)) :=
  if zw (M 43 0 1) ≤ zw v2 then
    some (.inr (v1, M))
  else
    (f_X11_isKept v2 M).bind fun p2 =>
      if zw p2.1 = 0 then
        f_X11_dayPasses_j98 v1 v2 p2.2
      else
        if 0 ≤ zw (6 + v2) ∧ zw (6 + v2) < 161 then
          (f_X11_dearsOf v2 p2.2).bind fun p3 =>
            (f_X11_held (zw ((p2.2 68 0 (zix (6 + v2))) + p3.1)) 0 99 p3.2).bind fun p4 =>
              if 0 ≤ zw (6 + v2) ∧ zw (6 + v2) < 161 then
                zlet (zput p4.2 68 0 (zix (6 + v2)) p4.1) fun M5 =>
                if 0 ≤ zw (22 + v2) ∧ zw (22 + v2) < 161 then
                  (f_X11_afterOf v2 M5).bind fun p6 =>
                    if zw ((M5 68 0 38) - (M5 68 0 (zix (22 + v2)))) < zw p6.1 then
                      f_X11_dayPasses_j98 v1 v2 p6.2
                    else
                      (f_X11_comesBack v2 p6.2).bind fun p7 =>
                        f_X11_dayPasses_j98 (v1 + 1) v2 p7.2
                else
                  none
              else
                none
        else
          none
theorem g_X11_dayPasses_L15 {v1 : Int} {v2 : Int} {M : zM} {x : (Int × Int × zM) ⊕ (Int × zM)} {r : Option zV} {Mf : zM} {d : Nat} (hd : 6 ≤ d) (h : f_X11_dayPasses_L15 v1 v2 M = some x)
    (kc : ∀ s, x = .inl s → zG 185 d (15, [some (zr 42 0), some (zi s.1), some (zi s.2.1), none], [], s.2.2) r Mf)
    (kb : ∀ t, x = .inr t → zG 185 d (104, [none, some (zi t.1), none, none], [], t.2) r Mf) (kr : True) : zG 185 d (15, [some (zr 42 0), some (zi v1), some (zi v2), none], [], M) r Mf := by
  have hm := zmok_185
  unfold f_X11_dayPasses_L15 at h
  refine zG_run hm 5 (cf' := (22, [some (zr 42 0), some (zi v1), some (zi v2), none], [zi (M 43 0 1), zi v2], M)) rfl ?_
  by_cases c13 : zw (M 43 0 1) ≤ zw v2
  · rw [if_pos c13] at h
    refine zG_br hm rfl (cf' := (104, [some (zr 42 0), some (zi v1), some (zi v2), none], [], M)) (if_pos c13) ?_
    refine zG_sub (lv' := [none, some (zi v1), none, none]) (zsb_n (zsb_s rfl (zsb_n (zsb_n zsb_0)))) ?_
    exact kb (v1, M) (Option.some.inj h).symm
  · rw [if_neg c13] at h
    refine zG_br hm rfl (cf' := (25, [some (zr 42 0), some (zi v1), some (zi v2), none], [], M)) (if_neg c13) ?_
    refine zG_run hm 2 (cf' := (27, [some (zr 42 0), some (zi v1), some (zi v2), none], [zi v2, zr 42 0], M)) rfl ?_
    obtain ⟨p2, hp2, h⟩ := Option.bind_eq_some_iff.mp h
    refine zG_V hm zmok_173 rfl (as := [zi v2]) (rest := []) (st2 := [zi p2.1]) (pc2 := 30) rfl rfl (by omega) (met_X11_isKept (d := 0) (Nat.le_refl _) hp2) rfl ?_
    by_cases c12 : zw p2.1 = 0
    · rw [if_pos c12] at h
      refine zG_br hm rfl (cf' := (98, [some (zr 42 0), some (zi v1), some (zi v2), none], [], p2.2)) (if_pos c12) ?_
      refine zG_sub (lv' := [some (zr 42 0), some (zi v1), some (zi v2), none]) (zsb_s rfl (zsb_s rfl (zsb_s rfl (zsb_n zsb_0)))) ?_
      exact g_X11_dayPasses_j98 hd h kc kb kr
    · rw [if_neg c12] at h
      refine zG_br hm rfl (cf' := (33, [some (zr 42 0), some (zi v1), some (zi v2), none], [], p2.2)) (if_neg c12) ?_
      refine zG_run hm 10 (cf' := (49, [some (zr 42 0), some (zi v1), some (zi v2), none], [zi (6 + v2), zr 68 0, zi (6 + v2), zr 68 0], p2.2)) rfl ?_
      by_cases c11 : 0 ≤ zw (6 + v2) ∧ zw (6 + v2) < 161
      · rw [if_pos c11] at h
        refine zG_br hm rfl (cf' := (50, [some (zr 42 0), some (zi v1), some (zi v2), none], [zi (p2.2 68 0 (zix (6 + v2))), zi (6 + v2), zr 68 0], p2.2)) (if_pos c11) ?_
        refine zG_run hm 2 (cf' := (52, [some (zr 42 0), some (zi v1), some (zi v2), none], [zi v2, zr 42 0, zi (p2.2 68 0 (zix (6 + v2))), zi (6 + v2), zr 68 0], p2.2)) rfl ?_
        obtain ⟨p3, hp3, h⟩ := Option.bind_eq_some_iff.mp h
        refine zG_V hm zmok_175 rfl (as := [zi v2]) (rest := [zi (p2.2 68 0 (zix (6 + v2))), zi (6 + v2), zr 68 0]) (st2 := [zi p3.1, zi (p2.2 68 0 (zix (6 + v2))), zi (6 + v2), zr 68 0]) (pc2 := 55) rfl rfl (by omega) (met_X11_dearsOf (d := 3) (Nat.le_refl _) hp3) rfl ?_
        refine zG_run hm 4 (cf' := (60, [some (zr 42 0), some (zi v1), some (zi v2), none], [zi 99, zi 0, zl (zw ((p2.2 68 0 (zix (6 + v2))) + p3.1)), zi (6 + v2), zr 68 0], p3.2)) rfl ?_
        obtain ⟨p4, hp4, h⟩ := Option.bind_eq_some_iff.mp h
        refine zG_S hm zmok_120 rfl (as := [zl (zw ((p2.2 68 0 (zix (6 + v2))) + p3.1)), zi 0, zi 99]) (rest := [zi (6 + v2), zr 68 0]) (st2 := [zi p4.1, zi (6 + v2), zr 68 0]) (pc2 := 63) rfl rfl (by omega) (met_X11_held (d := 0) (Nat.le_refl _) hp4) rfl ?_
        by_cases c10 : 0 ≤ zw (6 + v2) ∧ zw (6 + v2) < 161
        · rw [if_pos c10] at h
          refine zG_br hm rfl (cf' := (64, [some (zr 42 0), some (zi v1), some (zi v2), none], [], (zput p4.2 68 0 (zix (6 + v2)) p4.1))) (if_pos c10) ?_
          obtain ⟨M5, eM5, h⟩ := zlet_of h
          rw [eM5]
          refine zG_run hm 9 (cf' := (79, [some (zr 42 0), some (zi v1), some (zi v2), none], [zi (22 + v2), zr 68 0, zi (M5 68 0 38)], M5)) rfl ?_
          by_cases c9 : 0 ≤ zw (22 + v2) ∧ zw (22 + v2) < 161
          · rw [if_pos c9] at h
            refine zG_br hm rfl (cf' := (80, [some (zr 42 0), some (zi v1), some (zi v2), none], [zi (M5 68 0 (zix (22 + v2))), zi (M5 68 0 38)], M5)) (if_pos c9) ?_
            refine zG_run hm 3 (cf' := (83, [some (zr 42 0), some (zi v1), some (zi v2), none], [zi v2, zr 42 0, zi ((M5 68 0 38) - (M5 68 0 (zix (22 + v2))))], M5)) rfl ?_
            obtain ⟨p6, hp6, h⟩ := Option.bind_eq_some_iff.mp h
            refine zG_V hm zmok_176 rfl (as := [zi v2]) (rest := [zi ((M5 68 0 38) - (M5 68 0 (zix (22 + v2))))]) (st2 := [zi p6.1, zi ((M5 68 0 38) - (M5 68 0 (zix (22 + v2))))]) (pc2 := 86) rfl rfl (by omega) (met_X11_afterOf (d := 3) (Nat.le_refl _) hp6) rfl ?_
            by_cases c8 : zw ((M5 68 0 38) - (M5 68 0 (zix (22 + v2)))) < zw p6.1
            · rw [if_pos c8] at h
              refine zG_br hm rfl (cf' := (98, [some (zr 42 0), some (zi v1), some (zi v2), none], [], p6.2)) (if_pos c8) ?_
              refine zG_sub (lv' := [some (zr 42 0), some (zi v1), some (zi v2), none]) (zsb_s rfl (zsb_s rfl (zsb_s rfl (zsb_n zsb_0)))) ?_
              exact g_X11_dayPasses_j98 hd h kc kb kr
            · rw [if_neg c8] at h
              refine zG_br hm rfl (cf' := (89, [some (zr 42 0), some (zi v1), some (zi v2), none], [], p6.2)) (if_neg c8) ?_
              refine zG_run hm 2 (cf' := (91, [some (zr 42 0), some (zi v1), some (zi v2), none], [zi v2, zr 42 0], p6.2)) rfl ?_
              obtain ⟨p7, hp7, h⟩ := Option.bind_eq_some_iff.mp h
              refine zG_V hm zmok_183 rfl (as := [zi v2]) (rest := []) (st2 := [zi p7.1]) (pc2 := 94) rfl rfl (by omega) (met_X11_comesBack (d := 5) (Nat.le_refl _) hp7) rfl ?_
              refine zG_run hm 2 (cf' := (98, [some (zr 42 0), some (zi (v1 + 1)), some (zi v2), some (zi p7.1)], [], p7.2)) rfl ?_
              refine zG_sub (lv' := [some (zr 42 0), some (zi (v1 + 1)), some (zi v2), none]) (zsb_s rfl (zsb_s rfl (zsb_s rfl (zsb_n zsb_0)))) ?_
              exact g_X11_dayPasses_j98 hd h kc kb kr
          · rw [if_neg c9] at h
            cases h
        · rw [if_neg c10] at h
          cases h
      · rw [if_neg c11] at h
        cases h
theorem gl_X11_dayPasses_L15  {y : Int × zM} {r : Option zV} {Mf : zM} {d : Nat} (hd : 6 ≤ d)
    (kb : ∀ t, y = t → zG 185 d (104, [none, some (zi t.1), none, none], [], t.2) r Mf) (kr : True) : ∀ (n : Nat) (s : Int × Int × zM), zlp (fun s : Int × Int × zM => f_X11_dayPasses_L15  s.1 s.2.1 s.2.2) n s = some y → zG 185 d (15, [some (zr 42 0), some (zi s.1), some (zi s.2.1), none], [], s.2.2) r Mf := by
  intro n
  induction n with
  | zero => intro s h; cases h
  | succ n ih =>
    intro s h
    rcases zlp_cases h with ⟨s', h1, h2⟩ | h1
    · exact g_X11_dayPasses_L15 hd h1 (fun s2 e2 => by cases e2; exact ih _ h2) (fun t e2 => by cases e2) trivial
    · exact g_X11_dayPasses_L15 hd h1 (fun s2 e2 => by cases e2) (fun t e2 => kb t (Sum.inr.inj e2)) trivial
def f_X11_dayPasses  (M : zM) : Option (Int × zM) :=
  zlet (zput M 68 0 38 ((M 68 0 38) + 1)) fun M1 =>
  (zlp (fun s : Int × Int × zM => f_X11_dayPasses_L15  s.1 s.2.1 s.2.2) zF (0, 0, M1)).bind fun y14 =>
    some (y14.1, y14.2)
theorem g_X11_dayPasses  {M : zM} {q : Int × zM} {d : Nat} (hd : 6 ≤ d) (h : f_X11_dayPasses  M = some q) : zG 185 d (0, [some (zr 42 0), none, none, none], [], M) (some (zi q.1)) q.2 := by
  have hm := zmok_185
  unfold f_X11_dayPasses at h
  refine zG_run hm 10 (cf' := (13, [some (zr 42 0), some (zi 0), none, none], [], (zput M 68 0 38 ((M 68 0 38) + 1)))) rfl ?_
  obtain ⟨M1, eM1, h⟩ := zlet_of h
  rw [eM1]
  refine zG_run hm 2 (cf' := (15, [some (zr 42 0), some (zi 0), some (zi 0), none], [], M1)) rfl ?_
  refine zG_sub (lv' := [some (zr 42 0), some (zi 0), some (zi 0), none]) (zsb_s rfl (zsb_s rfl (zsb_s rfl (zsb_n zsb_0)))) ?_
  obtain ⟨y14, hy14, h⟩ := Option.bind_eq_some_iff.mp h
  refine gl_X11_dayPasses_L15 hd (fun t e2 => ?_) trivial zF (0, 0, M1) hy14
  cases e2
  refine zG_run hm 1 (cf' := (105, [none, some (zi y14.1), none, none], [zi y14.1], y14.2)) rfl ?_
  cases h
  exact zG_ri hm rfl rfl
theorem met_X11_dayPasses  {M : zM} {q : Int × zM} {d : Nat} (hd : 6 ≤ d) (h : f_X11_dayPasses  M = some q) : zMet 185 d [zr 42 0] M (some (zi q.1)) q.2 :=
  zMet_of (lv0 := [some (zr 42 0), none, none, none]) zmok_185 rfl rfl (fun v hv => by cases hv; trivial) (g_X11_dayPasses hd h)
def f_X11_day_L32 (v1 : Int) (v2 : Int) (v3 : Int) (M : zM) : Option ((Int × Int × zM) ⊕ (Int × zM)) :=
  if zw v1 ≤ zw v3 then
    some (.inr (v2, M))
  else
    (f_X11_keepsStep  M).bind fun p2 =>
      (f_X11_laysNow  p2).bind fun p3 =>
        (f_X11_dayPasses  p3).bind fun p4 =>
          (f_X11_keepsNow  p4.2).bind fun p5 =>
            some (.inl ((v2 + p4.1), (v3 + 1), p5))
theorem g_X11_day_L32 {v1 : Int} {v2 : Int} {v3 : Int} {M : zM} {x : (Int × Int × zM) ⊕ (Int × zM)} {r : Option zV} {Mf : zM} {d : Nat} (hd : 7 ≤ d) (h : f_X11_day_L32 v1 v2 v3 M = some x)
    (kc : ∀ s, x = .inl s → zG 190 d (32, [some (zr 42 0), some (zi v1), some (zi s.1), some (zi s.2.1)], [], s.2.2) r Mf)
    (kb : ∀ t, x = .inr t → zG 190 d (62, [none, none, some (zi t.1), none], [], t.2) r Mf) (kr : True) : zG 190 d (32, [some (zr 42 0), some (zi v1), some (zi v2), some (zi v3)], [], M) r Mf := by
  have hm := zmok_190
  unfold f_X11_day_L32 at h
  refine zG_run hm 2 (cf' := (34, [some (zr 42 0), some (zi v1), some (zi v2), some (zi v3)], [zi v1, zi v3], M)) rfl ?_
  by_cases c6 : zw v1 ≤ zw v3
  · rw [if_pos c6] at h
    refine zG_br hm rfl (cf' := (62, [some (zr 42 0), some (zi v1), some (zi v2), some (zi v3)], [], M)) (if_pos c6) ?_
    refine zG_sub (lv' := [none, none, some (zi v2), none]) (zsb_n (zsb_n (zsb_s rfl (zsb_n zsb_0)))) ?_
    exact kb (v2, M) (Option.some.inj h).symm
  · rw [if_neg c6] at h
    refine zG_br hm rfl (cf' := (37, [some (zr 42 0), some (zi v1), some (zi v2), some (zi v3)], [], M)) (if_neg c6) ?_
    refine zG_run hm 1 (cf' := (38, [some (zr 42 0), some (zi v1), some (zi v2), some (zi v3)], [zr 42 0], M)) rfl ?_
    obtain ⟨p2, hp2, h⟩ := Option.bind_eq_some_iff.mp h
    refine zG_V hm zmok_128 rfl (as := []) (rest := []) (st2 := []) (pc2 := 41) rfl rfl (by omega) (met_X11_keepsStep (d := 0) (Nat.le_refl _) hp2) rfl ?_
    refine zG_run hm 1 (cf' := (42, [some (zr 42 0), some (zi v1), some (zi v2), some (zi v3)], [zr 42 0], p2)) rfl ?_
    obtain ⟨p3, hp3, h⟩ := Option.bind_eq_some_iff.mp h
    refine zG_V hm zmok_171 rfl (as := []) (rest := []) (st2 := []) (pc2 := 45) rfl rfl (by omega) (met_X11_laysNow (d := 0) (Nat.le_refl _) hp3) rfl ?_
    refine zG_run hm 2 (cf' := (47, [some (zr 42 0), some (zi v1), some (zi v2), some (zi v3)], [zr 42 0, zi v2], p3)) rfl ?_
    obtain ⟨p4, hp4, h⟩ := Option.bind_eq_some_iff.mp h
    refine zG_V hm zmok_185 rfl (as := []) (rest := [zi v2]) (st2 := [zi p4.1, zi v2]) (pc2 := 50) rfl rfl (by omega) (met_X11_dayPasses (d := 6) (Nat.le_refl _) hp4) rfl ?_
    refine zG_run hm 3 (cf' := (53, [some (zr 42 0), some (zi v1), some (zi (v2 + p4.1)), some (zi v3)], [zr 42 0], p4.2)) rfl ?_
    obtain ⟨p5, hp5, h⟩ := Option.bind_eq_some_iff.mp h
    refine zG_V hm zmok_172 rfl (as := []) (rest := []) (st2 := []) (pc2 := 56) rfl rfl (by omega) (met_X11_keepsNow (d := 0) (Nat.le_refl _) hp5) rfl ?_
    refine zG_run hm 2 (cf' := (32, [some (zr 42 0), some (zi v1), some (zi (v2 + p4.1)), some (zi (v3 + 1))], [], p5)) rfl ?_
    refine zG_sub (lv' := [some (zr 42 0), some (zi v1), some (zi (v2 + p4.1)), some (zi (v3 + 1))]) (zsb_s rfl (zsb_s rfl (zsb_s rfl (zsb_s rfl zsb_0)))) ?_
    exact kc ((v2 + p4.1), (v3 + 1), p5) (Option.some.inj h).symm
theorem gl_X11_day_L32 {v1 : Int} {y : Int × zM} {r : Option zV} {Mf : zM} {d : Nat} (hd : 7 ≤ d)
    (kb : ∀ t, y = t → zG 190 d (62, [none, none, some (zi t.1), none], [], t.2) r Mf) (kr : True) : ∀ (n : Nat) (s : Int × Int × zM), zlp (fun s : Int × Int × zM => f_X11_day_L32 v1 s.1 s.2.1 s.2.2) n s = some y → zG 190 d (32, [some (zr 42 0), some (zi v1), some (zi s.1), some (zi s.2.1)], [], s.2.2) r Mf := by
  intro n
  induction n with
  | zero => intro s h; cases h
  | succ n ih =>
    intro s h
    rcases zlp_cases h with ⟨s', h1, h2⟩ | h1
    · exact g_X11_day_L32 hd h1 (fun s2 e2 => by cases e2; exact ih _ h2) (fun t e2 => by cases e2) trivial
    · exact g_X11_day_L32 hd h1 (fun s2 e2 => by cases e2) (fun t e2 => kb t (Sum.inr.inj e2)) trivial
def f_X11_day (v1 : Int) (M : zM) : Option (Int × zM) :=
  (f_X11_in v1 1 60 M).bind fun p1 =>
    if zw p1.1 = 0 then
      some ((-1), p1.2)
    else
      if zw ((p1.2 43 0 128) + v1) ≤ 9999 then
        (zlp (fun s : Int × Int × zM => f_X11_day_L32 v1 s.1 s.2.1 s.2.2) zF (0, 0, p1.2)).bind fun y7 =>
          some (y7.1, y7.2)
      else
        some ((-1), p1.2)
theorem g_X11_day {v1 : Int} {M : zM} {q : Int × zM} {d : Nat} (hd : 7 ≤ d) (h : f_X11_day v1 M = some q) : zG 190 d (0, [some (zr 42 0), some (zi v1), none, none], [], M) (some (zi q.1)) q.2 := by
  have hm := zmok_190
  unfold f_X11_day at h
  refine zG_run hm 3 (cf' := (4, [some (zr 42 0), some (zi v1), none, none], [zi 60, zi 1, zi v1], M)) rfl ?_
  obtain ⟨p1, hp1, h⟩ := Option.bind_eq_some_iff.mp h
  refine zG_S hm zmok_117 rfl (as := [zi v1, zi 1, zi 60]) (rest := []) (st2 := [zi p1.1]) (pc2 := 7) rfl rfl (by omega) (met_X11_in (d := 0) (Nat.le_refl _) hp1) rfl ?_
  by_cases c9 : zw p1.1 = 0
  · rw [if_pos c9] at h
    refine zG_br hm rfl (cf' := (26, [some (zr 42 0), some (zi v1), none, none], [], p1.2)) (if_pos c9) ?_
    refine zG_run hm 1 (cf' := (27, [some (zr 42 0), some (zi v1), none, none], [zi (-1)], p1.2)) rfl ?_
    cases h
    exact zG_ri hm rfl rfl
  · rw [if_neg c9] at h
    refine zG_br hm rfl (cf' := (10, [some (zr 42 0), some (zi v1), none, none], [], p1.2)) (if_neg c9) ?_
    refine zG_run hm 7 (cf' := (23, [some (zr 42 0), some (zi v1), none, none], [zi 9999, zi ((p1.2 43 0 128) + v1)], p1.2)) rfl ?_
    by_cases c8 : zw ((p1.2 43 0 128) + v1) ≤ 9999
    · rw [if_pos c8] at h
      refine zG_br hm rfl (cf' := (28, [some (zr 42 0), some (zi v1), none, none], [], p1.2)) (if_pos c8) ?_
      refine zG_run hm 4 (cf' := (32, [some (zr 42 0), some (zi v1), some (zi 0), some (zi 0)], [], p1.2)) rfl ?_
      refine zG_sub (lv' := [some (zr 42 0), some (zi v1), some (zi 0), some (zi 0)]) (zsb_s rfl (zsb_s rfl (zsb_s rfl (zsb_s rfl zsb_0)))) ?_
      obtain ⟨y7, hy7, h⟩ := Option.bind_eq_some_iff.mp h
      refine gl_X11_day_L32 hd (fun t e2 => ?_) trivial zF (0, 0, p1.2) hy7
      cases e2
      refine zG_run hm 1 (cf' := (63, [none, none, some (zi y7.1), none], [zi y7.1], y7.2)) rfl ?_
      cases h
      exact zG_ri hm rfl rfl
    · rw [if_neg c8] at h
      refine zG_br hm rfl (cf' := (26, [some (zr 42 0), some (zi v1), none, none], [], p1.2)) (if_neg c8) ?_
      refine zG_run hm 1 (cf' := (27, [some (zr 42 0), some (zi v1), none, none], [zi (-1)], p1.2)) rfl ?_
      cases h
      exact zG_ri hm rfl rfl
theorem met_X11_day {v1 : Int} {M : zM} {q : Int × zM} {d : Nat} (hd : 7 ≤ d) (h : f_X11_day v1 M = some q) : zMet 190 d [zr 42 0, zi v1] M (some (zi q.1)) q.2 :=
  zMet_of (lv0 := [some (zr 42 0), some (zi v1), none, none]) zmok_190 rfl rfl (fun v hv => by cases hv; trivial) (g_X11_day hd h)
def f_X0_draw_j14 (n0 : Nat) (vs0 : Int) (M : zM) : Option (Int × zM) :=
  zlet (zput M 11 n0 11 (zrem (zw (((M 11 n0 11) * 293) + 197)) 30319)) fun M1 =>
  some (vs0, M1)
theorem g_X0_draw_j14 {n0 : Nat} {vs0 : Int} {M : zM} {q : Int × zM} {d : Nat} (hd : 0 ≤ d) (h : f_X0_draw_j14 n0 vs0 M = some q) : zG 17 d (14, [some (zr 11 n0), none, none], [zi vs0], M) (some (zi q.1)) q.2 := by
  have hm := zmok_17
  unfold f_X0_draw_j14 at h
  refine zG_run hm 11 (cf' := (35, [some (zr 11 n0), none, some (zi vs0)], [], (zput M 11 n0 11 (zrem (zw (((M 11 n0 11) * 293) + 197)) 30319)))) rfl ?_
  obtain ⟨M1, eM1, h⟩ := zlet_of h
  rw [eM1]
  refine zG_run hm 1 (cf' := (36, [some (zr 11 n0), none, some (zi vs0)], [zi vs0], M1)) rfl ?_
  cases h
  exact zG_ri hm rfl rfl
def f_X0_draw (n0 : Nat) (v1 : Int) (M : zM) : Option (Int × zM) :=
  if zw v1 ≤ 0 then
    f_X0_draw_j14 n0 0 M
  else
    if zw v1 = 0 then
      none
    else
      f_X0_draw_j14 n0 (zrem (zw (M 11 n0 11)) (zw v1)) M
theorem g_X0_draw {n0 : Nat} {v1 : Int} {M : zM} {q : Int × zM} {d : Nat} (hd : 0 ≤ d) (h : f_X0_draw n0 v1 M = some q) : zG 17 d (0, [some (zr 11 n0), some (zi v1), none], [], M) (some (zi q.1)) q.2 := by
  have hm := zmok_17
  unfold f_X0_draw at h
  refine zG_run hm 1 (cf' := (1, [some (zr 11 n0), some (zi v1), none], [zi v1], M)) rfl ?_
  by_cases c3 : zw v1 ≤ 0
  · rw [if_pos c3] at h
    refine zG_br hm rfl (cf' := (13, [some (zr 11 n0), some (zi v1), none], [], M)) (if_pos c3) ?_
    refine zG_run hm 1 (cf' := (14, [some (zr 11 n0), some (zi v1), none], [zi 0], M)) rfl ?_
    refine zG_sub (lv' := [some (zr 11 n0), none, none]) (zsb_s rfl (zsb_n (zsb_n zsb_0))) ?_
    exact g_X0_draw_j14 hd h
  · rw [if_neg c3] at h
    refine zG_br hm rfl (cf' := (4, [some (zr 11 n0), some (zi v1), none], [], M)) (if_neg c3) ?_
    refine zG_run hm 3 (cf' := (9, [some (zr 11 n0), some (zi v1), none], [zi v1, zi (M 11 n0 11)], M)) rfl ?_
    by_cases c2 : zw v1 = 0
    · rw [if_pos c2] at h
      cases h
    · rw [if_neg c2] at h
      refine zG_br hm rfl (cf' := (10, [some (zr 11 n0), some (zi v1), none], [zi (zrem (zw (M 11 n0 11)) (zw v1))], M)) (if_neg c2) ?_
      refine zG_run hm 1 (cf' := (14, [some (zr 11 n0), some (zi v1), none], [zi (zrem (zw (M 11 n0 11)) (zw v1))], M)) rfl ?_
      refine zG_sub (lv' := [some (zr 11 n0), none, none]) (zsb_s rfl (zsb_n (zsb_n zsb_0))) ?_
      exact g_X0_draw_j14 hd h
theorem met_X0_draw {n0 : Nat} {v1 : Int} {M : zM} {q : Int × zM} {d : Nat} (hd : 0 ≤ d) (h : f_X0_draw n0 v1 M = some q) : zMet 17 d [zr 11 n0, zi v1] M (some (zi q.1)) q.2 :=
  zMet_of (lv0 := [some (zr 11 n0), some (zi v1), none]) zmok_17 rfl rfl (fun v hv => by cases hv; trivial) (g_X0_draw hd h)
def f_X0_drawOne_j103 (n0 : Nat) (v1 : Int) (M : zM) : Option (zM) :=
  if ¬ zw v1 = 4 then
    some M
  else
    if 9999 ≤ zw (M 11 n0 10) then
      some M
    else
      (f_X0_passOne n0 M).bind fun p3 =>
        some p3.2
theorem g_X0_drawOne_j103 {n0 : Nat} {v1 : Int} {M : zM} {q : zM} {d : Nat} (hd : 5 ≤ d) (h : f_X0_drawOne_j103 n0 v1 M = some q) : zG 18 d (103, [some (zr 11 n0), some (zi v1), none, none], [], M) none q := by
  have hm := zmok_18
  unfold f_X0_drawOne_j103 at h
  refine zG_run hm 2 (cf' := (105, [some (zr 11 n0), some (zi v1), none, none], [zi 4, zi v1], M)) rfl ?_
  by_cases c5 : ¬ zw v1 = 4
  · rw [if_pos c5] at h
    refine zG_br hm rfl (cf' := (123, [some (zr 11 n0), some (zi v1), none, none], [], M)) (if_pos c5) ?_
    cases h
    exact zG_rv hm rfl rfl
  · rw [if_neg c5] at h
    refine zG_br hm rfl (cf' := (108, [some (zr 11 n0), some (zi v1), none, none], [], M)) (if_neg c5) ?_
    refine zG_run hm 3 (cf' := (115, [some (zr 11 n0), some (zi v1), none, none], [zi 9999, zi (M 11 n0 10)], M)) rfl ?_
    by_cases c4 : 9999 ≤ zw (M 11 n0 10)
    · rw [if_pos c4] at h
      refine zG_br hm rfl (cf' := (123, [some (zr 11 n0), some (zi v1), none, none], [], M)) (if_pos c4) ?_
      cases h
      exact zG_rv hm rfl rfl
    · rw [if_neg c4] at h
      refine zG_br hm rfl (cf' := (118, [some (zr 11 n0), some (zi v1), none, none], [], M)) (if_neg c4) ?_
      refine zG_run hm 1 (cf' := (119, [some (zr 11 n0), some (zi v1), none, none], [zr 11 n0], M)) rfl ?_
      obtain ⟨p3, hp3, h⟩ := Option.bind_eq_some_iff.mp h
      refine zG_V hm zmok_14 rfl (as := []) (rest := []) (st2 := [zi p3.1]) (pc2 := 122) rfl rfl (by omega) (met_X0_passOne (d := 4) (Nat.le_refl _) hp3) rfl ?_
      refine zG_run hm 1 (cf' := (123, [some (zr 11 n0), some (zi v1), none, none], [], p3.2)) rfl ?_
      cases h
      exact zG_rv hm rfl rfl
def f_X0_drawOne_j76 (n0 : Nat) (v1 : Int) (v2 : Int) (v3 : Int) (M : zM) : Option (zM) :=
  if ¬ zw v1 = 3 then
    f_X0_drawOne_j103 n0 v1 M
  else
    (f_X0_canHand n0 v2 v3 M).bind fun p6 =>
      if zw p6.1 = 0 then
        f_X0_drawOne_j103 n0 v1 p6.2
      else
        if 0 ≤ zw v2 ∧ zw v2 < 8 then
          zlet (zput p6.2 16 ((zix v2) + 8 * n0) 4 v3) fun M7 =>
          some M7
        else
          none
theorem g_X0_drawOne_j76 {n0 : Nat} {v1 : Int} {v2 : Int} {v3 : Int} {M : zM} {q : zM} {d : Nat} (hd : 5 ≤ d) (h : f_X0_drawOne_j76 n0 v1 v2 v3 M = some q) : zG 18 d (76, [some (zr 11 n0), some (zi v1), some (zi v2), some (zi v3)], [], M) none q := by
  have hm := zmok_18
  unfold f_X0_drawOne_j76 at h
  refine zG_run hm 2 (cf' := (78, [some (zr 11 n0), some (zi v1), some (zi v2), some (zi v3)], [zi 3, zi v1], M)) rfl ?_
  by_cases c10 : ¬ zw v1 = 3
  · rw [if_pos c10] at h
    refine zG_br hm rfl (cf' := (103, [some (zr 11 n0), some (zi v1), some (zi v2), some (zi v3)], [], M)) (if_pos c10) ?_
    refine zG_sub (lv' := [some (zr 11 n0), some (zi v1), none, none]) (zsb_s rfl (zsb_s rfl (zsb_n (zsb_n zsb_0)))) ?_
    exact g_X0_drawOne_j103 hd h
  · rw [if_neg c10] at h
    refine zG_br hm rfl (cf' := (81, [some (zr 11 n0), some (zi v1), some (zi v2), some (zi v3)], [], M)) (if_neg c10) ?_
    refine zG_run hm 3 (cf' := (84, [some (zr 11 n0), some (zi v1), some (zi v2), some (zi v3)], [zi v3, zi v2, zr 11 n0], M)) rfl ?_
    obtain ⟨p6, hp6, h⟩ := Option.bind_eq_some_iff.mp h
    refine zG_V hm zmok_7 rfl (as := [zi v2, zi v3]) (rest := []) (st2 := [zi p6.1]) (pc2 := 87) rfl rfl (by omega) (met_X0_canHand (d := 1) (Nat.le_refl _) hp6) rfl ?_
    by_cases c9 : zw p6.1 = 0
    · rw [if_pos c9] at h
      refine zG_br hm rfl (cf' := (103, [some (zr 11 n0), some (zi v1), some (zi v2), some (zi v3)], [], p6.2)) (if_pos c9) ?_
      refine zG_sub (lv' := [some (zr 11 n0), some (zi v1), none, none]) (zsb_s rfl (zsb_s rfl (zsb_n (zsb_n zsb_0)))) ?_
      exact g_X0_drawOne_j103 hd h
    · rw [if_neg c9] at h
      refine zG_br hm rfl (cf' := (90, [some (zr 11 n0), some (zi v1), some (zi v2), some (zi v3)], [], p6.2)) (if_neg c9) ?_
      refine zG_run hm 3 (cf' := (95, [some (zr 11 n0), some (zi v1), some (zi v2), some (zi v3)], [zi v2, zr 14 n0], p6.2)) rfl ?_
      by_cases c8 : 0 ≤ zw v2 ∧ zw v2 < 8
      · rw [if_pos c8] at h
        refine zG_br hm rfl (cf' := (96, [some (zr 11 n0), some (zi v1), some (zi v2), some (zi v3)], [zr 16 ((zix v2) + 8 * n0)], p6.2)) (if_pos c8) ?_
        refine zG_run hm 2 (cf' := (100, [some (zr 11 n0), some (zi v1), some (zi v2), some (zi v3)], [], (zput p6.2 16 ((zix v2) + 8 * n0) 4 v3))) rfl ?_
        obtain ⟨M7, eM7, h⟩ := zlet_of h
        rw [eM7]
        refine zG_run hm 1 (cf' := (123, [some (zr 11 n0), some (zi v1), some (zi v2), some (zi v3)], [], M7)) rfl ?_
        cases h
        exact zG_rv hm rfl rfl
      · rw [if_neg c8] at h
        cases h
def f_X0_drawOne_j54 (n0 : Nat) (v1 : Int) (v2 : Int) (v3 : Int) (M : zM) : Option (zM) :=
  if ¬ zw v1 = 2 then
    f_X0_drawOne_j76 n0 v1 v2 v3 M
  else
    (f_X0_isKept n0 v2 M).bind fun p11 =>
      if zw p11.1 = 0 then
        f_X0_drawOne_j76 n0 v1 v2 v3 p11.2
      else
        (f_X0_comeBack n0 v2 p11.2).bind fun p12 =>
          some p12.2
theorem g_X0_drawOne_j54 {n0 : Nat} {v1 : Int} {v2 : Int} {v3 : Int} {M : zM} {q : zM} {d : Nat} (hd : 5 ≤ d) (h : f_X0_drawOne_j54 n0 v1 v2 v3 M = some q) : zG 18 d (54, [some (zr 11 n0), some (zi v1), some (zi v2), some (zi v3)], [], M) none q := by
  have hm := zmok_18
  unfold f_X0_drawOne_j54 at h
  refine zG_run hm 2 (cf' := (56, [some (zr 11 n0), some (zi v1), some (zi v2), some (zi v3)], [zi 2, zi v1], M)) rfl ?_
  by_cases c14 : ¬ zw v1 = 2
  · rw [if_pos c14] at h
    refine zG_br hm rfl (cf' := (76, [some (zr 11 n0), some (zi v1), some (zi v2), some (zi v3)], [], M)) (if_pos c14) ?_
    refine zG_sub (lv' := [some (zr 11 n0), some (zi v1), some (zi v2), some (zi v3)]) (zsb_s rfl (zsb_s rfl (zsb_s rfl (zsb_s rfl zsb_0)))) ?_
    exact g_X0_drawOne_j76 hd h
  · rw [if_neg c14] at h
    refine zG_br hm rfl (cf' := (59, [some (zr 11 n0), some (zi v1), some (zi v2), some (zi v3)], [], M)) (if_neg c14) ?_
    refine zG_run hm 2 (cf' := (61, [some (zr 11 n0), some (zi v1), some (zi v2), some (zi v3)], [zi v2, zr 11 n0], M)) rfl ?_
    obtain ⟨p11, hp11, h⟩ := Option.bind_eq_some_iff.mp h
    refine zG_V hm zmok_5 rfl (as := [zi v2]) (rest := []) (st2 := [zi p11.1]) (pc2 := 64) rfl rfl (by omega) (met_X0_isKept (d := 1) (Nat.le_refl _) hp11) rfl ?_
    by_cases c13 : zw p11.1 = 0
    · rw [if_pos c13] at h
      refine zG_br hm rfl (cf' := (76, [some (zr 11 n0), some (zi v1), some (zi v2), some (zi v3)], [], p11.2)) (if_pos c13) ?_
      refine zG_sub (lv' := [some (zr 11 n0), some (zi v1), some (zi v2), some (zi v3)]) (zsb_s rfl (zsb_s rfl (zsb_s rfl (zsb_s rfl zsb_0)))) ?_
      exact g_X0_drawOne_j76 hd h
    · rw [if_neg c13] at h
      refine zG_br hm rfl (cf' := (67, [some (zr 11 n0), some (zi v1), some (zi v2), some (zi v3)], [], p11.2)) (if_neg c13) ?_
      refine zG_run hm 2 (cf' := (69, [some (zr 11 n0), some (zi v1), some (zi v2), some (zi v3)], [zi v2, zr 11 n0], p11.2)) rfl ?_
      obtain ⟨p12, hp12, h⟩ := Option.bind_eq_some_iff.mp h
      refine zG_V hm zmok_13 rfl (as := [zi v2]) (rest := []) (st2 := [zi p12.1]) (pc2 := 72) rfl rfl (by omega) (met_X0_comeBack (d := 3) (Nat.le_refl _) hp12) rfl ?_
      refine zG_run hm 2 (cf' := (123, [some (zr 11 n0), some (zi v1), some (zi v2), some (zi v3)], [], p12.2)) rfl ?_
      cases h
      exact zG_rv hm rfl rfl
def f_X0_drawOne_j32 (n0 : Nat) (v1 : Int) (v2 : Int) (vs0 : Int) (M : zM) : Option (zM) :=
  if 1 < zw v1 then
    f_X0_drawOne_j54 n0 v1 v2 vs0 M
  else
    (f_X0_canTake n0 v2 M).bind fun p15 =>
      if zw p15.1 = 0 then
        f_X0_drawOne_j54 n0 v1 v2 vs0 p15.2
      else
        (f_X0_take n0 v2 p15.2).bind fun p16 =>
          some p16
theorem g_X0_drawOne_j32 {n0 : Nat} {v1 : Int} {v2 : Int} {vs0 : Int} {M : zM} {q : zM} {d : Nat} (hd : 5 ≤ d) (h : f_X0_drawOne_j32 n0 v1 v2 vs0 M = some q) : zG 18 d (32, [some (zr 11 n0), some (zi v1), some (zi v2), none], [zi vs0], M) none q := by
  have hm := zmok_18
  unfold f_X0_drawOne_j32 at h
  refine zG_run hm 3 (cf' := (35, [some (zr 11 n0), some (zi v1), some (zi v2), some (zi vs0)], [zi 1, zi v1], M)) rfl ?_
  by_cases c18 : 1 < zw v1
  · rw [if_pos c18] at h
    refine zG_br hm rfl (cf' := (54, [some (zr 11 n0), some (zi v1), some (zi v2), some (zi vs0)], [], M)) (if_pos c18) ?_
    refine zG_sub (lv' := [some (zr 11 n0), some (zi v1), some (zi v2), some (zi vs0)]) (zsb_s rfl (zsb_s rfl (zsb_s rfl (zsb_s rfl zsb_0)))) ?_
    exact g_X0_drawOne_j54 hd h
  · rw [if_neg c18] at h
    refine zG_br hm rfl (cf' := (38, [some (zr 11 n0), some (zi v1), some (zi v2), some (zi vs0)], [], M)) (if_neg c18) ?_
    refine zG_run hm 2 (cf' := (40, [some (zr 11 n0), some (zi v1), some (zi v2), some (zi vs0)], [zi v2, zr 11 n0], M)) rfl ?_
    obtain ⟨p15, hp15, h⟩ := Option.bind_eq_some_iff.mp h
    refine zG_V hm zmok_6 rfl (as := [zi v2]) (rest := []) (st2 := [zi p15.1]) (pc2 := 43) rfl rfl (by omega) (met_X0_canTake (d := 2) (Nat.le_refl _) hp15) rfl ?_
    by_cases c17 : zw p15.1 = 0
    · rw [if_pos c17] at h
      refine zG_br hm rfl (cf' := (54, [some (zr 11 n0), some (zi v1), some (zi v2), some (zi vs0)], [], p15.2)) (if_pos c17) ?_
      refine zG_sub (lv' := [some (zr 11 n0), some (zi v1), some (zi v2), some (zi vs0)]) (zsb_s rfl (zsb_s rfl (zsb_s rfl (zsb_s rfl zsb_0)))) ?_
      exact g_X0_drawOne_j54 hd h
    · rw [if_neg c17] at h
      refine zG_br hm rfl (cf' := (46, [some (zr 11 n0), some (zi v1), some (zi v2), some (zi vs0)], [], p15.2)) (if_neg c17) ?_
      refine zG_run hm 2 (cf' := (48, [some (zr 11 n0), some (zi v1), some (zi v2), some (zi vs0)], [zi v2, zr 11 n0], p15.2)) rfl ?_
      obtain ⟨p16, hp16, h⟩ := Option.bind_eq_some_iff.mp h
      refine zG_V hm zmok_12 rfl (as := [zi v2]) (rest := []) (st2 := []) (pc2 := 51) rfl rfl (by omega) (met_X0_take (d := 0) (Nat.le_refl _) hp16) rfl ?_
      refine zG_run hm 1 (cf' := (123, [some (zr 11 n0), some (zi v1), some (zi v2), some (zi vs0)], [], p16)) rfl ?_
      cases h
      exact zG_rv hm rfl rfl
def f_X0_drawOne (n0 : Nat) (M : zM) : Option (zM) :=
  (f_X0_draw n0 5 M).bind fun p1 =>
    (f_X0_draw n0 (p1.2 11 n0 7) p1.2).bind fun p2 =>
      if ¬ zw p1.1 = 3 then
        f_X0_drawOne_j32 n0 p1.1 p2.1 (-1) p2.2
      else
        (f_X0_draw n0 (p2.2 11 n0 6) p2.2).bind fun p19 =>
          f_X0_drawOne_j32 n0 p1.1 p2.1 p19.1 p19.2
theorem g_X0_drawOne {n0 : Nat} {M : zM} {q : zM} {d : Nat} (hd : 5 ≤ d) (h : f_X0_drawOne n0 M = some q) : zG 18 d (0, [some (zr 11 n0), none, none, none], [], M) none q := by
  have hm := zmok_18
  unfold f_X0_drawOne at h
  refine zG_run hm 2 (cf' := (2, [some (zr 11 n0), none, none, none], [zi 5, zr 11 n0], M)) rfl ?_
  obtain ⟨p1, hp1, h⟩ := Option.bind_eq_some_iff.mp h
  refine zG_V hm zmok_17 rfl (as := [zi 5]) (rest := []) (st2 := [zi p1.1]) (pc2 := 5) rfl rfl (by omega) (met_X0_draw (d := 0) (Nat.le_refl _) hp1) rfl ?_
  refine zG_run hm 4 (cf' := (11, [some (zr 11 n0), some (zi p1.1), none, none], [zi (p1.2 11 n0 7), zr 11 n0], p1.2)) rfl ?_
  obtain ⟨p2, hp2, h⟩ := Option.bind_eq_some_iff.mp h
  refine zG_V hm zmok_17 rfl (as := [zi (p1.2 11 n0 7)]) (rest := []) (st2 := [zi p2.1]) (pc2 := 14) rfl rfl (by omega) (met_X0_draw (d := 0) (Nat.le_refl _) hp2) rfl ?_
  refine zG_run hm 3 (cf' := (17, [some (zr 11 n0), some (zi p1.1), some (zi p2.1), none], [zi 3, zi p1.1], p2.2)) rfl ?_
  by_cases c20 : ¬ zw p1.1 = 3
  · rw [if_pos c20] at h
    refine zG_br hm rfl (cf' := (31, [some (zr 11 n0), some (zi p1.1), some (zi p2.1), none], [], p2.2)) (if_pos c20) ?_
    refine zG_run hm 1 (cf' := (32, [some (zr 11 n0), some (zi p1.1), some (zi p2.1), none], [zi (-1)], p2.2)) rfl ?_
    refine zG_sub (lv' := [some (zr 11 n0), some (zi p1.1), some (zi p2.1), none]) (zsb_s rfl (zsb_s rfl (zsb_s rfl (zsb_n zsb_0)))) ?_
    exact g_X0_drawOne_j32 hd h
  · rw [if_neg c20] at h
    refine zG_br hm rfl (cf' := (20, [some (zr 11 n0), some (zi p1.1), some (zi p2.1), none], [], p2.2)) (if_neg c20) ?_
    refine zG_run hm 3 (cf' := (25, [some (zr 11 n0), some (zi p1.1), some (zi p2.1), none], [zi (p2.2 11 n0 6), zr 11 n0], p2.2)) rfl ?_
    obtain ⟨p19, hp19, h⟩ := Option.bind_eq_some_iff.mp h
    refine zG_V hm zmok_17 rfl (as := [zi (p2.2 11 n0 6)]) (rest := []) (st2 := [zi p19.1]) (pc2 := 28) rfl rfl (by omega) (met_X0_draw (d := 0) (Nat.le_refl _) hp19) rfl ?_
    refine zG_run hm 1 (cf' := (32, [some (zr 11 n0), some (zi p1.1), some (zi p2.1), none], [zi p19.1], p19.2)) rfl ?_
    refine zG_sub (lv' := [some (zr 11 n0), some (zi p1.1), some (zi p2.1), none]) (zsb_s rfl (zsb_s rfl (zsb_s rfl (zsb_n zsb_0)))) ?_
    exact g_X0_drawOne_j32 hd h
theorem met_X0_drawOne {n0 : Nat} {M : zM} {q : zM} {d : Nat} (hd : 5 ≤ d) (h : f_X0_drawOne n0 M = some q) : zMet 18 d [zr 11 n0] M none q :=
  zMet_of (lv0 := [some (zr 11 n0), none, none, none]) zmok_18 rfl rfl (fun v hv => by cases hv) (g_X0_drawOne hd h)
def f_X10_decades_L59 (v2 : Int) (v3 : Int) (M : zM) : Option ((Int × zM) ⊕ (zM)) :=
  if zw v2 ≤ zw v3 then
    some (.inr M)
  else
    (f_X0_drawOne 0 M).bind fun p5 =>
      some (.inl ((v3 + 1), p5))
theorem g_X10_decades_L59 {v2 : Int} {v3 : Int} {M : zM} {x : (Int × zM) ⊕ (zM)} {r : Option zV} {Mf : zM} {d : Nat} (hd : 6 ≤ d) (h : f_X10_decades_L59 v2 v3 M = some x)
    (kc : ∀ s, x = .inl s → zG 73 d (59, [some (zr 0 0), none, some (zi v2), some (zi s.1)], [], s.2) r Mf)
    (kb : ∀ t, x = .inr t → zG 73 d (77, [some (zr 0 0), none, none, none], [], t) r Mf) (kr : True) : zG 73 d (59, [some (zr 0 0), none, some (zi v2), some (zi v3)], [], M) r Mf := by
  have hm := zmok_73
  unfold f_X10_decades_L59 at h
  refine zG_run hm 2 (cf' := (61, [some (zr 0 0), none, some (zi v2), some (zi v3)], [zi v2, zi v3], M)) rfl ?_
  by_cases c6 : zw v2 ≤ zw v3
  · rw [if_pos c6] at h
    refine zG_br hm rfl (cf' := (77, [some (zr 0 0), none, some (zi v2), some (zi v3)], [], M)) (if_pos c6) ?_
    refine zG_sub (lv' := [some (zr 0 0), none, none, none]) (zsb_s rfl (zsb_n (zsb_n (zsb_n zsb_0)))) ?_
    exact kb M (Option.some.inj h).symm
  · rw [if_neg c6] at h
    refine zG_br hm rfl (cf' := (64, [some (zr 0 0), none, some (zi v2), some (zi v3)], [], M)) (if_neg c6) ?_
    refine zG_run hm 2 (cf' := (68, [some (zr 0 0), none, some (zi v2), some (zi v3)], [zr 11 0], M)) rfl ?_
    obtain ⟨p5, hp5, h⟩ := Option.bind_eq_some_iff.mp h
    refine zG_V hm zmok_18 rfl (as := []) (rest := []) (st2 := []) (pc2 := 71) rfl rfl (by omega) (met_X0_drawOne (d := 5) (Nat.le_refl _) hp5) rfl ?_
    refine zG_run hm 2 (cf' := (59, [some (zr 0 0), none, some (zi v2), some (zi (v3 + 1))], [], p5)) rfl ?_
    refine zG_sub (lv' := [some (zr 0 0), none, some (zi v2), some (zi (v3 + 1))]) (zsb_s rfl (zsb_n (zsb_s rfl (zsb_s rfl zsb_0)))) ?_
    exact kc ((v3 + 1), p5) (Option.some.inj h).symm
theorem gl_X10_decades_L59 {v2 : Int} {y : zM} {r : Option zV} {Mf : zM} {d : Nat} (hd : 6 ≤ d)
    (kb : ∀ t, y = t → zG 73 d (77, [some (zr 0 0), none, none, none], [], t) r Mf) (kr : True) : ∀ (n : Nat) (s : Int × zM), zlp (fun s : Int × zM => f_X10_decades_L59 v2 s.1 s.2) n s = some y → zG 73 d (59, [some (zr 0 0), none, some (zi v2), some (zi s.1)], [], s.2) r Mf := by
  intro n
  induction n with
  | zero => intro s h; cases h
  | succ n ih =>
    intro s h
    rcases zlp_cases h with ⟨s', h1, h2⟩ | h1
    · exact g_X10_decades_L59 hd h1 (fun s2 e2 => by cases e2; exact ih _ h2) (fun t e2 => by cases e2) trivial
    · exact g_X10_decades_L59 hd h1 (fun s2 e2 => by cases e2) (fun t e2 => kb t (Sum.inr.inj e2)) trivial
def f_X10_decades (v1 : Int) (v2 : Int) (M : zM) : Option (Int × zM) :=
  (f_X10_within v1 0 9999 M).bind fun p1 =>
    if zw p1.1 = 0 then
      some ((-1), p1.2)
    else
      (f_X10_within v2 1 30 p1.2).bind fun p2 =>
        if zw p2.1 = 0 then
          some ((-1), p2.2)
        else
          if ¬ zw (p2.2 11 0 7) = 0 then
            (f_X5_keep 0 0 p2.2).bind fun p3 =>
              zlet (zput p3 11 0 11 ((v1 * 2) + 89)) fun M4 =>
              (zlp (fun s : Int × zM => f_X10_decades_L59 v2 s.1 s.2) zF (0, M4)).bind fun y7 =>
                some ((y7 11 0 10), y7)
          else
            some ((-1), p2.2)
theorem g_X10_decades {v1 : Int} {v2 : Int} {M : zM} {q : Int × zM} {d : Nat} (hd : 6 ≤ d) (h : f_X10_decades v1 v2 M = some q) : zG 73 d (0, [some (zr 0 0), some (zi v1), some (zi v2), none], [], M) (some (zi q.1)) q.2 := by
  have hm := zmok_73
  unfold f_X10_decades at h
  refine zG_run hm 3 (cf' := (5, [some (zr 0 0), some (zi v1), some (zi v2), none], [zi 9999, zi 0, zi v1], M)) rfl ?_
  obtain ⟨p1, hp1, h⟩ := Option.bind_eq_some_iff.mp h
  refine zG_S hm zmok_108 rfl (as := [zi v1, zi 0, zi 9999]) (rest := []) (st2 := [zi p1.1]) (pc2 := 8) rfl rfl (by omega) (met_X10_within (d := 0) (Nat.le_refl _) hp1) rfl ?_
  by_cases c10 : zw p1.1 = 0
  · rw [if_pos c10] at h
    refine zG_br hm rfl (cf' := (31, [some (zr 0 0), some (zi v1), some (zi v2), none], [], p1.2)) (if_pos c10) ?_
    refine zG_run hm 1 (cf' := (32, [some (zr 0 0), some (zi v1), some (zi v2), none], [zi (-1)], p1.2)) rfl ?_
    cases h
    exact zG_ri hm rfl rfl
  · rw [if_neg c10] at h
    refine zG_br hm rfl (cf' := (11, [some (zr 0 0), some (zi v1), some (zi v2), none], [], p1.2)) (if_neg c10) ?_
    refine zG_run hm 3 (cf' := (15, [some (zr 0 0), some (zi v1), some (zi v2), none], [zi 30, zi 1, zi v2], p1.2)) rfl ?_
    obtain ⟨p2, hp2, h⟩ := Option.bind_eq_some_iff.mp h
    refine zG_S hm zmok_108 rfl (as := [zi v2, zi 1, zi 30]) (rest := []) (st2 := [zi p2.1]) (pc2 := 18) rfl rfl (by omega) (met_X10_within (d := 0) (Nat.le_refl _) hp2) rfl ?_
    by_cases c9 : zw p2.1 = 0
    · rw [if_pos c9] at h
      refine zG_br hm rfl (cf' := (31, [some (zr 0 0), some (zi v1), some (zi v2), none], [], p2.2)) (if_pos c9) ?_
      refine zG_run hm 1 (cf' := (32, [some (zr 0 0), some (zi v1), some (zi v2), none], [zi (-1)], p2.2)) rfl ?_
      cases h
      exact zG_ri hm rfl rfl
    · rw [if_neg c9] at h
      refine zG_br hm rfl (cf' := (21, [some (zr 0 0), some (zi v1), some (zi v2), none], [], p2.2)) (if_neg c9) ?_
      refine zG_run hm 3 (cf' := (28, [some (zr 0 0), some (zi v1), some (zi v2), none], [zi (p2.2 11 0 7)], p2.2)) rfl ?_
      by_cases c8 : ¬ zw (p2.2 11 0 7) = 0
      · rw [if_pos c8] at h
        refine zG_br hm rfl (cf' := (33, [some (zr 0 0), some (zi v1), some (zi v2), none], [], p2.2)) (if_pos c8) ?_
        refine zG_run hm 4 (cf' := (41, [some (zr 0 0), some (zi v1), some (zi v2), none], [zr 11 0, zr 20 0], p2.2)) rfl ?_
        obtain ⟨p3, hp3, h⟩ := Option.bind_eq_some_iff.mp h
        refine zG_V hm zmok_50 rfl (as := [zr 11 0]) (rest := []) (st2 := []) (pc2 := 44) rfl rfl (by omega) (met_X5_keep (d := 1) (Nat.le_refl _) hp3) rfl ?_
        refine zG_run hm 8 (cf' := (57, [some (zr 0 0), some (zi v1), some (zi v2), none], [], (zput p3 11 0 11 ((v1 * 2) + 89)))) rfl ?_
        obtain ⟨M4, eM4, h⟩ := zlet_of h
        rw [eM4]
        refine zG_run hm 2 (cf' := (59, [some (zr 0 0), some (zi v1), some (zi v2), some (zi 0)], [], M4)) rfl ?_
        refine zG_sub (lv' := [some (zr 0 0), none, some (zi v2), some (zi 0)]) (zsb_s rfl (zsb_n (zsb_s rfl (zsb_s rfl zsb_0)))) ?_
        obtain ⟨y7, hy7, h⟩ := Option.bind_eq_some_iff.mp h
        refine gl_X10_decades_L59 hd (fun t e2 => ?_) trivial zF (0, M4) hy7
        cases e2
        refine zG_run hm 3 (cf' := (84, [some (zr 0 0), none, none, none], [zi (y7 11 0 10)], y7)) rfl ?_
        cases h
        exact zG_ri hm rfl rfl
      · rw [if_neg c8] at h
        refine zG_br hm rfl (cf' := (31, [some (zr 0 0), some (zi v1), some (zi v2), none], [], p2.2)) (if_neg c8) ?_
        refine zG_run hm 1 (cf' := (32, [some (zr 0 0), some (zi v1), some (zi v2), none], [zi (-1)], p2.2)) rfl ?_
        cases h
        exact zG_ri hm rfl rfl
theorem met_X10_decades {v1 : Int} {v2 : Int} {M : zM} {q : Int × zM} {d : Nat} (hd : 6 ≤ d) (h : f_X10_decades v1 v2 M = some q) : zMet 73 d [zr 0 0, zi v1, zi v2] M (some (zi q.1)) q.2 :=
  zMet_of (lv0 := [some (zr 0 0), some (zi v1), some (zi v2), none]) zmok_73 rfl rfl (fun v hv => by cases hv; trivial) (g_X10_decades hd h)
def f_X11_draw (v1 : Int) (M : zM) : Option (Int × zM) :=
  if zw v1 = 0 then
    none
  else
    zlet (zput M 68 0 39 (zrem (zw (((M 68 0 39) * 293) + 197)) 30319)) fun M1 =>
    some ((zrem (zw (M 68 0 39)) (zw v1)), M1)
theorem g_X11_draw {v1 : Int} {M : zM} {q : Int × zM} {d : Nat} (hd : 0 ≤ d) (h : f_X11_draw v1 M = some q) : zG 191 d (0, [some (zr 42 0), some (zi v1), none], [], M) (some (zi q.1)) q.2 := by
  have hm := zmok_191
  unfold f_X11_draw at h
  refine zG_run hm 5 (cf' := (8, [some (zr 42 0), some (zi v1), none], [zi v1, zi (M 68 0 39)], M)) rfl ?_
  by_cases c2 : zw v1 = 0
  · rw [if_pos c2] at h
    cases h
  · rw [if_neg c2] at h
    refine zG_br hm rfl (cf' := (9, [some (zr 42 0), some (zi v1), none], [zi (zrem (zw (M 68 0 39)) (zw v1))], M)) (if_neg c2) ?_
    refine zG_run hm 15 (cf' := (36, [some (zr 42 0), some (zi v1), some (zi (zrem (zw (M 68 0 39)) (zw v1)))], [], (zput M 68 0 39 (zrem (zw (((M 68 0 39) * 293) + 197)) 30319)))) rfl ?_
    obtain ⟨M1, eM1, h⟩ := zlet_of h
    rw [eM1]
    refine zG_run hm 1 (cf' := (37, [some (zr 42 0), some (zi v1), some (zi (zrem (zw (M 68 0 39)) (zw v1)))], [zi (zrem (zw (M 68 0 39)) (zw v1))], M1)) rfl ?_
    cases h
    exact zG_ri hm rfl rfl
theorem met_X11_draw {v1 : Int} {M : zM} {q : Int × zM} {d : Nat} (hd : 0 ≤ d) (h : f_X11_draw v1 M = some q) : zMet 191 d [zr 42 0, zi v1] M (some (zi q.1)) q.2 :=
  zMet_of (lv0 := [some (zr 42 0), some (zi v1), none]) zmok_191 rfl rfl (fun v hv => by cases hv; trivial) (g_X11_draw hd h)
def f_X11_canPass  (M : zM) : Option (Int × zM) :=
  if 9999 ≤ zw (M 68 0 38) then
    some (0, M)
  else
    some (1, M)
theorem g_X11_canPass  {M : zM} {q : Int × zM} {d : Nat} (hd : 0 ≤ d) (h : f_X11_canPass  M = some q) : zG 184 d (0, [some (zr 42 0)], [], M) (some (zi q.1)) q.2 := by
  have hm := zmok_184
  unfold f_X11_canPass at h
  refine zG_run hm 5 (cf' := (10, [some (zr 42 0)], [zi 9999, zi (M 68 0 38)], M)) rfl ?_
  by_cases c1 : 9999 ≤ zw (M 68 0 38)
  · rw [if_pos c1] at h
    refine zG_br hm rfl (cf' := (17, [some (zr 42 0)], [], M)) (if_pos c1) ?_
    refine zG_run hm 1 (cf' := (18, [some (zr 42 0)], [zi 0], M)) rfl ?_
    cases h
    exact zG_rz hm rfl rfl (Or.inl rfl)
  · rw [if_neg c1] at h
    refine zG_br hm rfl (cf' := (13, [some (zr 42 0)], [], M)) (if_neg c1) ?_
    refine zG_run hm 2 (cf' := (18, [some (zr 42 0)], [zi 1], M)) rfl ?_
    cases h
    exact zG_rz hm rfl rfl (Or.inr rfl)
theorem met_X11_canPass  {M : zM} {q : Int × zM} {d : Nat} (hd : 0 ≤ d) (h : f_X11_canPass  M = some q) : zMet 184 d [zr 42 0] M (some (zi q.1)) q.2 :=
  zMet_of (lv0 := [some (zr 42 0)]) zmok_184 rfl rfl (fun v hv => by cases hv; trivial) (g_X11_canPass hd h)
def f_X11_passesThrough_L2 (v1 : Int) (v2 : Int) (M : zM) : Option ((Int × zM) ⊕ (zM)) :=
  if zw v1 ≤ zw v2 then
    some (.inr M)
  else
    (f_X11_canPass  M).bind fun p1 =>
      if zw p1.1 = 0 then
        some (.inr p1.2)
      else
        (f_X11_dayPasses  p1.2).bind fun p2 =>
          some (.inl ((v2 + 1), p2.2))
theorem g_X11_passesThrough_L2 {v1 : Int} {v2 : Int} {M : zM} {x : (Int × zM) ⊕ (zM)} {r : Option zV} {Mf : zM} {d : Nat} (hd : 7 ≤ d) (h : f_X11_passesThrough_L2 v1 v2 M = some x)
    (kc : ∀ s, x = .inl s → zG 186 d (2, [some (zr 42 0), some (zi v1), some (zi s.1), none], [], s.2) r Mf)
    (kb : ∀ t, x = .inr t → zG 186 d (25, [none, none, none, none], [], t) r Mf) (kr : True) : zG 186 d (2, [some (zr 42 0), some (zi v1), some (zi v2), none], [], M) r Mf := by
  have hm := zmok_186
  unfold f_X11_passesThrough_L2 at h
  refine zG_run hm 2 (cf' := (4, [some (zr 42 0), some (zi v1), some (zi v2), none], [zi v1, zi v2], M)) rfl ?_
  by_cases c4 : zw v1 ≤ zw v2
  · rw [if_pos c4] at h
    refine zG_br hm rfl (cf' := (25, [some (zr 42 0), some (zi v1), some (zi v2), none], [], M)) (if_pos c4) ?_
    refine zG_sub (lv' := [none, none, none, none]) (zsb_n (zsb_n (zsb_n (zsb_n zsb_0)))) ?_
    exact kb M (Option.some.inj h).symm
  · rw [if_neg c4] at h
    refine zG_br hm rfl (cf' := (7, [some (zr 42 0), some (zi v1), some (zi v2), none], [], M)) (if_neg c4) ?_
    refine zG_run hm 1 (cf' := (8, [some (zr 42 0), some (zi v1), some (zi v2), none], [zr 42 0], M)) rfl ?_
    obtain ⟨p1, hp1, h⟩ := Option.bind_eq_some_iff.mp h
    refine zG_V hm zmok_184 rfl (as := []) (rest := []) (st2 := [zi p1.1]) (pc2 := 11) rfl rfl (by omega) (met_X11_canPass (d := 0) (Nat.le_refl _) hp1) rfl ?_
    by_cases c3 : zw p1.1 = 0
    · rw [if_pos c3] at h
      refine zG_br hm rfl (cf' := (25, [some (zr 42 0), some (zi v1), some (zi v2), none], [], p1.2)) (if_pos c3) ?_
      refine zG_sub (lv' := [none, none, none, none]) (zsb_n (zsb_n (zsb_n (zsb_n zsb_0)))) ?_
      exact kb p1.2 (Option.some.inj h).symm
    · rw [if_neg c3] at h
      refine zG_br hm rfl (cf' := (14, [some (zr 42 0), some (zi v1), some (zi v2), none], [], p1.2)) (if_neg c3) ?_
      refine zG_run hm 1 (cf' := (15, [some (zr 42 0), some (zi v1), some (zi v2), none], [zr 42 0], p1.2)) rfl ?_
      obtain ⟨p2, hp2, h⟩ := Option.bind_eq_some_iff.mp h
      refine zG_V hm zmok_185 rfl (as := []) (rest := []) (st2 := [zi p2.1]) (pc2 := 18) rfl rfl (by omega) (met_X11_dayPasses (d := 6) (Nat.le_refl _) hp2) rfl ?_
      refine zG_run hm 3 (cf' := (2, [some (zr 42 0), some (zi v1), some (zi (v2 + 1)), some (zi p2.1)], [], p2.2)) rfl ?_
      refine zG_sub (lv' := [some (zr 42 0), some (zi v1), some (zi (v2 + 1)), none]) (zsb_s rfl (zsb_s rfl (zsb_s rfl (zsb_n zsb_0)))) ?_
      exact kc ((v2 + 1), p2.2) (Option.some.inj h).symm
theorem gl_X11_passesThrough_L2 {v1 : Int} {y : zM} {r : Option zV} {Mf : zM} {d : Nat} (hd : 7 ≤ d)
    (kb : ∀ t, y = t → zG 186 d (25, [none, none, none, none], [], t) r Mf) (kr : True) : ∀ (n : Nat) (s : Int × zM), zlp (fun s : Int × zM => f_X11_passesThrough_L2 v1 s.1 s.2) n s = some y → zG 186 d (2, [some (zr 42 0), some (zi v1), some (zi s.1), none], [], s.2) r Mf := by
  intro n
  induction n with
  | zero => intro s h; cases h
  | succ n ih =>
    intro s h
    rcases zlp_cases h with ⟨s', h1, h2⟩ | h1
    · exact g_X11_passesThrough_L2 hd h1 (fun s2 e2 => by cases e2; exact ih _ h2) (fun t e2 => by cases e2) trivial
    · exact g_X11_passesThrough_L2 hd h1 (fun s2 e2 => by cases e2) (fun t e2 => kb t (Sum.inr.inj e2)) trivial
def f_X11_passesThrough (v1 : Int) (M : zM) : Option (zM) :=
  (zlp (fun s : Int × zM => f_X11_passesThrough_L2 v1 s.1 s.2) zF (0, M)).bind fun y5 =>
    some y5
theorem g_X11_passesThrough {v1 : Int} {M : zM} {q : zM} {d : Nat} (hd : 7 ≤ d) (h : f_X11_passesThrough v1 M = some q) : zG 186 d (0, [some (zr 42 0), some (zi v1), none, none], [], M) none q := by
  have hm := zmok_186
  unfold f_X11_passesThrough at h
  refine zG_run hm 2 (cf' := (2, [some (zr 42 0), some (zi v1), some (zi 0), none], [], M)) rfl ?_
  refine zG_sub (lv' := [some (zr 42 0), some (zi v1), some (zi 0), none]) (zsb_s rfl (zsb_s rfl (zsb_s rfl (zsb_n zsb_0)))) ?_
  obtain ⟨y5, hy5, h⟩ := Option.bind_eq_some_iff.mp h
  refine gl_X11_passesThrough_L2 hd (fun t e2 => ?_) trivial zF (0, M) hy5
  cases e2
  cases h
  exact zG_rv hm rfl rfl
theorem met_X11_passesThrough {v1 : Int} {M : zM} {q : zM} {d : Nat} (hd : 7 ≤ d) (h : f_X11_passesThrough v1 M = some q) : zMet 186 d [zr 42 0, zi v1] M none q :=
  zMet_of (lv0 := [some (zr 42 0), some (zi v1), none, none]) zmok_186 rfl rfl (fun v hv => by cases hv) (g_X11_passesThrough hd h)
def f_X11_happens_j113 (vs0 : Int) (vs1 : Int) (M : zM) : Option (zM) :=
  if 0 ≤ zw vs1 ∧ zw vs1 < 161 then
    zlet (zput M 68 0 (zix vs1) vs0) fun M18 =>
    some M18
  else
    none
theorem g_X11_happens_j113 {vs0 : Int} {vs1 : Int} {M : zM} {q : zM} {d : Nat} (hd : 8 ≤ d) (h : f_X11_happens_j113 vs0 vs1 M = some q) : zG 192 d (113, [none, none, none, none], [zi vs0, zi vs1, zr 68 0], M) none q := by
  have hm := zmok_192
  unfold f_X11_happens_j113 at h
  by_cases c19 : 0 ≤ zw vs1 ∧ zw vs1 < 161
  · rw [if_pos c19] at h
    refine zG_br hm rfl (cf' := (114, [none, none, none, none], [], (zput M 68 0 (zix vs1) vs0))) (if_pos c19) ?_
    obtain ⟨M18, eM18, h⟩ := zlet_of h
    rw [eM18]
    refine zG_run hm 1 (cf' := (122, [none, none, none, none], [], M18)) rfl ?_
    cases h
    exact zG_rv hm rfl rfl
  · rw [if_neg c19] at h
    cases h
def f_X11_happens  (M : zM) : Option (zM) :=
  (f_X11_draw 5 M).bind fun p1 =>
    (f_X11_draw (p1.2 43 0 1) p1.2).bind fun p2 =>
      if zw p1.1 = 0 then
        (f_X11_mayStealNow p2.1 p2.2).bind fun p4 =>
          if zw p4.1 = 0 then
            some p4.2
          else
            (f_X11_stealsNow p2.1 p4.2).bind fun p5 =>
              some p5
      else
        if zw p1.1 = 1 then
          (f_X11_mayStealNow p2.1 p2.2).bind fun p8 =>
            if zw p8.1 = 0 then
              some p8.2
            else
              (f_X11_stealsNow p2.1 p8.2).bind fun p9 =>
                some p9
        else
          if zw p1.1 = 2 then
            (f_X11_isKept p2.1 p2.2).bind fun p12 =>
              if zw p12.1 = 0 then
                some p12.2
              else
                (f_X11_comesBack p2.1 p12.2).bind fun p13 =>
                  some p13.2
          else
            if zw p1.1 = 3 then
              (f_X11_draw (p2.2 43 0 0) p2.2).bind fun p16 =>
                (f_X11_isKept p2.1 p16.2).bind fun p17 =>
                  if zw p17.1 = 0 then
                    f_X11_happens_j113 p16.1 (14 + p2.1) p17.2
                  else
                    f_X11_happens_j113 (-1) (14 + p2.1) p17.2
            else
              (f_X11_passesThrough 1 p2.2).bind fun p21 =>
                some p21
theorem g_X11_happens  {M : zM} {q : zM} {d : Nat} (hd : 8 ≤ d) (h : f_X11_happens  M = some q) : zG 192 d (0, [some (zr 42 0), none, none, none], [], M) none q := by
  have hm := zmok_192
  unfold f_X11_happens at h
  refine zG_run hm 2 (cf' := (2, [some (zr 42 0), none, none, none], [zi 5, zr 42 0], M)) rfl ?_
  obtain ⟨p1, hp1, h⟩ := Option.bind_eq_some_iff.mp h
  refine zG_V hm zmok_191 rfl (as := [zi 5]) (rest := []) (st2 := [zi p1.1]) (pc2 := 5) rfl rfl (by omega) (met_X11_draw (d := 0) (Nat.le_refl _) hp1) rfl ?_
  refine zG_run hm 6 (cf' := (13, [some (zr 42 0), some (zi p1.1), none, none], [zi (p1.2 43 0 1), zr 42 0], p1.2)) rfl ?_
  obtain ⟨p2, hp2, h⟩ := Option.bind_eq_some_iff.mp h
  refine zG_V hm zmok_191 rfl (as := [zi (p1.2 43 0 1)]) (rest := []) (st2 := [zi p2.1]) (pc2 := 16) rfl rfl (by omega) (met_X11_draw (d := 0) (Nat.le_refl _) hp2) rfl ?_
  refine zG_run hm 2 (cf' := (18, [some (zr 42 0), some (zi p1.1), some (zi p2.1), none], [zi p1.1], p2.2)) rfl ?_
  by_cases c3 : zw p1.1 = 0
  · rw [if_pos c3] at h
    refine zG_tIn hm rfl (tgt := 48) (off := 30) c3 (by decide) rfl (by decide) ?_
    refine zG_run hm 2 (cf' := (50, [some (zr 42 0), some (zi p1.1), some (zi p2.1), none], [zi p2.1, zr 42 0], p2.2)) rfl ?_
    obtain ⟨p4, hp4, h⟩ := Option.bind_eq_some_iff.mp h
    refine zG_V hm zmok_180 rfl (as := [zi p2.1]) (rest := []) (st2 := [zi p4.1]) (pc2 := 53) rfl rfl (by omega) (met_X11_mayStealNow (d := 2) (Nat.le_refl _) hp4) rfl ?_
    by_cases c6 : zw p4.1 = 0
    · rw [if_pos c6] at h
      refine zG_br hm rfl (cf' := (122, [some (zr 42 0), some (zi p1.1), some (zi p2.1), none], [], p4.2)) (if_pos c6) ?_
      cases h
      exact zG_rv hm rfl rfl
    · rw [if_neg c6] at h
      refine zG_br hm rfl (cf' := (56, [some (zr 42 0), some (zi p1.1), some (zi p2.1), none], [], p4.2)) (if_neg c6) ?_
      refine zG_run hm 2 (cf' := (58, [some (zr 42 0), some (zi p1.1), some (zi p2.1), none], [zi p2.1, zr 42 0], p4.2)) rfl ?_
      obtain ⟨p5, hp5, h⟩ := Option.bind_eq_some_iff.mp h
      refine zG_V hm zmok_181 rfl (as := [zi p2.1]) (rest := []) (st2 := []) (pc2 := 61) rfl rfl (by omega) (met_X11_stealsNow (d := 0) (Nat.le_refl _) hp5) rfl ?_
      refine zG_run hm 1 (cf' := (122, [some (zr 42 0), some (zi p1.1), some (zi p2.1), none], [], p5)) rfl ?_
      cases h
      exact zG_rv hm rfl rfl
  · rw [if_neg c3] at h
    by_cases c7 : zw p1.1 = 1
    · rw [if_pos c7] at h
      refine zG_tIn hm rfl (tgt := 48) (off := 30) c7 (by decide) rfl (by decide) ?_
      refine zG_run hm 2 (cf' := (50, [some (zr 42 0), some (zi p1.1), some (zi p2.1), none], [zi p2.1, zr 42 0], p2.2)) rfl ?_
      obtain ⟨p8, hp8, h⟩ := Option.bind_eq_some_iff.mp h
      refine zG_V hm zmok_180 rfl (as := [zi p2.1]) (rest := []) (st2 := [zi p8.1]) (pc2 := 53) rfl rfl (by omega) (met_X11_mayStealNow (d := 2) (Nat.le_refl _) hp8) rfl ?_
      by_cases c10 : zw p8.1 = 0
      · rw [if_pos c10] at h
        refine zG_br hm rfl (cf' := (122, [some (zr 42 0), some (zi p1.1), some (zi p2.1), none], [], p8.2)) (if_pos c10) ?_
        cases h
        exact zG_rv hm rfl rfl
      · rw [if_neg c10] at h
        refine zG_br hm rfl (cf' := (56, [some (zr 42 0), some (zi p1.1), some (zi p2.1), none], [], p8.2)) (if_neg c10) ?_
        refine zG_run hm 2 (cf' := (58, [some (zr 42 0), some (zi p1.1), some (zi p2.1), none], [zi p2.1, zr 42 0], p8.2)) rfl ?_
        obtain ⟨p9, hp9, h⟩ := Option.bind_eq_some_iff.mp h
        refine zG_V hm zmok_181 rfl (as := [zi p2.1]) (rest := []) (st2 := []) (pc2 := 61) rfl rfl (by omega) (met_X11_stealsNow (d := 0) (Nat.le_refl _) hp9) rfl ?_
        refine zG_run hm 1 (cf' := (122, [some (zr 42 0), some (zi p1.1), some (zi p2.1), none], [], p9)) rfl ?_
        cases h
        exact zG_rv hm rfl rfl
    · rw [if_neg c7] at h
      by_cases c11 : zw p1.1 = 2
      · rw [if_pos c11] at h
        refine zG_tIn hm rfl (tgt := 64) (off := 46) c11 (by decide) rfl (by decide) ?_
        refine zG_run hm 2 (cf' := (66, [some (zr 42 0), some (zi p1.1), some (zi p2.1), none], [zi p2.1, zr 42 0], p2.2)) rfl ?_
        obtain ⟨p12, hp12, h⟩ := Option.bind_eq_some_iff.mp h
        refine zG_V hm zmok_173 rfl (as := [zi p2.1]) (rest := []) (st2 := [zi p12.1]) (pc2 := 69) rfl rfl (by omega) (met_X11_isKept (d := 0) (Nat.le_refl _) hp12) rfl ?_
        by_cases c14 : zw p12.1 = 0
        · rw [if_pos c14] at h
          refine zG_br hm rfl (cf' := (122, [some (zr 42 0), some (zi p1.1), some (zi p2.1), none], [], p12.2)) (if_pos c14) ?_
          cases h
          exact zG_rv hm rfl rfl
        · rw [if_neg c14] at h
          refine zG_br hm rfl (cf' := (72, [some (zr 42 0), some (zi p1.1), some (zi p2.1), none], [], p12.2)) (if_neg c14) ?_
          refine zG_run hm 2 (cf' := (74, [some (zr 42 0), some (zi p1.1), some (zi p2.1), none], [zi p2.1, zr 42 0], p12.2)) rfl ?_
          obtain ⟨p13, hp13, h⟩ := Option.bind_eq_some_iff.mp h
          refine zG_V hm zmok_183 rfl (as := [zi p2.1]) (rest := []) (st2 := [zi p13.1]) (pc2 := 77) rfl rfl (by omega) (met_X11_comesBack (d := 5) (Nat.le_refl _) hp13) rfl ?_
          refine zG_run hm 2 (cf' := (122, [some (zr 42 0), some (zi p1.1), some (zi p2.1), some (zi p13.1)], [], p13.2)) rfl ?_
          cases h
          exact zG_rv hm rfl rfl
      · rw [if_neg c11] at h
        by_cases c15 : zw p1.1 = 3
        · rw [if_pos c15] at h
          refine zG_tIn hm rfl (tgt := 81) (off := 63) c15 (by decide) rfl (by decide) ?_
          refine zG_run hm 5 (cf' := (88, [some (zr 42 0), some (zi p1.1), some (zi p2.1), none], [zi (p2.2 43 0 0), zr 42 0], p2.2)) rfl ?_
          obtain ⟨p16, hp16, h⟩ := Option.bind_eq_some_iff.mp h
          refine zG_V hm zmok_191 rfl (as := [zi (p2.2 43 0 0)]) (rest := []) (st2 := [zi p16.1]) (pc2 := 91) rfl rfl (by omega) (met_X11_draw (d := 0) (Nat.le_refl _) hp16) rfl ?_
          refine zG_run hm 8 (cf' := (102, [some (zr 42 0), some (zi p1.1), some (zi p2.1), some (zi p16.1)], [zi p2.1, zr 42 0, zi (14 + p2.1), zr 68 0], p16.2)) rfl ?_
          obtain ⟨p17, hp17, h⟩ := Option.bind_eq_some_iff.mp h
          refine zG_V hm zmok_173 rfl (as := [zi p2.1]) (rest := [zi (14 + p2.1), zr 68 0]) (st2 := [zi p17.1, zi (14 + p2.1), zr 68 0]) (pc2 := 105) rfl rfl (by omega) (met_X11_isKept (d := 0) (Nat.le_refl _) hp17) rfl ?_
          by_cases c20 : zw p17.1 = 0
          · rw [if_pos c20] at h
            refine zG_br hm rfl (cf' := (112, [some (zr 42 0), some (zi p1.1), some (zi p2.1), some (zi p16.1)], [zi (14 + p2.1), zr 68 0], p17.2)) (if_pos c20) ?_
            refine zG_run hm 1 (cf' := (113, [some (zr 42 0), some (zi p1.1), some (zi p2.1), some (zi p16.1)], [zi p16.1, zi (14 + p2.1), zr 68 0], p17.2)) rfl ?_
            refine zG_sub (lv' := [none, none, none, none]) (zsb_n (zsb_n (zsb_n (zsb_n zsb_0)))) ?_
            exact g_X11_happens_j113 hd h
          · rw [if_neg c20] at h
            refine zG_br hm rfl (cf' := (108, [some (zr 42 0), some (zi p1.1), some (zi p2.1), some (zi p16.1)], [zi (14 + p2.1), zr 68 0], p17.2)) (if_neg c20) ?_
            refine zG_run hm 2 (cf' := (113, [some (zr 42 0), some (zi p1.1), some (zi p2.1), some (zi p16.1)], [zi (-1), zi (14 + p2.1), zr 68 0], p17.2)) rfl ?_
            refine zG_sub (lv' := [none, none, none, none]) (zsb_n (zsb_n (zsb_n (zsb_n zsb_0)))) ?_
            exact g_X11_happens_j113 hd h
        · rw [if_neg c15] at h
          refine zG_tOut hm rfl (tgt := 117) (by omega) (by decide) ?_
          refine zG_run hm 2 (cf' := (119, [some (zr 42 0), some (zi p1.1), some (zi p2.1), none], [zi 1, zr 42 0], p2.2)) rfl ?_
          obtain ⟨p21, hp21, h⟩ := Option.bind_eq_some_iff.mp h
          refine zG_V hm zmok_186 rfl (as := [zi 1]) (rest := []) (st2 := []) (pc2 := 122) rfl rfl (by omega) (met_X11_passesThrough (d := 7) (Nat.le_refl _) hp21) rfl ?_
          cases h
          exact zG_rv hm rfl rfl
theorem met_X11_happens  {M : zM} {q : zM} {d : Nat} (hd : 8 ≤ d) (h : f_X11_happens  M = some q) : zMet 192 d [zr 42 0] M none q :=
  zMet_of (lv0 := [some (zr 42 0), none, none, none]) zmok_192 rfl rfl (fun v hv => by cases hv) (g_X11_happens hd h)
def f_X11_decades_L55 (v2 : Int) (v3 : Int) (M : zM) : Option ((Int × zM) ⊕ (zM)) :=
  if zw v2 ≤ zw v3 then
    some (.inr M)
  else
    (f_X11_happens  M).bind fun p6 =>
      some (.inl ((v3 + 1), p6))
theorem g_X11_decades_L55 {v2 : Int} {v3 : Int} {M : zM} {x : (Int × zM) ⊕ (zM)} {r : Option zV} {Mf : zM} {d : Nat} (hd : 9 ≤ d) (h : f_X11_decades_L55 v2 v3 M = some x)
    (kc : ∀ s, x = .inl s → zG 193 d (55, [some (zr 42 0), none, some (zi v2), some (zi s.1)], [], s.2) r Mf)
    (kb : ∀ t, x = .inr t → zG 193 d (70, [some (zr 42 0), none, none, none], [], t) r Mf) (kr : True) : zG 193 d (55, [some (zr 42 0), none, some (zi v2), some (zi v3)], [], M) r Mf := by
  have hm := zmok_193
  unfold f_X11_decades_L55 at h
  refine zG_run hm 2 (cf' := (57, [some (zr 42 0), none, some (zi v2), some (zi v3)], [zi v2, zi v3], M)) rfl ?_
  by_cases c7 : zw v2 ≤ zw v3
  · rw [if_pos c7] at h
    refine zG_br hm rfl (cf' := (70, [some (zr 42 0), none, some (zi v2), some (zi v3)], [], M)) (if_pos c7) ?_
    refine zG_sub (lv' := [some (zr 42 0), none, none, none]) (zsb_s rfl (zsb_n (zsb_n (zsb_n zsb_0)))) ?_
    exact kb M (Option.some.inj h).symm
  · rw [if_neg c7] at h
    refine zG_br hm rfl (cf' := (60, [some (zr 42 0), none, some (zi v2), some (zi v3)], [], M)) (if_neg c7) ?_
    refine zG_run hm 1 (cf' := (61, [some (zr 42 0), none, some (zi v2), some (zi v3)], [zr 42 0], M)) rfl ?_
    obtain ⟨p6, hp6, h⟩ := Option.bind_eq_some_iff.mp h
    refine zG_V hm zmok_192 rfl (as := []) (rest := []) (st2 := []) (pc2 := 64) rfl rfl (by omega) (met_X11_happens (d := 8) (Nat.le_refl _) hp6) rfl ?_
    refine zG_run hm 2 (cf' := (55, [some (zr 42 0), none, some (zi v2), some (zi (v3 + 1))], [], p6)) rfl ?_
    refine zG_sub (lv' := [some (zr 42 0), none, some (zi v2), some (zi (v3 + 1))]) (zsb_s rfl (zsb_n (zsb_s rfl (zsb_s rfl zsb_0)))) ?_
    exact kc ((v3 + 1), p6) (Option.some.inj h).symm
theorem gl_X11_decades_L55 {v2 : Int} {y : zM} {r : Option zV} {Mf : zM} {d : Nat} (hd : 9 ≤ d)
    (kb : ∀ t, y = t → zG 193 d (70, [some (zr 42 0), none, none, none], [], t) r Mf) (kr : True) : ∀ (n : Nat) (s : Int × zM), zlp (fun s : Int × zM => f_X11_decades_L55 v2 s.1 s.2) n s = some y → zG 193 d (55, [some (zr 42 0), none, some (zi v2), some (zi s.1)], [], s.2) r Mf := by
  intro n
  induction n with
  | zero => intro s h; cases h
  | succ n ih =>
    intro s h
    rcases zlp_cases h with ⟨s', h1, h2⟩ | h1
    · exact g_X11_decades_L55 hd h1 (fun s2 e2 => by cases e2; exact ih _ h2) (fun t e2 => by cases e2) trivial
    · exact g_X11_decades_L55 hd h1 (fun s2 e2 => by cases e2) (fun t e2 => kb t (Sum.inr.inj e2)) trivial
def f_X11_decades (v1 : Int) (v2 : Int) (M : zM) : Option (Int × zM) :=
  (f_X11_in v1 0 9999 M).bind fun p1 =>
    if zw p1.1 = 0 then
      some ((-1), p1.2)
    else
      (f_X11_in v2 1 30 p1.2).bind fun p2 =>
        if zw p2.1 = 0 then
          some ((-1), p2.2)
        else
          if ¬ zw (p2.2 43 0 1) = 0 then
            (f_X11_keepsStep  p2.2).bind fun p3 =>
              (f_X11_laysNow  p3).bind fun p4 =>
                zlet (zput p4 68 0 39 ((v1 * 2) + 89)) fun M5 =>
                (zlp (fun s : Int × zM => f_X11_decades_L55 v2 s.1 s.2) zF (0, M5)).bind fun y8 =>
                  (f_X11_keepsNow  y8).bind fun p9 =>
                    some ((p9 68 0 38), p9)
          else
            some ((-1), p2.2)
theorem g_X11_decades {v1 : Int} {v2 : Int} {M : zM} {q : Int × zM} {d : Nat} (hd : 9 ≤ d) (h : f_X11_decades v1 v2 M = some q) : zG 193 d (0, [some (zr 42 0), some (zi v1), some (zi v2), none], [], M) (some (zi q.1)) q.2 := by
  have hm := zmok_193
  unfold f_X11_decades at h
  refine zG_run hm 3 (cf' := (5, [some (zr 42 0), some (zi v1), some (zi v2), none], [zi 9999, zi 0, zi v1], M)) rfl ?_
  obtain ⟨p1, hp1, h⟩ := Option.bind_eq_some_iff.mp h
  refine zG_S hm zmok_117 rfl (as := [zi v1, zi 0, zi 9999]) (rest := []) (st2 := [zi p1.1]) (pc2 := 8) rfl rfl (by omega) (met_X11_in (d := 0) (Nat.le_refl _) hp1) rfl ?_
  by_cases c12 : zw p1.1 = 0
  · rw [if_pos c12] at h
    refine zG_br hm rfl (cf' := (30, [some (zr 42 0), some (zi v1), some (zi v2), none], [], p1.2)) (if_pos c12) ?_
    refine zG_run hm 1 (cf' := (31, [some (zr 42 0), some (zi v1), some (zi v2), none], [zi (-1)], p1.2)) rfl ?_
    cases h
    exact zG_ri hm rfl rfl
  · rw [if_neg c12] at h
    refine zG_br hm rfl (cf' := (11, [some (zr 42 0), some (zi v1), some (zi v2), none], [], p1.2)) (if_neg c12) ?_
    refine zG_run hm 3 (cf' := (15, [some (zr 42 0), some (zi v1), some (zi v2), none], [zi 30, zi 1, zi v2], p1.2)) rfl ?_
    obtain ⟨p2, hp2, h⟩ := Option.bind_eq_some_iff.mp h
    refine zG_S hm zmok_117 rfl (as := [zi v2, zi 1, zi 30]) (rest := []) (st2 := [zi p2.1]) (pc2 := 18) rfl rfl (by omega) (met_X11_in (d := 0) (Nat.le_refl _) hp2) rfl ?_
    by_cases c11 : zw p2.1 = 0
    · rw [if_pos c11] at h
      refine zG_br hm rfl (cf' := (30, [some (zr 42 0), some (zi v1), some (zi v2), none], [], p2.2)) (if_pos c11) ?_
      refine zG_run hm 1 (cf' := (31, [some (zr 42 0), some (zi v1), some (zi v2), none], [zi (-1)], p2.2)) rfl ?_
      cases h
      exact zG_ri hm rfl rfl
    · rw [if_neg c11] at h
      refine zG_br hm rfl (cf' := (21, [some (zr 42 0), some (zi v1), some (zi v2), none], [], p2.2)) (if_neg c11) ?_
      refine zG_run hm 4 (cf' := (27, [some (zr 42 0), some (zi v1), some (zi v2), none], [zi (p2.2 43 0 1)], p2.2)) rfl ?_
      by_cases c10 : ¬ zw (p2.2 43 0 1) = 0
      · rw [if_pos c10] at h
        refine zG_br hm rfl (cf' := (32, [some (zr 42 0), some (zi v1), some (zi v2), none], [], p2.2)) (if_pos c10) ?_
        refine zG_run hm 1 (cf' := (33, [some (zr 42 0), some (zi v1), some (zi v2), none], [zr 42 0], p2.2)) rfl ?_
        obtain ⟨p3, hp3, h⟩ := Option.bind_eq_some_iff.mp h
        refine zG_V hm zmok_128 rfl (as := []) (rest := []) (st2 := []) (pc2 := 36) rfl rfl (by omega) (met_X11_keepsStep (d := 0) (Nat.le_refl _) hp3) rfl ?_
        refine zG_run hm 1 (cf' := (37, [some (zr 42 0), some (zi v1), some (zi v2), none], [zr 42 0], p3)) rfl ?_
        obtain ⟨p4, hp4, h⟩ := Option.bind_eq_some_iff.mp h
        refine zG_V hm zmok_171 rfl (as := []) (rest := []) (st2 := []) (pc2 := 40) rfl rfl (by omega) (met_X11_laysNow (d := 0) (Nat.le_refl _) hp4) rfl ?_
        refine zG_run hm 9 (cf' := (53, [some (zr 42 0), some (zi v1), some (zi v2), none], [], (zput p4 68 0 39 ((v1 * 2) + 89)))) rfl ?_
        obtain ⟨M5, eM5, h⟩ := zlet_of h
        rw [eM5]
        refine zG_run hm 2 (cf' := (55, [some (zr 42 0), some (zi v1), some (zi v2), some (zi 0)], [], M5)) rfl ?_
        refine zG_sub (lv' := [some (zr 42 0), none, some (zi v2), some (zi 0)]) (zsb_s rfl (zsb_n (zsb_s rfl (zsb_s rfl zsb_0)))) ?_
        obtain ⟨y8, hy8, h⟩ := Option.bind_eq_some_iff.mp h
        refine gl_X11_decades_L55 hd (fun t e2 => ?_) trivial zF (0, M5) hy8
        cases e2
        refine zG_run hm 1 (cf' := (71, [some (zr 42 0), none, none, none], [zr 42 0], y8)) rfl ?_
        obtain ⟨p9, hp9, h⟩ := Option.bind_eq_some_iff.mp h
        refine zG_V hm zmok_172 rfl (as := []) (rest := []) (st2 := []) (pc2 := 74) rfl rfl (by omega) (met_X11_keepsNow (d := 0) (Nat.le_refl _) hp9) rfl ?_
        refine zG_run hm 4 (cf' := (81, [some (zr 42 0), none, none, none], [zi (p9 68 0 38)], p9)) rfl ?_
        cases h
        exact zG_ri hm rfl rfl
      · rw [if_neg c10] at h
        refine zG_br hm rfl (cf' := (30, [some (zr 42 0), some (zi v1), some (zi v2), none], [], p2.2)) (if_neg c10) ?_
        refine zG_run hm 1 (cf' := (31, [some (zr 42 0), some (zi v1), some (zi v2), none], [zi (-1)], p2.2)) rfl ?_
        cases h
        exact zG_ri hm rfl rfl
theorem met_X11_decades {v1 : Int} {v2 : Int} {M : zM} {q : Int × zM} {d : Nat} (hd : 9 ≤ d) (h : f_X11_decades v1 v2 M = some q) : zMet 193 d [zr 42 0, zi v1, zi v2] M (some (zi q.1)) q.2 :=
  zMet_of (lv0 := [some (zr 42 0), some (zi v1), some (zi v2), none]) zmok_193 rfl rfl (fun v hv => by cases hv; trivial) (g_X11_decades hd h)
def f_X6_add_L3 (v1 : Int) (v2 : Int) (M : zM) : Option ((Int × zM) ⊕ (zM)) :=
  if zw v2 < 0 then
    some (.inr M)
  else
    if 0 ≤ zw (M 35 0 1) ∧ zw (M 35 0 1) < 300 then
      zlet (zput M 36 0 (zix (M 35 0 1)) (zand (zshr v1 v2) 255)) fun M1 =>
      zlet (zput M1 35 0 1 ((M1 35 0 1) + 1)) fun M2 =>
      some (.inl ((v2 + (-8)), M2))
    else
      none
theorem g_X6_add_L3 {v1 : Int} {v2 : Int} {M : zM} {x : (Int × zM) ⊕ (zM)} {r : Option zV} {Mf : zM} {d : Nat} (hd : 0 ≤ d) (h : f_X6_add_L3 v1 v2 M = some x)
    (kc : ∀ s, x = .inl s → zG 53 d (3, [some (zr 35 0), some (zi v1), some (zi s.1)], [], s.2) r Mf)
    (kb : ∀ t, x = .inr t → zG 53 d (39, [none, none, none], [], t) r Mf) (kr : True) : zG 53 d (3, [some (zr 35 0), some (zi v1), some (zi v2)], [], M) r Mf := by
  have hm := zmok_53
  unfold f_X6_add_L3 at h
  refine zG_run hm 1 (cf' := (4, [some (zr 35 0), some (zi v1), some (zi v2)], [zi v2], M)) rfl ?_
  by_cases c4 : zw v2 < 0
  · rw [if_pos c4] at h
    refine zG_br hm rfl (cf' := (39, [some (zr 35 0), some (zi v1), some (zi v2)], [], M)) (if_pos c4) ?_
    refine zG_sub (lv' := [none, none, none]) (zsb_n (zsb_n (zsb_n zsb_0))) ?_
    exact kb M (Option.some.inj h).symm
  · rw [if_neg c4] at h
    refine zG_br hm rfl (cf' := (7, [some (zr 35 0), some (zi v1), some (zi v2)], [], M)) (if_neg c4) ?_
    refine zG_run hm 9 (cf' := (22, [some (zr 35 0), some (zi v1), some (zi v2)], [zi (zand (zshr v1 v2) 255), zi (M 35 0 1), zr 36 0], M)) rfl ?_
    by_cases c3 : 0 ≤ zw (M 35 0 1) ∧ zw (M 35 0 1) < 300
    · rw [if_pos c3] at h
      refine zG_br hm rfl (cf' := (23, [some (zr 35 0), some (zi v1), some (zi v2)], [], (zput M 36 0 (zix (M 35 0 1)) (zand (zshr v1 v2) 255)))) (if_pos c3) ?_
      obtain ⟨M1, eM1, h⟩ := zlet_of h
      rw [eM1]
      refine zG_run hm 6 (cf' := (33, [some (zr 35 0), some (zi v1), some (zi v2)], [], (zput M1 35 0 1 ((M1 35 0 1) + 1)))) rfl ?_
      obtain ⟨M2, eM2, h⟩ := zlet_of h
      rw [eM2]
      refine zG_run hm 2 (cf' := (3, [some (zr 35 0), some (zi v1), some (zi (v2 + (-8)))], [], M2)) rfl ?_
      refine zG_sub (lv' := [some (zr 35 0), some (zi v1), some (zi (v2 + (-8)))]) (zsb_s rfl (zsb_s rfl (zsb_s rfl zsb_0))) ?_
      exact kc ((v2 + (-8)), M2) (Option.some.inj h).symm
    · rw [if_neg c3] at h
      cases h
theorem gl_X6_add_L3 {v1 : Int} {y : zM} {r : Option zV} {Mf : zM} {d : Nat} (hd : 0 ≤ d)
    (kb : ∀ t, y = t → zG 53 d (39, [none, none, none], [], t) r Mf) (kr : True) : ∀ (n : Nat) (s : Int × zM), zlp (fun s : Int × zM => f_X6_add_L3 v1 s.1 s.2) n s = some y → zG 53 d (3, [some (zr 35 0), some (zi v1), some (zi s.1)], [], s.2) r Mf := by
  intro n
  induction n with
  | zero => intro s h; cases h
  | succ n ih =>
    intro s h
    rcases zlp_cases h with ⟨s', h1, h2⟩ | h1
    · exact g_X6_add_L3 hd h1 (fun s2 e2 => by cases e2; exact ih _ h2) (fun t e2 => by cases e2) trivial
    · exact g_X6_add_L3 hd h1 (fun s2 e2 => by cases e2) (fun t e2 => kb t (Sum.inr.inj e2)) trivial
def f_X6_add (v1 : Int) (M : zM) : Option (zM) :=
  (zlp (fun s : Int × zM => f_X6_add_L3 v1 s.1 s.2) zF (24, M)).bind fun y5 =>
    some y5
theorem g_X6_add {v1 : Int} {M : zM} {q : zM} {d : Nat} (hd : 0 ≤ d) (h : f_X6_add v1 M = some q) : zG 53 d (0, [some (zr 35 0), some (zi v1), none], [], M) none q := by
  have hm := zmok_53
  unfold f_X6_add at h
  refine zG_run hm 2 (cf' := (3, [some (zr 35 0), some (zi v1), some (zi 24)], [], M)) rfl ?_
  refine zG_sub (lv' := [some (zr 35 0), some (zi v1), some (zi 24)]) (zsb_s rfl (zsb_s rfl (zsb_s rfl zsb_0))) ?_
  obtain ⟨y5, hy5, h⟩ := Option.bind_eq_some_iff.mp h
  refine gl_X6_add_L3 hd (fun t e2 => ?_) trivial zF (24, M) hy5
  cases e2
  cases h
  exact zG_rv hm rfl rfl
theorem met_X6_add {v1 : Int} {M : zM} {q : zM} {d : Nat} (hd : 0 ≤ d) (h : f_X6_add v1 M = some q) : zMet 53 d [zr 35 0, zi v1] M none q :=
  zMet_of (lv0 := [some (zr 35 0), some (zi v1), none]) zmok_53 rfl rfl (fun v hv => by cases hv) (g_X6_add hd h)
def f_X10_feed (v1 : Int) (v2 : Int) (v3 : Int) (v4 : Int) (v5 : Int) (M : zM) : Option (Int × zM) :=
  if zw ((M 35 0 1) + 20) ≤ 300 then
    (f_X6_add v1 M).bind fun p1 =>
      (f_X6_add v2 p1).bind fun p2 =>
        (f_X6_add v3 p2).bind fun p3 =>
          (f_X6_add v4 p3).bind fun p4 =>
            (f_X6_add v5 p4).bind fun p5 =>
              some ((p5 35 0 1), p5)
  else
    some ((-1), M)
theorem g_X10_feed {v1 : Int} {v2 : Int} {v3 : Int} {v4 : Int} {v5 : Int} {M : zM} {q : Int × zM} {d : Nat} (hd : 1 ≤ d) (h : f_X10_feed v1 v2 v3 v4 v5 M = some q) : zG 75 d (0, [some (zr 0 0), some (zi v1), some (zi v2), some (zi v3), some (zi v4), some (zi v5)], [], M) (some (zi q.1)) q.2 := by
  have hm := zmok_75
  unfold f_X10_feed at h
  refine zG_run hm 6 (cf' := (13, [some (zr 0 0), some (zi v1), some (zi v2), some (zi v3), some (zi v4), some (zi v5)], [zi 300, zi ((M 35 0 1) + 20)], M)) rfl ?_
  by_cases c6 : zw ((M 35 0 1) + 20) ≤ 300
  · rw [if_pos c6] at h
    refine zG_br hm rfl (cf' := (18, [some (zr 0 0), some (zi v1), some (zi v2), some (zi v3), some (zi v4), some (zi v5)], [], M)) (if_pos c6) ?_
    refine zG_run hm 3 (cf' := (23, [some (zr 0 0), some (zi v1), some (zi v2), some (zi v3), some (zi v4), some (zi v5)], [zi v1, zr 35 0], M)) rfl ?_
    obtain ⟨p1, hp1, h⟩ := Option.bind_eq_some_iff.mp h
    refine zG_V hm zmok_53 rfl (as := [zi v1]) (rest := []) (st2 := []) (pc2 := 26) rfl rfl (by omega) (met_X6_add (d := 0) (Nat.le_refl _) hp1) rfl ?_
    refine zG_run hm 3 (cf' := (31, [some (zr 0 0), some (zi v1), some (zi v2), some (zi v3), some (zi v4), some (zi v5)], [zi v2, zr 35 0], p1)) rfl ?_
    obtain ⟨p2, hp2, h⟩ := Option.bind_eq_some_iff.mp h
    refine zG_V hm zmok_53 rfl (as := [zi v2]) (rest := []) (st2 := []) (pc2 := 34) rfl rfl (by omega) (met_X6_add (d := 0) (Nat.le_refl _) hp2) rfl ?_
    refine zG_run hm 3 (cf' := (39, [some (zr 0 0), some (zi v1), some (zi v2), some (zi v3), some (zi v4), some (zi v5)], [zi v3, zr 35 0], p2)) rfl ?_
    obtain ⟨p3, hp3, h⟩ := Option.bind_eq_some_iff.mp h
    refine zG_V hm zmok_53 rfl (as := [zi v3]) (rest := []) (st2 := []) (pc2 := 42) rfl rfl (by omega) (met_X6_add (d := 0) (Nat.le_refl _) hp3) rfl ?_
    refine zG_run hm 3 (cf' := (48, [some (zr 0 0), some (zi v1), some (zi v2), some (zi v3), some (zi v4), some (zi v5)], [zi v4, zr 35 0], p3)) rfl ?_
    obtain ⟨p4, hp4, h⟩ := Option.bind_eq_some_iff.mp h
    refine zG_V hm zmok_53 rfl (as := [zi v4]) (rest := []) (st2 := []) (pc2 := 51) rfl rfl (by omega) (met_X6_add (d := 0) (Nat.le_refl _) hp4) rfl ?_
    refine zG_run hm 3 (cf' := (57, [some (zr 0 0), some (zi v1), some (zi v2), some (zi v3), some (zi v4), some (zi v5)], [zi v5, zr 35 0], p4)) rfl ?_
    obtain ⟨p5, hp5, h⟩ := Option.bind_eq_some_iff.mp h
    refine zG_V hm zmok_53 rfl (as := [zi v5]) (rest := []) (st2 := []) (pc2 := 60) rfl rfl (by omega) (met_X6_add (d := 0) (Nat.le_refl _) hp5) rfl ?_
    refine zG_run hm 3 (cf' := (67, [some (zr 0 0), some (zi v1), some (zi v2), some (zi v3), some (zi v4), some (zi v5)], [zi (p5 35 0 1)], p5)) rfl ?_
    cases h
    exact zG_ri hm rfl rfl
  · rw [if_neg c6] at h
    refine zG_br hm rfl (cf' := (16, [some (zr 0 0), some (zi v1), some (zi v2), some (zi v3), some (zi v4), some (zi v5)], [], M)) (if_neg c6) ?_
    refine zG_run hm 1 (cf' := (17, [some (zr 0 0), some (zi v1), some (zi v2), some (zi v3), some (zi v4), some (zi v5)], [zi (-1)], M)) rfl ?_
    cases h
    exact zG_ri hm rfl rfl
theorem met_X10_feed {v1 : Int} {v2 : Int} {v3 : Int} {v4 : Int} {v5 : Int} {M : zM} {q : Int × zM} {d : Nat} (hd : 1 ≤ d) (h : f_X10_feed v1 v2 v3 v4 v5 M = some q) : zMet 75 d [zr 0 0, zi v1, zi v2, zi v3, zi v4, zi v5] M (some (zi q.1)) q.2 :=
  zMet_of (lv0 := [some (zr 0 0), some (zi v1), some (zi v2), some (zi v3), some (zi v4), some (zi v5)]) zmok_75 rfl rfl (fun v hv => by cases hv; trivial) (g_X10_feed hd h)
def f_X11_put_L3 (v1 : Int) (v2 : Int) (M : zM) : Option ((Int × zM) ⊕ (zM)) :=
  if zw v2 < 0 then
    some (.inr M)
  else
    if 0 ≤ zw (M 42 0 3) ∧ zw (M 42 0 3) < 300 then
      zlet (zput M 45 0 (zix (M 42 0 3)) (Int.bmod (zshr v1 v2) 256)) fun M1 =>
      zlet (zput M1 42 0 3 ((M1 42 0 3) + 1)) fun M2 =>
      some (.inl ((v2 - 8), M2))
    else
      none
theorem g_X11_put_L3 {v1 : Int} {v2 : Int} {M : zM} {x : (Int × zM) ⊕ (zM)} {r : Option zV} {Mf : zM} {d : Nat} (hd : 0 ≤ d) (h : f_X11_put_L3 v1 v2 M = some x)
    (kc : ∀ s, x = .inl s → zG 130 d (3, [some (zr 42 0), some (zi v1), some (zi s.1)], [], s.2) r Mf)
    (kb : ∀ t, x = .inr t → zG 130 d (38, [none, none, none], [], t) r Mf) (kr : True) : zG 130 d (3, [some (zr 42 0), some (zi v1), some (zi v2)], [], M) r Mf := by
  have hm := zmok_130
  unfold f_X11_put_L3 at h
  refine zG_run hm 1 (cf' := (4, [some (zr 42 0), some (zi v1), some (zi v2)], [zi v2], M)) rfl ?_
  by_cases c4 : zw v2 < 0
  · rw [if_pos c4] at h
    refine zG_br hm rfl (cf' := (38, [some (zr 42 0), some (zi v1), some (zi v2)], [], M)) (if_pos c4) ?_
    refine zG_sub (lv' := [none, none, none]) (zsb_n (zsb_n (zsb_n zsb_0))) ?_
    exact kb M (Option.some.inj h).symm
  · rw [if_neg c4] at h
    refine zG_br hm rfl (cf' := (7, [some (zr 42 0), some (zi v1), some (zi v2)], [], M)) (if_neg c4) ?_
    refine zG_run hm 8 (cf' := (19, [some (zr 42 0), some (zi v1), some (zi v2)], [zi (Int.bmod (zshr v1 v2) 256), zi (M 42 0 3), zr 45 0], M)) rfl ?_
    by_cases c3 : 0 ≤ zw (M 42 0 3) ∧ zw (M 42 0 3) < 300
    · rw [if_pos c3] at h
      refine zG_br hm rfl (cf' := (20, [some (zr 42 0), some (zi v1), some (zi v2)], [], (zput M 45 0 (zix (M 42 0 3)) (Int.bmod (zshr v1 v2) 256)))) (if_pos c3) ?_
      obtain ⟨M1, eM1, h⟩ := zlet_of h
      rw [eM1]
      refine zG_run hm 6 (cf' := (30, [some (zr 42 0), some (zi v1), some (zi v2)], [], (zput M1 42 0 3 ((M1 42 0 3) + 1)))) rfl ?_
      obtain ⟨M2, eM2, h⟩ := zlet_of h
      rw [eM2]
      refine zG_run hm 5 (cf' := (3, [some (zr 42 0), some (zi v1), some (zi (v2 - 8))], [], M2)) rfl ?_
      refine zG_sub (lv' := [some (zr 42 0), some (zi v1), some (zi (v2 - 8))]) (zsb_s rfl (zsb_s rfl (zsb_s rfl zsb_0))) ?_
      exact kc ((v2 - 8), M2) (Option.some.inj h).symm
    · rw [if_neg c3] at h
      cases h
theorem gl_X11_put_L3 {v1 : Int} {y : zM} {r : Option zV} {Mf : zM} {d : Nat} (hd : 0 ≤ d)
    (kb : ∀ t, y = t → zG 130 d (38, [none, none, none], [], t) r Mf) (kr : True) : ∀ (n : Nat) (s : Int × zM), zlp (fun s : Int × zM => f_X11_put_L3 v1 s.1 s.2) n s = some y → zG 130 d (3, [some (zr 42 0), some (zi v1), some (zi s.1)], [], s.2) r Mf := by
  intro n
  induction n with
  | zero => intro s h; cases h
  | succ n ih =>
    intro s h
    rcases zlp_cases h with ⟨s', h1, h2⟩ | h1
    · exact g_X11_put_L3 hd h1 (fun s2 e2 => by cases e2; exact ih _ h2) (fun t e2 => by cases e2) trivial
    · exact g_X11_put_L3 hd h1 (fun s2 e2 => by cases e2) (fun t e2 => kb t (Sum.inr.inj e2)) trivial
def f_X11_put (v1 : Int) (M : zM) : Option (zM) :=
  (zlp (fun s : Int × zM => f_X11_put_L3 v1 s.1 s.2) zF (24, M)).bind fun y5 =>
    some y5
theorem g_X11_put {v1 : Int} {M : zM} {q : zM} {d : Nat} (hd : 0 ≤ d) (h : f_X11_put v1 M = some q) : zG 130 d (0, [some (zr 42 0), some (zi v1), none], [], M) none q := by
  have hm := zmok_130
  unfold f_X11_put at h
  refine zG_run hm 2 (cf' := (3, [some (zr 42 0), some (zi v1), some (zi 24)], [], M)) rfl ?_
  refine zG_sub (lv' := [some (zr 42 0), some (zi v1), some (zi 24)]) (zsb_s rfl (zsb_s rfl (zsb_s rfl zsb_0))) ?_
  obtain ⟨y5, hy5, h⟩ := Option.bind_eq_some_iff.mp h
  refine gl_X11_put_L3 hd (fun t e2 => ?_) trivial zF (24, M) hy5
  cases e2
  cases h
  exact zG_rv hm rfl rfl
theorem met_X11_put {v1 : Int} {M : zM} {q : zM} {d : Nat} (hd : 0 ≤ d) (h : f_X11_put v1 M = some q) : zMet 130 d [zr 42 0, zi v1] M none q :=
  zMet_of (lv0 := [some (zr 42 0), some (zi v1), none]) zmok_130 rfl rfl (fun v hv => by cases hv) (g_X11_put hd h)
def f_X11_feed (v1 : Int) (v2 : Int) (v3 : Int) (v4 : Int) (v5 : Int) (M : zM) : Option (Int × zM) :=
  if zw ((M 42 0 3) + 20) ≤ 300 then
    (f_X11_put v1 M).bind fun p1 =>
      (f_X11_put v2 p1).bind fun p2 =>
        (f_X11_put v3 p2).bind fun p3 =>
          (f_X11_put v4 p3).bind fun p4 =>
            (f_X11_put v5 p4).bind fun p5 =>
              some ((p5 42 0 3), p5)
  else
    some ((-1), M)
theorem g_X11_feed {v1 : Int} {v2 : Int} {v3 : Int} {v4 : Int} {v5 : Int} {M : zM} {q : Int × zM} {d : Nat} (hd : 1 ≤ d) (h : f_X11_feed v1 v2 v3 v4 v5 M = some q) : zG 131 d (0, [some (zr 42 0), some (zi v1), some (zi v2), some (zi v3), some (zi v4), some (zi v5)], [], M) (some (zi q.1)) q.2 := by
  have hm := zmok_131
  unfold f_X11_feed at h
  refine zG_run hm 5 (cf' := (10, [some (zr 42 0), some (zi v1), some (zi v2), some (zi v3), some (zi v4), some (zi v5)], [zi 300, zi ((M 42 0 3) + 20)], M)) rfl ?_
  by_cases c6 : zw ((M 42 0 3) + 20) ≤ 300
  · rw [if_pos c6] at h
    refine zG_br hm rfl (cf' := (15, [some (zr 42 0), some (zi v1), some (zi v2), some (zi v3), some (zi v4), some (zi v5)], [], M)) (if_pos c6) ?_
    refine zG_run hm 2 (cf' := (17, [some (zr 42 0), some (zi v1), some (zi v2), some (zi v3), some (zi v4), some (zi v5)], [zi v1, zr 42 0], M)) rfl ?_
    obtain ⟨p1, hp1, h⟩ := Option.bind_eq_some_iff.mp h
    refine zG_V hm zmok_130 rfl (as := [zi v1]) (rest := []) (st2 := []) (pc2 := 20) rfl rfl (by omega) (met_X11_put (d := 0) (Nat.le_refl _) hp1) rfl ?_
    refine zG_run hm 2 (cf' := (22, [some (zr 42 0), some (zi v1), some (zi v2), some (zi v3), some (zi v4), some (zi v5)], [zi v2, zr 42 0], p1)) rfl ?_
    obtain ⟨p2, hp2, h⟩ := Option.bind_eq_some_iff.mp h
    refine zG_V hm zmok_130 rfl (as := [zi v2]) (rest := []) (st2 := []) (pc2 := 25) rfl rfl (by omega) (met_X11_put (d := 0) (Nat.le_refl _) hp2) rfl ?_
    refine zG_run hm 2 (cf' := (27, [some (zr 42 0), some (zi v1), some (zi v2), some (zi v3), some (zi v4), some (zi v5)], [zi v3, zr 42 0], p2)) rfl ?_
    obtain ⟨p3, hp3, h⟩ := Option.bind_eq_some_iff.mp h
    refine zG_V hm zmok_130 rfl (as := [zi v3]) (rest := []) (st2 := []) (pc2 := 30) rfl rfl (by omega) (met_X11_put (d := 0) (Nat.le_refl _) hp3) rfl ?_
    refine zG_run hm 2 (cf' := (33, [some (zr 42 0), some (zi v1), some (zi v2), some (zi v3), some (zi v4), some (zi v5)], [zi v4, zr 42 0], p3)) rfl ?_
    obtain ⟨p4, hp4, h⟩ := Option.bind_eq_some_iff.mp h
    refine zG_V hm zmok_130 rfl (as := [zi v4]) (rest := []) (st2 := []) (pc2 := 36) rfl rfl (by omega) (met_X11_put (d := 0) (Nat.le_refl _) hp4) rfl ?_
    refine zG_run hm 2 (cf' := (39, [some (zr 42 0), some (zi v1), some (zi v2), some (zi v3), some (zi v4), some (zi v5)], [zi v5, zr 42 0], p4)) rfl ?_
    obtain ⟨p5, hp5, h⟩ := Option.bind_eq_some_iff.mp h
    refine zG_V hm zmok_130 rfl (as := [zi v5]) (rest := []) (st2 := []) (pc2 := 42) rfl rfl (by omega) (met_X11_put (d := 0) (Nat.le_refl _) hp5) rfl ?_
    refine zG_run hm 2 (cf' := (46, [some (zr 42 0), some (zi v1), some (zi v2), some (zi v3), some (zi v4), some (zi v5)], [zi (p5 42 0 3)], p5)) rfl ?_
    cases h
    exact zG_ri hm rfl rfl
  · rw [if_neg c6] at h
    refine zG_br hm rfl (cf' := (13, [some (zr 42 0), some (zi v1), some (zi v2), some (zi v3), some (zi v4), some (zi v5)], [], M)) (if_neg c6) ?_
    refine zG_run hm 1 (cf' := (14, [some (zr 42 0), some (zi v1), some (zi v2), some (zi v3), some (zi v4), some (zi v5)], [zi (-1)], M)) rfl ?_
    cases h
    exact zG_ri hm rfl rfl
theorem met_X11_feed {v1 : Int} {v2 : Int} {v3 : Int} {v4 : Int} {v5 : Int} {M : zM} {q : Int × zM} {d : Nat} (hd : 1 ≤ d) (h : f_X11_feed v1 v2 v3 v4 v5 M = some q) : zMet 131 d [zr 42 0, zi v1, zi v2, zi v3, zi v4, zi v5] M (some (zi q.1)) q.2 :=
  zMet_of (lv0 := [some (zr 42 0), some (zi v1), some (zi v2), some (zi v3), some (zi v4), some (zi v5)]) zmok_131 rfl rfl (fun v hv => by cases hv; trivial) (g_X11_feed hd h)
def f_X10_end (v1 : Int) (M : zM) : Option (Int × zM) :=
  if zw v1 < 0 then
    some ((-1), M)
  else
    if zw v1 ≤ zw (M 35 0 1) then
      zlet (zput M 35 0 1 v1) fun M1 =>
      some (v1, M1)
    else
      some ((-1), M)
theorem g_X10_end {v1 : Int} {M : zM} {q : Int × zM} {d : Nat} (hd : 0 ≤ d) (h : f_X10_end v1 M = some q) : zG 76 d (0, [some (zr 0 0), some (zi v1)], [], M) (some (zi q.1)) q.2 := by
  have hm := zmok_76
  unfold f_X10_end at h
  refine zG_run hm 1 (cf' := (1, [some (zr 0 0), some (zi v1)], [zi v1], M)) rfl ?_
  by_cases c3 : zw v1 < 0
  · rw [if_pos c3] at h
    refine zG_br hm rfl (cf' := (15, [some (zr 0 0), some (zi v1)], [], M)) (if_pos c3) ?_
    refine zG_run hm 1 (cf' := (16, [some (zr 0 0), some (zi v1)], [zi (-1)], M)) rfl ?_
    cases h
    exact zG_ri hm rfl rfl
  · rw [if_neg c3] at h
    refine zG_br hm rfl (cf' := (4, [some (zr 0 0), some (zi v1)], [], M)) (if_neg c3) ?_
    refine zG_run hm 4 (cf' := (12, [some (zr 0 0), some (zi v1)], [zi (M 35 0 1), zi v1], M)) rfl ?_
    by_cases c2 : zw v1 ≤ zw (M 35 0 1)
    · rw [if_pos c2] at h
      refine zG_br hm rfl (cf' := (17, [some (zr 0 0), some (zi v1)], [], M)) (if_pos c2) ?_
      refine zG_run hm 4 (cf' := (25, [some (zr 0 0), some (zi v1)], [], (zput M 35 0 1 v1))) rfl ?_
      obtain ⟨M1, eM1, h⟩ := zlet_of h
      rw [eM1]
      refine zG_run hm 1 (cf' := (26, [some (zr 0 0), some (zi v1)], [zi v1], M1)) rfl ?_
      cases h
      exact zG_ri hm rfl rfl
    · rw [if_neg c2] at h
      refine zG_br hm rfl (cf' := (15, [some (zr 0 0), some (zi v1)], [], M)) (if_neg c2) ?_
      refine zG_run hm 1 (cf' := (16, [some (zr 0 0), some (zi v1)], [zi (-1)], M)) rfl ?_
      cases h
      exact zG_ri hm rfl rfl
theorem met_X10_end {v1 : Int} {M : zM} {q : Int × zM} {d : Nat} (hd : 0 ≤ d) (h : f_X10_end v1 M = some q) : zMet 76 d [zr 0 0, zi v1] M (some (zi q.1)) q.2 :=
  zMet_of (lv0 := [some (zr 0 0), some (zi v1)]) zmok_76 rfl rfl (fun v hv => by cases hv; trivial) (g_X10_end hd h)
def f_X11_end (v1 : Int) (M : zM) : Option (Int × zM) :=
  (f_X11_in v1 0 (M 42 0 3) M).bind fun p1 =>
    if ¬ zw p1.1 = 0 then
      zlet (zput p1.2 42 0 3 v1) fun M2 =>
      some (v1, M2)
    else
      some ((-1), p1.2)
theorem g_X11_end {v1 : Int} {M : zM} {q : Int × zM} {d : Nat} (hd : 1 ≤ d) (h : f_X11_end v1 M = some q) : zG 132 d (0, [some (zr 42 0), some (zi v1)], [], M) (some (zi q.1)) q.2 := by
  have hm := zmok_132
  unfold f_X11_end at h
  refine zG_run hm 4 (cf' := (6, [some (zr 42 0), some (zi v1)], [zi (M 42 0 3), zi 0, zi v1], M)) rfl ?_
  obtain ⟨p1, hp1, h⟩ := Option.bind_eq_some_iff.mp h
  refine zG_S hm zmok_117 rfl (as := [zi v1, zi 0, zi (M 42 0 3)]) (rest := []) (st2 := [zi p1.1]) (pc2 := 9) rfl rfl (by omega) (met_X11_in (d := 0) (Nat.le_refl _) hp1) rfl ?_
  by_cases c3 : ¬ zw p1.1 = 0
  · rw [if_pos c3] at h
    refine zG_br hm rfl (cf' := (14, [some (zr 42 0), some (zi v1)], [], p1.2)) (if_pos c3) ?_
    refine zG_run hm 3 (cf' := (19, [some (zr 42 0), some (zi v1)], [], (zput p1.2 42 0 3 v1))) rfl ?_
    obtain ⟨M2, eM2, h⟩ := zlet_of h
    rw [eM2]
    refine zG_run hm 1 (cf' := (20, [some (zr 42 0), some (zi v1)], [zi v1], M2)) rfl ?_
    cases h
    exact zG_ri hm rfl rfl
  · rw [if_neg c3] at h
    refine zG_br hm rfl (cf' := (12, [some (zr 42 0), some (zi v1)], [], p1.2)) (if_neg c3) ?_
    refine zG_run hm 1 (cf' := (13, [some (zr 42 0), some (zi v1)], [zi (-1)], p1.2)) rfl ?_
    cases h
    exact zG_ri hm rfl rfl
theorem met_X11_end {v1 : Int} {M : zM} {q : Int × zM} {d : Nat} (hd : 1 ≤ d) (h : f_X11_end v1 M = some q) : zMet 132 d [zr 42 0, zi v1] M (some (zi q.1)) q.2 :=
  zMet_of (lv0 := [some (zr 42 0), some (zi v1)]) zmok_132 rfl rfl (fun v hv => by cases hv; trivial) (g_X11_end hd h)
def f_J7_fill_53178_L5 (n0 : Nat) (v1 : Int) (v3 : Int) (v2 : Int) (M : zM) : Option ((Int × zM) ⊕ (zM)) :=
  if zw v3 ≤ zw v2 then
    some (.inr M)
  else
    if 0 ≤ zw v2 ∧ zw v2 < 4 then
      zlet (zput M 7 n0 (zix v2) v1) fun M1 =>
      some (.inl ((v2 + 1), M1))
    else
      none
theorem g_J7_fill_53178_L5 {n0 : Nat} {v1 : Int} {v3 : Int} {v2 : Int} {M : zM} {x : (Int × zM) ⊕ (zM)} {r : Option zV} {Mf : zM} {d : Nat} (hd : 0 ≤ d) (h : f_J7_fill_53178_L5 n0 v1 v3 v2 M = some x)
    (kc : ∀ s, x = .inl s → zG 229 d (5, [some (zr 7 n0), some (zi v1), some (zi s.1), some (zi v3)], [], s.2) r Mf)
    (kb : ∀ t, x = .inr t → zG 229 d (20, [none, none, none, none], [], t) r Mf) (kr : True) : zG 229 d (5, [some (zr 7 n0), some (zi v1), some (zi v2), some (zi v3)], [], M) r Mf := by
  have hm := zmok_229
  unfold f_J7_fill_53178_L5 at h
  refine zG_run hm 2 (cf' := (7, [some (zr 7 n0), some (zi v1), some (zi v2), some (zi v3)], [zi v3, zi v2], M)) rfl ?_
  by_cases c3 : zw v3 ≤ zw v2
  · rw [if_pos c3] at h
    refine zG_br hm rfl (cf' := (20, [some (zr 7 n0), some (zi v1), some (zi v2), some (zi v3)], [], M)) (if_pos c3) ?_
    refine zG_sub (lv' := [none, none, none, none]) (zsb_n (zsb_n (zsb_n (zsb_n zsb_0)))) ?_
    exact kb M (Option.some.inj h).symm
  · rw [if_neg c3] at h
    refine zG_br hm rfl (cf' := (10, [some (zr 7 n0), some (zi v1), some (zi v2), some (zi v3)], [], M)) (if_neg c3) ?_
    refine zG_run hm 3 (cf' := (13, [some (zr 7 n0), some (zi v1), some (zi v2), some (zi v3)], [zi v1, zi v2, zr 7 n0], M)) rfl ?_
    by_cases c2 : 0 ≤ zw v2 ∧ zw v2 < 4
    · rw [if_pos c2] at h
      refine zG_br hm rfl (cf' := (14, [some (zr 7 n0), some (zi v1), some (zi v2), some (zi v3)], [], (zput M 7 n0 (zix v2) v1))) (if_pos c2) ?_
      obtain ⟨M1, eM1, h⟩ := zlet_of h
      rw [eM1]
      refine zG_run hm 2 (cf' := (5, [some (zr 7 n0), some (zi v1), some (zi (v2 + 1)), some (zi v3)], [], M1)) rfl ?_
      refine zG_sub (lv' := [some (zr 7 n0), some (zi v1), some (zi (v2 + 1)), some (zi v3)]) (zsb_s rfl (zsb_s rfl (zsb_s rfl (zsb_s rfl zsb_0)))) ?_
      exact kc ((v2 + 1), M1) (Option.some.inj h).symm
    · rw [if_neg c2] at h
      cases h
theorem gl_J7_fill_53178_L5 {n0 : Nat} {v1 : Int} {v3 : Int} {y : zM} {r : Option zV} {Mf : zM} {d : Nat} (hd : 0 ≤ d)
    (kb : ∀ t, y = t → zG 229 d (20, [none, none, none, none], [], t) r Mf) (kr : True) : ∀ (n : Nat) (s : Int × zM), zlp (fun s : Int × zM => f_J7_fill_53178_L5 n0 v1 v3 s.1 s.2) n s = some y → zG 229 d (5, [some (zr 7 n0), some (zi v1), some (zi s.1), some (zi v3)], [], s.2) r Mf := by
  intro n
  induction n with
  | zero => intro s h; cases h
  | succ n ih =>
    intro s h
    rcases zlp_cases h with ⟨s', h1, h2⟩ | h1
    · exact g_J7_fill_53178_L5 hd h1 (fun s2 e2 => by cases e2; exact ih _ h2) (fun t e2 => by cases e2) trivial
    · exact g_J7_fill_53178_L5 hd h1 (fun s2 e2 => by cases e2) (fun t e2 => kb t (Sum.inr.inj e2)) trivial
def f_J7_fill_53178 (n0 : Nat) (v1 : Int) (M : zM) : Option (zM) :=
  (zlp (fun s : Int × zM => f_J7_fill_53178_L5 n0 v1 4 s.1 s.2) zF (0, M)).bind fun y4 =>
    some y4
theorem g_J7_fill_53178 {n0 : Nat} {v1 : Int} {M : zM} {q : zM} {d : Nat} (hd : 0 ≤ d) (h : f_J7_fill_53178 n0 v1 M = some q) : zG 229 d (0, [some (zr 7 n0), some (zi v1), none, none], [], M) none q := by
  have hm := zmok_229
  unfold f_J7_fill_53178 at h
  refine zG_run hm 5 (cf' := (5, [some (zr 7 n0), some (zi v1), some (zi 0), some (zi 4)], [], M)) rfl ?_
  refine zG_sub (lv' := [some (zr 7 n0), some (zi v1), some (zi 0), some (zi 4)]) (zsb_s rfl (zsb_s rfl (zsb_s rfl (zsb_s rfl zsb_0)))) ?_
  obtain ⟨y4, hy4, h⟩ := Option.bind_eq_some_iff.mp h
  refine gl_J7_fill_53178_L5 hd (fun t e2 => ?_) trivial zF (0, M) hy4
  cases e2
  cases h
  exact zG_rv hm rfl rfl
theorem met_J7_fill_53178 {n0 : Nat} {v1 : Int} {M : zM} {q : zM} {d : Nat} (hd : 0 ≤ d) (h : f_J7_fill_53178 n0 v1 M = some q) : zMet 229 d [zr 7 n0, zi v1] M none q :=
  zMet_of (lv0 := [some (zr 7 n0), some (zi v1), none, none]) zmok_229 rfl rfl (fun v hv => by cases hv) (g_J7_fill_53178 hd h)
def f_J7_fill_53178_8_L5 (n0 : Nat) (v1 : Int) (v3 : Int) (v2 : Int) (M : zM) : Option ((Int × zM) ⊕ (zM)) :=
  if zw v3 ≤ zw v2 then
    some (.inr M)
  else
    if 0 ≤ zw v2 ∧ zw v2 < 4 then
      zlet (zput M 8 n0 (zix v2) v1) fun M1 =>
      some (.inl ((v2 + 1), M1))
    else
      none
theorem g_J7_fill_53178_8_L5 {n0 : Nat} {v1 : Int} {v3 : Int} {v2 : Int} {M : zM} {x : (Int × zM) ⊕ (zM)} {r : Option zV} {Mf : zM} {d : Nat} (hd : 0 ≤ d) (h : f_J7_fill_53178_8_L5 n0 v1 v3 v2 M = some x)
    (kc : ∀ s, x = .inl s → zG 229 d (5, [some (zr 8 n0), some (zi v1), some (zi s.1), some (zi v3)], [], s.2) r Mf)
    (kb : ∀ t, x = .inr t → zG 229 d (20, [none, none, none, none], [], t) r Mf) (kr : True) : zG 229 d (5, [some (zr 8 n0), some (zi v1), some (zi v2), some (zi v3)], [], M) r Mf := by
  have hm := zmok_229
  unfold f_J7_fill_53178_8_L5 at h
  refine zG_run hm 2 (cf' := (7, [some (zr 8 n0), some (zi v1), some (zi v2), some (zi v3)], [zi v3, zi v2], M)) rfl ?_
  by_cases c3 : zw v3 ≤ zw v2
  · rw [if_pos c3] at h
    refine zG_br hm rfl (cf' := (20, [some (zr 8 n0), some (zi v1), some (zi v2), some (zi v3)], [], M)) (if_pos c3) ?_
    refine zG_sub (lv' := [none, none, none, none]) (zsb_n (zsb_n (zsb_n (zsb_n zsb_0)))) ?_
    exact kb M (Option.some.inj h).symm
  · rw [if_neg c3] at h
    refine zG_br hm rfl (cf' := (10, [some (zr 8 n0), some (zi v1), some (zi v2), some (zi v3)], [], M)) (if_neg c3) ?_
    refine zG_run hm 3 (cf' := (13, [some (zr 8 n0), some (zi v1), some (zi v2), some (zi v3)], [zi v1, zi v2, zr 8 n0], M)) rfl ?_
    by_cases c2 : 0 ≤ zw v2 ∧ zw v2 < 4
    · rw [if_pos c2] at h
      refine zG_br hm rfl (cf' := (14, [some (zr 8 n0), some (zi v1), some (zi v2), some (zi v3)], [], (zput M 8 n0 (zix v2) v1))) (if_pos c2) ?_
      obtain ⟨M1, eM1, h⟩ := zlet_of h
      rw [eM1]
      refine zG_run hm 2 (cf' := (5, [some (zr 8 n0), some (zi v1), some (zi (v2 + 1)), some (zi v3)], [], M1)) rfl ?_
      refine zG_sub (lv' := [some (zr 8 n0), some (zi v1), some (zi (v2 + 1)), some (zi v3)]) (zsb_s rfl (zsb_s rfl (zsb_s rfl (zsb_s rfl zsb_0)))) ?_
      exact kc ((v2 + 1), M1) (Option.some.inj h).symm
    · rw [if_neg c2] at h
      cases h
theorem gl_J7_fill_53178_8_L5 {n0 : Nat} {v1 : Int} {v3 : Int} {y : zM} {r : Option zV} {Mf : zM} {d : Nat} (hd : 0 ≤ d)
    (kb : ∀ t, y = t → zG 229 d (20, [none, none, none, none], [], t) r Mf) (kr : True) : ∀ (n : Nat) (s : Int × zM), zlp (fun s : Int × zM => f_J7_fill_53178_8_L5 n0 v1 v3 s.1 s.2) n s = some y → zG 229 d (5, [some (zr 8 n0), some (zi v1), some (zi s.1), some (zi v3)], [], s.2) r Mf := by
  intro n
  induction n with
  | zero => intro s h; cases h
  | succ n ih =>
    intro s h
    rcases zlp_cases h with ⟨s', h1, h2⟩ | h1
    · exact g_J7_fill_53178_8_L5 hd h1 (fun s2 e2 => by cases e2; exact ih _ h2) (fun t e2 => by cases e2) trivial
    · exact g_J7_fill_53178_8_L5 hd h1 (fun s2 e2 => by cases e2) (fun t e2 => kb t (Sum.inr.inj e2)) trivial
def f_J7_fill_53178_8 (n0 : Nat) (v1 : Int) (M : zM) : Option (zM) :=
  (zlp (fun s : Int × zM => f_J7_fill_53178_8_L5 n0 v1 4 s.1 s.2) zF (0, M)).bind fun y4 =>
    some y4
theorem g_J7_fill_53178_8 {n0 : Nat} {v1 : Int} {M : zM} {q : zM} {d : Nat} (hd : 0 ≤ d) (h : f_J7_fill_53178_8 n0 v1 M = some q) : zG 229 d (0, [some (zr 8 n0), some (zi v1), none, none], [], M) none q := by
  have hm := zmok_229
  unfold f_J7_fill_53178_8 at h
  refine zG_run hm 5 (cf' := (5, [some (zr 8 n0), some (zi v1), some (zi 0), some (zi 4)], [], M)) rfl ?_
  refine zG_sub (lv' := [some (zr 8 n0), some (zi v1), some (zi 0), some (zi 4)]) (zsb_s rfl (zsb_s rfl (zsb_s rfl (zsb_s rfl zsb_0)))) ?_
  obtain ⟨y4, hy4, h⟩ := Option.bind_eq_some_iff.mp h
  refine gl_J7_fill_53178_8_L5 hd (fun t e2 => ?_) trivial zF (0, M) hy4
  cases e2
  cases h
  exact zG_rv hm rfl rfl
theorem met_J7_fill_53178_8 {n0 : Nat} {v1 : Int} {M : zM} {q : zM} {d : Nat} (hd : 0 ≤ d) (h : f_J7_fill_53178_8 n0 v1 M = some q) : zMet 229 d [zr 8 n0, zi v1] M none q :=
  zMet_of (lv0 := [some (zr 8 n0), some (zi v1), none, none]) zmok_229 rfl rfl (fun v hv => by cases hv) (g_J7_fill_53178_8 hd h)
def f_X7_empty (n0 : Nat) (M : zM) : Option (zM) :=
  (f_J7_fill_53178 n0 (-1) M).bind fun p1 =>
    (f_J7_fill_53178_8 n0 (-1) p1).bind fun p2 =>
      zlet (zput p2 2 n0 8 0) fun M3 =>
      zlet (zput M3 2 n0 9 0) fun M4 =>
      some M4
theorem g_X7_empty {n0 : Nat} {M : zM} {q : zM} {d : Nat} (hd : 1 ≤ d) (h : f_X7_empty n0 M = some q) : zG 55 d (0, [some (zr 2 n0)], [], M) none q := by
  have hm := zmok_55
  unfold f_X7_empty at h
  refine zG_run hm 3 (cf' := (5, [some (zr 2 n0)], [zi (-1), zr 7 n0], M)) rfl ?_
  obtain ⟨p1, hp1, h⟩ := Option.bind_eq_some_iff.mp h
  refine zG_S hm zmok_229 rfl (as := [zr 7 n0, zi (-1)]) (rest := []) (st2 := []) (pc2 := 8) rfl rfl (by omega) (met_J7_fill_53178 (d := 0) (Nat.le_refl _) hp1) rfl ?_
  refine zG_run hm 3 (cf' := (13, [some (zr 2 n0)], [zi (-1), zr 8 n0], p1)) rfl ?_
  obtain ⟨p2, hp2, h⟩ := Option.bind_eq_some_iff.mp h
  refine zG_S hm zmok_229 rfl (as := [zr 8 n0, zi (-1)]) (rest := []) (st2 := []) (pc2 := 16) rfl rfl (by omega) (met_J7_fill_53178_8 (d := 0) (Nat.le_refl _) hp2) rfl ?_
  refine zG_run hm 3 (cf' := (21, [some (zr 2 n0)], [], (zput p2 2 n0 8 0))) rfl ?_
  obtain ⟨M3, eM3, h⟩ := zlet_of h
  rw [eM3]
  refine zG_run hm 3 (cf' := (26, [some (zr 2 n0)], [], (zput M3 2 n0 9 0))) rfl ?_
  obtain ⟨M4, eM4, h⟩ := zlet_of h
  rw [eM4]
  cases h
  exact zG_rv hm rfl rfl
theorem met_X7_empty {n0 : Nat} {M : zM} {q : zM} {d : Nat} (hd : 1 ≤ d) (h : f_X7_empty n0 M = some q) : zMet 55 d [zr 2 n0] M none q :=
  zMet_of (lv0 := [some (zr 2 n0)]) zmok_55 rfl rfl (fun v hv => by cases hv) (g_X7_empty hd h)
def f_X6_at (v1 : Int) (M : zM) : Option (Int × zM) :=
  if zw v1 < 0 then
    some ((-1), M)
  else
    if zw (M 35 0 1) ≤ zw v1 then
      some ((-1), M)
    else
      if 0 ≤ zw v1 ∧ zw v1 < 300 then
        some ((M 36 0 (zix v1)), M)
      else
        none
theorem g_X6_at {v1 : Int} {M : zM} {q : Int × zM} {d : Nat} (hd : 0 ≤ d) (h : f_X6_at v1 M = some q) : zG 54 d (0, [some (zr 35 0), some (zi v1)], [], M) (some (zi q.1)) q.2 := by
  have hm := zmok_54
  unfold f_X6_at at h
  refine zG_run hm 1 (cf' := (1, [some (zr 35 0), some (zi v1)], [zi v1], M)) rfl ?_
  by_cases c3 : zw v1 < 0
  · rw [if_pos c3] at h
    refine zG_br hm rfl (cf' := (21, [some (zr 35 0), some (zi v1)], [], M)) (if_pos c3) ?_
    refine zG_run hm 1 (cf' := (22, [some (zr 35 0), some (zi v1)], [zi (-1)], M)) rfl ?_
    cases h
    exact zG_ri hm rfl rfl
  · rw [if_neg c3] at h
    refine zG_br hm rfl (cf' := (4, [some (zr 35 0), some (zi v1)], [], M)) (if_neg c3) ?_
    refine zG_run hm 3 (cf' := (9, [some (zr 35 0), some (zi v1)], [zi (M 35 0 1), zi v1], M)) rfl ?_
    by_cases c2 : zw (M 35 0 1) ≤ zw v1
    · rw [if_pos c2] at h
      refine zG_br hm rfl (cf' := (21, [some (zr 35 0), some (zi v1)], [], M)) (if_pos c2) ?_
      refine zG_run hm 1 (cf' := (22, [some (zr 35 0), some (zi v1)], [zi (-1)], M)) rfl ?_
      cases h
      exact zG_ri hm rfl rfl
    · rw [if_neg c2] at h
      refine zG_br hm rfl (cf' := (12, [some (zr 35 0), some (zi v1)], [], M)) (if_neg c2) ?_
      refine zG_run hm 3 (cf' := (17, [some (zr 35 0), some (zi v1)], [zi v1, zr 36 0], M)) rfl ?_
      by_cases c1 : 0 ≤ zw v1 ∧ zw v1 < 300
      · rw [if_pos c1] at h
        refine zG_br hm rfl (cf' := (18, [some (zr 35 0), some (zi v1)], [zi (M 36 0 (zix v1))], M)) (if_pos c1) ?_
        refine zG_run hm 1 (cf' := (22, [some (zr 35 0), some (zi v1)], [zi (M 36 0 (zix v1))], M)) rfl ?_
        cases h
        exact zG_ri hm rfl rfl
      · rw [if_neg c1] at h
        cases h
theorem met_X6_at {v1 : Int} {M : zM} {q : Int × zM} {d : Nat} (hd : 0 ≤ d) (h : f_X6_at v1 M = some q) : zMet 54 d [zr 35 0, zi v1] M (some (zi q.1)) q.2 :=
  zMet_of (lv0 := [some (zr 35 0), some (zi v1)]) zmok_54 rfl rfl (fun v hv => by cases hv; trivial) (g_X6_at hd h)
def f_X4_isBlank (v0 : Int) (M : zM) : Option (Int × zM) :=
  if zw v0 = 32 then
    some (1, M)
  else
    if ¬ zw v0 = 10 then
      some (0, M)
    else
      some (1, M)
theorem g_X4_isBlank {v0 : Int} {M : zM} {q : Int × zM} {d : Nat} (hd : 0 ≤ d) (h : f_X4_isBlank v0 M = some q) : zG 44 d (0, [some (zi v0)], [], M) (some (zi q.1)) q.2 := by
  have hm := zmok_44
  unfold f_X4_isBlank at h
  refine zG_run hm 2 (cf' := (3, [some (zi v0)], [zi 32, zi v0], M)) rfl ?_
  by_cases c2 : zw v0 = 32
  · rw [if_pos c2] at h
    refine zG_br hm rfl (cf' := (12, [some (zi v0)], [], M)) (if_pos c2) ?_
    refine zG_run hm 2 (cf' := (17, [some (zi v0)], [zi 1], M)) rfl ?_
    cases h
    exact zG_rz hm rfl rfl (Or.inr rfl)
  · rw [if_neg c2] at h
    refine zG_br hm rfl (cf' := (6, [some (zi v0)], [], M)) (if_neg c2) ?_
    refine zG_run hm 2 (cf' := (9, [some (zi v0)], [zi 10, zi v0], M)) rfl ?_
    by_cases c1 : ¬ zw v0 = 10
    · rw [if_pos c1] at h
      refine zG_br hm rfl (cf' := (16, [some (zi v0)], [], M)) (if_pos c1) ?_
      refine zG_run hm 1 (cf' := (17, [some (zi v0)], [zi 0], M)) rfl ?_
      cases h
      exact zG_rz hm rfl rfl (Or.inl rfl)
    · rw [if_neg c1] at h
      refine zG_br hm rfl (cf' := (12, [some (zi v0)], [], M)) (if_neg c1) ?_
      refine zG_run hm 2 (cf' := (17, [some (zi v0)], [zi 1], M)) rfl ?_
      cases h
      exact zG_rz hm rfl rfl (Or.inr rfl)
theorem met_X4_isBlank {v0 : Int} {M : zM} {q : Int × zM} {d : Nat} (hd : 0 ≤ d) (h : f_X4_isBlank v0 M = some q) : zMet 44 d [zi v0] M (some (zi q.1)) q.2 :=
  zMet_of (lv0 := [some (zi v0)]) zmok_44 rfl rfl (fun v hv => by cases hv; trivial) (g_X4_isBlank hd h)
def f_X4_isLetter_j12 (v0 : Int) (M : zM) : Option (Int × zM) :=
  if zw v0 < 65 then
    some (0, M)
  else
    if 90 < zw v0 then
      some (0, M)
    else
      some (1, M)
theorem g_X4_isLetter_j12 {v0 : Int} {M : zM} {q : Int × zM} {d : Nat} (hd : 0 ≤ d) (h : f_X4_isLetter_j12 v0 M = some q) : zG 45 d (12, [some (zi v0)], [], M) (some (zi q.1)) q.2 := by
  have hm := zmok_45
  unfold f_X4_isLetter_j12 at h
  refine zG_run hm 2 (cf' := (15, [some (zi v0)], [zi 65, zi v0], M)) rfl ?_
  by_cases c2 : zw v0 < 65
  · rw [if_pos c2] at h
    refine zG_br hm rfl (cf' := (28, [some (zi v0)], [], M)) (if_pos c2) ?_
    refine zG_run hm 1 (cf' := (29, [some (zi v0)], [zi 0], M)) rfl ?_
    cases h
    exact zG_rz hm rfl rfl (Or.inl rfl)
  · rw [if_neg c2] at h
    refine zG_br hm rfl (cf' := (18, [some (zi v0)], [], M)) (if_neg c2) ?_
    refine zG_run hm 2 (cf' := (21, [some (zi v0)], [zi 90, zi v0], M)) rfl ?_
    by_cases c1 : 90 < zw v0
    · rw [if_pos c1] at h
      refine zG_br hm rfl (cf' := (28, [some (zi v0)], [], M)) (if_pos c1) ?_
      refine zG_run hm 1 (cf' := (29, [some (zi v0)], [zi 0], M)) rfl ?_
      cases h
      exact zG_rz hm rfl rfl (Or.inl rfl)
    · rw [if_neg c1] at h
      refine zG_br hm rfl (cf' := (24, [some (zi v0)], [], M)) (if_neg c1) ?_
      refine zG_run hm 2 (cf' := (29, [some (zi v0)], [zi 1], M)) rfl ?_
      cases h
      exact zG_rz hm rfl rfl (Or.inr rfl)
def f_X4_isLetter (v0 : Int) (M : zM) : Option (Int × zM) :=
  if zw v0 < 97 then
    f_X4_isLetter_j12 v0 M
  else
    if zw v0 ≤ 122 then
      some (1, M)
    else
      f_X4_isLetter_j12 v0 M
theorem g_X4_isLetter {v0 : Int} {M : zM} {q : Int × zM} {d : Nat} (hd : 0 ≤ d) (h : f_X4_isLetter v0 M = some q) : zG 45 d (0, [some (zi v0)], [], M) (some (zi q.1)) q.2 := by
  have hm := zmok_45
  unfold f_X4_isLetter at h
  refine zG_run hm 2 (cf' := (3, [some (zi v0)], [zi 97, zi v0], M)) rfl ?_
  by_cases c4 : zw v0 < 97
  · rw [if_pos c4] at h
    refine zG_br hm rfl (cf' := (12, [some (zi v0)], [], M)) (if_pos c4) ?_
    refine zG_sub (lv' := [some (zi v0)]) (zsb_s rfl zsb_0) ?_
    exact g_X4_isLetter_j12 hd h
  · rw [if_neg c4] at h
    refine zG_br hm rfl (cf' := (6, [some (zi v0)], [], M)) (if_neg c4) ?_
    refine zG_run hm 2 (cf' := (9, [some (zi v0)], [zi 122, zi v0], M)) rfl ?_
    by_cases c3 : zw v0 ≤ 122
    · rw [if_pos c3] at h
      refine zG_br hm rfl (cf' := (24, [some (zi v0)], [], M)) (if_pos c3) ?_
      refine zG_run hm 2 (cf' := (29, [some (zi v0)], [zi 1], M)) rfl ?_
      cases h
      exact zG_rz hm rfl rfl (Or.inr rfl)
    · rw [if_neg c3] at h
      refine zG_br hm rfl (cf' := (12, [some (zi v0)], [], M)) (if_neg c3) ?_
      refine zG_sub (lv' := [some (zi v0)]) (zsb_s rfl zsb_0) ?_
      exact g_X4_isLetter_j12 hd h
theorem met_X4_isLetter {v0 : Int} {M : zM} {q : Int × zM} {d : Nat} (hd : 0 ≤ d) (h : f_X4_isLetter v0 M = some q) : zMet 45 d [zi v0] M (some (zi q.1)) q.2 :=
  zMet_of (lv0 := [some (zi v0)]) zmok_45 rfl rfl (fun v hv => by cases hv; trivial) (g_X4_isLetter hd h)
def f_X4_isDigit (v0 : Int) (M : zM) : Option (Int × zM) :=
  if zw v0 < 48 then
    some (0, M)
  else
    if 57 < zw v0 then
      some (0, M)
    else
      some (1, M)
theorem g_X4_isDigit {v0 : Int} {M : zM} {q : Int × zM} {d : Nat} (hd : 0 ≤ d) (h : f_X4_isDigit v0 M = some q) : zG 46 d (0, [some (zi v0)], [], M) (some (zi q.1)) q.2 := by
  have hm := zmok_46
  unfold f_X4_isDigit at h
  refine zG_run hm 2 (cf' := (3, [some (zi v0)], [zi 48, zi v0], M)) rfl ?_
  by_cases c2 : zw v0 < 48
  · rw [if_pos c2] at h
    refine zG_br hm rfl (cf' := (16, [some (zi v0)], [], M)) (if_pos c2) ?_
    refine zG_run hm 1 (cf' := (17, [some (zi v0)], [zi 0], M)) rfl ?_
    cases h
    exact zG_rz hm rfl rfl (Or.inl rfl)
  · rw [if_neg c2] at h
    refine zG_br hm rfl (cf' := (6, [some (zi v0)], [], M)) (if_neg c2) ?_
    refine zG_run hm 2 (cf' := (9, [some (zi v0)], [zi 57, zi v0], M)) rfl ?_
    by_cases c1 : 57 < zw v0
    · rw [if_pos c1] at h
      refine zG_br hm rfl (cf' := (16, [some (zi v0)], [], M)) (if_pos c1) ?_
      refine zG_run hm 1 (cf' := (17, [some (zi v0)], [zi 0], M)) rfl ?_
      cases h
      exact zG_rz hm rfl rfl (Or.inl rfl)
    · rw [if_neg c1] at h
      refine zG_br hm rfl (cf' := (12, [some (zi v0)], [], M)) (if_neg c1) ?_
      refine zG_run hm 2 (cf' := (17, [some (zi v0)], [zi 1], M)) rfl ?_
      cases h
      exact zG_rz hm rfl rfl (Or.inr rfl)
theorem met_X4_isDigit {v0 : Int} {M : zM} {q : Int × zM} {d : Nat} (hd : 0 ≤ d) (h : f_X4_isDigit v0 M = some q) : zMet 46 d [zi v0] M (some (zi q.1)) q.2 :=
  zMet_of (lv0 := [some (zi v0)]) zmok_46 rfl rfl (fun v hv => by cases hv; trivial) (g_X4_isDigit hd h)
def f_X4_markKind (v0 : Int) (v1 : Int) (M : zM) : Option (Int × zM) :=
  if zw v0 = 35 then
    some (31, M)
  else
    if zw v0 = 36 then
      some (39, M)
    else
      if zw v0 = 37 then
        some (39, M)
      else
        if zw v0 = 38 then
          some (39, M)
        else
          if zw v0 = 39 then
            some (39, M)
          else
            if zw v0 = 40 then
              some (36, M)
            else
              if zw v0 = 41 then
                some (37, M)
              else
                if zw v0 = 42 then
                  some (34, M)
                else
                  if zw v0 = 43 then
                    some (32, M)
                  else
                    if zw v0 = 44 then
                      some (39, M)
                    else
                      if zw v0 = 45 then
                        some (33, M)
                      else
                        if zw v0 = 46 then
                          some (39, M)
                        else
                          if zw v0 = 47 then
                            some (35, M)
                          else
                            if zw v0 = 48 then
                              some (39, M)
                            else
                              if zw v0 = 49 then
                                some (39, M)
                              else
                                if zw v0 = 50 then
                                  some (39, M)
                                else
                                  if zw v0 = 51 then
                                    some (39, M)
                                  else
                                    if zw v0 = 52 then
                                      some (39, M)
                                    else
                                      if zw v0 = 53 then
                                        some (39, M)
                                      else
                                        if zw v0 = 54 then
                                          some (39, M)
                                        else
                                          if zw v0 = 55 then
                                            some (39, M)
                                          else
                                            if zw v0 = 56 then
                                              some (39, M)
                                            else
                                              if zw v0 = 57 then
                                                some (39, M)
                                              else
                                                if zw v0 = 58 then
                                                  some (39, M)
                                                else
                                                  if zw v0 = 59 then
                                                    some (38, M)
                                                  else
                                                    if zw v0 = 60 then
                                                      if ¬ zw v1 = 61 then
                                                        some (26, M)
                                                      else
                                                        some (27, M)
                                                    else
                                                      if zw v0 = 61 then
                                                        some (30, M)
                                                      else
                                                        if zw v0 = 62 then
                                                          if ¬ zw v1 = 61 then
                                                            some (28, M)
                                                          else
                                                            some (29, M)
                                                        else
                                                          some (39, M)
theorem g_X4_markKind {v0 : Int} {v1 : Int} {M : zM} {q : Int × zM} {d : Nat} (hd : 0 ≤ d) (h : f_X4_markKind v0 v1 M = some q) : zG 47 d (0, [some (zi v0), some (zi v1)], [], M) (some (zi q.1)) q.2 := by
  have hm := zmok_47
  unfold f_X4_markKind at h
  refine zG_run hm 1 (cf' := (1, [some (zi v0), some (zi v1)], [zi v0], M)) rfl ?_
  by_cases c1 : zw v0 = 35
  · rw [if_pos c1] at h
    refine zG_tIn hm rfl (tgt := 159) (off := 158) c1 (by decide) rfl (by decide) ?_
    refine zG_run hm 1 (cf' := (161, [some (zi v0), some (zi v1)], [zi 31], M)) rfl ?_
    cases h
    exact zG_ri hm rfl rfl
  · rw [if_neg c1] at h
    by_cases c2 : zw v0 = 36
    · rw [if_pos c2] at h
      refine zG_tIn hm rfl (tgt := 183) (off := 182) c2 (by decide) rfl (by decide) ?_
      refine zG_run hm 1 (cf' := (185, [some (zi v0), some (zi v1)], [zi 39], M)) rfl ?_
      cases h
      exact zG_ri hm rfl rfl
    · rw [if_neg c2] at h
      by_cases c3 : zw v0 = 37
      · rw [if_pos c3] at h
        refine zG_tIn hm rfl (tgt := 183) (off := 182) c3 (by decide) rfl (by decide) ?_
        refine zG_run hm 1 (cf' := (185, [some (zi v0), some (zi v1)], [zi 39], M)) rfl ?_
        cases h
        exact zG_ri hm rfl rfl
      · rw [if_neg c3] at h
        by_cases c4 : zw v0 = 38
        · rw [if_pos c4] at h
          refine zG_tIn hm rfl (tgt := 183) (off := 182) c4 (by decide) rfl (by decide) ?_
          refine zG_run hm 1 (cf' := (185, [some (zi v0), some (zi v1)], [zi 39], M)) rfl ?_
          cases h
          exact zG_ri hm rfl rfl
        · rw [if_neg c4] at h
          by_cases c5 : zw v0 = 39
          · rw [if_pos c5] at h
            refine zG_tIn hm rfl (tgt := 183) (off := 182) c5 (by decide) rfl (by decide) ?_
            refine zG_run hm 1 (cf' := (185, [some (zi v0), some (zi v1)], [zi 39], M)) rfl ?_
            cases h
            exact zG_ri hm rfl rfl
          · rw [if_neg c5] at h
            by_cases c6 : zw v0 = 40
            · rw [if_pos c6] at h
              refine zG_tIn hm rfl (tgt := 174) (off := 173) c6 (by decide) rfl (by decide) ?_
              refine zG_run hm 1 (cf' := (176, [some (zi v0), some (zi v1)], [zi 36], M)) rfl ?_
              cases h
              exact zG_ri hm rfl rfl
            · rw [if_neg c6] at h
              by_cases c7 : zw v0 = 41
              · rw [if_pos c7] at h
                refine zG_tIn hm rfl (tgt := 177) (off := 176) c7 (by decide) rfl (by decide) ?_
                refine zG_run hm 1 (cf' := (179, [some (zi v0), some (zi v1)], [zi 37], M)) rfl ?_
                cases h
                exact zG_ri hm rfl rfl
              · rw [if_neg c7] at h
                by_cases c8 : zw v0 = 42
                · rw [if_pos c8] at h
                  refine zG_tIn hm rfl (tgt := 168) (off := 167) c8 (by decide) rfl (by decide) ?_
                  refine zG_run hm 1 (cf' := (170, [some (zi v0), some (zi v1)], [zi 34], M)) rfl ?_
                  cases h
                  exact zG_ri hm rfl rfl
                · rw [if_neg c8] at h
                  by_cases c9 : zw v0 = 43
                  · rw [if_pos c9] at h
                    refine zG_tIn hm rfl (tgt := 162) (off := 161) c9 (by decide) rfl (by decide) ?_
                    refine zG_run hm 1 (cf' := (164, [some (zi v0), some (zi v1)], [zi 32], M)) rfl ?_
                    cases h
                    exact zG_ri hm rfl rfl
                  · rw [if_neg c9] at h
                    by_cases c10 : zw v0 = 44
                    · rw [if_pos c10] at h
                      refine zG_tIn hm rfl (tgt := 183) (off := 182) c10 (by decide) rfl (by decide) ?_
                      refine zG_run hm 1 (cf' := (185, [some (zi v0), some (zi v1)], [zi 39], M)) rfl ?_
                      cases h
                      exact zG_ri hm rfl rfl
                    · rw [if_neg c10] at h
                      by_cases c11 : zw v0 = 45
                      · rw [if_pos c11] at h
                        refine zG_tIn hm rfl (tgt := 165) (off := 164) c11 (by decide) rfl (by decide) ?_
                        refine zG_run hm 1 (cf' := (167, [some (zi v0), some (zi v1)], [zi 33], M)) rfl ?_
                        cases h
                        exact zG_ri hm rfl rfl
                      · rw [if_neg c11] at h
                        by_cases c12 : zw v0 = 46
                        · rw [if_pos c12] at h
                          refine zG_tIn hm rfl (tgt := 183) (off := 182) c12 (by decide) rfl (by decide) ?_
                          refine zG_run hm 1 (cf' := (185, [some (zi v0), some (zi v1)], [zi 39], M)) rfl ?_
                          cases h
                          exact zG_ri hm rfl rfl
                        · rw [if_neg c12] at h
                          by_cases c13 : zw v0 = 47
                          · rw [if_pos c13] at h
                            refine zG_tIn hm rfl (tgt := 171) (off := 170) c13 (by decide) rfl (by decide) ?_
                            refine zG_run hm 1 (cf' := (173, [some (zi v0), some (zi v1)], [zi 35], M)) rfl ?_
                            cases h
                            exact zG_ri hm rfl rfl
                          · rw [if_neg c13] at h
                            by_cases c14 : zw v0 = 48
                            · rw [if_pos c14] at h
                              refine zG_tIn hm rfl (tgt := 183) (off := 182) c14 (by decide) rfl (by decide) ?_
                              refine zG_run hm 1 (cf' := (185, [some (zi v0), some (zi v1)], [zi 39], M)) rfl ?_
                              cases h
                              exact zG_ri hm rfl rfl
                            · rw [if_neg c14] at h
                              by_cases c15 : zw v0 = 49
                              · rw [if_pos c15] at h
                                refine zG_tIn hm rfl (tgt := 183) (off := 182) c15 (by decide) rfl (by decide) ?_
                                refine zG_run hm 1 (cf' := (185, [some (zi v0), some (zi v1)], [zi 39], M)) rfl ?_
                                cases h
                                exact zG_ri hm rfl rfl
                              · rw [if_neg c15] at h
                                by_cases c16 : zw v0 = 50
                                · rw [if_pos c16] at h
                                  refine zG_tIn hm rfl (tgt := 183) (off := 182) c16 (by decide) rfl (by decide) ?_
                                  refine zG_run hm 1 (cf' := (185, [some (zi v0), some (zi v1)], [zi 39], M)) rfl ?_
                                  cases h
                                  exact zG_ri hm rfl rfl
                                · rw [if_neg c16] at h
                                  by_cases c17 : zw v0 = 51
                                  · rw [if_pos c17] at h
                                    refine zG_tIn hm rfl (tgt := 183) (off := 182) c17 (by decide) rfl (by decide) ?_
                                    refine zG_run hm 1 (cf' := (185, [some (zi v0), some (zi v1)], [zi 39], M)) rfl ?_
                                    cases h
                                    exact zG_ri hm rfl rfl
                                  · rw [if_neg c17] at h
                                    by_cases c18 : zw v0 = 52
                                    · rw [if_pos c18] at h
                                      refine zG_tIn hm rfl (tgt := 183) (off := 182) c18 (by decide) rfl (by decide) ?_
                                      refine zG_run hm 1 (cf' := (185, [some (zi v0), some (zi v1)], [zi 39], M)) rfl ?_
                                      cases h
                                      exact zG_ri hm rfl rfl
                                    · rw [if_neg c18] at h
                                      by_cases c19 : zw v0 = 53
                                      · rw [if_pos c19] at h
                                        refine zG_tIn hm rfl (tgt := 183) (off := 182) c19 (by decide) rfl (by decide) ?_
                                        refine zG_run hm 1 (cf' := (185, [some (zi v0), some (zi v1)], [zi 39], M)) rfl ?_
                                        cases h
                                        exact zG_ri hm rfl rfl
                                      · rw [if_neg c19] at h
                                        by_cases c20 : zw v0 = 54
                                        · rw [if_pos c20] at h
                                          refine zG_tIn hm rfl (tgt := 183) (off := 182) c20 (by decide) rfl (by decide) ?_
                                          refine zG_run hm 1 (cf' := (185, [some (zi v0), some (zi v1)], [zi 39], M)) rfl ?_
                                          cases h
                                          exact zG_ri hm rfl rfl
                                        · rw [if_neg c20] at h
                                          by_cases c21 : zw v0 = 55
                                          · rw [if_pos c21] at h
                                            refine zG_tIn hm rfl (tgt := 183) (off := 182) c21 (by decide) rfl (by decide) ?_
                                            refine zG_run hm 1 (cf' := (185, [some (zi v0), some (zi v1)], [zi 39], M)) rfl ?_
                                            cases h
                                            exact zG_ri hm rfl rfl
                                          · rw [if_neg c21] at h
                                            by_cases c22 : zw v0 = 56
                                            · rw [if_pos c22] at h
                                              refine zG_tIn hm rfl (tgt := 183) (off := 182) c22 (by decide) rfl (by decide) ?_
                                              refine zG_run hm 1 (cf' := (185, [some (zi v0), some (zi v1)], [zi 39], M)) rfl ?_
                                              cases h
                                              exact zG_ri hm rfl rfl
                                            · rw [if_neg c22] at h
                                              by_cases c23 : zw v0 = 57
                                              · rw [if_pos c23] at h
                                                refine zG_tIn hm rfl (tgt := 183) (off := 182) c23 (by decide) rfl (by decide) ?_
                                                refine zG_run hm 1 (cf' := (185, [some (zi v0), some (zi v1)], [zi 39], M)) rfl ?_
                                                cases h
                                                exact zG_ri hm rfl rfl
                                              · rw [if_neg c23] at h
                                                by_cases c24 : zw v0 = 58
                                                · rw [if_pos c24] at h
                                                  refine zG_tIn hm rfl (tgt := 183) (off := 182) c24 (by decide) rfl (by decide) ?_
                                                  refine zG_run hm 1 (cf' := (185, [some (zi v0), some (zi v1)], [zi 39], M)) rfl ?_
                                                  cases h
                                                  exact zG_ri hm rfl rfl
                                                · rw [if_neg c24] at h
                                                  by_cases c25 : zw v0 = 59
                                                  · rw [if_pos c25] at h
                                                    refine zG_tIn hm rfl (tgt := 180) (off := 179) c25 (by decide) rfl (by decide) ?_
                                                    refine zG_run hm 1 (cf' := (182, [some (zi v0), some (zi v1)], [zi 38], M)) rfl ?_
                                                    cases h
                                                    exact zG_ri hm rfl rfl
                                                  · rw [if_neg c25] at h
                                                    by_cases c26 : zw v0 = 60
                                                    · rw [if_pos c26] at h
                                                      refine zG_tIn hm rfl (tgt := 128) (off := 127) c26 (by decide) rfl (by decide) ?_
                                                      refine zG_run hm 2 (cf' := (131, [some (zi v0), some (zi v1)], [zi 61, zi v1], M)) rfl ?_
                                                      by_cases c27 : ¬ zw v1 = 61
                                                      · rw [if_pos c27] at h
                                                        refine zG_br hm rfl (cf' := (139, [some (zi v0), some (zi v1)], [], M)) (if_pos c27) ?_
                                                        refine zG_run hm 1 (cf' := (141, [some (zi v0), some (zi v1)], [zi 26], M)) rfl ?_
                                                        cases h
                                                        exact zG_ri hm rfl rfl
                                                      · rw [if_neg c27] at h
                                                        refine zG_br hm rfl (cf' := (134, [some (zi v0), some (zi v1)], [], M)) (if_neg c27) ?_
                                                        refine zG_run hm 2 (cf' := (141, [some (zi v0), some (zi v1)], [zi 27], M)) rfl ?_
                                                        cases h
                                                        exact zG_ri hm rfl rfl
                                                    · rw [if_neg c26] at h
                                                      by_cases c28 : zw v0 = 61
                                                      · rw [if_pos c28] at h
                                                        refine zG_tIn hm rfl (tgt := 156) (off := 155) c28 (by decide) rfl (by decide) ?_
                                                        refine zG_run hm 1 (cf' := (158, [some (zi v0), some (zi v1)], [zi 30], M)) rfl ?_
                                                        cases h
                                                        exact zG_ri hm rfl rfl
                                                      · rw [if_neg c28] at h
                                                        by_cases c29 : zw v0 = 62
                                                        · rw [if_pos c29] at h
                                                          refine zG_tIn hm rfl (tgt := 142) (off := 141) c29 (by decide) rfl (by decide) ?_
                                                          refine zG_run hm 2 (cf' := (145, [some (zi v0), some (zi v1)], [zi 61, zi v1], M)) rfl ?_
                                                          by_cases c30 : ¬ zw v1 = 61
                                                          · rw [if_pos c30] at h
                                                            refine zG_br hm rfl (cf' := (153, [some (zi v0), some (zi v1)], [], M)) (if_pos c30) ?_
                                                            refine zG_run hm 1 (cf' := (155, [some (zi v0), some (zi v1)], [zi 28], M)) rfl ?_
                                                            cases h
                                                            exact zG_ri hm rfl rfl
                                                          · rw [if_neg c30] at h
                                                            refine zG_br hm rfl (cf' := (148, [some (zi v0), some (zi v1)], [], M)) (if_neg c30) ?_
                                                            refine zG_run hm 2 (cf' := (155, [some (zi v0), some (zi v1)], [zi 29], M)) rfl ?_
                                                            cases h
                                                            exact zG_ri hm rfl rfl
                                                        · rw [if_neg c29] at h
                                                          refine zG_tOut hm rfl (tgt := 183) (by omega) (by decide) ?_
                                                          refine zG_run hm 1 (cf' := (185, [some (zi v0), some (zi v1)], [zi 39], M)) rfl ?_
                                                          cases h
                                                          exact zG_ri hm rfl rfl
theorem met_X4_markKind {v0 : Int} {v1 : Int} {M : zM} {q : Int × zM} {d : Nat} (hd : 0 ≤ d) (h : f_X4_markKind v0 v1 M = some q) : zMet 47 d [zi v0, zi v1] M (some (zi q.1)) q.2 :=
  zMet_of (lv0 := [some (zi v0), some (zi v1)]) zmok_47 rfl rfl (fun v hv => by cases hv; trivial) (g_X4_markKind hd h)
