/-! methods, decompiled: 5 -/
def f_X3_goOn_j28 (rec : Nat → Int → Int → Int → zM → Option zM) (v1 : Int) (v2 : Int) (M : zM) : Option (zM) :=
  (rec 7 (v1 + 1) v2 0 M).bind fun p2 =>
    if 0 ≤ zw v1 ∧ zw v1 < 3 then
      (f_X0_load 2 ((zix v1) + 60) p2).bind fun p3 =>
        some p3
    else
      none
theorem g_X3_goOn_j28 {rec : Nat → Int → Int → Int → zM → Option zM} {v1 : Int} {v2 : Int} {M : zM} {q : zM} {d : Nat} {dr : Nat} (hrec : ∀ (t : Nat) (a b c : Int) (M q : zM), rec t a b c M = some q → zRec t dr a b c M q) (hdr : dr + 1 ≤ d) (hd : 5 ≤ d) (h : f_X3_goOn_j28 rec v1 v2 M = some q) : zG 39 d (28, [some (zr 31 0), some (zi v1), some (zi v2), none], [], M) none q := by
  have hm := zmok_39
  unfold f_X3_goOn_j28 at h
  refine zG_run hm 5 (cf' := (33, [some (zr 31 0), some (zi v1), some (zi v2), none], [zi v2, zi (v1 + 1), zr 31 0], M)) rfl ?_
  obtain ⟨p2, hp2, h⟩ := Option.bind_eq_some_iff.mp h
  refine zG_V hm zmok_38 rfl (as := [zi (v1 + 1), zi v2]) (rest := []) (st2 := []) (pc2 := 36) rfl rfl hdr (hrec _ _ _ _ _ _ hp2) rfl ?_
  refine zG_run hm 5 (cf' := (45, [some (zr 31 0), some (zi v1), some (zi v2), none], [zi v1, zr 32 0, zr 11 2], p2)) rfl ?_
  by_cases c4 : 0 ≤ zw v1 ∧ zw v1 < 3
  · rw [if_pos c4] at h
    refine zG_br hm rfl (cf' := (46, [some (zr 31 0), some (zi v1), some (zi v2), none], [zr 22 ((zix v1) + 60), zr 11 2], p2)) (if_pos c4) ?_
    obtain ⟨p3, hp3, h⟩ := Option.bind_eq_some_iff.mp h
    refine zG_V hm zmok_2 rfl (as := [zr 22 ((zix v1) + 60)]) (rest := []) (st2 := []) (pc2 := 49) rfl rfl (by omega) (met_X0_load (d := 1) (Nat.le_refl _) hp3) rfl ?_
    cases h
    exact zG_rv hm rfl rfl
  · rw [if_neg c4] at h
    cases h
def f_X3_goOn (rec : Nat → Int → Int → Int → zM → Option zM) (v1 : Int) (v2 : Int) (v3 : Int) (M : zM) : Option (zM) :=
  if 0 ≤ zw v1 ∧ zw v1 < 3 then
    zlet (zput M 33 0 (zix v1) v3) fun M1 =>
    if 9999 ≤ zw (M1 11 2 10) then
      f_X3_goOn_j28 rec v1 v2 M1
    else
      (f_X0_passOne 2 M1).bind fun p5 =>
        f_X3_goOn_j28 rec v1 v2 p5.2
  else
    none
theorem g_X3_goOn {rec : Nat → Int → Int → Int → zM → Option zM} {v1 : Int} {v2 : Int} {v3 : Int} {M : zM} {q : zM} {d : Nat} {dr : Nat} (hrec : ∀ (t : Nat) (a b c : Int) (M q : zM), rec t a b c M = some q → zRec t dr a b c M q) (hdr : dr + 1 ≤ d) (hd : 5 ≤ d) (h : f_X3_goOn rec v1 v2 v3 M = some q) : zG 39 d (0, [some (zr 31 0), some (zi v1), some (zi v2), some (zi v3)], [], M) none q := by
  have hm := zmok_39
  unfold f_X3_goOn at h
  refine zG_run hm 4 (cf' := (6, [some (zr 31 0), some (zi v1), some (zi v2), some (zi v3)], [zi v3, zi v1, zr 33 0], M)) rfl ?_
  by_cases c7 : 0 ≤ zw v1 ∧ zw v1 < 3
  · rw [if_pos c7] at h
    refine zG_br hm rfl (cf' := (7, [some (zr 31 0), some (zi v1), some (zi v2), some (zi v3)], [], (zput M 33 0 (zix v1) v3))) (if_pos c7) ?_
    obtain ⟨M1, eM1, h⟩ := zlet_of h
    rw [eM1]
    refine zG_run hm 4 (cf' := (17, [some (zr 31 0), some (zi v1), some (zi v2), some (zi v3)], [zi 9999, zi (M1 11 2 10)], M1)) rfl ?_
    by_cases c6 : 9999 ≤ zw (M1 11 2 10)
    · rw [if_pos c6] at h
      refine zG_br hm rfl (cf' := (28, [some (zr 31 0), some (zi v1), some (zi v2), some (zi v3)], [], M1)) (if_pos c6) ?_
      refine zG_sub (lv' := [some (zr 31 0), some (zi v1), some (zi v2), none]) (zsb_s rfl (zsb_s rfl (zsb_s rfl (zsb_n zsb_0)))) ?_
      exact g_X3_goOn_j28 hrec hdr hd h
    · rw [if_neg c6] at h
      refine zG_br hm rfl (cf' := (20, [some (zr 31 0), some (zi v1), some (zi v2), some (zi v3)], [], M1)) (if_neg c6) ?_
      refine zG_run hm 2 (cf' := (24, [some (zr 31 0), some (zi v1), some (zi v2), some (zi v3)], [zr 11 2], M1)) rfl ?_
      obtain ⟨p5, hp5, h⟩ := Option.bind_eq_some_iff.mp h
      refine zG_V hm zmok_14 rfl (as := []) (rest := []) (st2 := [zi p5.1]) (pc2 := 27) rfl rfl (by omega) (met_X0_passOne (d := 4) (Nat.le_refl _) hp5) rfl ?_
      refine zG_run hm 1 (cf' := (28, [some (zr 31 0), some (zi v1), some (zi v2), some (zi v3)], [], p5.2)) rfl ?_
      refine zG_sub (lv' := [some (zr 31 0), some (zi v1), some (zi v2), none]) (zsb_s rfl (zsb_s rfl (zsb_s rfl (zsb_n zsb_0)))) ?_
      exact g_X3_goOn_j28 hrec hdr hd h
  · rw [if_neg c7] at h
    cases h
theorem met_X3_goOn {rec : Nat → Int → Int → Int → zM → Option zM} {v1 : Int} {v2 : Int} {v3 : Int} {M : zM} {q : zM} {d : Nat} {dr : Nat} (hrec : ∀ (t : Nat) (a b c : Int) (M q : zM), rec t a b c M = some q → zRec t dr a b c M q) (hdr : dr + 1 ≤ d) (hd : 5 ≤ d) (h : f_X3_goOn rec v1 v2 v3 M = some q) : zMet 39 d [zr 31 0, zi v1, zi v2, zi v3] M none q :=
  zMet_of (lv0 := [some (zr 31 0), some (zi v1), some (zi v2), some (zi v3)]) zmok_39 rfl rfl (fun v hv => by cases hv) (g_X3_goOn hrec hdr hd h)
/-- the methods that call one another, n deep -/
def zfixS : Nat → Nat → Int → Int → Int → zM → Option zM
  | 0, _, _, _, _, _ => none
  | n + 1, t, a, b, c, M => match t with
    | 7 => f_X3_look (zfixS n) a b M
    | 8 => f_X3_goOn (zfixS n) a b c M
    | _ => none
theorem metn_zfixS : ∀ (n t : Nat) (a b c : Int) (M q : zM), zfixS n t a b c M = some q → zRec t (n + 5) a b c M q := by
  intro n
  induction n with
  | zero => intro t a b c M q h; cases h
  | succ n ih =>
    intro t a b c M q h
    unfold zfixS at h
    split at h
    · exact met_X3_look ih (by omega) (by omega) h
    · exact met_X3_goOn ih (by omega) (by omega) h
    · cases h
theorem met_zfixS (t : Nat) (a b c : Int) (M q : zM) (h : zfixS zR t a b c M = some q) : zRec t 305 a b c M q := metn_zfixS zR t a b c M q h
def f_X3_start (v1 : Int) (v2 : Int) (v3 : Int) (M : zM) : Option (zM) :=
  zlet (zput M 31 0 5 v1) fun M1 =>
  zlet (zput M1 31 0 6 v2) fun M2 =>
  zlet (zput M2 31 0 7 v3) fun M3 =>
  zlet (zput M3 31 0 4 (v3 + 1)) fun M4 =>
  (zfixS zR 7 0 0 0 M4).bind fun p5 =>
    some p5
theorem g_X3_start {v1 : Int} {v2 : Int} {v3 : Int} {M : zM} {q : zM} {d : Nat} (hd : 306 ≤ d) (h : f_X3_start v1 v2 v3 M = some q) : zG 37 d (0, [some (zr 31 0), some (zi v1), some (zi v2), some (zi v3)], [], M) none q := by
  have hm := zmok_37
  unfold f_X3_start at h
  refine zG_run hm 3 (cf' := (5, [some (zr 31 0), some (zi v1), some (zi v2), some (zi v3)], [], (zput M 31 0 5 v1))) rfl ?_
  obtain ⟨M1, eM1, h⟩ := zlet_of h
  rw [eM1]
  refine zG_run hm 3 (cf' := (10, [some (zr 31 0), some (zi v1), some (zi v2), some (zi v3)], [], (zput M1 31 0 6 v2))) rfl ?_
  obtain ⟨M2, eM2, h⟩ := zlet_of h
  rw [eM2]
  refine zG_run hm 3 (cf' := (15, [some (zr 31 0), some (zi v1), some (zi v2), some (zi v3)], [], (zput M2 31 0 7 v3))) rfl ?_
  obtain ⟨M3, eM3, h⟩ := zlet_of h
  rw [eM3]
  refine zG_run hm 5 (cf' := (22, [some (zr 31 0), some (zi v1), some (zi v2), some (zi v3)], [], (zput M3 31 0 4 (v3 + 1)))) rfl ?_
  obtain ⟨M4, eM4, h⟩ := zlet_of h
  rw [eM4]
  refine zG_run hm 3 (cf' := (25, [some (zr 31 0), some (zi v1), some (zi v2), some (zi v3)], [zi 0, zi 0, zr 31 0], M4)) rfl ?_
  obtain ⟨p5, hp5, h⟩ := Option.bind_eq_some_iff.mp h
  refine zG_V hm zmok_38 rfl (as := [zi 0, zi 0]) (rest := []) (st2 := []) (pc2 := 28) rfl rfl (by omega) (met_zfixS _ _ _ _ _ _ hp5) rfl ?_
  cases h
  exact zG_rv hm rfl rfl
theorem met_X3_start {v1 : Int} {v2 : Int} {v3 : Int} {M : zM} {q : zM} {d : Nat} (hd : 306 ≤ d) (h : f_X3_start v1 v2 v3 M = some q) : zMet 37 d [zr 31 0, zi v1, zi v2, zi v3] M none q :=
  zMet_of (lv0 := [some (zr 31 0), some (zi v1), some (zi v2), some (zi v3)]) zmok_37 rfl rfl (fun v hv => by cases hv) (g_X3_start hd h)
def f_X10_fewest_j36 (v1 : Int) (v2 : Int) (v3 : Int) (v4 : Int) (vs0 : Int) (M : zM) : Option (Int × zM) :=
  if zw vs0 = 0 then
    some ((-1), M)
  else
    if zw v4 < (-1) then
      some ((-1), M)
    else
      if zw v4 < zw v3 then
        (f_X0_copy 2 0 M).bind fun p2 =>
          (f_X3_start v1 v2 v3 p2).bind fun p3 =>
            if zw (p3 31 0 4) ≤ zw v3 then
              if ¬ zw v4 = (-1) then
                if 0 ≤ zw v4 ∧ zw v4 < 3 then
                  some ((p3 34 0 (zix v4)), p3)
                else
                  none
              else
                some ((p3 31 0 4), p3)
            else
              some ((-1), p3)
      else
        some ((-1), M)
theorem g_X10_fewest_j36 {v1 : Int} {v2 : Int} {v3 : Int} {v4 : Int} {vs0 : Int} {M : zM} {q : Int × zM} {d : Nat} (hd : 307 ≤ d) (h : f_X10_fewest_j36 v1 v2 v3 v4 vs0 M = some q) : zG 93 d (36, [some (zr 0 0), some (zi v1), some (zi v2), some (zi v3), some (zi v4), none], [zi vs0], M) (some (zi q.1)) q.2 := by
  have hm := zmok_93
  unfold f_X10_fewest_j36 at h
  refine zG_run hm 2 (cf' := (40, [some (zr 0 0), some (zi v1), some (zi v2), some (zi v3), some (zi v4), some (zi vs0)], [zi vs0], M)) rfl ?_
  by_cases c9 : zw vs0 = 0
  · rw [if_pos c9] at h
    refine zG_br hm rfl (cf' := (55, [some (zr 0 0), some (zi v1), some (zi v2), some (zi v3), some (zi v4), some (zi vs0)], [], M)) (if_pos c9) ?_
    refine zG_run hm 1 (cf' := (56, [some (zr 0 0), some (zi v1), some (zi v2), some (zi v3), some (zi v4), some (zi vs0)], [zi (-1)], M)) rfl ?_
    cases h
    exact zG_ri hm rfl rfl
  · rw [if_neg c9] at h
    refine zG_br hm rfl (cf' := (43, [some (zr 0 0), some (zi v1), some (zi v2), some (zi v3), some (zi v4), some (zi vs0)], [], M)) (if_neg c9) ?_
    refine zG_run hm 2 (cf' := (46, [some (zr 0 0), some (zi v1), some (zi v2), some (zi v3), some (zi v4), some (zi vs0)], [zi (-1), zi v4], M)) rfl ?_
    by_cases c8 : zw v4 < (-1)
    · rw [if_pos c8] at h
      refine zG_br hm rfl (cf' := (55, [some (zr 0 0), some (zi v1), some (zi v2), some (zi v3), some (zi v4), some (zi vs0)], [], M)) (if_pos c8) ?_
      refine zG_run hm 1 (cf' := (56, [some (zr 0 0), some (zi v1), some (zi v2), some (zi v3), some (zi v4), some (zi vs0)], [zi (-1)], M)) rfl ?_
      cases h
      exact zG_ri hm rfl rfl
    · rw [if_neg c8] at h
      refine zG_br hm rfl (cf' := (49, [some (zr 0 0), some (zi v1), some (zi v2), some (zi v3), some (zi v4), some (zi vs0)], [], M)) (if_neg c8) ?_
      refine zG_run hm 2 (cf' := (52, [some (zr 0 0), some (zi v1), some (zi v2), some (zi v3), some (zi v4), some (zi vs0)], [zi v3, zi v4], M)) rfl ?_
      by_cases c7 : zw v4 < zw v3
      · rw [if_pos c7] at h
        refine zG_br hm rfl (cf' := (57, [some (zr 0 0), some (zi v1), some (zi v2), some (zi v3), some (zi v4), some (zi vs0)], [], M)) (if_pos c7) ?_
        refine zG_run hm 4 (cf' := (65, [some (zr 0 0), some (zi v1), some (zi v2), some (zi v3), some (zi v4), some (zi vs0)], [zr 11 0, zr 11 2], M)) rfl ?_
        obtain ⟨p2, hp2, h⟩ := Option.bind_eq_some_iff.mp h
        refine zG_V hm zmok_0 rfl (as := [zr 11 0]) (rest := []) (st2 := []) (pc2 := 68) rfl rfl (by omega) (met_X0_copy (d := 1) (Nat.le_refl _) hp2) rfl ?_
        refine zG_run hm 5 (cf' := (75, [some (zr 0 0), some (zi v1), some (zi v2), some (zi v3), some (zi v4), some (zi vs0)], [zi v3, zi v2, zi v1, zr 31 0], p2)) rfl ?_
        obtain ⟨p3, hp3, h⟩ := Option.bind_eq_some_iff.mp h
        refine zG_V hm zmok_37 rfl (as := [zi v1, zi v2, zi v3]) (rest := []) (st2 := []) (pc2 := 78) rfl rfl (by omega) (met_X3_start (d := 306) (Nat.le_refl _) hp3) rfl ?_
        refine zG_run hm 4 (cf' := (86, [some (zr 0 0), some (zi v1), some (zi v2), some (zi v3), some (zi v4), some (zi vs0)], [zi v3, zi (p3 31 0 4)], p3)) rfl ?_
        by_cases c6 : zw (p3 31 0 4) ≤ zw v3
        · rw [if_pos c6] at h
          refine zG_br hm rfl (cf' := (91, [some (zr 0 0), some (zi v1), some (zi v2), some (zi v3), some (zi v4), some (zi vs0)], [], p3)) (if_pos c6) ?_
          refine zG_run hm 2 (cf' := (94, [some (zr 0 0), some (zi v1), some (zi v2), some (zi v3), some (zi v4), some (zi vs0)], [zi (-1), zi v4], p3)) rfl ?_
          by_cases c5 : ¬ zw v4 = (-1)
          · rw [if_pos c5] at h
            refine zG_br hm rfl (cf' := (107, [some (zr 0 0), some (zi v1), some (zi v2), some (zi v3), some (zi v4), some (zi vs0)], [], p3)) (if_pos c5) ?_
            refine zG_run hm 4 (cf' := (116, [some (zr 0 0), some (zi v1), some (zi v2), some (zi v3), some (zi v4), some (zi vs0)], [zi v4, zr 34 0], p3)) rfl ?_
            by_cases c4 : 0 ≤ zw v4 ∧ zw v4 < 3
            · rw [if_pos c4] at h
              refine zG_br hm rfl (cf' := (117, [some (zr 0 0), some (zi v1), some (zi v2), some (zi v3), some (zi v4), some (zi vs0)], [zi (p3 34 0 (zix v4))], p3)) (if_pos c4) ?_
              cases h
              exact zG_ri hm rfl rfl
            · rw [if_neg c4] at h
              cases h
          · rw [if_neg c5] at h
            refine zG_br hm rfl (cf' := (97, [some (zr 0 0), some (zi v1), some (zi v2), some (zi v3), some (zi v4), some (zi vs0)], [], p3)) (if_neg c5) ?_
            refine zG_run hm 4 (cf' := (117, [some (zr 0 0), some (zi v1), some (zi v2), some (zi v3), some (zi v4), some (zi vs0)], [zi (p3 31 0 4)], p3)) rfl ?_
            cases h
            exact zG_ri hm rfl rfl
        · rw [if_neg c6] at h
          refine zG_br hm rfl (cf' := (89, [some (zr 0 0), some (zi v1), some (zi v2), some (zi v3), some (zi v4), some (zi vs0)], [], p3)) (if_neg c6) ?_
          refine zG_run hm 1 (cf' := (90, [some (zr 0 0), some (zi v1), some (zi v2), some (zi v3), some (zi v4), some (zi vs0)], [zi (-1)], p3)) rfl ?_
          cases h
          exact zG_ri hm rfl rfl
      · rw [if_neg c7] at h
        refine zG_br hm rfl (cf' := (55, [some (zr 0 0), some (zi v1), some (zi v2), some (zi v3), some (zi v4), some (zi vs0)], [], M)) (if_neg c7) ?_
        refine zG_run hm 1 (cf' := (56, [some (zr 0 0), some (zi v1), some (zi v2), some (zi v3), some (zi v4), some (zi vs0)], [zi (-1)], M)) rfl ?_
        cases h
        exact zG_ri hm rfl rfl
def f_X10_fewest_j35 (v1 : Int) (v2 : Int) (v3 : Int) (v4 : Int) (M : zM) : Option (Int × zM) :=
  f_X10_fewest_j36 v1 v2 v3 v4 0 M
theorem g_X10_fewest_j35 {v1 : Int} {v2 : Int} {v3 : Int} {v4 : Int} {M : zM} {q : Int × zM} {d : Nat} (hd : 307 ≤ d) (h : f_X10_fewest_j35 v1 v2 v3 v4 M = some q) : zG 93 d (35, [some (zr 0 0), some (zi v1), some (zi v2), some (zi v3), some (zi v4), none], [], M) (some (zi q.1)) q.2 := by
  have hm := zmok_93
  unfold f_X10_fewest_j35 at h
  refine zG_run hm 1 (cf' := (36, [some (zr 0 0), some (zi v1), some (zi v2), some (zi v3), some (zi v4), none], [zi 0], M)) rfl ?_
  refine zG_sub (lv' := [some (zr 0 0), some (zi v1), some (zi v2), some (zi v3), some (zi v4), none]) (zsb_s rfl (zsb_s rfl (zsb_s rfl (zsb_s rfl (zsb_s rfl (zsb_n zsb_0)))))) ?_
  exact g_X10_fewest_j36 hd h
def f_X10_fewest (v1 : Int) (v2 : Int) (v3 : Int) (v4 : Int) (M : zM) : Option (Int × zM) :=
  (f_X0_hasThing 0 v1 M).bind fun p1 =>
    if zw p1.1 = 0 then
      f_X10_fewest_j35 v1 v2 v3 v4 p1.2
    else
      (f_X0_hasOwner 0 v2 p1.2).bind fun p10 =>
        if zw p10.1 = 0 then
          f_X10_fewest_j35 v1 v2 v3 v4 p10.2
        else
          (f_X10_within v3 1 3 p10.2).bind fun p11 =>
            if zw p11.1 = 0 then
              f_X10_fewest_j35 v1 v2 v3 v4 p11.2
            else
              f_X10_fewest_j36 v1 v2 v3 v4 1 p11.2
theorem g_X10_fewest {v1 : Int} {v2 : Int} {v3 : Int} {v4 : Int} {M : zM} {q : Int × zM} {d : Nat} (hd : 307 ≤ d) (h : f_X10_fewest v1 v2 v3 v4 M = some q) : zG 93 d (0, [some (zr 0 0), some (zi v1), some (zi v2), some (zi v3), some (zi v4), none], [], M) (some (zi q.1)) q.2 := by
  have hm := zmok_93
  unfold f_X10_fewest at h
  refine zG_run hm 3 (cf' := (5, [some (zr 0 0), some (zi v1), some (zi v2), some (zi v3), some (zi v4), none], [zi v1, zr 11 0], M)) rfl ?_
  obtain ⟨p1, hp1, h⟩ := Option.bind_eq_some_iff.mp h
  refine zG_V hm zmok_4 rfl (as := [zi v1]) (rest := []) (st2 := [zi p1.1]) (pc2 := 8) rfl rfl (by omega) (met_X0_hasThing (d := 0) (Nat.le_refl _) hp1) rfl ?_
  by_cases c14 : zw p1.1 = 0
  · rw [if_pos c14] at h
    refine zG_br hm rfl (cf' := (35, [some (zr 0 0), some (zi v1), some (zi v2), some (zi v3), some (zi v4), none], [], p1.2)) (if_pos c14) ?_
    refine zG_sub (lv' := [some (zr 0 0), some (zi v1), some (zi v2), some (zi v3), some (zi v4), none]) (zsb_s rfl (zsb_s rfl (zsb_s rfl (zsb_s rfl (zsb_s rfl (zsb_n zsb_0)))))) ?_
    exact g_X10_fewest_j35 hd h
  · rw [if_neg c14] at h
    refine zG_br hm rfl (cf' := (11, [some (zr 0 0), some (zi v1), some (zi v2), some (zi v3), some (zi v4), none], [], p1.2)) (if_neg c14) ?_
    refine zG_run hm 3 (cf' := (16, [some (zr 0 0), some (zi v1), some (zi v2), some (zi v3), some (zi v4), none], [zi v2, zr 11 0], p1.2)) rfl ?_
    obtain ⟨p10, hp10, h⟩ := Option.bind_eq_some_iff.mp h
    refine zG_V hm zmok_3 rfl (as := [zi v2]) (rest := []) (st2 := [zi p10.1]) (pc2 := 19) rfl rfl (by omega) (met_X0_hasOwner (d := 0) (Nat.le_refl _) hp10) rfl ?_
    by_cases c13 : zw p10.1 = 0
    · rw [if_pos c13] at h
      refine zG_br hm rfl (cf' := (35, [some (zr 0 0), some (zi v1), some (zi v2), some (zi v3), some (zi v4), none], [], p10.2)) (if_pos c13) ?_
      refine zG_sub (lv' := [some (zr 0 0), some (zi v1), some (zi v2), some (zi v3), some (zi v4), none]) (zsb_s rfl (zsb_s rfl (zsb_s rfl (zsb_s rfl (zsb_s rfl (zsb_n zsb_0)))))) ?_
      exact g_X10_fewest_j35 hd h
    · rw [if_neg c13] at h
      refine zG_br hm rfl (cf' := (22, [some (zr 0 0), some (zi v1), some (zi v2), some (zi v3), some (zi v4), none], [], p10.2)) (if_neg c13) ?_
      refine zG_run hm 3 (cf' := (25, [some (zr 0 0), some (zi v1), some (zi v2), some (zi v3), some (zi v4), none], [zi 3, zi 1, zi v3], p10.2)) rfl ?_
      obtain ⟨p11, hp11, h⟩ := Option.bind_eq_some_iff.mp h
      refine zG_S hm zmok_108 rfl (as := [zi v3, zi 1, zi 3]) (rest := []) (st2 := [zi p11.1]) (pc2 := 28) rfl rfl (by omega) (met_X10_within (d := 0) (Nat.le_refl _) hp11) rfl ?_
      by_cases c12 : zw p11.1 = 0
      · rw [if_pos c12] at h
        refine zG_br hm rfl (cf' := (35, [some (zr 0 0), some (zi v1), some (zi v2), some (zi v3), some (zi v4), none], [], p11.2)) (if_pos c12) ?_
        refine zG_sub (lv' := [some (zr 0 0), some (zi v1), some (zi v2), some (zi v3), some (zi v4), none]) (zsb_s rfl (zsb_s rfl (zsb_s rfl (zsb_s rfl (zsb_s rfl (zsb_n zsb_0)))))) ?_
        exact g_X10_fewest_j35 hd h
      · rw [if_neg c12] at h
        refine zG_br hm rfl (cf' := (31, [some (zr 0 0), some (zi v1), some (zi v2), some (zi v3), some (zi v4), none], [], p11.2)) (if_neg c12) ?_
        refine zG_run hm 2 (cf' := (36, [some (zr 0 0), some (zi v1), some (zi v2), some (zi v3), some (zi v4), none], [zi 1], p11.2)) rfl ?_
        refine zG_sub (lv' := [some (zr 0 0), some (zi v1), some (zi v2), some (zi v3), some (zi v4), none]) (zsb_s rfl (zsb_s rfl (zsb_s rfl (zsb_s rfl (zsb_s rfl (zsb_n zsb_0)))))) ?_
        exact g_X10_fewest_j36 hd h
theorem met_X10_fewest {v1 : Int} {v2 : Int} {v3 : Int} {v4 : Int} {M : zM} {q : Int × zM} {d : Nat} (hd : 307 ≤ d) (h : f_X10_fewest v1 v2 v3 v4 M = some q) : zMet 93 d [zr 0 0, zi v1, zi v2, zi v3, zi v4] M (some (zi q.1)) q.2 :=
  zMet_of (lv0 := [some (zr 0 0), some (zi v1), some (zi v2), some (zi v3), some (zi v4), none]) zmok_93 rfl rfl (fun v hv => by cases hv; trivial) (g_X10_fewest hd h)
def f_X11_laysActs_j60 (v3 : Int) (v5 : Int) (v6 : Int) (vs0 : Int) (vs1 : Int) (M : zM) : Option ((Int × Int × Int × zM) ⊕ (Int × zM)) :=
  some (.inl (v3, (vs1 + vs0), (v6 + (-1)), M))
theorem g_X11_laysActs_j60 {v3 : Int} {v5 : Int} {v6 : Int} {vs0 : Int} {vs1 : Int} {M : zM} {x : (Int × Int × Int × zM) ⊕ (Int × zM)} {r : Option zV} {Mf : zM} {d : Nat} (hd : 0 ≤ d) (h : f_X11_laysActs_j60 v3 v5 v6 vs0 vs1 M = some x)
    (kc : ∀ s, x = .inl s → zG 204 d (22, [some (zr 42 0), none, none, some (zi s.1), some (zi s.2.1), some (zi v5), some (zi s.2.2.1)], [], s.2.2.2) r Mf)
    (kb : ∀ t, x = .inr t → zG 204 d (69, [none, none, none, none, some (zi t.1), none, none], [], t.2) r Mf) (kr : True) : zG 204 d (60, [some (zr 42 0), none, none, some (zi v3), none, some (zi v5), some (zi v6)], [zi vs0, zi vs1], M) r Mf := by
  have hm := zmok_204
  unfold f_X11_laysActs_j60 at h
  refine zG_run hm 4 (cf' := (22, [some (zr 42 0), none, none, some (zi v3), some (zi (vs1 + vs0)), some (zi v5), some (zi (v6 + (-1)))], [], M)) rfl ?_
  refine zG_sub (lv' := [some (zr 42 0), none, none, some (zi v3), some (zi (vs1 + vs0)), some (zi v5), some (zi (v6 + (-1)))]) (zsb_s rfl (zsb_n (zsb_n (zsb_s rfl (zsb_s rfl (zsb_s rfl (zsb_s rfl zsb_0))))))) ?_
  exact kc (v3, (vs1 + vs0), (v6 + (-1)), M) (Option.some.inj h).symm
def f_X11_laysActs_L22 (v5 : Int) (v3 : Int) (v4 : Int) (v6 : Int) (M : zM) : Option ((Int × Int × Int × zM) ⊕ (Int × zM)) :=
  if zw v6 < 0 then
    some (.inr (v4, M))
  else
    if zw v5 = 0 then
      none
    else
      if 0 ≤ zw v6 ∧ zw v6 < 3 then
        zlet (zput M 69 0 (zix v6) (zrem (zw v3) (zw v5))) fun M1 =>
        if zw v5 = 0 then
          none
        else
          if 0 ≤ zw v6 ∧ zw v6 < 3 then
            if zw (M1 69 0 (zix v6)) ≤ 0 then
              f_X11_laysActs_j60 (Int.tdiv (zw v3) (zw v5)) v5 v6 0 v4 M1
            else
              f_X11_laysActs_j60 (Int.tdiv (zw v3) (zw v5)) v5 v6 1 v4 M1
          else
            none
      else
        none
theorem g_X11_laysActs_L22 {v5 : Int} {v3 : Int} {v4 : Int} {v6 : Int} {M : zM} {x : (Int × Int × Int × zM) ⊕ (Int × zM)} {r : Option zV} {Mf : zM} {d : Nat} (hd : 0 ≤ d) (h : f_X11_laysActs_L22 v5 v3 v4 v6 M = some x)
    (kc : ∀ s, x = .inl s → zG 204 d (22, [some (zr 42 0), none, none, some (zi s.1), some (zi s.2.1), some (zi v5), some (zi s.2.2.1)], [], s.2.2.2) r Mf)
    (kb : ∀ t, x = .inr t → zG 204 d (69, [none, none, none, none, some (zi t.1), none, none], [], t.2) r Mf) (kr : True) : zG 204 d (22, [some (zr 42 0), none, none, some (zi v3), some (zi v4), some (zi v5), some (zi v6)], [], M) r Mf := by
  have hm := zmok_204
  unfold f_X11_laysActs_L22 at h
  refine zG_run hm 1 (cf' := (24, [some (zr 42 0), none, none, some (zi v3), some (zi v4), some (zi v5), some (zi v6)], [zi v6], M)) rfl ?_
  by_cases c7 : zw v6 < 0
  · rw [if_pos c7] at h
    refine zG_br hm rfl (cf' := (69, [some (zr 42 0), none, none, some (zi v3), some (zi v4), some (zi v5), some (zi v6)], [], M)) (if_pos c7) ?_
    refine zG_sub (lv' := [none, none, none, none, some (zi v4), none, none]) (zsb_n (zsb_n (zsb_n (zsb_n (zsb_s rfl (zsb_n (zsb_n zsb_0))))))) ?_
    exact kb (v4, M) (Option.some.inj h).symm
  · rw [if_neg c7] at h
    refine zG_br hm rfl (cf' := (27, [some (zr 42 0), none, none, some (zi v3), some (zi v4), some (zi v5), some (zi v6)], [], M)) (if_neg c7) ?_
    refine zG_run hm 5 (cf' := (36, [some (zr 42 0), none, none, some (zi v3), some (zi v4), some (zi v5), some (zi v6)], [zi v5, zi v3, zi v6, zr 69 0], M)) rfl ?_
    by_cases c6 : zw v5 = 0
    · rw [if_pos c6] at h
      cases h
    · rw [if_neg c6] at h
      refine zG_br hm rfl (cf' := (37, [some (zr 42 0), none, none, some (zi v3), some (zi v4), some (zi v5), some (zi v6)], [zi (zrem (zw v3) (zw v5)), zi v6, zr 69 0], M)) (if_neg c6) ?_
      by_cases c5 : 0 ≤ zw v6 ∧ zw v6 < 3
      · rw [if_pos c5] at h
        refine zG_br hm rfl (cf' := (38, [some (zr 42 0), none, none, some (zi v3), some (zi v4), some (zi v5), some (zi v6)], [], (zput M 69 0 (zix v6) (zrem (zw v3) (zw v5))))) (if_pos c5) ?_
        obtain ⟨M1, eM1, h⟩ := zlet_of h
        rw [eM1]
        refine zG_run hm 2 (cf' := (41, [some (zr 42 0), none, none, some (zi v3), some (zi v4), some (zi v5), some (zi v6)], [zi v5, zi v3], M1)) rfl ?_
        by_cases c4 : zw v5 = 0
        · rw [if_pos c4] at h
          cases h
        · rw [if_neg c4] at h
          refine zG_br hm rfl (cf' := (42, [some (zr 42 0), none, none, some (zi v3), some (zi v4), some (zi v5), some (zi v6)], [zi (Int.tdiv (zw v3) (zw v5))], M1)) (if_neg c4) ?_
          refine zG_run hm 5 (cf' := (51, [some (zr 42 0), none, none, some (zi (Int.tdiv (zw v3) (zw v5))), some (zi v4), some (zi v5), some (zi v6)], [zi v6, zr 69 0, zi v4], M1)) rfl ?_
          by_cases c3 : 0 ≤ zw v6 ∧ zw v6 < 3
          · rw [if_pos c3] at h
            refine zG_br hm rfl (cf' := (52, [some (zr 42 0), none, none, some (zi (Int.tdiv (zw v3) (zw v5))), some (zi v4), some (zi v5), some (zi v6)], [zi (M1 69 0 (zix v6)), zi v4], M1)) (if_pos c3) ?_
            by_cases c2 : zw (M1 69 0 (zix v6)) ≤ 0
            · rw [if_pos c2] at h
              refine zG_br hm rfl (cf' := (59, [some (zr 42 0), none, none, some (zi (Int.tdiv (zw v3) (zw v5))), some (zi v4), some (zi v5), some (zi v6)], [zi v4], M1)) (if_pos c2) ?_
              refine zG_run hm 1 (cf' := (60, [some (zr 42 0), none, none, some (zi (Int.tdiv (zw v3) (zw v5))), some (zi v4), some (zi v5), some (zi v6)], [zi 0, zi v4], M1)) rfl ?_
              refine zG_sub (lv' := [some (zr 42 0), none, none, some (zi (Int.tdiv (zw v3) (zw v5))), none, some (zi v5), some (zi v6)]) (zsb_s rfl (zsb_n (zsb_n (zsb_s rfl (zsb_n (zsb_s rfl (zsb_s rfl zsb_0))))))) ?_
              exact g_X11_laysActs_j60 hd h kc kb kr
            · rw [if_neg c2] at h
              refine zG_br hm rfl (cf' := (55, [some (zr 42 0), none, none, some (zi (Int.tdiv (zw v3) (zw v5))), some (zi v4), some (zi v5), some (zi v6)], [zi v4], M1)) (if_neg c2) ?_
              refine zG_run hm 2 (cf' := (60, [some (zr 42 0), none, none, some (zi (Int.tdiv (zw v3) (zw v5))), some (zi v4), some (zi v5), some (zi v6)], [zi 1, zi v4], M1)) rfl ?_
              refine zG_sub (lv' := [some (zr 42 0), none, none, some (zi (Int.tdiv (zw v3) (zw v5))), none, some (zi v5), some (zi v6)]) (zsb_s rfl (zsb_n (zsb_n (zsb_s rfl (zsb_n (zsb_s rfl (zsb_s rfl zsb_0))))))) ?_
              exact g_X11_laysActs_j60 hd h kc kb kr
          · rw [if_neg c3] at h
            cases h
      · rw [if_neg c5] at h
        cases h
theorem gl_X11_laysActs_L22 {v5 : Int} {y : Int × zM} {r : Option zV} {Mf : zM} {d : Nat} (hd : 0 ≤ d)
    (kb : ∀ t, y = t → zG 204 d (69, [none, none, none, none, some (zi t.1), none, none], [], t.2) r Mf) (kr : True) : ∀ (n : Nat) (s : Int × Int × Int × zM), zlp (fun s : Int × Int × Int × zM => f_X11_laysActs_L22 v5 s.1 s.2.1 s.2.2.1 s.2.2.2) n s = some y → zG 204 d (22, [some (zr 42 0), none, none, some (zi s.1), some (zi s.2.1), some (zi v5), some (zi s.2.2.1)], [], s.2.2.2) r Mf := by
  intro n
  induction n with
  | zero => intro s h; cases h
  | succ n ih =>
    intro s h
    rcases zlp_cases h with ⟨s', h1, h2⟩ | h1
    · exact g_X11_laysActs_L22 hd h1 (fun s2 e2 => by cases e2; exact ih _ h2) (fun t e2 => by cases e2) trivial
    · exact g_X11_laysActs_L22 hd h1 (fun s2 e2 => by cases e2) (fun t e2 => kb t (Sum.inr.inj e2)) trivial
def f_X11_laysActs (v1 : Int) (v2 : Int) (M : zM) : Option (Int × zM) :=
  (zlp (fun s : Int × Int × Int × zM => f_X11_laysActs_L22 (1 + (2 * (M 43 0 1))) s.1 s.2.1 s.2.2.1 s.2.2.2) zF (v1, 0, (v2 - 1), M)).bind fun y8 =>
    some (y8.1, y8.2)
theorem g_X11_laysActs {v1 : Int} {v2 : Int} {M : zM} {q : Int × zM} {d : Nat} (hd : 0 ≤ d) (h : f_X11_laysActs v1 v2 M = some q) : zG 204 d (0, [some (zr 42 0), some (zi v1), some (zi v2), none, none, none, none], [], M) (some (zi q.1)) q.2 := by
  have hm := zmok_204
  unfold f_X11_laysActs at h
  refine zG_run hm 17 (cf' := (22, [some (zr 42 0), some (zi v1), some (zi v2), some (zi v1), some (zi 0), some (zi (1 + (2 * (M 43 0 1)))), some (zi (v2 - 1))], [], M)) rfl ?_
  refine zG_sub (lv' := [some (zr 42 0), none, none, some (zi v1), some (zi 0), some (zi (1 + (2 * (M 43 0 1)))), some (zi (v2 - 1))]) (zsb_s rfl (zsb_n (zsb_n (zsb_s rfl (zsb_s rfl (zsb_s rfl (zsb_s rfl zsb_0))))))) ?_
  obtain ⟨y8, hy8, h⟩ := Option.bind_eq_some_iff.mp h
  refine gl_X11_laysActs_L22 hd (fun t e2 => ?_) trivial zF (v1, 0, (v2 - 1), M) hy8
  cases e2
  refine zG_run hm 1 (cf' := (71, [none, none, none, none, some (zi y8.1), none, none], [zi y8.1], y8.2)) rfl ?_
  cases h
  exact zG_ri hm rfl rfl
theorem met_X11_laysActs {v1 : Int} {v2 : Int} {M : zM} {q : Int × zM} {d : Nat} (hd : 0 ≤ d) (h : f_X11_laysActs v1 v2 M = some q) : zMet 204 d [zr 42 0, zi v1, zi v2] M (some (zi q.1)) q.2 :=
  zMet_of (lv0 := [some (zr 42 0), some (zi v1), some (zi v2), none, none, none, none]) zmok_204 rfl rfl (fun v hv => by cases hv; trivial) (g_X11_laysActs hd h)
def f_X11_actsOn (v1 : Int) (M : zM) : Option (zM) :=
  if ¬ zw v1 = 0 then
    if zw (M 43 0 1) = 0 then
      none
    else
      if zw (M 43 0 1) < zw v1 then
        (f_X11_isKept (zrem (zw (v1 - 1)) (zw (M 43 0 1))) M).bind fun p1 =>
          if zw p1.1 = 0 then
            some p1.2
          else
            (f_X11_comesBack (zrem (zw (v1 - 1)) (zw (M 43 0 1))) p1.2).bind fun p2 =>
              some p2.2
      else
        (f_X11_mayStealNow (zrem (zw (v1 - 1)) (zw (M 43 0 1))) M).bind fun p4 =>
          if zw p4.1 = 0 then
            some p4.2
          else
            (f_X11_stealsNow (zrem (zw (v1 - 1)) (zw (M 43 0 1))) p4.2).bind fun p5 =>
              some p5
  else
    some M
theorem g_X11_actsOn {v1 : Int} {M : zM} {q : zM} {d : Nat} (hd : 6 ≤ d) (h : f_X11_actsOn v1 M = some q) : zG 205 d (0, [some (zr 42 0), some (zi v1), none, none], [], M) none q := by
  have hm := zmok_205
  unfold f_X11_actsOn at h
  refine zG_run hm 1 (cf' := (1, [some (zr 42 0), some (zi v1), none, none], [zi v1], M)) rfl ?_
  by_cases c9 : ¬ zw v1 = 0
  · rw [if_pos c9] at h
    refine zG_br hm rfl (cf' := (5, [some (zr 42 0), some (zi v1), none, none], [], M)) (if_pos c9) ?_
    refine zG_run hm 7 (cf' := (14, [some (zr 42 0), some (zi v1), none, none], [zi (M 43 0 1), zi (v1 - 1)], M)) rfl ?_
    by_cases c8 : zw (M 43 0 1) = 0
    · rw [if_pos c8] at h
      cases h
    · rw [if_neg c8] at h
      refine zG_br hm rfl (cf' := (15, [some (zr 42 0), some (zi v1), none, none], [zi (zrem (zw (v1 - 1)) (zw (M 43 0 1)))], M)) (if_neg c8) ?_
      refine zG_run hm 6 (cf' := (23, [some (zr 42 0), some (zi v1), some (zi (zrem (zw (v1 - 1)) (zw (M 43 0 1)))), none], [zi (M 43 0 1), zi v1], M)) rfl ?_
      by_cases c7 : zw (M 43 0 1) < zw v1
      · rw [if_pos c7] at h
        refine zG_br hm rfl (cf' := (42, [some (zr 42 0), some (zi v1), some (zi (zrem (zw (v1 - 1)) (zw (M 43 0 1)))), none], [], M)) (if_pos c7) ?_
        refine zG_run hm 2 (cf' := (44, [some (zr 42 0), some (zi v1), some (zi (zrem (zw (v1 - 1)) (zw (M 43 0 1)))), none], [zi (zrem (zw (v1 - 1)) (zw (M 43 0 1))), zr 42 0], M)) rfl ?_
        obtain ⟨p1, hp1, h⟩ := Option.bind_eq_some_iff.mp h
        refine zG_V hm zmok_173 rfl (as := [zi (zrem (zw (v1 - 1)) (zw (M 43 0 1)))]) (rest := []) (st2 := [zi p1.1]) (pc2 := 47) rfl rfl (by omega) (met_X11_isKept (d := 0) (Nat.le_refl _) hp1) rfl ?_
        by_cases c3 : zw p1.1 = 0
        · rw [if_pos c3] at h
          refine zG_br hm rfl (cf' := (56, [some (zr 42 0), some (zi v1), some (zi (zrem (zw (v1 - 1)) (zw (M 43 0 1)))), none], [], p1.2)) (if_pos c3) ?_
          cases h
          exact zG_rv hm rfl rfl
        · rw [if_neg c3] at h
          refine zG_br hm rfl (cf' := (50, [some (zr 42 0), some (zi v1), some (zi (zrem (zw (v1 - 1)) (zw (M 43 0 1)))), none], [], p1.2)) (if_neg c3) ?_
          refine zG_run hm 2 (cf' := (52, [some (zr 42 0), some (zi v1), some (zi (zrem (zw (v1 - 1)) (zw (M 43 0 1)))), none], [zi (zrem (zw (v1 - 1)) (zw (M 43 0 1))), zr 42 0], p1.2)) rfl ?_
          obtain ⟨p2, hp2, h⟩ := Option.bind_eq_some_iff.mp h
          refine zG_V hm zmok_183 rfl (as := [zi (zrem (zw (v1 - 1)) (zw (M 43 0 1)))]) (rest := []) (st2 := [zi p2.1]) (pc2 := 55) rfl rfl (by omega) (met_X11_comesBack (d := 5) (Nat.le_refl _) hp2) rfl ?_
          refine zG_run hm 1 (cf' := (56, [some (zr 42 0), some (zi v1), some (zi (zrem (zw (v1 - 1)) (zw (M 43 0 1)))), some (zi p2.1)], [], p2.2)) rfl ?_
          cases h
          exact zG_rv hm rfl rfl
      · rw [if_neg c7] at h
        refine zG_br hm rfl (cf' := (26, [some (zr 42 0), some (zi v1), some (zi (zrem (zw (v1 - 1)) (zw (M 43 0 1)))), none], [], M)) (if_neg c7) ?_
        refine zG_run hm 2 (cf' := (28, [some (zr 42 0), some (zi v1), some (zi (zrem (zw (v1 - 1)) (zw (M 43 0 1)))), none], [zi (zrem (zw (v1 - 1)) (zw (M 43 0 1))), zr 42 0], M)) rfl ?_
        obtain ⟨p4, hp4, h⟩ := Option.bind_eq_some_iff.mp h
        refine zG_V hm zmok_180 rfl (as := [zi (zrem (zw (v1 - 1)) (zw (M 43 0 1)))]) (rest := []) (st2 := [zi p4.1]) (pc2 := 31) rfl rfl (by omega) (met_X11_mayStealNow (d := 2) (Nat.le_refl _) hp4) rfl ?_
        by_cases c6 : zw p4.1 = 0
        · rw [if_pos c6] at h
          refine zG_br hm rfl (cf' := (56, [some (zr 42 0), some (zi v1), some (zi (zrem (zw (v1 - 1)) (zw (M 43 0 1)))), none], [], p4.2)) (if_pos c6) ?_
          cases h
          exact zG_rv hm rfl rfl
        · rw [if_neg c6] at h
          refine zG_br hm rfl (cf' := (34, [some (zr 42 0), some (zi v1), some (zi (zrem (zw (v1 - 1)) (zw (M 43 0 1)))), none], [], p4.2)) (if_neg c6) ?_
          refine zG_run hm 2 (cf' := (36, [some (zr 42 0), some (zi v1), some (zi (zrem (zw (v1 - 1)) (zw (M 43 0 1)))), none], [zi (zrem (zw (v1 - 1)) (zw (M 43 0 1))), zr 42 0], p4.2)) rfl ?_
          obtain ⟨p5, hp5, h⟩ := Option.bind_eq_some_iff.mp h
          refine zG_V hm zmok_181 rfl (as := [zi (zrem (zw (v1 - 1)) (zw (M 43 0 1)))]) (rest := []) (st2 := []) (pc2 := 39) rfl rfl (by omega) (met_X11_stealsNow (d := 0) (Nat.le_refl _) hp5) rfl ?_
          refine zG_run hm 1 (cf' := (56, [some (zr 42 0), some (zi v1), some (zi (zrem (zw (v1 - 1)) (zw (M 43 0 1)))), none], [], p5)) rfl ?_
          cases h
          exact zG_rv hm rfl rfl
  · rw [if_neg c9] at h
    refine zG_br hm rfl (cf' := (4, [some (zr 42 0), some (zi v1), none, none], [], M)) (if_neg c9) ?_
    cases h
    exact zG_rv hm rfl rfl
theorem met_X11_actsOn {v1 : Int} {M : zM} {q : zM} {d : Nat} (hd : 6 ≤ d) (h : f_X11_actsOn v1 M = some q) : zMet 205 d [zr 42 0, zi v1] M none q :=
  zMet_of (lv0 := [some (zr 42 0), some (zi v1), none, none]) zmok_205 rfl rfl (fun v hv => by cases hv) (g_X11_actsOn hd h)
def f_X11_isWithBy_L7 (v1 : Int) (v2 : Int) (v3 : Int) (v4 : Int) (M : zM) : Option ((Int × zM) ⊕ (zM)) :=
  if zw v3 ≤ zw v4 then
    some (.inr M)
  else
    if 0 ≤ zw v4 ∧ zw v4 < 3 then
      (f_X11_actsOn (M 69 0 (zix v4)) M).bind fun p2 =>
        (f_X11_passesThrough 1 p2).bind fun p3 =>
          some (.inl ((v4 + 1), p3))
    else
      none
theorem g_X11_isWithBy_L7 {v1 : Int} {v2 : Int} {v3 : Int} {v4 : Int} {M : zM} {x : (Int × zM) ⊕ (zM)} {r : Option zV} {Mf : zM} {d : Nat} (hd : 8 ≤ d) (h : f_X11_isWithBy_L7 v1 v2 v3 v4 M = some x)
    (kc : ∀ s, x = .inl s → zG 206 d (7, [some (zr 42 0), some (zi v1), some (zi v2), some (zi v3), some (zi s.1)], [], s.2) r Mf)
    (kb : ∀ t, x = .inr t → zG 206 d (35, [some (zr 42 0), some (zi v1), some (zi v2), none, none], [], t) r Mf) (kr : True) : zG 206 d (7, [some (zr 42 0), some (zi v1), some (zi v2), some (zi v3), some (zi v4)], [], M) r Mf := by
  have hm := zmok_206
  unfold f_X11_isWithBy_L7 at h
  refine zG_run hm 2 (cf' := (10, [some (zr 42 0), some (zi v1), some (zi v2), some (zi v3), some (zi v4)], [zi v3, zi v4], M)) rfl ?_
  by_cases c5 : zw v3 ≤ zw v4
  · rw [if_pos c5] at h
    refine zG_br hm rfl (cf' := (35, [some (zr 42 0), some (zi v1), some (zi v2), some (zi v3), some (zi v4)], [], M)) (if_pos c5) ?_
    refine zG_sub (lv' := [some (zr 42 0), some (zi v1), some (zi v2), none, none]) (zsb_s rfl (zsb_s rfl (zsb_s rfl (zsb_n (zsb_n zsb_0))))) ?_
    exact kb M (Option.some.inj h).symm
  · rw [if_neg c5] at h
    refine zG_br hm rfl (cf' := (13, [some (zr 42 0), some (zi v1), some (zi v2), some (zi v3), some (zi v4)], [], M)) (if_neg c5) ?_
    refine zG_run hm 4 (cf' := (20, [some (zr 42 0), some (zi v1), some (zi v2), some (zi v3), some (zi v4)], [zi v4, zr 69 0, zr 42 0], M)) rfl ?_
    by_cases c4 : 0 ≤ zw v4 ∧ zw v4 < 3
    · rw [if_pos c4] at h
      refine zG_br hm rfl (cf' := (21, [some (zr 42 0), some (zi v1), some (zi v2), some (zi v3), some (zi v4)], [zi (M 69 0 (zix v4)), zr 42 0], M)) (if_pos c4) ?_
      obtain ⟨p2, hp2, h⟩ := Option.bind_eq_some_iff.mp h
      refine zG_V hm zmok_205 rfl (as := [zi (M 69 0 (zix v4))]) (rest := []) (st2 := []) (pc2 := 24) rfl rfl (by omega) (met_X11_actsOn (d := 6) (Nat.le_refl _) hp2) rfl ?_
      refine zG_run hm 2 (cf' := (26, [some (zr 42 0), some (zi v1), some (zi v2), some (zi v3), some (zi v4)], [zi 1, zr 42 0], p2)) rfl ?_
      obtain ⟨p3, hp3, h⟩ := Option.bind_eq_some_iff.mp h
      refine zG_V hm zmok_186 rfl (as := [zi 1]) (rest := []) (st2 := []) (pc2 := 29) rfl rfl (by omega) (met_X11_passesThrough (d := 7) (Nat.le_refl _) hp3) rfl ?_
      refine zG_run hm 2 (cf' := (7, [some (zr 42 0), some (zi v1), some (zi v2), some (zi v3), some (zi (v4 + 1))], [], p3)) rfl ?_
      refine zG_sub (lv' := [some (zr 42 0), some (zi v1), some (zi v2), some (zi v3), some (zi (v4 + 1))]) (zsb_s rfl (zsb_s rfl (zsb_s rfl (zsb_s rfl (zsb_s rfl zsb_0))))) ?_
      exact kc ((v4 + 1), p3) (Option.some.inj h).symm
    · rw [if_neg c4] at h
      cases h
theorem gl_X11_isWithBy_L7 {v1 : Int} {v2 : Int} {v3 : Int} {y : zM} {r : Option zV} {Mf : zM} {d : Nat} (hd : 8 ≤ d)
    (kb : ∀ t, y = t → zG 206 d (35, [some (zr 42 0), some (zi v1), some (zi v2), none, none], [], t) r Mf) (kr : True) : ∀ (n : Nat) (s : Int × zM), zlp (fun s : Int × zM => f_X11_isWithBy_L7 v1 v2 v3 s.1 s.2) n s = some y → zG 206 d (7, [some (zr 42 0), some (zi v1), some (zi v2), some (zi v3), some (zi s.1)], [], s.2) r Mf := by
  intro n
  induction n with
  | zero => intro s h; cases h
  | succ n ih =>
    intro s h
    rcases zlp_cases h with ⟨s', h1, h2⟩ | h1
    · exact g_X11_isWithBy_L7 hd h1 (fun s2 e2 => by cases e2; exact ih _ h2) (fun t e2 => by cases e2) trivial
    · exact g_X11_isWithBy_L7 hd h1 (fun s2 e2 => by cases e2) (fun t e2 => kb t (Sum.inr.inj e2)) trivial
def f_X11_isWithBy (v1 : Int) (v2 : Int) (v3 : Int) (M : zM) : Option (Int × zM) :=
  (f_X11_laysNow  M).bind fun p1 =>
    (zlp (fun s : Int × zM => f_X11_isWithBy_L7 v1 v2 v3 s.1 s.2) zF (0, p1)).bind fun y6 =>
      if 0 ≤ zw (14 + v1) ∧ zw (14 + v1) < 161 then
        if ¬ zw (y6 68 0 (zix (14 + v1))) = zw v2 then
          some (0, y6)
        else
          some (1, y6)
      else
        none
theorem g_X11_isWithBy {v1 : Int} {v2 : Int} {v3 : Int} {M : zM} {q : Int × zM} {d : Nat} (hd : 8 ≤ d) (h : f_X11_isWithBy v1 v2 v3 M = some q) : zG 206 d (0, [some (zr 42 0), some (zi v1), some (zi v2), some (zi v3), none], [], M) (some (zi q.1)) q.2 := by
  have hm := zmok_206
  unfold f_X11_isWithBy at h
  refine zG_run hm 1 (cf' := (1, [some (zr 42 0), some (zi v1), some (zi v2), some (zi v3), none], [zr 42 0], M)) rfl ?_
  obtain ⟨p1, hp1, h⟩ := Option.bind_eq_some_iff.mp h
  refine zG_V hm zmok_171 rfl (as := []) (rest := []) (st2 := []) (pc2 := 4) rfl rfl (by omega) (met_X11_laysNow (d := 0) (Nat.le_refl _) hp1) rfl ?_
  refine zG_run hm 2 (cf' := (7, [some (zr 42 0), some (zi v1), some (zi v2), some (zi v3), some (zi 0)], [], p1)) rfl ?_
  refine zG_sub (lv' := [some (zr 42 0), some (zi v1), some (zi v2), some (zi v3), some (zi 0)]) (zsb_s rfl (zsb_s rfl (zsb_s rfl (zsb_s rfl (zsb_s rfl zsb_0))))) ?_
  obtain ⟨y6, hy6, h⟩ := Option.bind_eq_some_iff.mp h
  refine gl_X11_isWithBy_L7 hd (fun t e2 => ?_) trivial zF (0, p1) hy6
  cases e2
  refine zG_run hm 5 (cf' := (43, [some (zr 42 0), some (zi v1), some (zi v2), none, none], [zi (14 + v1), zr 68 0], y6)) rfl ?_
  by_cases c8 : 0 ≤ zw (14 + v1) ∧ zw (14 + v1) < 161
  · rw [if_pos c8] at h
    refine zG_br hm rfl (cf' := (44, [some (zr 42 0), some (zi v1), some (zi v2), none, none], [zi (y6 68 0 (zix (14 + v1)))], y6)) (if_pos c8) ?_
    refine zG_run hm 1 (cf' := (45, [some (zr 42 0), some (zi v1), some (zi v2), none, none], [zi v2, zi (y6 68 0 (zix (14 + v1)))], y6)) rfl ?_
    by_cases c7 : ¬ zw (y6 68 0 (zix (14 + v1))) = zw v2
    · rw [if_pos c7] at h
      refine zG_br hm rfl (cf' := (52, [some (zr 42 0), some (zi v1), some (zi v2), none, none], [], y6)) (if_pos c7) ?_
      refine zG_run hm 1 (cf' := (53, [some (zr 42 0), some (zi v1), some (zi v2), none, none], [zi 0], y6)) rfl ?_
      cases h
      exact zG_rz hm rfl rfl (Or.inl rfl)
    · rw [if_neg c7] at h
      refine zG_br hm rfl (cf' := (48, [some (zr 42 0), some (zi v1), some (zi v2), none, none], [], y6)) (if_neg c7) ?_
      refine zG_run hm 2 (cf' := (53, [some (zr 42 0), some (zi v1), some (zi v2), none, none], [zi 1], y6)) rfl ?_
      cases h
      exact zG_rz hm rfl rfl (Or.inr rfl)
  · rw [if_neg c8] at h
    cases h
theorem met_X11_isWithBy {v1 : Int} {v2 : Int} {v3 : Int} {M : zM} {q : Int × zM} {d : Nat} (hd : 8 ≤ d) (h : f_X11_isWithBy v1 v2 v3 M = some q) : zMet 206 d [zr 42 0, zi v1, zi v2, zi v3] M (some (zi q.1)) q.2 :=
  zMet_of (lv0 := [some (zr 42 0), some (zi v1), some (zi v2), some (zi v3), none]) zmok_206 rfl rfl (fun v hv => by cases hv; trivial) (g_X11_isWithBy hd h)
def f_X11_fewest_L45 (v1 : Int) (v2 : Int) (v3 : Int) (v4 : Int) (v5 : Int) (v6 : Int) (M : zM) : Option ((Int × Int) ⊕ (Int)) :=
  if zw v3 ≤ zw v6 then
    some (.inr v5)
  else
    some (.inl ((v5 * (1 + (2 * (M 43 0 1)))), (v6 + 1)))
theorem g_X11_fewest_L45 {v1 : Int} {v2 : Int} {v3 : Int} {v4 : Int} {v5 : Int} {v6 : Int} {M : zM} {x : (Int × Int) ⊕ (Int)} {r : Option zV} {Mf : zM} {d : Nat} (hd : 9 ≤ d) (h : f_X11_fewest_L45 v1 v2 v3 v4 v5 v6 M = some x)
    (kc : ∀ s, x = .inl s → zG 207 d (45, [some (zr 42 0), some (zi v1), some (zi v2), some (zi v3), some (zi v4), some (zi s.1), some (zi s.2), none, none, none], [], M) r Mf)
    (kb : ∀ t, x = .inr t → zG 207 d (72, [some (zr 42 0), some (zi v1), some (zi v2), some (zi v3), some (zi v4), some (zi t), none, none, none, none], [], M) r Mf) (kr : True) : zG 207 d (45, [some (zr 42 0), some (zi v1), some (zi v2), some (zi v3), some (zi v4), some (zi v5), some (zi v6), none, none, none], [], M) r Mf := by
  have hm := zmok_207
  unfold f_X11_fewest_L45 at h
  refine zG_run hm 2 (cf' := (48, [some (zr 42 0), some (zi v1), some (zi v2), some (zi v3), some (zi v4), some (zi v5), some (zi v6), none, none, none], [zi v3, zi v6], M)) rfl ?_
  by_cases c5 : zw v3 ≤ zw v6
  · rw [if_pos c5] at h
    refine zG_br hm rfl (cf' := (72, [some (zr 42 0), some (zi v1), some (zi v2), some (zi v3), some (zi v4), some (zi v5), some (zi v6), none, none, none], [], M)) (if_pos c5) ?_
    refine zG_sub (lv' := [some (zr 42 0), some (zi v1), some (zi v2), some (zi v3), some (zi v4), some (zi v5), none, none, none, none]) (zsb_s rfl (zsb_s rfl (zsb_s rfl (zsb_s rfl (zsb_s rfl (zsb_s rfl (zsb_n (zsb_n (zsb_n (zsb_n zsb_0)))))))))) ?_
    exact kb v5 (Option.some.inj h).symm
  · rw [if_neg c5] at h
    refine zG_br hm rfl (cf' := (51, [some (zr 42 0), some (zi v1), some (zi v2), some (zi v3), some (zi v4), some (zi v5), some (zi v6), none, none, none], [], M)) (if_neg c5) ?_
    refine zG_run hm 13 (cf' := (45, [some (zr 42 0), some (zi v1), some (zi v2), some (zi v3), some (zi v4), some (zi (v5 * (1 + (2 * (M 43 0 1))))), some (zi (v6 + 1)), none, none, none], [], M)) rfl ?_
    refine zG_sub (lv' := [some (zr 42 0), some (zi v1), some (zi v2), some (zi v3), some (zi v4), some (zi (v5 * (1 + (2 * (M 43 0 1))))), some (zi (v6 + 1)), none, none, none]) (zsb_s rfl (zsb_s rfl (zsb_s rfl (zsb_s rfl (zsb_s rfl (zsb_s rfl (zsb_s rfl (zsb_n (zsb_n (zsb_n zsb_0)))))))))) ?_
    exact kc ((v5 * (1 + (2 * (M 43 0 1)))), (v6 + 1)) (Option.some.inj h).symm
theorem gl_X11_fewest_L45 {v1 : Int} {v2 : Int} {v3 : Int} {v4 : Int} {M : zM} {y : Int} {r : Option zV} {Mf : zM} {d : Nat} (hd : 9 ≤ d)
    (kb : ∀ t, y = t → zG 207 d (72, [some (zr 42 0), some (zi v1), some (zi v2), some (zi v3), some (zi v4), some (zi t), none, none, none, none], [], M) r Mf) (kr : True) : ∀ (n : Nat) (s : Int × Int), zlp (fun s : Int × Int => f_X11_fewest_L45 v1 v2 v3 v4 s.1 s.2 M) n s = some y → zG 207 d (45, [some (zr 42 0), some (zi v1), some (zi v2), some (zi v3), some (zi v4), some (zi s.1), some (zi s.2), none, none, none], [], M) r Mf := by
  intro n
  induction n with
  | zero => intro s h; cases h
  | succ n ih =>
    intro s h
    rcases zlp_cases h with ⟨s', h1, h2⟩ | h1
    · exact g_X11_fewest_L45 hd h1 (fun s2 e2 => by cases e2; exact ih _ h2) (fun t e2 => by cases e2) trivial
    · exact g_X11_fewest_L45 hd h1 (fun s2 e2 => by cases e2) (fun t e2 => kb t (Sum.inr.inj e2)) trivial
def f_X11_fewest_j150 (v1 : Int) (v2 : Int) (v3 : Int) (v4 : Int) (v5 : Int) (v6 : Int) (v7 : Int) (M : zM) : Option ((Int × Int × zM) ⊕ (Int × zM)) :=
  some (.inl (v6, (v7 + 1), M))
theorem g_X11_fewest_j150 {v1 : Int} {v2 : Int} {v3 : Int} {v4 : Int} {v5 : Int} {v6 : Int} {v7 : Int} {M : zM} {x : (Int × Int × zM) ⊕ (Int × zM)} {r : Option zV} {Mf : zM} {d : Nat} (hd : 9 ≤ d) (h : f_X11_fewest_j150 v1 v2 v3 v4 v5 v6 v7 M = some x)
    (kc : ∀ s, x = .inl s → zG 207 d (78, [some (zr 42 0), some (zi v1), some (zi v2), some (zi v3), some (zi v4), some (zi v5), some (zi s.1), some (zi s.2.1), none, none], [], s.2.2) r Mf)
    (kb : ∀ t, x = .inr t → zG 207 d (156, [some (zr 42 0), none, none, none, some (zi v4), none, some (zi t.1), none, none, none], [], t.2) r Mf) (kr : True) : zG 207 d (150, [some (zr 42 0), some (zi v1), some (zi v2), some (zi v3), some (zi v4), some (zi v5), some (zi v6), some (zi v7), none, none], [], M) r Mf := by
  have hm := zmok_207
  unfold f_X11_fewest_j150 at h
  refine zG_run hm 2 (cf' := (78, [some (zr 42 0), some (zi v1), some (zi v2), some (zi v3), some (zi v4), some (zi v5), some (zi v6), some (zi (v7 + 1)), none, none], [], M)) rfl ?_
  refine zG_sub (lv' := [some (zr 42 0), some (zi v1), some (zi v2), some (zi v3), some (zi v4), some (zi v5), some (zi v6), some (zi (v7 + 1)), none, none]) (zsb_s rfl (zsb_s rfl (zsb_s rfl (zsb_s rfl (zsb_s rfl (zsb_s rfl (zsb_s rfl (zsb_s rfl (zsb_n (zsb_n zsb_0)))))))))) ?_
  exact kc (v6, (v7 + 1), M) (Option.some.inj h).symm
def f_X11_fewest_L124 (v1 : Int) (v2 : Int) (v3 : Int) (v4 : Int) (v5 : Int) (v6 : Int) (v7 : Int) (v9 : Int) (M : zM) : Option ((Int × zM) ⊕ (zM)) :=
  if zw v3 ≤ zw v9 then
    some (.inr M)
  else
    if 0 ≤ zw v9 ∧ zw v9 < 3 then
      if 0 ≤ zw v9 ∧ zw v9 < 3 then
        zlet (zput M 70 0 (zix v9) (M 69 0 (zix v9))) fun M9 =>
        some (.inl ((v9 + 1), M9))
      else
        none
    else
      none
theorem g_X11_fewest_L124 {v1 : Int} {v2 : Int} {v3 : Int} {v4 : Int} {v5 : Int} {v6 : Int} {v7 : Int} {v9 : Int} {M : zM} {x : (Int × zM) ⊕ (zM)} {r : Option zV} {Mf : zM} {d : Nat} (hd : 9 ≤ d) (h : f_X11_fewest_L124 v1 v2 v3 v4 v5 v6 v7 v9 M = some x)
    (kc : ∀ s, x = .inl s → zG 207 d (124, [some (zr 42 0), some (zi v1), some (zi v2), some (zi v3), some (zi v4), some (zi v5), some (zi v6), some (zi v7), none, some (zi s.1)], [], s.2) r Mf)
    (kb : ∀ t, x = .inr t → zG 207 d (150, [some (zr 42 0), some (zi v1), some (zi v2), some (zi v3), some (zi v4), some (zi v5), some (zi v6), some (zi v7), none, none], [], t) r Mf) (kr : True) : zG 207 d (124, [some (zr 42 0), some (zi v1), some (zi v2), some (zi v3), some (zi v4), some (zi v5), some (zi v6), some (zi v7), none, some (zi v9)], [], M) r Mf := by
  have hm := zmok_207
  unfold f_X11_fewest_L124 at h
  refine zG_run hm 2 (cf' := (127, [some (zr 42 0), some (zi v1), some (zi v2), some (zi v3), some (zi v4), some (zi v5), some (zi v6), some (zi v7), none, some (zi v9)], [zi v3, zi v9], M)) rfl ?_
  by_cases c12 : zw v3 ≤ zw v9
  · rw [if_pos c12] at h
    refine zG_br hm rfl (cf' := (150, [some (zr 42 0), some (zi v1), some (zi v2), some (zi v3), some (zi v4), some (zi v5), some (zi v6), some (zi v7), none, some (zi v9)], [], M)) (if_pos c12) ?_
    refine zG_sub (lv' := [some (zr 42 0), some (zi v1), some (zi v2), some (zi v3), some (zi v4), some (zi v5), some (zi v6), some (zi v7), none, none]) (zsb_s rfl (zsb_s rfl (zsb_s rfl (zsb_s rfl (zsb_s rfl (zsb_s rfl (zsb_s rfl (zsb_s rfl (zsb_n (zsb_n zsb_0)))))))))) ?_
    exact kb M (Option.some.inj h).symm
  · rw [if_neg c12] at h
    refine zG_br hm rfl (cf' := (130, [some (zr 42 0), some (zi v1), some (zi v2), some (zi v3), some (zi v4), some (zi v5), some (zi v6), some (zi v7), none, some (zi v9)], [], M)) (if_neg c12) ?_
    refine zG_run hm 6 (cf' := (142, [some (zr 42 0), some (zi v1), some (zi v2), some (zi v3), some (zi v4), some (zi v5), some (zi v6), some (zi v7), none, some (zi v9)], [zi v9, zr 69 0, zi v9, zr 70 0], M)) rfl ?_
    by_cases c11 : 0 ≤ zw v9 ∧ zw v9 < 3
    · rw [if_pos c11] at h
      refine zG_br hm rfl (cf' := (143, [some (zr 42 0), some (zi v1), some (zi v2), some (zi v3), some (zi v4), some (zi v5), some (zi v6), some (zi v7), none, some (zi v9)], [zi (M 69 0 (zix v9)), zi v9, zr 70 0], M)) (if_pos c11) ?_
      by_cases c10 : 0 ≤ zw v9 ∧ zw v9 < 3
      · rw [if_pos c10] at h
        refine zG_br hm rfl (cf' := (144, [some (zr 42 0), some (zi v1), some (zi v2), some (zi v3), some (zi v4), some (zi v5), some (zi v6), some (zi v7), none, some (zi v9)], [], (zput M 70 0 (zix v9) (M 69 0 (zix v9))))) (if_pos c10) ?_
        obtain ⟨M9, eM9, h⟩ := zlet_of h
        rw [eM9]
        refine zG_run hm 2 (cf' := (124, [some (zr 42 0), some (zi v1), some (zi v2), some (zi v3), some (zi v4), some (zi v5), some (zi v6), some (zi v7), none, some (zi (v9 + 1))], [], M9)) rfl ?_
        refine zG_sub (lv' := [some (zr 42 0), some (zi v1), some (zi v2), some (zi v3), some (zi v4), some (zi v5), some (zi v6), some (zi v7), none, some (zi (v9 + 1))]) (zsb_s rfl (zsb_s rfl (zsb_s rfl (zsb_s rfl (zsb_s rfl (zsb_s rfl (zsb_s rfl (zsb_s rfl (zsb_n (zsb_s rfl zsb_0)))))))))) ?_
        exact kc ((v9 + 1), M9) (Option.some.inj h).symm
      · rw [if_neg c10] at h
        cases h
    · rw [if_neg c11] at h
      cases h
theorem gl_X11_fewest_L124 {v1 : Int} {v2 : Int} {v3 : Int} {v4 : Int} {v5 : Int} {v6 : Int} {v7 : Int} {y : zM} {r : Option zV} {Mf : zM} {d : Nat} (hd : 9 ≤ d)
    (kb : ∀ t, y = t → zG 207 d (150, [some (zr 42 0), some (zi v1), some (zi v2), some (zi v3), some (zi v4), some (zi v5), some (zi v6), some (zi v7), none, none], [], t) r Mf) (kr : True) : ∀ (n : Nat) (s : Int × zM), zlp (fun s : Int × zM => f_X11_fewest_L124 v1 v2 v3 v4 v5 v6 v7 s.1 s.2) n s = some y → zG 207 d (124, [some (zr 42 0), some (zi v1), some (zi v2), some (zi v3), some (zi v4), some (zi v5), some (zi v6), some (zi v7), none, some (zi s.1)], [], s.2) r Mf := by
  intro n
  induction n with
  | zero => intro s h; cases h
  | succ n ih =>
    intro s h
    rcases zlp_cases h with ⟨s', h1, h2⟩ | h1
    · exact g_X11_fewest_L124 hd h1 (fun s2 e2 => by cases e2; exact ih _ h2) (fun t e2 => by cases e2) trivial
    · exact g_X11_fewest_L124 hd h1 (fun s2 e2 => by cases e2) (fun t e2 => kb t (Sum.inr.inj e2)) trivial
def f_X11_fewest_j107 (v1 : Int) (v2 : Int) (v3 : Int) (v4 : Int) (v5 : Int) (v6 : Int) (v7 : Int) (v8 : Int) (M : zM) : Option ((Int × Int × zM) ⊕ (Int × zM)) :=
  (f_X11_isWithBy v1 v2 v3 M).bind fun p8 =>
    if zw p8.1 = 0 then
      f_X11_fewest_j150 v1 v2 v3 v4 v5 v6 v7 p8.2
    else
      (zlp (fun s : Int × zM => f_X11_fewest_L124 v1 v2 v3 v4 v5 v8 v7 s.1 s.2) zF (0, p8.2)).bind fun y13 =>
        f_X11_fewest_j150 v1 v2 v3 v4 v5 v8 v7 y13
theorem g_X11_fewest_j107 {v1 : Int} {v2 : Int} {v3 : Int} {v4 : Int} {v5 : Int} {v6 : Int} {v7 : Int} {v8 : Int} {M : zM} {x : (Int × Int × zM) ⊕ (Int × zM)} {r : Option zV} {Mf : zM} {d : Nat} (hd : 9 ≤ d) (h : f_X11_fewest_j107 v1 v2 v3 v4 v5 v6 v7 v8 M = some x)
    (kc : ∀ s, x = .inl s → zG 207 d (78, [some (zr 42 0), some (zi v1), some (zi v2), some (zi v3), some (zi v4), some (zi v5), some (zi s.1), some (zi s.2.1), none, none], [], s.2.2) r Mf)
    (kb : ∀ t, x = .inr t → zG 207 d (156, [some (zr 42 0), none, none, none, some (zi v4), none, some (zi t.1), none, none, none], [], t.2) r Mf) (kr : True) : zG 207 d (107, [some (zr 42 0), some (zi v1), some (zi v2), some (zi v3), some (zi v4), some (zi v5), some (zi v6), some (zi v7), some (zi v8), none], [], M) r Mf := by
  have hm := zmok_207
  unfold f_X11_fewest_j107 at h
  refine zG_run hm 4 (cf' := (111, [some (zr 42 0), some (zi v1), some (zi v2), some (zi v3), some (zi v4), some (zi v5), some (zi v6), some (zi v7), some (zi v8), none], [zi v3, zi v2, zi v1, zr 42 0], M)) rfl ?_
  obtain ⟨p8, hp8, h⟩ := Option.bind_eq_some_iff.mp h
  refine zG_V hm zmok_206 rfl (as := [zi v1, zi v2, zi v3]) (rest := []) (st2 := [zi p8.1]) (pc2 := 114) rfl rfl (by omega) (met_X11_isWithBy (d := 8) (Nat.le_refl _) hp8) rfl ?_
  by_cases c14 : zw p8.1 = 0
  · rw [if_pos c14] at h
    refine zG_br hm rfl (cf' := (150, [some (zr 42 0), some (zi v1), some (zi v2), some (zi v3), some (zi v4), some (zi v5), some (zi v6), some (zi v7), some (zi v8), none], [], p8.2)) (if_pos c14) ?_
    refine zG_sub (lv' := [some (zr 42 0), some (zi v1), some (zi v2), some (zi v3), some (zi v4), some (zi v5), some (zi v6), some (zi v7), none, none]) (zsb_s rfl (zsb_s rfl (zsb_s rfl (zsb_s rfl (zsb_s rfl (zsb_s rfl (zsb_s rfl (zsb_s rfl (zsb_n (zsb_n zsb_0)))))))))) ?_
    exact g_X11_fewest_j150 hd h kc kb kr
  · rw [if_neg c14] at h
    refine zG_br hm rfl (cf' := (117, [some (zr 42 0), some (zi v1), some (zi v2), some (zi v3), some (zi v4), some (zi v5), some (zi v6), some (zi v7), some (zi v8), none], [], p8.2)) (if_neg c14) ?_
    refine zG_run hm 4 (cf' := (124, [some (zr 42 0), some (zi v1), some (zi v2), some (zi v3), some (zi v4), some (zi v5), some (zi v8), some (zi v7), some (zi v8), some (zi 0)], [], p8.2)) rfl ?_
    refine zG_sub (lv' := [some (zr 42 0), some (zi v1), some (zi v2), some (zi v3), some (zi v4), some (zi v5), some (zi v8), some (zi v7), none, some (zi 0)]) (zsb_s rfl (zsb_s rfl (zsb_s rfl (zsb_s rfl (zsb_s rfl (zsb_s rfl (zsb_s rfl (zsb_s rfl (zsb_n (zsb_s rfl zsb_0)))))))))) ?_
    obtain ⟨y13, hy13, h⟩ := Option.bind_eq_some_iff.mp h
    refine gl_X11_fewest_L124 hd (fun t e2 => ?_) trivial zF (0, p8.2) hy13
    cases e2
    refine zG_sub (lv' := [some (zr 42 0), some (zi v1), some (zi v2), some (zi v3), some (zi v4), some (zi v5), some (zi v8), some (zi v7), none, none]) (zsb_s rfl (zsb_s rfl (zsb_s rfl (zsb_s rfl (zsb_s rfl (zsb_s rfl (zsb_s rfl (zsb_s rfl (zsb_n (zsb_n zsb_0)))))))))) ?_
    exact g_X11_fewest_j150 hd h kc kb kr
def f_X11_fewest_L78 (v1 : Int) (v2 : Int) (v3 : Int) (v4 : Int) (v5 : Int) (v6 : Int) (v7 : Int) (M : zM) : Option ((Int × Int × zM) ⊕ (Int × zM)) :=
  if zw v5 ≤ zw v7 then
    some (.inr (v6, M))
  else
    (f_X11_laysActs v7 v3 M).bind fun p7 =>
      if zw v6 = (-1) then
        f_X11_fewest_j107 v1 v2 v3 v4 v5 v6 v7 p7.1 p7.2
      else
        if zw v6 ≤ zw p7.1 then
          f_X11_fewest_j150 v1 v2 v3 v4 v5 v6 v7 p7.2
        else
          f_X11_fewest_j107 v1 v2 v3 v4 v5 v6 v7 p7.1 p7.2
theorem g_X11_fewest_L78 {v1 : Int} {v2 : Int} {v3 : Int} {v4 : Int} {v5 : Int} {v6 : Int} {v7 : Int} {M : zM} {x : (Int × Int × zM) ⊕ (Int × zM)} {r : Option zV} {Mf : zM} {d : Nat} (hd : 9 ≤ d) (h : f_X11_fewest_L78 v1 v2 v3 v4 v5 v6 v7 M = some x)
    (kc : ∀ s, x = .inl s → zG 207 d (78, [some (zr 42 0), some (zi v1), some (zi v2), some (zi v3), some (zi v4), some (zi v5), some (zi s.1), some (zi s.2.1), none, none], [], s.2.2) r Mf)
    (kb : ∀ t, x = .inr t → zG 207 d (156, [some (zr 42 0), none, none, none, some (zi v4), none, some (zi t.1), none, none, none], [], t.2) r Mf) (kr : True) : zG 207 d (78, [some (zr 42 0), some (zi v1), some (zi v2), some (zi v3), some (zi v4), some (zi v5), some (zi v6), some (zi v7), none, none], [], M) r Mf := by
  have hm := zmok_207
  unfold f_X11_fewest_L78 at h
  refine zG_run hm 2 (cf' := (82, [some (zr 42 0), some (zi v1), some (zi v2), some (zi v3), some (zi v4), some (zi v5), some (zi v6), some (zi v7), none, none], [zi v5, zi v7], M)) rfl ?_
  by_cases c17 : zw v5 ≤ zw v7
  · rw [if_pos c17] at h
    refine zG_br hm rfl (cf' := (156, [some (zr 42 0), some (zi v1), some (zi v2), some (zi v3), some (zi v4), some (zi v5), some (zi v6), some (zi v7), none, none], [], M)) (if_pos c17) ?_
    refine zG_sub (lv' := [some (zr 42 0), none, none, none, some (zi v4), none, some (zi v6), none, none, none]) (zsb_s rfl (zsb_n (zsb_n (zsb_n (zsb_s rfl (zsb_n (zsb_s rfl (zsb_n (zsb_n (zsb_n zsb_0)))))))))) ?_
    exact kb (v6, M) (Option.some.inj h).symm
  · rw [if_neg c17] at h
    refine zG_br hm rfl (cf' := (85, [some (zr 42 0), some (zi v1), some (zi v2), some (zi v3), some (zi v4), some (zi v5), some (zi v6), some (zi v7), none, none], [], M)) (if_neg c17) ?_
    refine zG_run hm 3 (cf' := (89, [some (zr 42 0), some (zi v1), some (zi v2), some (zi v3), some (zi v4), some (zi v5), some (zi v6), some (zi v7), none, none], [zi v3, zi v7, zr 42 0], M)) rfl ?_
    obtain ⟨p7, hp7, h⟩ := Option.bind_eq_some_iff.mp h
    refine zG_V hm zmok_204 rfl (as := [zi v7, zi v3]) (rest := []) (st2 := [zi p7.1]) (pc2 := 92) rfl rfl (by omega) (met_X11_laysActs (d := 0) (Nat.le_refl _) hp7) rfl ?_
    refine zG_run hm 3 (cf' := (97, [some (zr 42 0), some (zi v1), some (zi v2), some (zi v3), some (zi v4), some (zi v5), some (zi v6), some (zi v7), some (zi p7.1), none], [zi (-1), zi v6], p7.2)) rfl ?_
    by_cases c16 : zw v6 = (-1)
    · rw [if_pos c16] at h
      refine zG_br hm rfl (cf' := (107, [some (zr 42 0), some (zi v1), some (zi v2), some (zi v3), some (zi v4), some (zi v5), some (zi v6), some (zi v7), some (zi p7.1), none], [], p7.2)) (if_pos c16) ?_
      refine zG_sub (lv' := [some (zr 42 0), some (zi v1), some (zi v2), some (zi v3), some (zi v4), some (zi v5), some (zi v6), some (zi v7), some (zi p7.1), none]) (zsb_s rfl (zsb_s rfl (zsb_s rfl (zsb_s rfl (zsb_s rfl (zsb_s rfl (zsb_s rfl (zsb_s rfl (zsb_s rfl (zsb_n zsb_0)))))))))) ?_
      exact g_X11_fewest_j107 hd h kc kb kr
    · rw [if_neg c16] at h
      refine zG_br hm rfl (cf' := (100, [some (zr 42 0), some (zi v1), some (zi v2), some (zi v3), some (zi v4), some (zi v5), some (zi v6), some (zi v7), some (zi p7.1), none], [], p7.2)) (if_neg c16) ?_
      refine zG_run hm 2 (cf' := (104, [some (zr 42 0), some (zi v1), some (zi v2), some (zi v3), some (zi v4), some (zi v5), some (zi v6), some (zi v7), some (zi p7.1), none], [zi v6, zi p7.1], p7.2)) rfl ?_
      by_cases c15 : zw v6 ≤ zw p7.1
      · rw [if_pos c15] at h
        refine zG_br hm rfl (cf' := (150, [some (zr 42 0), some (zi v1), some (zi v2), some (zi v3), some (zi v4), some (zi v5), some (zi v6), some (zi v7), some (zi p7.1), none], [], p7.2)) (if_pos c15) ?_
        refine zG_sub (lv' := [some (zr 42 0), some (zi v1), some (zi v2), some (zi v3), some (zi v4), some (zi v5), some (zi v6), some (zi v7), none, none]) (zsb_s rfl (zsb_s rfl (zsb_s rfl (zsb_s rfl (zsb_s rfl (zsb_s rfl (zsb_s rfl (zsb_s rfl (zsb_n (zsb_n zsb_0)))))))))) ?_
        exact g_X11_fewest_j150 hd h kc kb kr
      · rw [if_neg c15] at h
        refine zG_br hm rfl (cf' := (107, [some (zr 42 0), some (zi v1), some (zi v2), some (zi v3), some (zi v4), some (zi v5), some (zi v6), some (zi v7), some (zi p7.1), none], [], p7.2)) (if_neg c15) ?_
        refine zG_sub (lv' := [some (zr 42 0), some (zi v1), some (zi v2), some (zi v3), some (zi v4), some (zi v5), some (zi v6), some (zi v7), some (zi p7.1), none]) (zsb_s rfl (zsb_s rfl (zsb_s rfl (zsb_s rfl (zsb_s rfl (zsb_s rfl (zsb_s rfl (zsb_s rfl (zsb_s rfl (zsb_n zsb_0)))))))))) ?_
        exact g_X11_fewest_j107 hd h kc kb kr
theorem gl_X11_fewest_L78 {v1 : Int} {v2 : Int} {v3 : Int} {v4 : Int} {v5 : Int} {y : Int × zM} {r : Option zV} {Mf : zM} {d : Nat} (hd : 9 ≤ d)
    (kb : ∀ t, y = t → zG 207 d (156, [some (zr 42 0), none, none, none, some (zi v4), none, some (zi t.1), none, none, none], [], t.2) r Mf) (kr : True) : ∀ (n : Nat) (s : Int × Int × zM), zlp (fun s : Int × Int × zM => f_X11_fewest_L78 v1 v2 v3 v4 v5 s.1 s.2.1 s.2.2) n s = some y → zG 207 d (78, [some (zr 42 0), some (zi v1), some (zi v2), some (zi v3), some (zi v4), some (zi v5), some (zi s.1), some (zi s.2.1), none, none], [], s.2.2) r Mf := by
  intro n
  induction n with
  | zero => intro s h; cases h
  | succ n ih =>
    intro s h
    rcases zlp_cases h with ⟨s', h1, h2⟩ | h1
    · exact g_X11_fewest_L78 hd h1 (fun s2 e2 => by cases e2; exact ih _ h2) (fun t e2 => by cases e2) trivial
    · exact g_X11_fewest_L78 hd h1 (fun s2 e2 => by cases e2) (fun t e2 => kb t (Sum.inr.inj e2)) trivial
def f_X11_fewest (v1 : Int) (v2 : Int) (v3 : Int) (v4 : Int) (M : zM) : Option (Int × zM) :=
  (f_X11_isThing v1 M).bind fun p1 =>
    if zw p1.1 = 0 then
      some ((-1), p1.2)
    else
      (f_X11_isOwner v2 p1.2).bind fun p2 =>
        if zw p2.1 = 0 then
          some ((-1), p2.2)
        else
          (f_X11_in v3 1 3 p2.2).bind fun p3 =>
            if zw p3.1 = 0 then
              some ((-1), p3.2)
            else
              (f_X11_in v4 (-1) (v3 - 1) p3.2).bind fun p4 =>
                if ¬ zw p4.1 = 0 then
                  (zlp (fun s : Int × Int => f_X11_fewest_L45 v1 v2 v3 v4 s.1 s.2 p4.2) zF (1, 0)).bind fun y6 =>
                    (zlp (fun s : Int × Int × zM => f_X11_fewest_L78 v1 v2 v3 v4 y6 s.1 s.2.1 s.2.2) zF ((-1), 0, p4.2)).bind fun y18 =>
                      if zw y18.1 = (-1) then
                        some (y18.1, y18.2)
                      else
                        if ¬ zw v4 = (-1) then
                          if 0 ≤ zw v4 ∧ zw v4 < 3 then
                            if zw (y18.2 43 0 1) < zw (y18.2 70 0 (zix v4)) then
                              some ((((y18.2 70 0 (zix v4)) - (y18.2 43 0 1)) + 9), y18.2)
                            else
                              some ((y18.2 70 0 (zix v4)), y18.2)
                          else
                            none
                        else
                          some (y18.1, y18.2)
                else
                  some ((-1), p4.2)
theorem g_X11_fewest {v1 : Int} {v2 : Int} {v3 : Int} {v4 : Int} {M : zM} {q : Int × zM} {d : Nat} (hd : 9 ≤ d) (h : f_X11_fewest v1 v2 v3 v4 M = some q) : zG 207 d (0, [some (zr 42 0), some (zi v1), some (zi v2), some (zi v3), some (zi v4), none, none, none, none, none], [], M) (some (zi q.1)) q.2 := by
  have hm := zmok_207
  unfold f_X11_fewest at h
  refine zG_run hm 2 (cf' := (2, [some (zr 42 0), some (zi v1), some (zi v2), some (zi v3), some (zi v4), none, none, none, none, none], [zi v1, zr 42 0], M)) rfl ?_
  obtain ⟨p1, hp1, h⟩ := Option.bind_eq_some_iff.mp h
  refine zG_V hm zmok_123 rfl (as := [zi v1]) (rest := []) (st2 := [zi p1.1]) (pc2 := 5) rfl rfl (by omega) (met_X11_isThing (d := 1) (Nat.le_refl _) hp1) rfl ?_
  by_cases c26 : zw p1.1 = 0
  · rw [if_pos c26] at h
    refine zG_br hm rfl (cf' := (37, [some (zr 42 0), some (zi v1), some (zi v2), some (zi v3), some (zi v4), none, none, none, none, none], [], p1.2)) (if_pos c26) ?_
    refine zG_run hm 1 (cf' := (38, [some (zr 42 0), some (zi v1), some (zi v2), some (zi v3), some (zi v4), none, none, none, none, none], [zi (-1)], p1.2)) rfl ?_
    cases h
    exact zG_ri hm rfl rfl
  · rw [if_neg c26] at h
    refine zG_br hm rfl (cf' := (8, [some (zr 42 0), some (zi v1), some (zi v2), some (zi v3), some (zi v4), none, none, none, none, none], [], p1.2)) (if_neg c26) ?_
    refine zG_run hm 2 (cf' := (10, [some (zr 42 0), some (zi v1), some (zi v2), some (zi v3), some (zi v4), none, none, none, none, none], [zi v2, zr 42 0], p1.2)) rfl ?_
    obtain ⟨p2, hp2, h⟩ := Option.bind_eq_some_iff.mp h
    refine zG_V hm zmok_122 rfl (as := [zi v2]) (rest := []) (st2 := [zi p2.1]) (pc2 := 13) rfl rfl (by omega) (met_X11_isOwner (d := 1) (Nat.le_refl _) hp2) rfl ?_
    by_cases c25 : zw p2.1 = 0
    · rw [if_pos c25] at h
      refine zG_br hm rfl (cf' := (37, [some (zr 42 0), some (zi v1), some (zi v2), some (zi v3), some (zi v4), none, none, none, none, none], [], p2.2)) (if_pos c25) ?_
      refine zG_run hm 1 (cf' := (38, [some (zr 42 0), some (zi v1), some (zi v2), some (zi v3), some (zi v4), none, none, none, none, none], [zi (-1)], p2.2)) rfl ?_
      cases h
      exact zG_ri hm rfl rfl
    · rw [if_neg c25] at h
      refine zG_br hm rfl (cf' := (16, [some (zr 42 0), some (zi v1), some (zi v2), some (zi v3), some (zi v4), none, none, none, none, none], [], p2.2)) (if_neg c25) ?_
      refine zG_run hm 3 (cf' := (19, [some (zr 42 0), some (zi v1), some (zi v2), some (zi v3), some (zi v4), none, none, none, none, none], [zi 3, zi 1, zi v3], p2.2)) rfl ?_
      obtain ⟨p3, hp3, h⟩ := Option.bind_eq_some_iff.mp h
      refine zG_S hm zmok_117 rfl (as := [zi v3, zi 1, zi 3]) (rest := []) (st2 := [zi p3.1]) (pc2 := 22) rfl rfl (by omega) (met_X11_in (d := 0) (Nat.le_refl _) hp3) rfl ?_
      by_cases c24 : zw p3.1 = 0
      · rw [if_pos c24] at h
        refine zG_br hm rfl (cf' := (37, [some (zr 42 0), some (zi v1), some (zi v2), some (zi v3), some (zi v4), none, none, none, none, none], [], p3.2)) (if_pos c24) ?_
        refine zG_run hm 1 (cf' := (38, [some (zr 42 0), some (zi v1), some (zi v2), some (zi v3), some (zi v4), none, none, none, none, none], [zi (-1)], p3.2)) rfl ?_
        cases h
        exact zG_ri hm rfl rfl
      · rw [if_neg c24] at h
        refine zG_br hm rfl (cf' := (25, [some (zr 42 0), some (zi v1), some (zi v2), some (zi v3), some (zi v4), none, none, none, none, none], [], p3.2)) (if_neg c24) ?_
        refine zG_run hm 5 (cf' := (31, [some (zr 42 0), some (zi v1), some (zi v2), some (zi v3), some (zi v4), none, none, none, none, none], [zi (v3 - 1), zi (-1), zi v4], p3.2)) rfl ?_
        obtain ⟨p4, hp4, h⟩ := Option.bind_eq_some_iff.mp h
        refine zG_S hm zmok_117 rfl (as := [zi v4, zi (-1), zi (v3 - 1)]) (rest := []) (st2 := [zi p4.1]) (pc2 := 34) rfl rfl (by omega) (met_X11_in (d := 0) (Nat.le_refl _) hp4) rfl ?_
        by_cases c23 : ¬ zw p4.1 = 0
        · rw [if_pos c23] at h
          refine zG_br hm rfl (cf' := (39, [some (zr 42 0), some (zi v1), some (zi v2), some (zi v3), some (zi v4), none, none, none, none, none], [], p4.2)) (if_pos c23) ?_
          refine zG_run hm 4 (cf' := (45, [some (zr 42 0), some (zi v1), some (zi v2), some (zi v3), some (zi v4), some (zi 1), some (zi 0), none, none, none], [], p4.2)) rfl ?_
          refine zG_sub (lv' := [some (zr 42 0), some (zi v1), some (zi v2), some (zi v3), some (zi v4), some (zi 1), some (zi 0), none, none, none]) (zsb_s rfl (zsb_s rfl (zsb_s rfl (zsb_s rfl (zsb_s rfl (zsb_s rfl (zsb_s rfl (zsb_n (zsb_n (zsb_n zsb_0)))))))))) ?_
          obtain ⟨y6, hy6, h⟩ := Option.bind_eq_some_iff.mp h
          refine gl_X11_fewest_L45 hd (fun t e2 => ?_) trivial zF (1, 0) hy6
          cases e2
          refine zG_run hm 4 (cf' := (78, [some (zr 42 0), some (zi v1), some (zi v2), some (zi v3), some (zi v4), some (zi y6), some (zi (-1)), some (zi 0), none, none], [], p4.2)) rfl ?_
          refine zG_sub (lv' := [some (zr 42 0), some (zi v1), some (zi v2), some (zi v3), some (zi v4), some (zi y6), some (zi (-1)), some (zi 0), none, none]) (zsb_s rfl (zsb_s rfl (zsb_s rfl (zsb_s rfl (zsb_s rfl (zsb_s rfl (zsb_s rfl (zsb_s rfl (zsb_n (zsb_n zsb_0)))))))))) ?_
          obtain ⟨y18, hy18, h⟩ := Option.bind_eq_some_iff.mp h
          refine gl_X11_fewest_L78 hd (fun t e2 => ?_) trivial zF ((-1), 0, p4.2) hy18
          cases e2
          refine zG_run hm 2 (cf' := (159, [some (zr 42 0), none, none, none, some (zi v4), none, some (zi y18.1), none, none, none], [zi (-1), zi y18.1], y18.2)) rfl ?_
          by_cases c22 : zw y18.1 = (-1)
          · rw [if_pos c22] at h
            refine zG_br hm rfl (cf' := (168, [some (zr 42 0), none, none, none, some (zi v4), none, some (zi y18.1), none, none, none], [], y18.2)) (if_pos c22) ?_
            refine zG_run hm 1 (cf' := (170, [some (zr 42 0), none, none, none, some (zi v4), none, some (zi y18.1), none, none, none], [zi y18.1], y18.2)) rfl ?_
            cases h
            exact zG_ri hm rfl rfl
          · rw [if_neg c22] at h
            refine zG_br hm rfl (cf' := (162, [some (zr 42 0), none, none, none, some (zi v4), none, some (zi y18.1), none, none, none], [], y18.2)) (if_neg c22) ?_
            refine zG_run hm 2 (cf' := (165, [some (zr 42 0), none, none, none, some (zi v4), none, some (zi y18.1), none, none, none], [zi (-1), zi v4], y18.2)) rfl ?_
            by_cases c21 : ¬ zw v4 = (-1)
            · rw [if_pos c21] at h
              refine zG_br hm rfl (cf' := (171, [some (zr 42 0), none, none, none, some (zi v4), none, some (zi y18.1), none, none, none], [], y18.2)) (if_pos c21) ?_
              refine zG_run hm 3 (cf' := (177, [some (zr 42 0), none, none, none, some (zi v4), none, some (zi y18.1), none, none, none], [zi v4, zr 70 0], y18.2)) rfl ?_
              by_cases c20 : 0 ≤ zw v4 ∧ zw v4 < 3
              · rw [if_pos c20] at h
                refine zG_br hm rfl (cf' := (178, [some (zr 42 0), none, none, none, some (zi v4), none, some (zi y18.1), none, none, none], [zi (y18.2 70 0 (zix v4))], y18.2)) (if_pos c20) ?_
                refine zG_run hm 6 (cf' := (188, [some (zr 42 0), none, none, none, some (zi v4), none, some (zi y18.1), some (zi (y18.2 70 0 (zix v4))), none, none], [zi (y18.2 43 0 1), zi (y18.2 70 0 (zix v4))], y18.2)) rfl ?_
                by_cases c19 : zw (y18.2 43 0 1) < zw (y18.2 70 0 (zix v4))
                · rw [if_pos c19] at h
                  refine zG_br hm rfl (cf' := (196, [some (zr 42 0), none, none, none, some (zi v4), none, some (zi y18.1), some (zi (y18.2 70 0 (zix v4))), none, none], [], y18.2)) (if_pos c19) ?_
                  refine zG_run hm 8 (cf' := (208, [some (zr 42 0), none, none, none, some (zi v4), none, some (zi y18.1), some (zi (y18.2 70 0 (zix v4))), none, none], [zi (((y18.2 70 0 (zix v4)) - (y18.2 43 0 1)) + 9)], y18.2)) rfl ?_
                  cases h
                  exact zG_ri hm rfl rfl
                · rw [if_neg c19] at h
                  refine zG_br hm rfl (cf' := (191, [some (zr 42 0), none, none, none, some (zi v4), none, some (zi y18.1), some (zi (y18.2 70 0 (zix v4))), none, none], [], y18.2)) (if_neg c19) ?_
                  refine zG_run hm 2 (cf' := (208, [some (zr 42 0), none, none, none, some (zi v4), none, some (zi y18.1), some (zi (y18.2 70 0 (zix v4))), none, none], [zi (y18.2 70 0 (zix v4))], y18.2)) rfl ?_
                  cases h
                  exact zG_ri hm rfl rfl
              · rw [if_neg c20] at h
                cases h
            · rw [if_neg c21] at h
              refine zG_br hm rfl (cf' := (168, [some (zr 42 0), none, none, none, some (zi v4), none, some (zi y18.1), none, none, none], [], y18.2)) (if_neg c21) ?_
              refine zG_run hm 1 (cf' := (170, [some (zr 42 0), none, none, none, some (zi v4), none, some (zi y18.1), none, none, none], [zi y18.1], y18.2)) rfl ?_
              cases h
              exact zG_ri hm rfl rfl
        · rw [if_neg c23] at h
          refine zG_br hm rfl (cf' := (37, [some (zr 42 0), some (zi v1), some (zi v2), some (zi v3), some (zi v4), none, none, none, none, none], [], p4.2)) (if_neg c23) ?_
          refine zG_run hm 1 (cf' := (38, [some (zr 42 0), some (zi v1), some (zi v2), some (zi v3), some (zi v4), none, none, none, none, none], [zi (-1)], p4.2)) rfl ?_
          cases h
          exact zG_ri hm rfl rfl
theorem met_X11_fewest {v1 : Int} {v2 : Int} {v3 : Int} {v4 : Int} {M : zM} {q : Int × zM} {d : Nat} (hd : 9 ≤ d) (h : f_X11_fewest v1 v2 v3 v4 M = some q) : zMet 207 d [zr 42 0, zi v1, zi v2, zi v3, zi v4] M (some (zi q.1)) q.2 :=
  zMet_of (lv0 := [some (zr 42 0), some (zi v1), some (zi v2), some (zi v3), some (zi v4), none, none, none, none, none]) zmok_207 rfl rfl (fun v hv => by cases hv; trivial) (g_X11_fewest hd h)
def f_X0_dearOf_L4 (n0 : Nat) (v1 : Int) (v2 : Int) (v3 : Int) (M : zM) : Option ((Int × Int) ⊕ (Int)) :=
  if zw (M 11 n0 7) ≤ zw v3 then
    some (.inr v2)
  else
    if 0 ≤ zw v3 ∧ zw v3 < 8 then
      some (.inl ((v2 + ((zand (zshr v1 v3) 1) * (M 16 ((zix v3) + 8 * n0) 3))), (v3 + 1)))
    else
      none
theorem g_X0_dearOf_L4 {n0 : Nat} {v1 : Int} {v2 : Int} {v3 : Int} {M : zM} {x : (Int × Int) ⊕ (Int)} {r : Option zV} {Mf : zM} {d : Nat} (hd : 0 ≤ d) (h : f_X0_dearOf_L4 n0 v1 v2 v3 M = some x)
    (kc : ∀ s, x = .inl s → zG 11 d (4, [some (zr 11 n0), some (zi v1), some (zi s.1), some (zi s.2)], [], M) r Mf)
    (kb : ∀ t, x = .inr t → zG 11 d (36, [none, none, some (zi t), none], [], M) r Mf) (kr : True) : zG 11 d (4, [some (zr 11 n0), some (zi v1), some (zi v2), some (zi v3)], [], M) r Mf := by
  have hm := zmok_11
  unfold f_X0_dearOf_L4 at h
  refine zG_run hm 3 (cf' := (9, [some (zr 11 n0), some (zi v1), some (zi v2), some (zi v3)], [zi (M 11 n0 7), zi v3], M)) rfl ?_
  by_cases c2 : zw (M 11 n0 7) ≤ zw v3
  · rw [if_pos c2] at h
    refine zG_br hm rfl (cf' := (36, [some (zr 11 n0), some (zi v1), some (zi v2), some (zi v3)], [], M)) (if_pos c2) ?_
    refine zG_sub (lv' := [none, none, some (zi v2), none]) (zsb_n (zsb_n (zsb_s rfl (zsb_n zsb_0)))) ?_
    exact kb v2 (Option.some.inj h).symm
  · rw [if_neg c2] at h
    refine zG_br hm rfl (cf' := (12, [some (zr 11 n0), some (zi v1), some (zi v2), some (zi v3)], [], M)) (if_neg c2) ?_
    refine zG_run hm 9 (cf' := (23, [some (zr 11 n0), some (zi v1), some (zi v2), some (zi v3)], [zi v3, zr 14 n0, zi (zand (zshr v1 v3) 1), zi v2], M)) rfl ?_
    by_cases c1 : 0 ≤ zw v3 ∧ zw v3 < 8
    · rw [if_pos c1] at h
      refine zG_br hm rfl (cf' := (24, [some (zr 11 n0), some (zi v1), some (zi v2), some (zi v3)], [zr 16 ((zix v3) + 8 * n0), zi (zand (zshr v1 v3) 1), zi v2], M)) (if_pos c1) ?_
      refine zG_run hm 6 (cf' := (4, [some (zr 11 n0), some (zi v1), some (zi (v2 + ((zand (zshr v1 v3) 1) * (M 16 ((zix v3) + 8 * n0) 3)))), some (zi (v3 + 1))], [], M)) rfl ?_
      refine zG_sub (lv' := [some (zr 11 n0), some (zi v1), some (zi (v2 + ((zand (zshr v1 v3) 1) * (M 16 ((zix v3) + 8 * n0) 3)))), some (zi (v3 + 1))]) (zsb_s rfl (zsb_s rfl (zsb_s rfl (zsb_s rfl zsb_0)))) ?_
      exact kc ((v2 + ((zand (zshr v1 v3) 1) * (M 16 ((zix v3) + 8 * n0) 3))), (v3 + 1)) (Option.some.inj h).symm
    · rw [if_neg c1] at h
      cases h
theorem gl_X0_dearOf_L4 {n0 : Nat} {v1 : Int} {M : zM} {y : Int} {r : Option zV} {Mf : zM} {d : Nat} (hd : 0 ≤ d)
    (kb : ∀ t, y = t → zG 11 d (36, [none, none, some (zi t), none], [], M) r Mf) (kr : True) : ∀ (n : Nat) (s : Int × Int), zlp (fun s : Int × Int => f_X0_dearOf_L4 n0 v1 s.1 s.2 M) n s = some y → zG 11 d (4, [some (zr 11 n0), some (zi v1), some (zi s.1), some (zi s.2)], [], M) r Mf := by
  intro n
  induction n with
  | zero => intro s h; cases h
  | succ n ih =>
    intro s h
    rcases zlp_cases h with ⟨s', h1, h2⟩ | h1
    · exact g_X0_dearOf_L4 hd h1 (fun s2 e2 => by cases e2; exact ih _ h2) (fun t e2 => by cases e2) trivial
    · exact g_X0_dearOf_L4 hd h1 (fun s2 e2 => by cases e2) (fun t e2 => kb t (Sum.inr.inj e2)) trivial
def f_X0_dearOf (n0 : Nat) (v1 : Int) (M : zM) : Option (Int × zM) :=
  (zlp (fun s : Int × Int => f_X0_dearOf_L4 n0 v1 s.1 s.2 M) zF (0, 0)).bind fun y3 =>
    some (y3, M)
theorem g_X0_dearOf {n0 : Nat} {v1 : Int} {M : zM} {q : Int × zM} {d : Nat} (hd : 0 ≤ d) (h : f_X0_dearOf n0 v1 M = some q) : zG 11 d (0, [some (zr 11 n0), some (zi v1), none, none], [], M) (some (zi q.1)) q.2 := by
  have hm := zmok_11
  unfold f_X0_dearOf at h
  refine zG_run hm 4 (cf' := (4, [some (zr 11 n0), some (zi v1), some (zi 0), some (zi 0)], [], M)) rfl ?_
  refine zG_sub (lv' := [some (zr 11 n0), some (zi v1), some (zi 0), some (zi 0)]) (zsb_s rfl (zsb_s rfl (zsb_s rfl (zsb_s rfl zsb_0)))) ?_
  obtain ⟨y3, hy3, h⟩ := Option.bind_eq_some_iff.mp h
  refine gl_X0_dearOf_L4 hd (fun t e2 => ?_) trivial zF (0, 0) hy3
  cases e2
  refine zG_run hm 1 (cf' := (37, [none, none, some (zi y3), none], [zi y3], M)) rfl ?_
  cases h
  exact zG_ri hm rfl rfl
theorem met_X0_dearOf {n0 : Nat} {v1 : Int} {M : zM} {q : Int × zM} {d : Nat} (hd : 0 ≤ d) (h : f_X0_dearOf n0 v1 M = some q) : zMet 11 d [zr 11 n0, zi v1] M (some (zi q.1)) q.2 :=
  zMet_of (lv0 := [some (zr 11 n0), some (zi v1), none, none]) zmok_11 rfl rfl (fun v hv => by cases hv; trivial) (g_X0_dearOf hd h)
def f_X10_worth_j69 (v1 : Int) (v2 : Int) (v3 : Int) (v4 : Int) (M : zM) : Option ((Int × Int × Int × zM) ⊕ (Int × zM)) :=
  some (.inl (v2, v3, (v4 + 1), M))
theorem g_X10_worth_j69 {v1 : Int} {v2 : Int} {v3 : Int} {v4 : Int} {M : zM} {x : (Int × Int × Int × zM) ⊕ (Int × zM)} {r : Option zV} {Mf : zM} {d : Nat} (hd : 1 ≤ d) (h : f_X10_worth_j69 v1 v2 v3 v4 M = some x)
    (kc : ∀ s, x = .inl s → zG 94 d (19, [some (zr 0 0), some (zi v1), some (zi s.1), some (zi s.2.1), some (zi s.2.2.1), none], [], s.2.2.2) r Mf)
    (kb : ∀ t, x = .inr t → zG 94 d (75, [none, none, some (zi t.1), none, none, none], [], t.2) r Mf) (kr : True) : zG 94 d (69, [some (zr 0 0), some (zi v1), some (zi v2), some (zi v3), some (zi v4), none], [], M) r Mf := by
  have hm := zmok_94
  unfold f_X10_worth_j69 at h
  refine zG_run hm 2 (cf' := (19, [some (zr 0 0), some (zi v1), some (zi v2), some (zi v3), some (zi (v4 + 1)), none], [], M)) rfl ?_
  refine zG_sub (lv' := [some (zr 0 0), some (zi v1), some (zi v2), some (zi v3), some (zi (v4 + 1)), none]) (zsb_s rfl (zsb_s rfl (zsb_s rfl (zsb_s rfl (zsb_s rfl (zsb_n zsb_0)))))) ?_
  exact kc (v2, v3, (v4 + 1), M) (Option.some.inj h).symm
def f_X10_worth_L19 (v1 : Int) (v2 : Int) (v3 : Int) (v4 : Int) (M : zM) : Option ((Int × Int × Int × zM) ⊕ (Int × zM)) :=
  if zw (zshl 1 (M 11 0 7)) ≤ zw v4 then
    some (.inr (v2, M))
  else
    (f_X0_dearOf 0 v4 M).bind fun p2 =>
      if zw p2.1 ≤ zw v3 then
        f_X10_worth_j69 v1 v2 v3 v4 p2.2
      else
        (f_X0_bulkOf 0 v4 p2.2).bind fun p3 =>
          if zw v1 < zw p3.1 then
            f_X10_worth_j69 v1 v2 v3 v4 p3.2
          else
            f_X10_worth_j69 v1 v4 p2.1 v4 p3.2
theorem g_X10_worth_L19 {v1 : Int} {v2 : Int} {v3 : Int} {v4 : Int} {M : zM} {x : (Int × Int × Int × zM) ⊕ (Int × zM)} {r : Option zV} {Mf : zM} {d : Nat} (hd : 1 ≤ d) (h : f_X10_worth_L19 v1 v2 v3 v4 M = some x)
    (kc : ∀ s, x = .inl s → zG 94 d (19, [some (zr 0 0), some (zi v1), some (zi s.1), some (zi s.2.1), some (zi s.2.2.1), none], [], s.2.2.2) r Mf)
    (kb : ∀ t, x = .inr t → zG 94 d (75, [none, none, some (zi t.1), none, none, none], [], t.2) r Mf) (kr : True) : zG 94 d (19, [some (zr 0 0), some (zi v1), some (zi v2), some (zi v3), some (zi v4), none], [], M) r Mf := by
  have hm := zmok_94
  unfold f_X10_worth_L19 at h
  refine zG_run hm 6 (cf' := (30, [some (zr 0 0), some (zi v1), some (zi v2), some (zi v3), some (zi v4), none], [zi (zshl 1 (M 11 0 7)), zi v4], M)) rfl ?_
  by_cases c6 : zw (zshl 1 (M 11 0 7)) ≤ zw v4
  · rw [if_pos c6] at h
    refine zG_br hm rfl (cf' := (75, [some (zr 0 0), some (zi v1), some (zi v2), some (zi v3), some (zi v4), none], [], M)) (if_pos c6) ?_
    refine zG_sub (lv' := [none, none, some (zi v2), none, none, none]) (zsb_n (zsb_n (zsb_s rfl (zsb_n (zsb_n (zsb_n zsb_0)))))) ?_
    exact kb (v2, M) (Option.some.inj h).symm
  · rw [if_neg c6] at h
    refine zG_br hm rfl (cf' := (33, [some (zr 0 0), some (zi v1), some (zi v2), some (zi v3), some (zi v4), none], [], M)) (if_neg c6) ?_
    refine zG_run hm 3 (cf' := (39, [some (zr 0 0), some (zi v1), some (zi v2), some (zi v3), some (zi v4), none], [zi v4, zr 11 0], M)) rfl ?_
    obtain ⟨p2, hp2, h⟩ := Option.bind_eq_some_iff.mp h
    refine zG_V hm zmok_11 rfl (as := [zi v4]) (rest := []) (st2 := [zi p2.1]) (pc2 := 42) rfl rfl (by omega) (met_X0_dearOf (d := 0) (Nat.le_refl _) hp2) rfl ?_
    refine zG_run hm 3 (cf' := (47, [some (zr 0 0), some (zi v1), some (zi v2), some (zi v3), some (zi v4), some (zi p2.1)], [zi v3, zi p2.1], p2.2)) rfl ?_
    by_cases c5 : zw p2.1 ≤ zw v3
    · rw [if_pos c5] at h
      refine zG_br hm rfl (cf' := (69, [some (zr 0 0), some (zi v1), some (zi v2), some (zi v3), some (zi v4), some (zi p2.1)], [], p2.2)) (if_pos c5) ?_
      refine zG_sub (lv' := [some (zr 0 0), some (zi v1), some (zi v2), some (zi v3), some (zi v4), none]) (zsb_s rfl (zsb_s rfl (zsb_s rfl (zsb_s rfl (zsb_s rfl (zsb_n zsb_0)))))) ?_
      exact g_X10_worth_j69 hd h kc kb kr
    · rw [if_neg c5] at h
      refine zG_br hm rfl (cf' := (50, [some (zr 0 0), some (zi v1), some (zi v2), some (zi v3), some (zi v4), some (zi p2.1)], [], p2.2)) (if_neg c5) ?_
      refine zG_run hm 3 (cf' := (56, [some (zr 0 0), some (zi v1), some (zi v2), some (zi v3), some (zi v4), some (zi p2.1)], [zi v4, zr 11 0], p2.2)) rfl ?_
      obtain ⟨p3, hp3, h⟩ := Option.bind_eq_some_iff.mp h
      refine zG_V hm zmok_10 rfl (as := [zi v4]) (rest := []) (st2 := [zi p3.1]) (pc2 := 59) rfl rfl (by omega) (met_X0_bulkOf (d := 0) (Nat.le_refl _) hp3) rfl ?_
      refine zG_run hm 1 (cf' := (60, [some (zr 0 0), some (zi v1), some (zi v2), some (zi v3), some (zi v4), some (zi p2.1)], [zi v1, zi p3.1], p3.2)) rfl ?_
      by_cases c4 : zw v1 < zw p3.1
      · rw [if_pos c4] at h
        refine zG_br hm rfl (cf' := (69, [some (zr 0 0), some (zi v1), some (zi v2), some (zi v3), some (zi v4), some (zi p2.1)], [], p3.2)) (if_pos c4) ?_
        refine zG_sub (lv' := [some (zr 0 0), some (zi v1), some (zi v2), some (zi v3), some (zi v4), none]) (zsb_s rfl (zsb_s rfl (zsb_s rfl (zsb_s rfl (zsb_s rfl (zsb_n zsb_0)))))) ?_
        exact g_X10_worth_j69 hd h kc kb kr
      · rw [if_neg c4] at h
        refine zG_br hm rfl (cf' := (63, [some (zr 0 0), some (zi v1), some (zi v2), some (zi v3), some (zi v4), some (zi p2.1)], [], p3.2)) (if_neg c4) ?_
        refine zG_run hm 4 (cf' := (69, [some (zr 0 0), some (zi v1), some (zi v4), some (zi p2.1), some (zi v4), some (zi p2.1)], [], p3.2)) rfl ?_
        refine zG_sub (lv' := [some (zr 0 0), some (zi v1), some (zi v4), some (zi p2.1), some (zi v4), none]) (zsb_s rfl (zsb_s rfl (zsb_s rfl (zsb_s rfl (zsb_s rfl (zsb_n zsb_0)))))) ?_
        exact g_X10_worth_j69 hd h kc kb kr
theorem gl_X10_worth_L19 {v1 : Int} {y : Int × zM} {r : Option zV} {Mf : zM} {d : Nat} (hd : 1 ≤ d)
    (kb : ∀ t, y = t → zG 94 d (75, [none, none, some (zi t.1), none, none, none], [], t.2) r Mf) (kr : True) : ∀ (n : Nat) (s : Int × Int × Int × zM), zlp (fun s : Int × Int × Int × zM => f_X10_worth_L19 v1 s.1 s.2.1 s.2.2.1 s.2.2.2) n s = some y → zG 94 d (19, [some (zr 0 0), some (zi v1), some (zi s.1), some (zi s.2.1), some (zi s.2.2.1), none], [], s.2.2.2) r Mf := by
  intro n
  induction n with
  | zero => intro s h; cases h
  | succ n ih =>
    intro s h
    rcases zlp_cases h with ⟨s', h1, h2⟩ | h1
    · exact g_X10_worth_L19 hd h1 (fun s2 e2 => by cases e2; exact ih _ h2) (fun t e2 => by cases e2) trivial
    · exact g_X10_worth_L19 hd h1 (fun s2 e2 => by cases e2) (fun t e2 => kb t (Sum.inr.inj e2)) trivial
def f_X10_worth (v1 : Int) (M : zM) : Option (Int × zM) :=
  (f_X10_within v1 0 99 M).bind fun p1 =>
    if ¬ zw p1.1 = 0 then
      (zlp (fun s : Int × Int × Int × zM => f_X10_worth_L19 v1 s.1 s.2.1 s.2.2.1 s.2.2.2) zF (0, 0, 1, p1.2)).bind fun y7 =>
        some (y7.1, y7.2)
    else
      some ((-1), p1.2)
theorem g_X10_worth {v1 : Int} {M : zM} {q : Int × zM} {d : Nat} (hd : 1 ≤ d) (h : f_X10_worth v1 M = some q) : zG 94 d (0, [some (zr 0 0), some (zi v1), none, none, none, none], [], M) (some (zi q.1)) q.2 := by
  have hm := zmok_94
  unfold f_X10_worth at h
  refine zG_run hm 3 (cf' := (4, [some (zr 0 0), some (zi v1), none, none, none, none], [zi 99, zi 0, zi v1], M)) rfl ?_
  obtain ⟨p1, hp1, h⟩ := Option.bind_eq_some_iff.mp h
  refine zG_S hm zmok_108 rfl (as := [zi v1, zi 0, zi 99]) (rest := []) (st2 := [zi p1.1]) (pc2 := 7) rfl rfl (by omega) (met_X10_within (d := 0) (Nat.le_refl _) hp1) rfl ?_
  by_cases c8 : ¬ zw p1.1 = 0
  · rw [if_pos c8] at h
    refine zG_br hm rfl (cf' := (12, [some (zr 0 0), some (zi v1), none, none, none, none], [], p1.2)) (if_pos c8) ?_
    refine zG_run hm 6 (cf' := (19, [some (zr 0 0), some (zi v1), some (zi 0), some (zi 0), some (zi 1), none], [], p1.2)) rfl ?_
    refine zG_sub (lv' := [some (zr 0 0), some (zi v1), some (zi 0), some (zi 0), some (zi 1), none]) (zsb_s rfl (zsb_s rfl (zsb_s rfl (zsb_s rfl (zsb_s rfl (zsb_n zsb_0)))))) ?_
    obtain ⟨y7, hy7, h⟩ := Option.bind_eq_some_iff.mp h
    refine gl_X10_worth_L19 hd (fun t e2 => ?_) trivial zF (0, 0, 1, p1.2) hy7
    cases e2
    refine zG_run hm 1 (cf' := (76, [none, none, some (zi y7.1), none, none, none], [zi y7.1], y7.2)) rfl ?_
    cases h
    exact zG_ri hm rfl rfl
  · rw [if_neg c8] at h
    refine zG_br hm rfl (cf' := (10, [some (zr 0 0), some (zi v1), none, none, none, none], [], p1.2)) (if_neg c8) ?_
    refine zG_run hm 1 (cf' := (11, [some (zr 0 0), some (zi v1), none, none, none, none], [zi (-1)], p1.2)) rfl ?_
    cases h
    exact zG_ri hm rfl rfl
theorem met_X10_worth {v1 : Int} {M : zM} {q : Int × zM} {d : Nat} (hd : 1 ≤ d) (h : f_X10_worth v1 M = some q) : zMet 94 d [zr 0 0, zi v1] M (some (zi q.1)) q.2 :=
  zMet_of (lv0 := [some (zr 0 0), some (zi v1), none, none, none, none]) zmok_94 rfl rfl (fun v hv => by cases hv; trivial) (g_X10_worth hd h)
def f_X11_has (v0 : Int) (v1 : Int) (M : zM) : Option (Int × zM) :=
  if ¬ zw (zand (zshr v0 v1) 1) = 1 then
    some (0, M)
  else
    some (1, M)
theorem g_X11_has {v0 : Int} {v1 : Int} {M : zM} {q : Int × zM} {d : Nat} (hd : 0 ≤ d) (h : f_X11_has v0 v1 M = some q) : zG 118 d (0, [some (zi v0), some (zi v1)], [], M) (some (zi q.1)) q.2 := by
  have hm := zmok_118
  unfold f_X11_has at h
  refine zG_run hm 6 (cf' := (6, [some (zi v0), some (zi v1)], [zi 1, zi (zand (zshr v0 v1) 1)], M)) rfl ?_
  by_cases c1 : ¬ zw (zand (zshr v0 v1) 1) = 1
  · rw [if_pos c1] at h
    refine zG_br hm rfl (cf' := (13, [some (zi v0), some (zi v1)], [], M)) (if_pos c1) ?_
    refine zG_run hm 1 (cf' := (14, [some (zi v0), some (zi v1)], [zi 0], M)) rfl ?_
    cases h
    exact zG_rz hm rfl rfl (Or.inl rfl)
  · rw [if_neg c1] at h
    refine zG_br hm rfl (cf' := (9, [some (zi v0), some (zi v1)], [], M)) (if_neg c1) ?_
    refine zG_run hm 2 (cf' := (14, [some (zi v0), some (zi v1)], [zi 1], M)) rfl ?_
    cases h
    exact zG_rz hm rfl rfl (Or.inr rfl)
theorem met_X11_has {v0 : Int} {v1 : Int} {M : zM} {q : Int × zM} {d : Nat} (hd : 0 ≤ d) (h : f_X11_has v0 v1 M = some q) : zMet 118 d [zi v0, zi v1] M (some (zi q.1)) q.2 :=
  zMet_of (lv0 := [some (zi v0), some (zi v1)]) zmok_118 rfl rfl (fun v hv => by cases hv; trivial) (g_X11_has hd h)
def f_X11_worth_j107 (v1 : Int) (v2 : Int) (v3 : Int) (v4 : Int) (v5 : Int) (v7 : Int) (vs0 : Int) (vs1 : Int) (M : zM) : Option ((Int × Int × Int × zM) ⊕ (Int × Int × zM)) :=
  some (.inl (v5, (vs1 + vs0), (v7 + 1), M))
theorem g_X11_worth_j107 {v1 : Int} {v2 : Int} {v3 : Int} {v4 : Int} {v5 : Int} {v7 : Int} {vs0 : Int} {vs1 : Int} {M : zM} {x : (Int × Int × Int × zM) ⊕ (Int × Int × zM)} {r : Option zV} {Mf : zM} {d : Nat} (hd : 1 ≤ d) (h : f_X11_worth_j107 v1 v2 v3 v4 v5 v7 vs0 vs1 M = some x)
    (kc : ∀ s, x = .inl s → zG 208 d (41, [some (zr 42 0), some (zi v1), some (zi v2), some (zi v3), some (zi v4), some (zi s.1), some (zi s.2.1), some (zi s.2.2.1)], [], s.2.2.2) r Mf)
    (kb : ∀ t, x = .inr t → zG 208 d (116, [some (zr 42 0), some (zi v1), some (zi v2), some (zi v3), some (zi v4), some (zi t.1), some (zi t.2.1), none], [], t.2.2) r Mf) (kr : True) : zG 208 d (107, [some (zr 42 0), some (zi v1), some (zi v2), some (zi v3), some (zi v4), some (zi v5), none, some (zi v7)], [zi vs0, zi vs1], M) r Mf := by
  have hm := zmok_208
  unfold f_X11_worth_j107 at h
  refine zG_run hm 4 (cf' := (41, [some (zr 42 0), some (zi v1), some (zi v2), some (zi v3), some (zi v4), some (zi v5), some (zi (vs1 + vs0)), some (zi (v7 + 1))], [], M)) rfl ?_
  refine zG_sub (lv' := [some (zr 42 0), some (zi v1), some (zi v2), some (zi v3), some (zi v4), some (zi v5), some (zi (vs1 + vs0)), some (zi (v7 + 1))]) (zsb_s rfl (zsb_s rfl (zsb_s rfl (zsb_s rfl (zsb_s rfl (zsb_s rfl (zsb_s rfl (zsb_s rfl zsb_0)))))))) ?_
  exact kc (v5, (vs1 + vs0), (v7 + 1), M) (Option.some.inj h).symm
def f_X11_worth_j78 (v1 : Int) (v2 : Int) (v3 : Int) (v4 : Int) (v6 : Int) (v7 : Int) (vs0 : Int) (vs1 : Int) (M : zM) : Option ((Int × Int × Int × zM) ⊕ (Int × Int × zM)) :=
  (f_X11_has v4 v7 M).bind fun p3 =>
    if zw p3.1 = 0 then
      f_X11_worth_j107 v1 v2 v3 v4 (vs1 + vs0) v7 0 v6 p3.2
    else
      if 0 ≤ zw (96 + v7) ∧ zw (96 + v7) < 5090 then
        f_X11_worth_j107 v1 v2 v3 v4 (vs1 + vs0) v7 (p3.2 43 0 (zix (96 + v7))) v6 p3.2
      else
        none
theorem g_X11_worth_j78 {v1 : Int} {v2 : Int} {v3 : Int} {v4 : Int} {v6 : Int} {v7 : Int} {vs0 : Int} {vs1 : Int} {M : zM} {x : (Int × Int × Int × zM) ⊕ (Int × Int × zM)} {r : Option zV} {Mf : zM} {d : Nat} (hd : 1 ≤ d) (h : f_X11_worth_j78 v1 v2 v3 v4 v6 v7 vs0 vs1 M = some x)
    (kc : ∀ s, x = .inl s → zG 208 d (41, [some (zr 42 0), some (zi v1), some (zi v2), some (zi v3), some (zi v4), some (zi s.1), some (zi s.2.1), some (zi s.2.2.1)], [], s.2.2.2) r Mf)
    (kb : ∀ t, x = .inr t → zG 208 d (116, [some (zr 42 0), some (zi v1), some (zi v2), some (zi v3), some (zi v4), some (zi t.1), some (zi t.2.1), none], [], t.2.2) r Mf) (kr : True) : zG 208 d (78, [some (zr 42 0), some (zi v1), some (zi v2), some (zi v3), some (zi v4), none, some (zi v6), some (zi v7)], [zi vs0, zi vs1], M) r Mf := by
  have hm := zmok_208
  unfold f_X11_worth_j78 at h
  refine zG_run hm 5 (cf' := (87, [some (zr 42 0), some (zi v1), some (zi v2), some (zi v3), some (zi v4), some (zi (vs1 + vs0)), some (zi v6), some (zi v7)], [zi v7, zi v4, zi v6], M)) rfl ?_
  obtain ⟨p3, hp3, h⟩ := Option.bind_eq_some_iff.mp h
  refine zG_S hm zmok_118 rfl (as := [zi v4, zi v7]) (rest := [zi v6]) (st2 := [zi p3.1, zi v6]) (pc2 := 90) rfl rfl (by omega) (met_X11_has (d := 0) (Nat.le_refl _) hp3) rfl ?_
  by_cases c5 : zw p3.1 = 0
  · rw [if_pos c5] at h
    refine zG_br hm rfl (cf' := (106, [some (zr 42 0), some (zi v1), some (zi v2), some (zi v3), some (zi v4), some (zi (vs1 + vs0)), some (zi v6), some (zi v7)], [zi v6], p3.2)) (if_pos c5) ?_
    refine zG_run hm 1 (cf' := (107, [some (zr 42 0), some (zi v1), some (zi v2), some (zi v3), some (zi v4), some (zi (vs1 + vs0)), some (zi v6), some (zi v7)], [zi 0, zi v6], p3.2)) rfl ?_
    refine zG_sub (lv' := [some (zr 42 0), some (zi v1), some (zi v2), some (zi v3), some (zi v4), some (zi (vs1 + vs0)), none, some (zi v7)]) (zsb_s rfl (zsb_s rfl (zsb_s rfl (zsb_s rfl (zsb_s rfl (zsb_s rfl (zsb_n (zsb_s rfl zsb_0)))))))) ?_
    exact g_X11_worth_j107 hd h kc kb kr
  · rw [if_neg c5] at h
    refine zG_br hm rfl (cf' := (93, [some (zr 42 0), some (zi v1), some (zi v2), some (zi v3), some (zi v4), some (zi (vs1 + vs0)), some (zi v6), some (zi v7)], [zi v6], p3.2)) (if_neg c5) ?_
    refine zG_run hm 5 (cf' := (102, [some (zr 42 0), some (zi v1), some (zi v2), some (zi v3), some (zi v4), some (zi (vs1 + vs0)), some (zi v6), some (zi v7)], [zi (96 + v7), zr 43 0, zi v6], p3.2)) rfl ?_
    by_cases c4 : 0 ≤ zw (96 + v7) ∧ zw (96 + v7) < 5090
    · rw [if_pos c4] at h
      refine zG_br hm rfl (cf' := (103, [some (zr 42 0), some (zi v1), some (zi v2), some (zi v3), some (zi v4), some (zi (vs1 + vs0)), some (zi v6), some (zi v7)], [zi (p3.2 43 0 (zix (96 + v7))), zi v6], p3.2)) (if_pos c4) ?_
      refine zG_run hm 1 (cf' := (107, [some (zr 42 0), some (zi v1), some (zi v2), some (zi v3), some (zi v4), some (zi (vs1 + vs0)), some (zi v6), some (zi v7)], [zi (p3.2 43 0 (zix (96 + v7))), zi v6], p3.2)) rfl ?_
      refine zG_sub (lv' := [some (zr 42 0), some (zi v1), some (zi v2), some (zi v3), some (zi v4), some (zi (vs1 + vs0)), none, some (zi v7)]) (zsb_s rfl (zsb_s rfl (zsb_s rfl (zsb_s rfl (zsb_s rfl (zsb_s rfl (zsb_n (zsb_s rfl zsb_0)))))))) ?_
      exact g_X11_worth_j107 hd h kc kb kr
    · rw [if_neg c4] at h
      cases h
def f_X11_worth_L41 (v1 : Int) (v2 : Int) (v3 : Int) (v4 : Int) (v5 : Int) (v6 : Int) (v7 : Int) (M : zM) : Option ((Int × Int × Int × zM) ⊕ (Int × Int × zM)) :=
  if zw (M 43 0 1) ≤ zw v7 then
    some (.inr (v5, v6, M))
  else
    (f_X11_has v4 v7 M).bind fun p2 =>
      if zw p2.1 = 0 then
        f_X11_worth_j78 v1 v2 v3 v4 v6 v7 0 v5 p2.2
      else
        if 0 ≤ zw (24 + v7) ∧ zw (24 + v7) < 5090 then
          f_X11_worth_j78 v1 v2 v3 v4 v6 v7 (p2.2 43 0 (zix (24 + v7))) v5 p2.2
        else
          none
theorem g_X11_worth_L41 {v1 : Int} {v2 : Int} {v3 : Int} {v4 : Int} {v5 : Int} {v6 : Int} {v7 : Int} {M : zM} {x : (Int × Int × Int × zM) ⊕ (Int × Int × zM)} {r : Option zV} {Mf : zM} {d : Nat} (hd : 1 ≤ d) (h : f_X11_worth_L41 v1 v2 v3 v4 v5 v6 v7 M = some x)
    (kc : ∀ s, x = .inl s → zG 208 d (41, [some (zr 42 0), some (zi v1), some (zi v2), some (zi v3), some (zi v4), some (zi s.1), some (zi s.2.1), some (zi s.2.2.1)], [], s.2.2.2) r Mf)
    (kb : ∀ t, x = .inr t → zG 208 d (116, [some (zr 42 0), some (zi v1), some (zi v2), some (zi v3), some (zi v4), some (zi t.1), some (zi t.2.1), none], [], t.2.2) r Mf) (kr : True) : zG 208 d (41, [some (zr 42 0), some (zi v1), some (zi v2), some (zi v3), some (zi v4), some (zi v5), some (zi v6), some (zi v7)], [], M) r Mf := by
  have hm := zmok_208
  unfold f_X11_worth_L41 at h
  refine zG_run hm 5 (cf' := (49, [some (zr 42 0), some (zi v1), some (zi v2), some (zi v3), some (zi v4), some (zi v5), some (zi v6), some (zi v7)], [zi (M 43 0 1), zi v7], M)) rfl ?_
  by_cases c8 : zw (M 43 0 1) ≤ zw v7
  · rw [if_pos c8] at h
    refine zG_br hm rfl (cf' := (116, [some (zr 42 0), some (zi v1), some (zi v2), some (zi v3), some (zi v4), some (zi v5), some (zi v6), some (zi v7)], [], M)) (if_pos c8) ?_
    refine zG_sub (lv' := [some (zr 42 0), some (zi v1), some (zi v2), some (zi v3), some (zi v4), some (zi v5), some (zi v6), none]) (zsb_s rfl (zsb_s rfl (zsb_s rfl (zsb_s rfl (zsb_s rfl (zsb_s rfl (zsb_s rfl (zsb_n zsb_0)))))))) ?_
    exact kb (v5, v6, M) (Option.some.inj h).symm
  · rw [if_neg c8] at h
    refine zG_br hm rfl (cf' := (52, [some (zr 42 0), some (zi v1), some (zi v2), some (zi v3), some (zi v4), some (zi v5), some (zi v6), some (zi v7)], [], M)) (if_neg c8) ?_
    refine zG_run hm 3 (cf' := (58, [some (zr 42 0), some (zi v1), some (zi v2), some (zi v3), some (zi v4), some (zi v5), some (zi v6), some (zi v7)], [zi v7, zi v4, zi v5], M)) rfl ?_
    obtain ⟨p2, hp2, h⟩ := Option.bind_eq_some_iff.mp h
    refine zG_S hm zmok_118 rfl (as := [zi v4, zi v7]) (rest := [zi v5]) (st2 := [zi p2.1, zi v5]) (pc2 := 61) rfl rfl (by omega) (met_X11_has (d := 0) (Nat.le_refl _) hp2) rfl ?_
    by_cases c7 : zw p2.1 = 0
    · rw [if_pos c7] at h
      refine zG_br hm rfl (cf' := (77, [some (zr 42 0), some (zi v1), some (zi v2), some (zi v3), some (zi v4), some (zi v5), some (zi v6), some (zi v7)], [zi v5], p2.2)) (if_pos c7) ?_
      refine zG_run hm 1 (cf' := (78, [some (zr 42 0), some (zi v1), some (zi v2), some (zi v3), some (zi v4), some (zi v5), some (zi v6), some (zi v7)], [zi 0, zi v5], p2.2)) rfl ?_
      refine zG_sub (lv' := [some (zr 42 0), some (zi v1), some (zi v2), some (zi v3), some (zi v4), none, some (zi v6), some (zi v7)]) (zsb_s rfl (zsb_s rfl (zsb_s rfl (zsb_s rfl (zsb_s rfl (zsb_n (zsb_s rfl (zsb_s rfl zsb_0)))))))) ?_
      exact g_X11_worth_j78 hd h kc kb kr
    · rw [if_neg c7] at h
      refine zG_br hm rfl (cf' := (64, [some (zr 42 0), some (zi v1), some (zi v2), some (zi v3), some (zi v4), some (zi v5), some (zi v6), some (zi v7)], [zi v5], p2.2)) (if_neg c7) ?_
      refine zG_run hm 5 (cf' := (73, [some (zr 42 0), some (zi v1), some (zi v2), some (zi v3), some (zi v4), some (zi v5), some (zi v6), some (zi v7)], [zi (24 + v7), zr 43 0, zi v5], p2.2)) rfl ?_
      by_cases c6 : 0 ≤ zw (24 + v7) ∧ zw (24 + v7) < 5090
      · rw [if_pos c6] at h
        refine zG_br hm rfl (cf' := (74, [some (zr 42 0), some (zi v1), some (zi v2), some (zi v3), some (zi v4), some (zi v5), some (zi v6), some (zi v7)], [zi (p2.2 43 0 (zix (24 + v7))), zi v5], p2.2)) (if_pos c6) ?_
        refine zG_run hm 1 (cf' := (78, [some (zr 42 0), some (zi v1), some (zi v2), some (zi v3), some (zi v4), some (zi v5), some (zi v6), some (zi v7)], [zi (p2.2 43 0 (zix (24 + v7))), zi v5], p2.2)) rfl ?_
        refine zG_sub (lv' := [some (zr 42 0), some (zi v1), some (zi v2), some (zi v3), some (zi v4), none, some (zi v6), some (zi v7)]) (zsb_s rfl (zsb_s rfl (zsb_s rfl (zsb_s rfl (zsb_s rfl (zsb_n (zsb_s rfl (zsb_s rfl zsb_0)))))))) ?_
        exact g_X11_worth_j78 hd h kc kb kr
      · rw [if_neg c6] at h
        cases h
theorem gl_X11_worth_L41 {v1 : Int} {v2 : Int} {v3 : Int} {v4 : Int} {y : Int × Int × zM} {r : Option zV} {Mf : zM} {d : Nat} (hd : 1 ≤ d)
    (kb : ∀ t, y = t → zG 208 d (116, [some (zr 42 0), some (zi v1), some (zi v2), some (zi v3), some (zi v4), some (zi t.1), some (zi t.2.1), none], [], t.2.2) r Mf) (kr : True) : ∀ (n : Nat) (s : Int × Int × Int × zM), zlp (fun s : Int × Int × Int × zM => f_X11_worth_L41 v1 v2 v3 v4 s.1 s.2.1 s.2.2.1 s.2.2.2) n s = some y → zG 208 d (41, [some (zr 42 0), some (zi v1), some (zi v2), some (zi v3), some (zi v4), some (zi s.1), some (zi s.2.1), some (zi s.2.2.1)], [], s.2.2.2) r Mf := by
  intro n
  induction n with
  | zero => intro s h; cases h
  | succ n ih =>
    intro s h
    rcases zlp_cases h with ⟨s', h1, h2⟩ | h1
    · exact g_X11_worth_L41 hd h1 (fun s2 e2 => by cases e2; exact ih _ h2) (fun t e2 => by cases e2) trivial
    · exact g_X11_worth_L41 hd h1 (fun s2 e2 => by cases e2) (fun t e2 => kb t (Sum.inr.inj e2)) trivial
def f_X11_worth_j134 (v1 : Int) (v2 : Int) (v3 : Int) (v4 : Int) (M : zM) : Option ((Int × Int × Int × zM) ⊕ (Int × zM)) :=
  some (.inl (v2, v3, (v4 + 1), M))
theorem g_X11_worth_j134 {v1 : Int} {v2 : Int} {v3 : Int} {v4 : Int} {M : zM} {x : (Int × Int × Int × zM) ⊕ (Int × zM)} {r : Option zV} {Mf : zM} {d : Nat} (hd : 1 ≤ d) (h : f_X11_worth_j134 v1 v2 v3 v4 M = some x)
    (kc : ∀ s, x = .inl s → zG 208 d (19, [some (zr 42 0), some (zi v1), some (zi s.1), some (zi s.2.1), some (zi s.2.2.1), none, none, none], [], s.2.2.2) r Mf)
    (kb : ∀ t, x = .inr t → zG 208 d (140, [none, none, some (zi t.1), none, none, none, none, none], [], t.2) r Mf) (kr : True) : zG 208 d (134, [some (zr 42 0), some (zi v1), some (zi v2), some (zi v3), some (zi v4), none, none, none], [], M) r Mf := by
  have hm := zmok_208
  unfold f_X11_worth_j134 at h
  refine zG_run hm 2 (cf' := (19, [some (zr 42 0), some (zi v1), some (zi v2), some (zi v3), some (zi (v4 + 1)), none, none, none], [], M)) rfl ?_
  refine zG_sub (lv' := [some (zr 42 0), some (zi v1), some (zi v2), some (zi v3), some (zi (v4 + 1)), none, none, none]) (zsb_s rfl (zsb_s rfl (zsb_s rfl (zsb_s rfl (zsb_s rfl (zsb_n (zsb_n (zsb_n zsb_0)))))))) ?_
  exact kc (v2, v3, (v4 + 1), M) (Option.some.inj h).symm
def f_X11_worth_L19 (v1 : Int) (v2 : Int) (v3 : Int) (v4 : Int) (M : zM) : Option ((Int × Int × Int × zM) ⊕ (Int × zM)) :=
  if zw (zshl 1 (M 43 0 1)) ≤ zw v4 then
    some (.inr (v2, M))
  else
    (zlp (fun s : Int × Int × Int × zM => f_X11_worth_L41 v1 v2 v3 v4 s.1 s.2.1 s.2.2.1 s.2.2.2) zF (0, 0, 0, M)).bind fun y9 =>
      if zw v1 < zw y9.1 then
        f_X11_worth_j134 v1 v2 v3 v4 y9.2.2
      else
        if zw y9.2.1 ≤ zw v3 then
          f_X11_worth_j134 v1 v2 v3 v4 y9.2.2
        else
          f_X11_worth_j134 v1 v4 y9.2.1 v4 y9.2.2
theorem g_X11_worth_L19 {v1 : Int} {v2 : Int} {v3 : Int} {v4 : Int} {M : zM} {x : (Int × Int × Int × zM) ⊕ (Int × zM)} {r : Option zV} {Mf : zM} {d : Nat} (hd : 1 ≤ d) (h : f_X11_worth_L19 v1 v2 v3 v4 M = some x)
    (kc : ∀ s, x = .inl s → zG 208 d (19, [some (zr 42 0), some (zi v1), some (zi s.1), some (zi s.2.1), some (zi s.2.2.1), none, none, none], [], s.2.2.2) r Mf)
    (kb : ∀ t, x = .inr t → zG 208 d (140, [none, none, some (zi t.1), none, none, none, none, none], [], t.2) r Mf) (kr : True) : zG 208 d (19, [some (zr 42 0), some (zi v1), some (zi v2), some (zi v3), some (zi v4), none, none, none], [], M) r Mf := by
  have hm := zmok_208
  unfold f_X11_worth_L19 at h
  refine zG_run hm 7 (cf' := (29, [some (zr 42 0), some (zi v1), some (zi v2), some (zi v3), some (zi v4), none, none, none], [zi (zshl 1 (M 43 0 1)), zi v4], M)) rfl ?_
  by_cases c12 : zw (zshl 1 (M 43 0 1)) ≤ zw v4
  · rw [if_pos c12] at h
    refine zG_br hm rfl (cf' := (140, [some (zr 42 0), some (zi v1), some (zi v2), some (zi v3), some (zi v4), none, none, none], [], M)) (if_pos c12) ?_
    refine zG_sub (lv' := [none, none, some (zi v2), none, none, none, none, none]) (zsb_n (zsb_n (zsb_s rfl (zsb_n (zsb_n (zsb_n (zsb_n (zsb_n zsb_0)))))))) ?_
    exact kb (v2, M) (Option.some.inj h).symm
  · rw [if_neg c12] at h
    refine zG_br hm rfl (cf' := (32, [some (zr 42 0), some (zi v1), some (zi v2), some (zi v3), some (zi v4), none, none, none], [], M)) (if_neg c12) ?_
    refine zG_run hm 6 (cf' := (41, [some (zr 42 0), some (zi v1), some (zi v2), some (zi v3), some (zi v4), some (zi 0), some (zi 0), some (zi 0)], [], M)) rfl ?_
    refine zG_sub (lv' := [some (zr 42 0), some (zi v1), some (zi v2), some (zi v3), some (zi v4), some (zi 0), some (zi 0), some (zi 0)]) (zsb_s rfl (zsb_s rfl (zsb_s rfl (zsb_s rfl (zsb_s rfl (zsb_s rfl (zsb_s rfl (zsb_s rfl zsb_0)))))))) ?_
    obtain ⟨y9, hy9, h⟩ := Option.bind_eq_some_iff.mp h
    refine gl_X11_worth_L41 hd (fun t e2 => ?_) trivial zF (0, 0, 0, M) hy9
    cases e2
    refine zG_run hm 2 (cf' := (119, [some (zr 42 0), some (zi v1), some (zi v2), some (zi v3), some (zi v4), some (zi y9.1), some (zi y9.2.1), none], [zi v1, zi y9.1], y9.2.2)) rfl ?_
    by_cases c11 : zw v1 < zw y9.1
    · rw [if_pos c11] at h
      refine zG_br hm rfl (cf' := (134, [some (zr 42 0), some (zi v1), some (zi v2), some (zi v3), some (zi v4), some (zi y9.1), some (zi y9.2.1), none], [], y9.2.2)) (if_pos c11) ?_
      refine zG_sub (lv' := [some (zr 42 0), some (zi v1), some (zi v2), some (zi v3), some (zi v4), none, none, none]) (zsb_s rfl (zsb_s rfl (zsb_s rfl (zsb_s rfl (zsb_s rfl (zsb_n (zsb_n (zsb_n zsb_0)))))))) ?_
      exact g_X11_worth_j134 hd h kc kb kr
    · rw [if_neg c11] at h
      refine zG_br hm rfl (cf' := (122, [some (zr 42 0), some (zi v1), some (zi v2), some (zi v3), some (zi v4), some (zi y9.1), some (zi y9.2.1), none], [], y9.2.2)) (if_neg c11) ?_
      refine zG_run hm 2 (cf' := (125, [some (zr 42 0), some (zi v1), some (zi v2), some (zi v3), some (zi v4), some (zi y9.1), some (zi y9.2.1), none], [zi v3, zi y9.2.1], y9.2.2)) rfl ?_
      by_cases c10 : zw y9.2.1 ≤ zw v3
      · rw [if_pos c10] at h
        refine zG_br hm rfl (cf' := (134, [some (zr 42 0), some (zi v1), some (zi v2), some (zi v3), some (zi v4), some (zi y9.1), some (zi y9.2.1), none], [], y9.2.2)) (if_pos c10) ?_
        refine zG_sub (lv' := [some (zr 42 0), some (zi v1), some (zi v2), some (zi v3), some (zi v4), none, none, none]) (zsb_s rfl (zsb_s rfl (zsb_s rfl (zsb_s rfl (zsb_s rfl (zsb_n (zsb_n (zsb_n zsb_0)))))))) ?_
        exact g_X11_worth_j134 hd h kc kb kr
      · rw [if_neg c10] at h
        refine zG_br hm rfl (cf' := (128, [some (zr 42 0), some (zi v1), some (zi v2), some (zi v3), some (zi v4), some (zi y9.1), some (zi y9.2.1), none], [], y9.2.2)) (if_neg c10) ?_
        refine zG_run hm 4 (cf' := (134, [some (zr 42 0), some (zi v1), some (zi v4), some (zi y9.2.1), some (zi v4), some (zi y9.1), some (zi y9.2.1), none], [], y9.2.2)) rfl ?_
        refine zG_sub (lv' := [some (zr 42 0), some (zi v1), some (zi v4), some (zi y9.2.1), some (zi v4), none, none, none]) (zsb_s rfl (zsb_s rfl (zsb_s rfl (zsb_s rfl (zsb_s rfl (zsb_n (zsb_n (zsb_n zsb_0)))))))) ?_
        exact g_X11_worth_j134 hd h kc kb kr
theorem gl_X11_worth_L19 {v1 : Int} {y : Int × zM} {r : Option zV} {Mf : zM} {d : Nat} (hd : 1 ≤ d)
    (kb : ∀ t, y = t → zG 208 d (140, [none, none, some (zi t.1), none, none, none, none, none], [], t.2) r Mf) (kr : True) : ∀ (n : Nat) (s : Int × Int × Int × zM), zlp (fun s : Int × Int × Int × zM => f_X11_worth_L19 v1 s.1 s.2.1 s.2.2.1 s.2.2.2) n s = some y → zG 208 d (19, [some (zr 42 0), some (zi v1), some (zi s.1), some (zi s.2.1), some (zi s.2.2.1), none, none, none], [], s.2.2.2) r Mf := by
  intro n
  induction n with
  | zero => intro s h; cases h
  | succ n ih =>
    intro s h
    rcases zlp_cases h with ⟨s', h1, h2⟩ | h1
    · exact g_X11_worth_L19 hd h1 (fun s2 e2 => by cases e2; exact ih _ h2) (fun t e2 => by cases e2) trivial
    · exact g_X11_worth_L19 hd h1 (fun s2 e2 => by cases e2) (fun t e2 => kb t (Sum.inr.inj e2)) trivial
def f_X11_worth (v1 : Int) (M : zM) : Option (Int × zM) :=
  (f_X11_in v1 0 99 M).bind fun p1 =>
    if ¬ zw p1.1 = 0 then
      (zlp (fun s : Int × Int × Int × zM => f_X11_worth_L19 v1 s.1 s.2.1 s.2.2.1 s.2.2.2) zF (0, 0, 0, p1.2)).bind fun y13 =>
        some (y13.1, y13.2)
    else
      some ((-1), p1.2)
theorem g_X11_worth {v1 : Int} {M : zM} {q : Int × zM} {d : Nat} (hd : 1 ≤ d) (h : f_X11_worth v1 M = some q) : zG 208 d (0, [some (zr 42 0), some (zi v1), none, none, none, none, none, none], [], M) (some (zi q.1)) q.2 := by
  have hm := zmok_208
  unfold f_X11_worth at h
  refine zG_run hm 3 (cf' := (4, [some (zr 42 0), some (zi v1), none, none, none, none, none, none], [zi 99, zi 0, zi v1], M)) rfl ?_
  obtain ⟨p1, hp1, h⟩ := Option.bind_eq_some_iff.mp h
  refine zG_S hm zmok_117 rfl (as := [zi v1, zi 0, zi 99]) (rest := []) (st2 := [zi p1.1]) (pc2 := 7) rfl rfl (by omega) (met_X11_in (d := 0) (Nat.le_refl _) hp1) rfl ?_
  by_cases c14 : ¬ zw p1.1 = 0
  · rw [if_pos c14] at h
    refine zG_br hm rfl (cf' := (12, [some (zr 42 0), some (zi v1), none, none, none, none, none, none], [], p1.2)) (if_pos c14) ?_
    refine zG_run hm 6 (cf' := (19, [some (zr 42 0), some (zi v1), some (zi 0), some (zi 0), some (zi 0), none, none, none], [], p1.2)) rfl ?_
    refine zG_sub (lv' := [some (zr 42 0), some (zi v1), some (zi 0), some (zi 0), some (zi 0), none, none, none]) (zsb_s rfl (zsb_s rfl (zsb_s rfl (zsb_s rfl (zsb_s rfl (zsb_n (zsb_n (zsb_n zsb_0)))))))) ?_
    obtain ⟨y13, hy13, h⟩ := Option.bind_eq_some_iff.mp h
    refine gl_X11_worth_L19 hd (fun t e2 => ?_) trivial zF (0, 0, 0, p1.2) hy13
    cases e2
    refine zG_run hm 1 (cf' := (141, [none, none, some (zi y13.1), none, none, none, none, none], [zi y13.1], y13.2)) rfl ?_
    cases h
    exact zG_ri hm rfl rfl
  · rw [if_neg c14] at h
    refine zG_br hm rfl (cf' := (10, [some (zr 42 0), some (zi v1), none, none, none, none, none, none], [], p1.2)) (if_neg c14) ?_
    refine zG_run hm 1 (cf' := (11, [some (zr 42 0), some (zi v1), none, none, none, none, none, none], [zi (-1)], p1.2)) rfl ?_
    cases h
    exact zG_ri hm rfl rfl
theorem met_X11_worth {v1 : Int} {M : zM} {q : Int × zM} {d : Nat} (hd : 1 ≤ d) (h : f_X11_worth v1 M = some q) : zMet 208 d [zr 42 0, zi v1] M (some (zi q.1)) q.2 :=
  zMet_of (lv0 := [some (zr 42 0), some (zi v1), none, none, none, none, none, none]) zmok_208 rfl rfl (fun v hv => by cases hv; trivial) (g_X11_worth hd h)
def f_X10_whose_j61 (v1 : Int) (v2 : Int) (v3 : Int) (M : zM) : Option ((Int × Int × zM) ⊕ (Int × zM)) :=
  some (.inl (v2, (v3 + 1), M))
theorem g_X10_whose_j61 {v1 : Int} {v2 : Int} {v3 : Int} {M : zM} {x : (Int × Int × zM) ⊕ (Int × zM)} {r : Option zV} {Mf : zM} {d : Nat} (hd : 1 ≤ d) (h : f_X10_whose_j61 v1 v2 v3 M = some x)
    (kc : ∀ s, x = .inl s → zG 95 d (17, [some (zr 0 0), some (zi v1), some (zi s.1), some (zi s.2.1)], [], s.2.2) r Mf)
    (kb : ∀ t, x = .inr t → zG 95 d (67, [none, none, some (zi t.1), none], [], t.2) r Mf) (kr : True) : zG 95 d (61, [some (zr 0 0), some (zi v1), some (zi v2), some (zi v3)], [], M) r Mf := by
  have hm := zmok_95
  unfold f_X10_whose_j61 at h
  refine zG_run hm 2 (cf' := (17, [some (zr 0 0), some (zi v1), some (zi v2), some (zi (v3 + 1))], [], M)) rfl ?_
  refine zG_sub (lv' := [some (zr 0 0), some (zi v1), some (zi v2), some (zi (v3 + 1))]) (zsb_s rfl (zsb_s rfl (zsb_s rfl (zsb_s rfl zsb_0)))) ?_
  exact kc (v2, (v3 + 1), M) (Option.some.inj h).symm
def f_X10_whose_L17 (v1 : Int) (v2 : Int) (v3 : Int) (M : zM) : Option ((Int × Int × zM) ⊕ (Int × zM)) :=
  if zw (M 11 0 8) ≤ zw v3 then
    some (.inr (v2, M))
  else
    if 0 ≤ zw v3 ∧ zw v3 < 30 then
      (f_X10_cardThing (M 15 0 (zix v3)) M).bind fun p2 =>
        if ¬ zw p2.1 = zw v1 then
          f_X10_whose_j61 v1 v2 v3 p2.2
        else
          if 0 ≤ zw v3 ∧ zw v3 < 30 then
            (f_X10_cardTo (p2.2 15 0 (zix v3)) p2.2).bind fun p3 =>
              f_X10_whose_j61 v1 (zor v2 (zshl 1 p3.1)) v3 p3.2
          else
            none
    else
      none
theorem g_X10_whose_L17 {v1 : Int} {v2 : Int} {v3 : Int} {M : zM} {x : (Int × Int × zM) ⊕ (Int × zM)} {r : Option zV} {Mf : zM} {d : Nat} (hd : 1 ≤ d) (h : f_X10_whose_L17 v1 v2 v3 M = some x)
    (kc : ∀ s, x = .inl s → zG 95 d (17, [some (zr 0 0), some (zi v1), some (zi s.1), some (zi s.2.1)], [], s.2.2) r Mf)
    (kb : ∀ t, x = .inr t → zG 95 d (67, [none, none, some (zi t.1), none], [], t.2) r Mf) (kr : True) : zG 95 d (17, [some (zr 0 0), some (zi v1), some (zi v2), some (zi v3)], [], M) r Mf := by
  have hm := zmok_95
  unfold f_X10_whose_L17 at h
  refine zG_run hm 4 (cf' := (25, [some (zr 0 0), some (zi v1), some (zi v2), some (zi v3)], [zi (M 11 0 8), zi v3], M)) rfl ?_
  by_cases c7 : zw (M 11 0 8) ≤ zw v3
  · rw [if_pos c7] at h
    refine zG_br hm rfl (cf' := (67, [some (zr 0 0), some (zi v1), some (zi v2), some (zi v3)], [], M)) (if_pos c7) ?_
    refine zG_sub (lv' := [none, none, some (zi v2), none]) (zsb_n (zsb_n (zsb_s rfl (zsb_n zsb_0)))) ?_
    exact kb (v2, M) (Option.some.inj h).symm
  · rw [if_neg c7] at h
    refine zG_br hm rfl (cf' := (28, [some (zr 0 0), some (zi v1), some (zi v2), some (zi v3)], [], M)) (if_neg c7) ?_
    refine zG_run hm 4 (cf' := (36, [some (zr 0 0), some (zi v1), some (zi v2), some (zi v3)], [zi v3, zr 15 0], M)) rfl ?_
    by_cases c6 : 0 ≤ zw v3 ∧ zw v3 < 30
    · rw [if_pos c6] at h
      refine zG_br hm rfl (cf' := (37, [some (zr 0 0), some (zi v1), some (zi v2), some (zi v3)], [zi (M 15 0 (zix v3))], M)) (if_pos c6) ?_
      obtain ⟨p2, hp2, h⟩ := Option.bind_eq_some_iff.mp h
      refine zG_S hm zmok_114 rfl (as := [zi (M 15 0 (zix v3))]) (rest := []) (st2 := [zi p2.1]) (pc2 := 40) rfl rfl (by omega) (met_X10_cardThing (d := 0) (Nat.le_refl _) hp2) rfl ?_
      refine zG_run hm 1 (cf' := (41, [some (zr 0 0), some (zi v1), some (zi v2), some (zi v3)], [zi v1, zi p2.1], p2.2)) rfl ?_
      by_cases c5 : ¬ zw p2.1 = zw v1
      · rw [if_pos c5] at h
        refine zG_br hm rfl (cf' := (61, [some (zr 0 0), some (zi v1), some (zi v2), some (zi v3)], [], p2.2)) (if_pos c5) ?_
        refine zG_sub (lv' := [some (zr 0 0), some (zi v1), some (zi v2), some (zi v3)]) (zsb_s rfl (zsb_s rfl (zsb_s rfl (zsb_s rfl zsb_0)))) ?_
        exact g_X10_whose_j61 hd h kc kb kr
      · rw [if_neg c5] at h
        refine zG_br hm rfl (cf' := (44, [some (zr 0 0), some (zi v1), some (zi v2), some (zi v3)], [], p2.2)) (if_neg c5) ?_
        refine zG_run hm 6 (cf' := (54, [some (zr 0 0), some (zi v1), some (zi v2), some (zi v3)], [zi v3, zr 15 0, zi 1, zi v2], p2.2)) rfl ?_
        by_cases c4 : 0 ≤ zw v3 ∧ zw v3 < 30
        · rw [if_pos c4] at h
          refine zG_br hm rfl (cf' := (55, [some (zr 0 0), some (zi v1), some (zi v2), some (zi v3)], [zi (p2.2 15 0 (zix v3)), zi 1, zi v2], p2.2)) (if_pos c4) ?_
          obtain ⟨p3, hp3, h⟩ := Option.bind_eq_some_iff.mp h
          refine zG_S hm zmok_115 rfl (as := [zi (p2.2 15 0 (zix v3))]) (rest := [zi 1, zi v2]) (st2 := [zi p3.1, zi 1, zi v2]) (pc2 := 58) rfl rfl (by omega) (met_X10_cardTo (d := 0) (Nat.le_refl _) hp3) rfl ?_
          refine zG_run hm 3 (cf' := (61, [some (zr 0 0), some (zi v1), some (zi (zor v2 (zshl 1 p3.1))), some (zi v3)], [], p3.2)) rfl ?_
          refine zG_sub (lv' := [some (zr 0 0), some (zi v1), some (zi (zor v2 (zshl 1 p3.1))), some (zi v3)]) (zsb_s rfl (zsb_s rfl (zsb_s rfl (zsb_s rfl zsb_0)))) ?_
          exact g_X10_whose_j61 hd h kc kb kr
        · rw [if_neg c4] at h
          cases h
    · rw [if_neg c6] at h
      cases h
theorem gl_X10_whose_L17 {v1 : Int} {y : Int × zM} {r : Option zV} {Mf : zM} {d : Nat} (hd : 1 ≤ d)
    (kb : ∀ t, y = t → zG 95 d (67, [none, none, some (zi t.1), none], [], t.2) r Mf) (kr : True) : ∀ (n : Nat) (s : Int × Int × zM), zlp (fun s : Int × Int × zM => f_X10_whose_L17 v1 s.1 s.2.1 s.2.2) n s = some y → zG 95 d (17, [some (zr 0 0), some (zi v1), some (zi s.1), some (zi s.2.1)], [], s.2.2) r Mf := by
  intro n
  induction n with
  | zero => intro s h; cases h
  | succ n ih =>
    intro s h
    rcases zlp_cases h with ⟨s', h1, h2⟩ | h1
    · exact g_X10_whose_L17 hd h1 (fun s2 e2 => by cases e2; exact ih _ h2) (fun t e2 => by cases e2) trivial
    · exact g_X10_whose_L17 hd h1 (fun s2 e2 => by cases e2) (fun t e2 => kb t (Sum.inr.inj e2)) trivial
def f_X10_whose (v1 : Int) (M : zM) : Option (Int × zM) :=
  (f_X0_hasThing 0 v1 M).bind fun p1 =>
    if ¬ zw p1.1 = 0 then
      (zlp (fun s : Int × Int × zM => f_X10_whose_L17 v1 s.1 s.2.1 s.2.2) zF (0, 0, p1.2)).bind fun y8 =>
        some (y8.1, y8.2)
    else
      some ((-1), p1.2)
theorem g_X10_whose {v1 : Int} {M : zM} {q : Int × zM} {d : Nat} (hd : 1 ≤ d) (h : f_X10_whose v1 M = some q) : zG 95 d (0, [some (zr 0 0), some (zi v1), none, none], [], M) (some (zi q.1)) q.2 := by
  have hm := zmok_95
  unfold f_X10_whose at h
  refine zG_run hm 3 (cf' := (5, [some (zr 0 0), some (zi v1), none, none], [zi v1, zr 11 0], M)) rfl ?_
  obtain ⟨p1, hp1, h⟩ := Option.bind_eq_some_iff.mp h
  refine zG_V hm zmok_4 rfl (as := [zi v1]) (rest := []) (st2 := [zi p1.1]) (pc2 := 8) rfl rfl (by omega) (met_X0_hasThing (d := 0) (Nat.le_refl _) hp1) rfl ?_
  by_cases c9 : ¬ zw p1.1 = 0
  · rw [if_pos c9] at h
    refine zG_br hm rfl (cf' := (13, [some (zr 0 0), some (zi v1), none, none], [], p1.2)) (if_pos c9) ?_
    refine zG_run hm 4 (cf' := (17, [some (zr 0 0), some (zi v1), some (zi 0), some (zi 0)], [], p1.2)) rfl ?_
    refine zG_sub (lv' := [some (zr 0 0), some (zi v1), some (zi 0), some (zi 0)]) (zsb_s rfl (zsb_s rfl (zsb_s rfl (zsb_s rfl zsb_0)))) ?_
    obtain ⟨y8, hy8, h⟩ := Option.bind_eq_some_iff.mp h
    refine gl_X10_whose_L17 hd (fun t e2 => ?_) trivial zF (0, 0, p1.2) hy8
    cases e2
    refine zG_run hm 1 (cf' := (68, [none, none, some (zi y8.1), none], [zi y8.1], y8.2)) rfl ?_
    cases h
    exact zG_ri hm rfl rfl
  · rw [if_neg c9] at h
    refine zG_br hm rfl (cf' := (11, [some (zr 0 0), some (zi v1), none, none], [], p1.2)) (if_neg c9) ?_
    refine zG_run hm 1 (cf' := (12, [some (zr 0 0), some (zi v1), none, none], [zi (-1)], p1.2)) rfl ?_
    cases h
    exact zG_ri hm rfl rfl
theorem met_X10_whose {v1 : Int} {M : zM} {q : Int × zM} {d : Nat} (hd : 1 ≤ d) (h : f_X10_whose v1 M = some q) : zMet 95 d [zr 0 0, zi v1] M (some (zi q.1)) q.2 :=
  zMet_of (lv0 := [some (zr 0 0), some (zi v1), none, none]) zmok_95 rfl rfl (fun v hv => by cases hv; trivial) (g_X10_whose hd h)
def f_X11_backTo_j79 (v1 : Int) (v2 : Int) (v3 : Int) (v4 : Int) (v6 : Int) (vs0 : Int) (vs1 : Int) (M : zM) : Option ((Int × Int) ⊕ (Int)) :=
  some (.inl ((vs1 + vs0), (v6 + 1)))
theorem g_X11_backTo_j79 {v1 : Int} {v2 : Int} {v3 : Int} {v4 : Int} {v6 : Int} {vs0 : Int} {vs1 : Int} {M : zM} {x : (Int × Int) ⊕ (Int)} {r : Option zV} {Mf : zM} {d : Nat} (hd : 0 ≤ d) (h : f_X11_backTo_j79 v1 v2 v3 v4 v6 vs0 vs1 M = some x)
    (kc : ∀ s, x = .inl s → zG 209 d (22, [some (zr 42 0), some (zi v1), some (zi v2), some (zi v3), some (zi v4), some (zi s.1), some (zi s.2), none], [], M) r Mf)
    (kb : ∀ t, x = .inr t → zG 209 d (88, [some (zr 42 0), some (zi v1), some (zi v2), some (zi v3), some (zi v4), some (zi t), none, none], [], M) r Mf) (kr : True) : zG 209 d (79, [some (zr 42 0), some (zi v1), some (zi v2), some (zi v3), some (zi v4), none, some (zi v6), none], [zi vs0, zi vs1], M) r Mf := by
  have hm := zmok_209
  unfold f_X11_backTo_j79 at h
  refine zG_run hm 4 (cf' := (22, [some (zr 42 0), some (zi v1), some (zi v2), some (zi v3), some (zi v4), some (zi (vs1 + vs0)), some (zi (v6 + 1)), none], [], M)) rfl ?_
  refine zG_sub (lv' := [some (zr 42 0), some (zi v1), some (zi v2), some (zi v3), some (zi v4), some (zi (vs1 + vs0)), some (zi (v6 + 1)), none]) (zsb_s rfl (zsb_s rfl (zsb_s rfl (zsb_s rfl (zsb_s rfl (zsb_s rfl (zsb_s rfl (zsb_n zsb_0)))))))) ?_
  exact kc ((vs1 + vs0), (v6 + 1)) (Option.some.inj h).symm
def f_X11_backTo_j78 (v1 : Int) (v2 : Int) (v3 : Int) (v4 : Int) (v6 : Int) (vs0 : Int) (M : zM) : Option ((Int × Int) ⊕ (Int)) :=
  f_X11_backTo_j79 v1 v2 v3 v4 v6 0 vs0 M
theorem g_X11_backTo_j78 {v1 : Int} {v2 : Int} {v3 : Int} {v4 : Int} {v6 : Int} {vs0 : Int} {M : zM} {x : (Int × Int) ⊕ (Int)} {r : Option zV} {Mf : zM} {d : Nat} (hd : 0 ≤ d) (h : f_X11_backTo_j78 v1 v2 v3 v4 v6 vs0 M = some x)
    (kc : ∀ s, x = .inl s → zG 209 d (22, [some (zr 42 0), some (zi v1), some (zi v2), some (zi v3), some (zi v4), some (zi s.1), some (zi s.2), none], [], M) r Mf)
    (kb : ∀ t, x = .inr t → zG 209 d (88, [some (zr 42 0), some (zi v1), some (zi v2), some (zi v3), some (zi v4), some (zi t), none, none], [], M) r Mf) (kr : True) : zG 209 d (78, [some (zr 42 0), some (zi v1), some (zi v2), some (zi v3), some (zi v4), none, some (zi v6), none], [zi vs0], M) r Mf := by
  have hm := zmok_209
  unfold f_X11_backTo_j78 at h
  refine zG_run hm 1 (cf' := (79, [some (zr 42 0), some (zi v1), some (zi v2), some (zi v3), some (zi v4), none, some (zi v6), none], [zi 0, zi vs0], M)) rfl ?_
  refine zG_sub (lv' := [some (zr 42 0), some (zi v1), some (zi v2), some (zi v3), some (zi v4), none, some (zi v6), none]) (zsb_s rfl (zsb_s rfl (zsb_s rfl (zsb_s rfl (zsb_s rfl (zsb_n (zsb_s rfl (zsb_n zsb_0)))))))) ?_
  exact g_X11_backTo_j79 hd h kc kb kr
def f_X11_backTo_L22 (v1 : Int) (v2 : Int) (v3 : Int) (v4 : Int) (v5 : Int) (v6 : Int) (M : zM) : Option ((Int × Int) ⊕ (Int)) :=
  if zw (M 43 0 130) ≤ zw v6 then
    some (.inr v5)
  else
    if 0 ≤ zw ((131 + (4 * v6)) + 1) ∧ zw ((131 + (4 * v6)) + 1) < 5090 then
      if ¬ zw (M 43 0 (zix ((131 + (4 * v6)) + 1))) = zw v1 then
        f_X11_backTo_j78 v1 v2 v3 v4 v6 v5 M
      else
        if 0 ≤ zw ((131 + (4 * v6)) + 2) ∧ zw ((131 + (4 * v6)) + 2) < 5090 then
          if ¬ zw (M 43 0 (zix ((131 + (4 * v6)) + 2))) = zw v4 then
            f_X11_backTo_j78 v1 v2 v3 v4 v6 v5 M
          else
            f_X11_backTo_j79 v1 v2 v3 v4 v6 1 v5 M
        else
          none
    else
      none
theorem g_X11_backTo_L22 {v1 : Int} {v2 : Int} {v3 : Int} {v4 : Int} {v5 : Int} {v6 : Int} {M : zM} {x : (Int × Int) ⊕ (Int)} {r : Option zV} {Mf : zM} {d : Nat} (hd : 0 ≤ d) (h : f_X11_backTo_L22 v1 v2 v3 v4 v5 v6 M = some x)
    (kc : ∀ s, x = .inl s → zG 209 d (22, [some (zr 42 0), some (zi v1), some (zi v2), some (zi v3), some (zi v4), some (zi s.1), some (zi s.2), none], [], M) r Mf)
    (kb : ∀ t, x = .inr t → zG 209 d (88, [some (zr 42 0), some (zi v1), some (zi v2), some (zi v3), some (zi v4), some (zi t), none, none], [], M) r Mf) (kr : True) : zG 209 d (22, [some (zr 42 0), some (zi v1), some (zi v2), some (zi v3), some (zi v4), some (zi v5), some (zi v6), none], [], M) r Mf := by
  have hm := zmok_209
  unfold f_X11_backTo_L22 at h
  refine zG_run hm 5 (cf' := (32, [some (zr 42 0), some (zi v1), some (zi v2), some (zi v3), some (zi v4), some (zi v5), some (zi v6), none], [zi (M 43 0 130), zi v6], M)) rfl ?_
  by_cases c5 : zw (M 43 0 130) ≤ zw v6
  · rw [if_pos c5] at h
    refine zG_br hm rfl (cf' := (88, [some (zr 42 0), some (zi v1), some (zi v2), some (zi v3), some (zi v4), some (zi v5), some (zi v6), none], [], M)) (if_pos c5) ?_
    refine zG_sub (lv' := [some (zr 42 0), some (zi v1), some (zi v2), some (zi v3), some (zi v4), some (zi v5), none, none]) (zsb_s rfl (zsb_s rfl (zsb_s rfl (zsb_s rfl (zsb_s rfl (zsb_s rfl (zsb_n (zsb_n zsb_0)))))))) ?_
    exact kb v5 (Option.some.inj h).symm
  · rw [if_neg c5] at h
    refine zG_br hm rfl (cf' := (35, [some (zr 42 0), some (zi v1), some (zi v2), some (zi v3), some (zi v4), some (zi v5), some (zi v6), none], [], M)) (if_neg c5) ?_
    refine zG_run hm 12 (cf' := (55, [some (zr 42 0), some (zi v1), some (zi v2), some (zi v3), some (zi v4), some (zi v5), some (zi v6), some (zi (131 + (4 * v6)))], [zi ((131 + (4 * v6)) + 1), zr 43 0, zi v5], M)) rfl ?_
    by_cases c4 : 0 ≤ zw ((131 + (4 * v6)) + 1) ∧ zw ((131 + (4 * v6)) + 1) < 5090
    · rw [if_pos c4] at h
      refine zG_br hm rfl (cf' := (56, [some (zr 42 0), some (zi v1), some (zi v2), some (zi v3), some (zi v4), some (zi v5), some (zi v6), some (zi (131 + (4 * v6)))], [zi (M 43 0 (zix ((131 + (4 * v6)) + 1))), zi v5], M)) (if_pos c4) ?_
      refine zG_run hm 1 (cf' := (57, [some (zr 42 0), some (zi v1), some (zi v2), some (zi v3), some (zi v4), some (zi v5), some (zi v6), some (zi (131 + (4 * v6)))], [zi v1, zi (M 43 0 (zix ((131 + (4 * v6)) + 1))), zi v5], M)) rfl ?_
      by_cases c3 : ¬ zw (M 43 0 (zix ((131 + (4 * v6)) + 1))) = zw v1
      · rw [if_pos c3] at h
        refine zG_br hm rfl (cf' := (78, [some (zr 42 0), some (zi v1), some (zi v2), some (zi v3), some (zi v4), some (zi v5), some (zi v6), some (zi (131 + (4 * v6)))], [zi v5], M)) (if_pos c3) ?_
        refine zG_sub (lv' := [some (zr 42 0), some (zi v1), some (zi v2), some (zi v3), some (zi v4), none, some (zi v6), none]) (zsb_s rfl (zsb_s rfl (zsb_s rfl (zsb_s rfl (zsb_s rfl (zsb_n (zsb_s rfl (zsb_n zsb_0)))))))) ?_
        exact g_X11_backTo_j78 hd h kc kb kr
      · rw [if_neg c3] at h
        refine zG_br hm rfl (cf' := (60, [some (zr 42 0), some (zi v1), some (zi v2), some (zi v3), some (zi v4), some (zi v5), some (zi v6), some (zi (131 + (4 * v6)))], [zi v5], M)) (if_neg c3) ?_
        refine zG_run hm 5 (cf' := (68, [some (zr 42 0), some (zi v1), some (zi v2), some (zi v3), some (zi v4), some (zi v5), some (zi v6), some (zi (131 + (4 * v6)))], [zi ((131 + (4 * v6)) + 2), zr 43 0, zi v5], M)) rfl ?_
        by_cases c2 : 0 ≤ zw ((131 + (4 * v6)) + 2) ∧ zw ((131 + (4 * v6)) + 2) < 5090
        · rw [if_pos c2] at h
          refine zG_br hm rfl (cf' := (69, [some (zr 42 0), some (zi v1), some (zi v2), some (zi v3), some (zi v4), some (zi v5), some (zi v6), some (zi (131 + (4 * v6)))], [zi (M 43 0 (zix ((131 + (4 * v6)) + 2))), zi v5], M)) (if_pos c2) ?_
          refine zG_run hm 1 (cf' := (71, [some (zr 42 0), some (zi v1), some (zi v2), some (zi v3), some (zi v4), some (zi v5), some (zi v6), some (zi (131 + (4 * v6)))], [zi v4, zi (M 43 0 (zix ((131 + (4 * v6)) + 2))), zi v5], M)) rfl ?_
          by_cases c1 : ¬ zw (M 43 0 (zix ((131 + (4 * v6)) + 2))) = zw v4
          · rw [if_pos c1] at h
            refine zG_br hm rfl (cf' := (78, [some (zr 42 0), some (zi v1), some (zi v2), some (zi v3), some (zi v4), some (zi v5), some (zi v6), some (zi (131 + (4 * v6)))], [zi v5], M)) (if_pos c1) ?_
            refine zG_sub (lv' := [some (zr 42 0), some (zi v1), some (zi v2), some (zi v3), some (zi v4), none, some (zi v6), none]) (zsb_s rfl (zsb_s rfl (zsb_s rfl (zsb_s rfl (zsb_s rfl (zsb_n (zsb_s rfl (zsb_n zsb_0)))))))) ?_
            exact g_X11_backTo_j78 hd h kc kb kr
          · rw [if_neg c1] at h
            refine zG_br hm rfl (cf' := (74, [some (zr 42 0), some (zi v1), some (zi v2), some (zi v3), some (zi v4), some (zi v5), some (zi v6), some (zi (131 + (4 * v6)))], [zi v5], M)) (if_neg c1) ?_
            refine zG_run hm 2 (cf' := (79, [some (zr 42 0), some (zi v1), some (zi v2), some (zi v3), some (zi v4), some (zi v5), some (zi v6), some (zi (131 + (4 * v6)))], [zi 1, zi v5], M)) rfl ?_
            refine zG_sub (lv' := [some (zr 42 0), some (zi v1), some (zi v2), some (zi v3), some (zi v4), none, some (zi v6), none]) (zsb_s rfl (zsb_s rfl (zsb_s rfl (zsb_s rfl (zsb_s rfl (zsb_n (zsb_s rfl (zsb_n zsb_0)))))))) ?_
            exact g_X11_backTo_j79 hd h kc kb kr
        · rw [if_neg c2] at h
          cases h
    · rw [if_neg c4] at h
      cases h
theorem gl_X11_backTo_L22 {v1 : Int} {v2 : Int} {v3 : Int} {v4 : Int} {M : zM} {y : Int} {r : Option zV} {Mf : zM} {d : Nat} (hd : 0 ≤ d)
    (kb : ∀ t, y = t → zG 209 d (88, [some (zr 42 0), some (zi v1), some (zi v2), some (zi v3), some (zi v4), some (zi t), none, none], [], M) r Mf) (kr : True) : ∀ (n : Nat) (s : Int × Int), zlp (fun s : Int × Int => f_X11_backTo_L22 v1 v2 v3 v4 s.1 s.2 M) n s = some y → zG 209 d (22, [some (zr 42 0), some (zi v1), some (zi v2), some (zi v3), some (zi v4), some (zi s.1), some (zi s.2), none], [], M) r Mf := by
  intro n
  induction n with
  | zero => intro s h; cases h
  | succ n ih =>
    intro s h
    rcases zlp_cases h with ⟨s', h1, h2⟩ | h1
    · exact g_X11_backTo_L22 hd h1 (fun s2 e2 => by cases e2; exact ih _ h2) (fun t e2 => by cases e2) trivial
    · exact g_X11_backTo_L22 hd h1 (fun s2 e2 => by cases e2) (fun t e2 => kb t (Sum.inr.inj e2)) trivial
def f_X11_backTo_j103 (v1 : Int) (v2 : Int) (v4 : Int) (vs0 : Int) (vs1 : Int) (M : zM) : Option ((Int × Int) ⊕ (Int)) :=
  some (.inl ((zor vs1 vs0), (v4 + 1)))
theorem g_X11_backTo_j103 {v1 : Int} {v2 : Int} {v4 : Int} {vs0 : Int} {vs1 : Int} {M : zM} {x : (Int × Int) ⊕ (Int)} {r : Option zV} {Mf : zM} {d : Nat} (hd : 0 ≤ d) (h : f_X11_backTo_j103 v1 v2 v4 vs0 vs1 M = some x)
    (kc : ∀ s, x = .inl s → zG 209 d (5, [some (zr 42 0), some (zi v1), some (zi v2), some (zi s.1), some (zi s.2), none, none, none], [], M) r Mf)
    (kb : ∀ t, x = .inr t → zG 209 d (111, [none, none, none, some (zi t), none, none, none, none], [], M) r Mf) (kr : True) : zG 209 d (103, [some (zr 42 0), some (zi v1), some (zi v2), none, some (zi v4), none, none, none], [zi vs0, zi vs1], M) r Mf := by
  have hm := zmok_209
  unfold f_X11_backTo_j103 at h
  refine zG_run hm 4 (cf' := (5, [some (zr 42 0), some (zi v1), some (zi v2), some (zi (zor vs1 vs0)), some (zi (v4 + 1)), none, none, none], [], M)) rfl ?_
  refine zG_sub (lv' := [some (zr 42 0), some (zi v1), some (zi v2), some (zi (zor vs1 vs0)), some (zi (v4 + 1)), none, none, none]) (zsb_s rfl (zsb_s rfl (zsb_s rfl (zsb_s rfl (zsb_s rfl (zsb_n (zsb_n (zsb_n zsb_0)))))))) ?_
  exact kc ((zor vs1 vs0), (v4 + 1)) (Option.some.inj h).symm
def f_X11_backTo_L5 (v1 : Int) (v2 : Int) (v3 : Int) (v4 : Int) (M : zM) : Option ((Int × Int) ⊕ (Int)) :=
  if zw (M 43 0 0) ≤ zw v4 then
    some (.inr v3)
  else
    (zlp (fun s : Int × Int => f_X11_backTo_L22 v1 v2 v3 v4 s.1 s.2 M) zF (0, 0)).bind fun y6 =>
      if zw y6 < zw v2 then
        f_X11_backTo_j103 v1 v2 v4 0 v3 M
      else
        f_X11_backTo_j103 v1 v2 v4 (zshl 1 v4) v3 M
theorem g_X11_backTo_L5 {v1 : Int} {v2 : Int} {v3 : Int} {v4 : Int} {M : zM} {x : (Int × Int) ⊕ (Int)} {r : Option zV} {Mf : zM} {d : Nat} (hd : 0 ≤ d) (h : f_X11_backTo_L5 v1 v2 v3 v4 M = some x)
    (kc : ∀ s, x = .inl s → zG 209 d (5, [some (zr 42 0), some (zi v1), some (zi v2), some (zi s.1), some (zi s.2), none, none, none], [], M) r Mf)
    (kb : ∀ t, x = .inr t → zG 209 d (111, [none, none, none, some (zi t), none, none, none, none], [], M) r Mf) (kr : True) : zG 209 d (5, [some (zr 42 0), some (zi v1), some (zi v2), some (zi v3), some (zi v4), none, none, none], [], M) r Mf := by
  have hm := zmok_209
  unfold f_X11_backTo_L5 at h
  refine zG_run hm 5 (cf' := (13, [some (zr 42 0), some (zi v1), some (zi v2), some (zi v3), some (zi v4), none, none, none], [zi (M 43 0 0), zi v4], M)) rfl ?_
  by_cases c8 : zw (M 43 0 0) ≤ zw v4
  · rw [if_pos c8] at h
    refine zG_br hm rfl (cf' := (111, [some (zr 42 0), some (zi v1), some (zi v2), some (zi v3), some (zi v4), none, none, none], [], M)) (if_pos c8) ?_
    refine zG_sub (lv' := [none, none, none, some (zi v3), none, none, none, none]) (zsb_n (zsb_n (zsb_n (zsb_s rfl (zsb_n (zsb_n (zsb_n (zsb_n zsb_0)))))))) ?_
    exact kb v3 (Option.some.inj h).symm
  · rw [if_neg c8] at h
    refine zG_br hm rfl (cf' := (16, [some (zr 42 0), some (zi v1), some (zi v2), some (zi v3), some (zi v4), none, none, none], [], M)) (if_neg c8) ?_
    refine zG_run hm 4 (cf' := (22, [some (zr 42 0), some (zi v1), some (zi v2), some (zi v3), some (zi v4), some (zi 0), some (zi 0), none], [], M)) rfl ?_
    refine zG_sub (lv' := [some (zr 42 0), some (zi v1), some (zi v2), some (zi v3), some (zi v4), some (zi 0), some (zi 0), none]) (zsb_s rfl (zsb_s rfl (zsb_s rfl (zsb_s rfl (zsb_s rfl (zsb_s rfl (zsb_s rfl (zsb_n zsb_0)))))))) ?_
    obtain ⟨y6, hy6, h⟩ := Option.bind_eq_some_iff.mp h
    refine gl_X11_backTo_L22 hd (fun t e2 => ?_) trivial zF (0, 0) hy6
    cases e2
    refine zG_run hm 3 (cf' := (92, [some (zr 42 0), some (zi v1), some (zi v2), some (zi v3), some (zi v4), some (zi y6), none, none], [zi v2, zi y6, zi v3], M)) rfl ?_
    by_cases c7 : zw y6 < zw v2
    · rw [if_pos c7] at h
      refine zG_br hm rfl (cf' := (102, [some (zr 42 0), some (zi v1), some (zi v2), some (zi v3), some (zi v4), some (zi y6), none, none], [zi v3], M)) (if_pos c7) ?_
      refine zG_run hm 1 (cf' := (103, [some (zr 42 0), some (zi v1), some (zi v2), some (zi v3), some (zi v4), some (zi y6), none, none], [zi 0, zi v3], M)) rfl ?_
      refine zG_sub (lv' := [some (zr 42 0), some (zi v1), some (zi v2), none, some (zi v4), none, none, none]) (zsb_s rfl (zsb_s rfl (zsb_s rfl (zsb_n (zsb_s rfl (zsb_n (zsb_n (zsb_n zsb_0)))))))) ?_
      exact g_X11_backTo_j103 hd h kc kb kr
    · rw [if_neg c7] at h
      refine zG_br hm rfl (cf' := (95, [some (zr 42 0), some (zi v1), some (zi v2), some (zi v3), some (zi v4), some (zi y6), none, none], [zi v3], M)) (if_neg c7) ?_
      refine zG_run hm 4 (cf' := (103, [some (zr 42 0), some (zi v1), some (zi v2), some (zi v3), some (zi v4), some (zi y6), none, none], [zi (zshl 1 v4), zi v3], M)) rfl ?_
      refine zG_sub (lv' := [some (zr 42 0), some (zi v1), some (zi v2), none, some (zi v4), none, none, none]) (zsb_s rfl (zsb_s rfl (zsb_s rfl (zsb_n (zsb_s rfl (zsb_n (zsb_n (zsb_n zsb_0)))))))) ?_
      exact g_X11_backTo_j103 hd h kc kb kr
theorem gl_X11_backTo_L5 {v1 : Int} {v2 : Int} {M : zM} {y : Int} {r : Option zV} {Mf : zM} {d : Nat} (hd : 0 ≤ d)
    (kb : ∀ t, y = t → zG 209 d (111, [none, none, none, some (zi t), none, none, none, none], [], M) r Mf) (kr : True) : ∀ (n : Nat) (s : Int × Int), zlp (fun s : Int × Int => f_X11_backTo_L5 v1 v2 s.1 s.2 M) n s = some y → zG 209 d (5, [some (zr 42 0), some (zi v1), some (zi v2), some (zi s.1), some (zi s.2), none, none, none], [], M) r Mf := by
  intro n
  induction n with
  | zero => intro s h; cases h
  | succ n ih =>
    intro s h
    rcases zlp_cases h with ⟨s', h1, h2⟩ | h1
    · exact g_X11_backTo_L5 hd h1 (fun s2 e2 => by cases e2; exact ih _ h2) (fun t e2 => by cases e2) trivial
    · exact g_X11_backTo_L5 hd h1 (fun s2 e2 => by cases e2) (fun t e2 => kb t (Sum.inr.inj e2)) trivial
def f_X11_backTo (v1 : Int) (v2 : Int) (M : zM) : Option (Int × zM) :=
  (zlp (fun s : Int × Int => f_X11_backTo_L5 v1 v2 s.1 s.2 M) zF (0, 0)).bind fun y9 =>
    some (y9, M)
theorem g_X11_backTo {v1 : Int} {v2 : Int} {M : zM} {q : Int × zM} {d : Nat} (hd : 0 ≤ d) (h : f_X11_backTo v1 v2 M = some q) : zG 209 d (0, [some (zr 42 0), some (zi v1), some (zi v2), none, none, none, none, none], [], M) (some (zi q.1)) q.2 := by
  have hm := zmok_209
  unfold f_X11_backTo at h
  refine zG_run hm 4 (cf' := (5, [some (zr 42 0), some (zi v1), some (zi v2), some (zi 0), some (zi 0), none, none, none], [], M)) rfl ?_
  refine zG_sub (lv' := [some (zr 42 0), some (zi v1), some (zi v2), some (zi 0), some (zi 0), none, none, none]) (zsb_s rfl (zsb_s rfl (zsb_s rfl (zsb_s rfl (zsb_s rfl (zsb_n (zsb_n (zsb_n zsb_0)))))))) ?_
  obtain ⟨y9, hy9, h⟩ := Option.bind_eq_some_iff.mp h
  refine gl_X11_backTo_L5 hd (fun t e2 => ?_) trivial zF (0, 0) hy9
  cases e2
  refine zG_run hm 1 (cf' := (112, [none, none, none, some (zi y9), none, none, none, none], [zi y9], M)) rfl ?_
  cases h
  exact zG_ri hm rfl rfl
theorem met_X11_backTo {v1 : Int} {v2 : Int} {M : zM} {q : Int × zM} {d : Nat} (hd : 0 ≤ d) (h : f_X11_backTo v1 v2 M = some q) : zMet 209 d [zr 42 0, zi v1, zi v2] M (some (zi q.1)) q.2 :=
  zMet_of (lv0 := [some (zr 42 0), some (zi v1), some (zi v2), none, none, none, none, none]) zmok_209 rfl rfl (fun v hv => by cases hv; trivial) (g_X11_backTo hd h)
def f_X11_whose (v1 : Int) (M : zM) : Option (Int × zM) :=
  (f_X11_isThing v1 M).bind fun p1 =>
    if zw p1.1 = 0 then
      some ((-1), p1.2)
    else
      (f_X11_backTo v1 1 p1.2).bind fun p2 =>
        some (p2.1, p2.2)
theorem g_X11_whose {v1 : Int} {M : zM} {q : Int × zM} {d : Nat} (hd : 2 ≤ d) (h : f_X11_whose v1 M = some q) : zG 210 d (0, [some (zr 42 0), some (zi v1)], [], M) (some (zi q.1)) q.2 := by
  have hm := zmok_210
  unfold f_X11_whose at h
  refine zG_run hm 2 (cf' := (2, [some (zr 42 0), some (zi v1)], [zi v1, zr 42 0], M)) rfl ?_
  obtain ⟨p1, hp1, h⟩ := Option.bind_eq_some_iff.mp h
  refine zG_V hm zmok_123 rfl (as := [zi v1]) (rest := []) (st2 := [zi p1.1]) (pc2 := 5) rfl rfl (by omega) (met_X11_isThing (d := 1) (Nat.le_refl _) hp1) rfl ?_
  by_cases c3 : zw p1.1 = 0
  · rw [if_pos c3] at h
    refine zG_br hm rfl (cf' := (17, [some (zr 42 0), some (zi v1)], [], p1.2)) (if_pos c3) ?_
    refine zG_run hm 1 (cf' := (18, [some (zr 42 0), some (zi v1)], [zi (-1)], p1.2)) rfl ?_
    cases h
    exact zG_ri hm rfl rfl
  · rw [if_neg c3] at h
    refine zG_br hm rfl (cf' := (8, [some (zr 42 0), some (zi v1)], [], p1.2)) (if_neg c3) ?_
    refine zG_run hm 3 (cf' := (11, [some (zr 42 0), some (zi v1)], [zi 1, zi v1, zr 42 0], p1.2)) rfl ?_
    obtain ⟨p2, hp2, h⟩ := Option.bind_eq_some_iff.mp h
    refine zG_V hm zmok_209 rfl (as := [zi v1, zi 1]) (rest := []) (st2 := [zi p2.1]) (pc2 := 14) rfl rfl (by omega) (met_X11_backTo (d := 0) (Nat.le_refl _) hp2) rfl ?_
    refine zG_run hm 1 (cf' := (18, [some (zr 42 0), some (zi v1)], [zi p2.1], p2.2)) rfl ?_
    cases h
    exact zG_ri hm rfl rfl
theorem met_X11_whose {v1 : Int} {M : zM} {q : Int × zM} {d : Nat} (hd : 2 ≤ d) (h : f_X11_whose v1 M = some q) : zMet 210 d [zr 42 0, zi v1] M (some (zi q.1)) q.2 :=
  zMet_of (lv0 := [some (zr 42 0), some (zi v1)]) zmok_210 rfl rfl (fun v hv => by cases hv; trivial) (g_X11_whose hd h)
def f_X10_twice_j92 (v1 : Int) (v2 : Int) (v3 : Int) (v4 : Int) (v5 : Int) (M : zM) : Option ((Int × Int × zM) ⊕ (Int × zM)) :=
  some (.inl (v1, (v5 + 1), M))
theorem g_X10_twice_j92 {v1 : Int} {v2 : Int} {v3 : Int} {v4 : Int} {v5 : Int} {M : zM} {x : (Int × Int × zM) ⊕ (Int × zM)} {r : Option zV} {Mf : zM} {d : Nat} (hd : 1 ≤ d) (h : f_X10_twice_j92 v1 v2 v3 v4 v5 M = some x)
    (kc : ∀ s, x = .inl s → zG 96 d (45, [some (zr 0 0), some (zi s.1), some (zi v2), some (zi v3), some (zi v4), some (zi s.2.1)], [], s.2.2) r Mf)
    (kb : ∀ t, x = .inr t → zG 96 d (98, [some (zr 0 0), some (zi t.1), some (zi v2), none, none, none], [], t.2) r Mf) (kr : True) : zG 96 d (92, [some (zr 0 0), some (zi v1), some (zi v2), some (zi v3), some (zi v4), some (zi v5)], [], M) r Mf := by
  have hm := zmok_96
  unfold f_X10_twice_j92 at h
  refine zG_run hm 2 (cf' := (45, [some (zr 0 0), some (zi v1), some (zi v2), some (zi v3), some (zi v4), some (zi (v5 + 1))], [], M)) rfl ?_
  refine zG_sub (lv' := [some (zr 0 0), some (zi v1), some (zi v2), some (zi v3), some (zi v4), some (zi (v5 + 1))]) (zsb_s rfl (zsb_s rfl (zsb_s rfl (zsb_s rfl (zsb_s rfl (zsb_s rfl zsb_0)))))) ?_
  exact kc (v1, (v5 + 1), M) (Option.some.inj h).symm
def f_X10_twice_L45 (v2 : Int) (v3 : Int) (v4 : Int) (v1 : Int) (v5 : Int) (M : zM) : Option ((Int × Int × zM) ⊕ (Int × zM)) :=
  if zw v2 ≤ zw v5 then
    some (.inr (v1, M))
  else
    if 0 ≤ zw v5 ∧ zw v5 < 30 then
      (f_X10_cardThing (M 15 0 (zix v5)) M).bind fun p3 =>
        if ¬ zw p3.1 = zw v3 then
          f_X10_twice_j92 v1 v2 v3 v4 v5 p3.2
        else
          if 0 ≤ zw v5 ∧ zw v5 < 30 then
            (f_X10_cardTo (p3.2 15 0 (zix v5)) p3.2).bind fun p4 =>
              if ¬ zw p4.1 = zw v4 then
                f_X10_twice_j92 v1 v2 v3 v4 v5 p4.2
              else
                f_X10_twice_j92 (zor v1 (zshl 1 v3)) v2 v3 v4 v5 p4.2
          else
            none
    else
      none
theorem g_X10_twice_L45 {v2 : Int} {v3 : Int} {v4 : Int} {v1 : Int} {v5 : Int} {M : zM} {x : (Int × Int × zM) ⊕ (Int × zM)} {r : Option zV} {Mf : zM} {d : Nat} (hd : 1 ≤ d) (h : f_X10_twice_L45 v2 v3 v4 v1 v5 M = some x)
    (kc : ∀ s, x = .inl s → zG 96 d (45, [some (zr 0 0), some (zi s.1), some (zi v2), some (zi v3), some (zi v4), some (zi s.2.1)], [], s.2.2) r Mf)
    (kb : ∀ t, x = .inr t → zG 96 d (98, [some (zr 0 0), some (zi t.1), some (zi v2), none, none, none], [], t.2) r Mf) (kr : True) : zG 96 d (45, [some (zr 0 0), some (zi v1), some (zi v2), some (zi v3), some (zi v4), some (zi v5)], [], M) r Mf := by
  have hm := zmok_96
  unfold f_X10_twice_L45 at h
  refine zG_run hm 2 (cf' := (48, [some (zr 0 0), some (zi v1), some (zi v2), some (zi v3), some (zi v4), some (zi v5)], [zi v2, zi v5], M)) rfl ?_
  by_cases c9 : zw v2 ≤ zw v5
  · rw [if_pos c9] at h
    refine zG_br hm rfl (cf' := (98, [some (zr 0 0), some (zi v1), some (zi v2), some (zi v3), some (zi v4), some (zi v5)], [], M)) (if_pos c9) ?_
    refine zG_sub (lv' := [some (zr 0 0), some (zi v1), some (zi v2), none, none, none]) (zsb_s rfl (zsb_s rfl (zsb_s rfl (zsb_n (zsb_n (zsb_n zsb_0)))))) ?_
    exact kb (v1, M) (Option.some.inj h).symm
  · rw [if_neg c9] at h
    refine zG_br hm rfl (cf' := (51, [some (zr 0 0), some (zi v1), some (zi v2), some (zi v3), some (zi v4), some (zi v5)], [], M)) (if_neg c9) ?_
    refine zG_run hm 4 (cf' := (60, [some (zr 0 0), some (zi v1), some (zi v2), some (zi v3), some (zi v4), some (zi v5)], [zi v5, zr 15 0], M)) rfl ?_
    by_cases c8 : 0 ≤ zw v5 ∧ zw v5 < 30
    · rw [if_pos c8] at h
      refine zG_br hm rfl (cf' := (61, [some (zr 0 0), some (zi v1), some (zi v2), some (zi v3), some (zi v4), some (zi v5)], [zi (M 15 0 (zix v5))], M)) (if_pos c8) ?_
      obtain ⟨p3, hp3, h⟩ := Option.bind_eq_some_iff.mp h
      refine zG_S hm zmok_114 rfl (as := [zi (M 15 0 (zix v5))]) (rest := []) (st2 := [zi p3.1]) (pc2 := 64) rfl rfl (by omega) (met_X10_cardThing (d := 0) (Nat.le_refl _) hp3) rfl ?_
      refine zG_run hm 1 (cf' := (65, [some (zr 0 0), some (zi v1), some (zi v2), some (zi v3), some (zi v4), some (zi v5)], [zi v3, zi p3.1], p3.2)) rfl ?_
      by_cases c7 : ¬ zw p3.1 = zw v3
      · rw [if_pos c7] at h
        refine zG_br hm rfl (cf' := (92, [some (zr 0 0), some (zi v1), some (zi v2), some (zi v3), some (zi v4), some (zi v5)], [], p3.2)) (if_pos c7) ?_
        refine zG_sub (lv' := [some (zr 0 0), some (zi v1), some (zi v2), some (zi v3), some (zi v4), some (zi v5)]) (zsb_s rfl (zsb_s rfl (zsb_s rfl (zsb_s rfl (zsb_s rfl (zsb_s rfl zsb_0)))))) ?_
        exact g_X10_twice_j92 hd h kc kb kr
      · rw [if_neg c7] at h
        refine zG_br hm rfl (cf' := (68, [some (zr 0 0), some (zi v1), some (zi v2), some (zi v3), some (zi v4), some (zi v5)], [], p3.2)) (if_neg c7) ?_
        refine zG_run hm 4 (cf' := (77, [some (zr 0 0), some (zi v1), some (zi v2), some (zi v3), some (zi v4), some (zi v5)], [zi v5, zr 15 0], p3.2)) rfl ?_
        by_cases c6 : 0 ≤ zw v5 ∧ zw v5 < 30
        · rw [if_pos c6] at h
          refine zG_br hm rfl (cf' := (78, [some (zr 0 0), some (zi v1), some (zi v2), some (zi v3), some (zi v4), some (zi v5)], [zi (p3.2 15 0 (zix v5))], p3.2)) (if_pos c6) ?_
          obtain ⟨p4, hp4, h⟩ := Option.bind_eq_some_iff.mp h
          refine zG_S hm zmok_115 rfl (as := [zi (p3.2 15 0 (zix v5))]) (rest := []) (st2 := [zi p4.1]) (pc2 := 81) rfl rfl (by omega) (met_X10_cardTo (d := 0) (Nat.le_refl _) hp4) rfl ?_
          refine zG_run hm 1 (cf' := (83, [some (zr 0 0), some (zi v1), some (zi v2), some (zi v3), some (zi v4), some (zi v5)], [zi v4, zi p4.1], p4.2)) rfl ?_
          by_cases c5 : ¬ zw p4.1 = zw v4
          · rw [if_pos c5] at h
            refine zG_br hm rfl (cf' := (92, [some (zr 0 0), some (zi v1), some (zi v2), some (zi v3), some (zi v4), some (zi v5)], [], p4.2)) (if_pos c5) ?_
            refine zG_sub (lv' := [some (zr 0 0), some (zi v1), some (zi v2), some (zi v3), some (zi v4), some (zi v5)]) (zsb_s rfl (zsb_s rfl (zsb_s rfl (zsb_s rfl (zsb_s rfl (zsb_s rfl zsb_0)))))) ?_
            exact g_X10_twice_j92 hd h kc kb kr
          · rw [if_neg c5] at h
            refine zG_br hm rfl (cf' := (86, [some (zr 0 0), some (zi v1), some (zi v2), some (zi v3), some (zi v4), some (zi v5)], [], p4.2)) (if_neg c5) ?_
            refine zG_run hm 6 (cf' := (92, [some (zr 0 0), some (zi (zor v1 (zshl 1 v3))), some (zi v2), some (zi v3), some (zi v4), some (zi v5)], [], p4.2)) rfl ?_
            refine zG_sub (lv' := [some (zr 0 0), some (zi (zor v1 (zshl 1 v3))), some (zi v2), some (zi v3), some (zi v4), some (zi v5)]) (zsb_s rfl (zsb_s rfl (zsb_s rfl (zsb_s rfl (zsb_s rfl (zsb_s rfl zsb_0)))))) ?_
            exact g_X10_twice_j92 hd h kc kb kr
        · rw [if_neg c6] at h
          cases h
    · rw [if_neg c8] at h
      cases h
theorem gl_X10_twice_L45 {v2 : Int} {v3 : Int} {v4 : Int} {y : Int × zM} {r : Option zV} {Mf : zM} {d : Nat} (hd : 1 ≤ d)
    (kb : ∀ t, y = t → zG 96 d (98, [some (zr 0 0), some (zi t.1), some (zi v2), none, none, none], [], t.2) r Mf) (kr : True) : ∀ (n : Nat) (s : Int × Int × zM), zlp (fun s : Int × Int × zM => f_X10_twice_L45 v2 v3 v4 s.1 s.2.1 s.2.2) n s = some y → zG 96 d (45, [some (zr 0 0), some (zi s.1), some (zi v2), some (zi v3), some (zi v4), some (zi s.2.1)], [], s.2.2) r Mf := by
  intro n
  induction n with
  | zero => intro s h; cases h
  | succ n ih =>
    intro s h
    rcases zlp_cases h with ⟨s', h1, h2⟩ | h1
    · exact g_X10_twice_L45 hd h1 (fun s2 e2 => by cases e2; exact ih _ h2) (fun t e2 => by cases e2) trivial
    · exact g_X10_twice_L45 hd h1 (fun s2 e2 => by cases e2) (fun t e2 => kb t (Sum.inr.inj e2)) trivial
def f_X10_twice_L4 (v1 : Int) (v2 : Int) (M : zM) : Option ((Int × Int × zM) ⊕ (Int × zM)) :=
  if zw (M 11 0 8) ≤ zw v2 then
    some (.inr (v1, M))
  else
    if 0 ≤ zw v2 ∧ zw v2 < 30 then
      (f_X10_cardThing (M 15 0 (zix v2)) M).bind fun p1 =>
        if 0 ≤ zw v2 ∧ zw v2 < 30 then
          (f_X10_cardTo (p1.2 15 0 (zix v2)) p1.2).bind fun p2 =>
            (zlp (fun s : Int × Int × zM => f_X10_twice_L45 v2 p1.1 p2.1 s.1 s.2.1 s.2.2) zF (v1, 0, p2.2)).bind fun y10 =>
              some (.inl (y10.1, (v2 + 1), y10.2))
        else
          none
    else
      none
theorem g_X10_twice_L4 {v1 : Int} {v2 : Int} {M : zM} {x : (Int × Int × zM) ⊕ (Int × zM)} {r : Option zV} {Mf : zM} {d : Nat} (hd : 1 ≤ d) (h : f_X10_twice_L4 v1 v2 M = some x)
    (kc : ∀ s, x = .inl s → zG 96 d (4, [some (zr 0 0), some (zi s.1), some (zi s.2.1), none, none, none], [], s.2.2) r Mf)
    (kb : ∀ t, x = .inr t → zG 96 d (104, [none, some (zi t.1), none, none, none, none], [], t.2) r Mf) (kr : True) : zG 96 d (4, [some (zr 0 0), some (zi v1), some (zi v2), none, none, none], [], M) r Mf := by
  have hm := zmok_96
  unfold f_X10_twice_L4 at h
  refine zG_run hm 4 (cf' := (12, [some (zr 0 0), some (zi v1), some (zi v2), none, none, none], [zi (M 11 0 8), zi v2], M)) rfl ?_
  by_cases c13 : zw (M 11 0 8) ≤ zw v2
  · rw [if_pos c13] at h
    refine zG_br hm rfl (cf' := (104, [some (zr 0 0), some (zi v1), some (zi v2), none, none, none], [], M)) (if_pos c13) ?_
    refine zG_sub (lv' := [none, some (zi v1), none, none, none, none]) (zsb_n (zsb_s rfl (zsb_n (zsb_n (zsb_n (zsb_n zsb_0)))))) ?_
    exact kb (v1, M) (Option.some.inj h).symm
  · rw [if_neg c13] at h
    refine zG_br hm rfl (cf' := (15, [some (zr 0 0), some (zi v1), some (zi v2), none, none, none], [], M)) (if_neg c13) ?_
    refine zG_run hm 4 (cf' := (23, [some (zr 0 0), some (zi v1), some (zi v2), none, none, none], [zi v2, zr 15 0], M)) rfl ?_
    by_cases c12 : 0 ≤ zw v2 ∧ zw v2 < 30
    · rw [if_pos c12] at h
      refine zG_br hm rfl (cf' := (24, [some (zr 0 0), some (zi v1), some (zi v2), none, none, none], [zi (M 15 0 (zix v2))], M)) (if_pos c12) ?_
      obtain ⟨p1, hp1, h⟩ := Option.bind_eq_some_iff.mp h
      refine zG_S hm zmok_114 rfl (as := [zi (M 15 0 (zix v2))]) (rest := []) (st2 := [zi p1.1]) (pc2 := 27) rfl rfl (by omega) (met_X10_cardThing (d := 0) (Nat.le_refl _) hp1) rfl ?_
      refine zG_run hm 5 (cf' := (36, [some (zr 0 0), some (zi v1), some (zi v2), some (zi p1.1), none, none], [zi v2, zr 15 0], p1.2)) rfl ?_
      by_cases c11 : 0 ≤ zw v2 ∧ zw v2 < 30
      · rw [if_pos c11] at h
        refine zG_br hm rfl (cf' := (37, [some (zr 0 0), some (zi v1), some (zi v2), some (zi p1.1), none, none], [zi (p1.2 15 0 (zix v2))], p1.2)) (if_pos c11) ?_
        obtain ⟨p2, hp2, h⟩ := Option.bind_eq_some_iff.mp h
        refine zG_S hm zmok_115 rfl (as := [zi (p1.2 15 0 (zix v2))]) (rest := []) (st2 := [zi p2.1]) (pc2 := 40) rfl rfl (by omega) (met_X10_cardTo (d := 0) (Nat.le_refl _) hp2) rfl ?_
        refine zG_run hm 3 (cf' := (45, [some (zr 0 0), some (zi v1), some (zi v2), some (zi p1.1), some (zi p2.1), some (zi 0)], [], p2.2)) rfl ?_
        refine zG_sub (lv' := [some (zr 0 0), some (zi v1), some (zi v2), some (zi p1.1), some (zi p2.1), some (zi 0)]) (zsb_s rfl (zsb_s rfl (zsb_s rfl (zsb_s rfl (zsb_s rfl (zsb_s rfl zsb_0)))))) ?_
        obtain ⟨y10, hy10, h⟩ := Option.bind_eq_some_iff.mp h
        refine gl_X10_twice_L45 hd (fun t e2 => ?_) trivial zF (v1, 0, p2.2) hy10
        cases e2
        refine zG_run hm 2 (cf' := (4, [some (zr 0 0), some (zi y10.1), some (zi (v2 + 1)), none, none, none], [], y10.2)) rfl ?_
        refine zG_sub (lv' := [some (zr 0 0), some (zi y10.1), some (zi (v2 + 1)), none, none, none]) (zsb_s rfl (zsb_s rfl (zsb_s rfl (zsb_n (zsb_n (zsb_n zsb_0)))))) ?_
        exact kc (y10.1, (v2 + 1), y10.2) (Option.some.inj h).symm
      · rw [if_neg c11] at h
        cases h
    · rw [if_neg c12] at h
      cases h
theorem gl_X10_twice_L4  {y : Int × zM} {r : Option zV} {Mf : zM} {d : Nat} (hd : 1 ≤ d)
    (kb : ∀ t, y = t → zG 96 d (104, [none, some (zi t.1), none, none, none, none], [], t.2) r Mf) (kr : True) : ∀ (n : Nat) (s : Int × Int × zM), zlp (fun s : Int × Int × zM => f_X10_twice_L4  s.1 s.2.1 s.2.2) n s = some y → zG 96 d (4, [some (zr 0 0), some (zi s.1), some (zi s.2.1), none, none, none], [], s.2.2) r Mf := by
  intro n
  induction n with
  | zero => intro s h; cases h
  | succ n ih =>
    intro s h
    rcases zlp_cases h with ⟨s', h1, h2⟩ | h1
    · exact g_X10_twice_L4 hd h1 (fun s2 e2 => by cases e2; exact ih _ h2) (fun t e2 => by cases e2) trivial
    · exact g_X10_twice_L4 hd h1 (fun s2 e2 => by cases e2) (fun t e2 => kb t (Sum.inr.inj e2)) trivial
def f_X10_twice  (M : zM) : Option (Int × zM) :=
  (zlp (fun s : Int × Int × zM => f_X10_twice_L4  s.1 s.2.1 s.2.2) zF (0, 1, M)).bind fun y14 =>
    some (y14.1, y14.2)
theorem g_X10_twice  {M : zM} {q : Int × zM} {d : Nat} (hd : 1 ≤ d) (h : f_X10_twice  M = some q) : zG 96 d (0, [some (zr 0 0), none, none, none, none, none], [], M) (some (zi q.1)) q.2 := by
  have hm := zmok_96
  unfold f_X10_twice at h
  refine zG_run hm 4 (cf' := (4, [some (zr 0 0), some (zi 0), some (zi 1), none, none, none], [], M)) rfl ?_
  refine zG_sub (lv' := [some (zr 0 0), some (zi 0), some (zi 1), none, none, none]) (zsb_s rfl (zsb_s rfl (zsb_s rfl (zsb_n (zsb_n (zsb_n zsb_0)))))) ?_
  obtain ⟨y14, hy14, h⟩ := Option.bind_eq_some_iff.mp h
  refine gl_X10_twice_L4 hd (fun t e2 => ?_) trivial zF (0, 1, M) hy14
  cases e2
  refine zG_run hm 1 (cf' := (105, [none, some (zi y14.1), none, none, none, none], [zi y14.1], y14.2)) rfl ?_
  cases h
  exact zG_ri hm rfl rfl
theorem met_X10_twice  {M : zM} {q : Int × zM} {d : Nat} (hd : 1 ≤ d) (h : f_X10_twice  M = some q) : zMet 96 d [zr 0 0] M (some (zi q.1)) q.2 :=
  zMet_of (lv0 := [some (zr 0 0), none, none, none, none, none]) zmok_96 rfl rfl (fun v hv => by cases hv; trivial) (g_X10_twice hd h)
def f_X11_twice_j31 (v2 : Int) (vs0 : Int) (vs1 : Int) (M : zM) : Option ((Int × Int × zM) ⊕ (Int × zM)) :=
  some (.inl ((zor vs1 vs0), (v2 + 1), M))
theorem g_X11_twice_j31 {v2 : Int} {vs0 : Int} {vs1 : Int} {M : zM} {x : (Int × Int × zM) ⊕ (Int × zM)} {r : Option zV} {Mf : zM} {d : Nat} (hd : 1 ≤ d) (h : f_X11_twice_j31 v2 vs0 vs1 M = some x)
    (kc : ∀ s, x = .inl s → zG 211 d (4, [some (zr 42 0), some (zi s.1), some (zi s.2.1)], [], s.2.2) r Mf)
    (kb : ∀ t, x = .inr t → zG 211 d (39, [none, some (zi t.1), none], [], t.2) r Mf) (kr : True) : zG 211 d (31, [some (zr 42 0), none, some (zi v2)], [zi vs0, zi vs1], M) r Mf := by
  have hm := zmok_211
  unfold f_X11_twice_j31 at h
  refine zG_run hm 4 (cf' := (4, [some (zr 42 0), some (zi (zor vs1 vs0)), some (zi (v2 + 1))], [], M)) rfl ?_
  refine zG_sub (lv' := [some (zr 42 0), some (zi (zor vs1 vs0)), some (zi (v2 + 1))]) (zsb_s rfl (zsb_s rfl (zsb_s rfl zsb_0))) ?_
  exact kc ((zor vs1 vs0), (v2 + 1), M) (Option.some.inj h).symm
def f_X11_twice_L4 (v1 : Int) (v2 : Int) (M : zM) : Option ((Int × Int × zM) ⊕ (Int × zM)) :=
  if zw (M 43 0 1) ≤ zw v2 then
    some (.inr (v1, M))
  else
    (f_X11_backTo v2 2 M).bind fun p1 =>
      if zw p1.1 = 0 then
        f_X11_twice_j31 v2 0 v1 p1.2
      else
        f_X11_twice_j31 v2 (zshl 1 v2) v1 p1.2
theorem g_X11_twice_L4 {v1 : Int} {v2 : Int} {M : zM} {x : (Int × Int × zM) ⊕ (Int × zM)} {r : Option zV} {Mf : zM} {d : Nat} (hd : 1 ≤ d) (h : f_X11_twice_L4 v1 v2 M = some x)
    (kc : ∀ s, x = .inl s → zG 211 d (4, [some (zr 42 0), some (zi s.1), some (zi s.2.1)], [], s.2.2) r Mf)
    (kb : ∀ t, x = .inr t → zG 211 d (39, [none, some (zi t.1), none], [], t.2) r Mf) (kr : True) : zG 211 d (4, [some (zr 42 0), some (zi v1), some (zi v2)], [], M) r Mf := by
  have hm := zmok_211
  unfold f_X11_twice_L4 at h
  refine zG_run hm 5 (cf' := (11, [some (zr 42 0), some (zi v1), some (zi v2)], [zi (M 43 0 1), zi v2], M)) rfl ?_
  by_cases c3 : zw (M 43 0 1) ≤ zw v2
  · rw [if_pos c3] at h
    refine zG_br hm rfl (cf' := (39, [some (zr 42 0), some (zi v1), some (zi v2)], [], M)) (if_pos c3) ?_
    refine zG_sub (lv' := [none, some (zi v1), none]) (zsb_n (zsb_s rfl (zsb_n zsb_0))) ?_
    exact kb (v1, M) (Option.some.inj h).symm
  · rw [if_neg c3] at h
    refine zG_br hm rfl (cf' := (14, [some (zr 42 0), some (zi v1), some (zi v2)], [], M)) (if_neg c3) ?_
    refine zG_run hm 4 (cf' := (18, [some (zr 42 0), some (zi v1), some (zi v2)], [zi 2, zi v2, zr 42 0, zi v1], M)) rfl ?_
    obtain ⟨p1, hp1, h⟩ := Option.bind_eq_some_iff.mp h
    refine zG_V hm zmok_209 rfl (as := [zi v2, zi 2]) (rest := [zi v1]) (st2 := [zi p1.1, zi v1]) (pc2 := 21) rfl rfl (by omega) (met_X11_backTo (d := 0) (Nat.le_refl _) hp1) rfl ?_
    by_cases c2 : zw p1.1 = 0
    · rw [if_pos c2] at h
      refine zG_br hm rfl (cf' := (30, [some (zr 42 0), some (zi v1), some (zi v2)], [zi v1], p1.2)) (if_pos c2) ?_
      refine zG_run hm 1 (cf' := (31, [some (zr 42 0), some (zi v1), some (zi v2)], [zi 0, zi v1], p1.2)) rfl ?_
      refine zG_sub (lv' := [some (zr 42 0), none, some (zi v2)]) (zsb_s rfl (zsb_n (zsb_s rfl zsb_0))) ?_
      exact g_X11_twice_j31 hd h kc kb kr
    · rw [if_neg c2] at h
      refine zG_br hm rfl (cf' := (24, [some (zr 42 0), some (zi v1), some (zi v2)], [zi v1], p1.2)) (if_neg c2) ?_
      refine zG_run hm 4 (cf' := (31, [some (zr 42 0), some (zi v1), some (zi v2)], [zi (zshl 1 v2), zi v1], p1.2)) rfl ?_
      refine zG_sub (lv' := [some (zr 42 0), none, some (zi v2)]) (zsb_s rfl (zsb_n (zsb_s rfl zsb_0))) ?_
      exact g_X11_twice_j31 hd h kc kb kr
theorem gl_X11_twice_L4  {y : Int × zM} {r : Option zV} {Mf : zM} {d : Nat} (hd : 1 ≤ d)
    (kb : ∀ t, y = t → zG 211 d (39, [none, some (zi t.1), none], [], t.2) r Mf) (kr : True) : ∀ (n : Nat) (s : Int × Int × zM), zlp (fun s : Int × Int × zM => f_X11_twice_L4  s.1 s.2.1 s.2.2) n s = some y → zG 211 d (4, [some (zr 42 0), some (zi s.1), some (zi s.2.1)], [], s.2.2) r Mf := by
  intro n
  induction n with
  | zero => intro s h; cases h
  | succ n ih =>
    intro s h
    rcases zlp_cases h with ⟨s', h1, h2⟩ | h1
    · exact g_X11_twice_L4 hd h1 (fun s2 e2 => by cases e2; exact ih _ h2) (fun t e2 => by cases e2) trivial
    · exact g_X11_twice_L4 hd h1 (fun s2 e2 => by cases e2) (fun t e2 => kb t (Sum.inr.inj e2)) trivial
def f_X11_twice  (M : zM) : Option (Int × zM) :=
  (zlp (fun s : Int × Int × zM => f_X11_twice_L4  s.1 s.2.1 s.2.2) zF (0, 0, M)).bind fun y4 =>
    some (y4.1, y4.2)
theorem g_X11_twice  {M : zM} {q : Int × zM} {d : Nat} (hd : 1 ≤ d) (h : f_X11_twice  M = some q) : zG 211 d (0, [some (zr 42 0), none, none], [], M) (some (zi q.1)) q.2 := by
  have hm := zmok_211
  unfold f_X11_twice at h
  refine zG_run hm 4 (cf' := (4, [some (zr 42 0), some (zi 0), some (zi 0)], [], M)) rfl ?_
  refine zG_sub (lv' := [some (zr 42 0), some (zi 0), some (zi 0)]) (zsb_s rfl (zsb_s rfl (zsb_s rfl zsb_0))) ?_
  obtain ⟨y4, hy4, h⟩ := Option.bind_eq_some_iff.mp h
  refine gl_X11_twice_L4 hd (fun t e2 => ?_) trivial zF (0, 0, M) hy4
  cases e2
  refine zG_run hm 1 (cf' := (40, [none, some (zi y4.1), none], [zi y4.1], y4.2)) rfl ?_
  cases h
  exact zG_ri hm rfl rfl
theorem met_X11_twice  {M : zM} {q : Int × zM} {d : Nat} (hd : 1 ≤ d) (h : f_X11_twice  M = some q) : zMet 211 d [zr 42 0] M (some (zi q.1)) q.2 :=
  zMet_of (lv0 := [some (zr 42 0), none, none]) zmok_211 rfl rfl (fun v hv => by cases hv; trivial) (g_X11_twice hd h)
def f_X10_since_j173 (v1 : Int) (v3 : Int) (v4 : Int) (n6 : Nat) (v7 : Int) (v8 : Int) (M : zM) : Option ((Int × Int × zM) ⊕ (Int × zM)) :=
  some (.inl (v7, (v8 + 1), M))
theorem g_X10_since_j173 {v1 : Int} {v3 : Int} {v4 : Int} {n6 : Nat} {v7 : Int} {v8 : Int} {M : zM} {x : (Int × Int × zM) ⊕ (Int × zM)} {r : Option zV} {Mf : zM} {d : Nat} (hd : 4 ≤ d) (h : f_X10_since_j173 v1 v3 v4 n6 v7 v8 M = some x)
    (kc : ∀ s, x = .inl s → zG 97 d (121, [some (zr 0 0), some (zi v1), none, some (zi v3), some (zi v4), none, some (zr 16 n6), some (zi s.1), some (zi s.2.1)], [], s.2.2) r Mf)
    (kb : ∀ t, x = .inr t → zG 97 d (179, [none, none, none, none, none, none, none, some (zi t.1), none], [], t.2) r Mf) (kr : True) : zG 97 d (173, [some (zr 0 0), some (zi v1), none, some (zi v3), some (zi v4), none, some (zr 16 n6), some (zi v7), some (zi v8)], [], M) r Mf := by
  have hm := zmok_97
  unfold f_X10_since_j173 at h
  refine zG_run hm 2 (cf' := (121, [some (zr 0 0), some (zi v1), none, some (zi v3), some (zi v4), none, some (zr 16 n6), some (zi v7), some (zi (v8 + 1))], [], M)) rfl ?_
  refine zG_sub (lv' := [some (zr 0 0), some (zi v1), none, some (zi v3), some (zi v4), none, some (zr 16 n6), some (zi v7), some (zi (v8 + 1))]) (zsb_s rfl (zsb_s rfl (zsb_n (zsb_s rfl (zsb_s rfl (zsb_n (zsb_s rfl (zsb_s rfl (zsb_s rfl zsb_0))))))))) ?_
  exact kc (v7, (v8 + 1), M) (Option.some.inj h).symm
def f_X10_since_j139 (v1 : Int) (v3 : Int) (v4 : Int) (n6 : Nat) (v7 : Int) (v8 : Int) (M : zM) : Option ((Int × Int × zM) ⊕ (Int × zM)) :=
  zlet (zput M 11 2 10 ((M 11 2 10) + 1)) fun M6 =>
  (f_X0_grow 2 v1 M6).bind fun p7 =>
    if ¬ zw (p7 16 n6 3) = zw v3 then
      f_X10_since_j173 v1 v3 v4 n6 v7 v8 p7
    else
      f_X10_since_j173 v1 v3 v4 n6 v8 v8 p7
theorem g_X10_since_j139 {v1 : Int} {v3 : Int} {v4 : Int} {n6 : Nat} {v7 : Int} {v8 : Int} {M : zM} {x : (Int × Int × zM) ⊕ (Int × zM)} {r : Option zV} {Mf : zM} {d : Nat} (hd : 4 ≤ d) (h : f_X10_since_j139 v1 v3 v4 n6 v7 v8 M = some x)
    (kc : ∀ s, x = .inl s → zG 97 d (121, [some (zr 0 0), some (zi v1), none, some (zi v3), some (zi v4), none, some (zr 16 n6), some (zi s.1), some (zi s.2.1)], [], s.2.2) r Mf)
    (kb : ∀ t, x = .inr t → zG 97 d (179, [none, none, none, none, none, none, none, some (zi t.1), none], [], t.2) r Mf) (kr : True) : zG 97 d (139, [some (zr 0 0), some (zi v1), none, some (zi v3), some (zi v4), none, some (zr 16 n6), some (zi v7), some (zi v8)], [], M) r Mf := by
  have hm := zmok_97
  unfold f_X10_since_j139 at h
  refine zG_run hm 7 (cf' := (152, [some (zr 0 0), some (zi v1), none, some (zi v3), some (zi v4), none, some (zr 16 n6), some (zi v7), some (zi v8)], [], (zput M 11 2 10 ((M 11 2 10) + 1)))) rfl ?_
  obtain ⟨M6, eM6, h⟩ := zlet_of h
  rw [eM6]
  refine zG_run hm 3 (cf' := (157, [some (zr 0 0), some (zi v1), none, some (zi v3), some (zi v4), none, some (zr 16 n6), some (zi v7), some (zi v8)], [zi v1, zr 11 2], M6)) rfl ?_
  obtain ⟨p7, hp7, h⟩ := Option.bind_eq_some_iff.mp h
  refine zG_V hm zmok_15 rfl (as := [zi v1]) (rest := []) (st2 := []) (pc2 := 160) rfl rfl (by omega) (met_X0_grow (d := 3) (Nat.le_refl _) hp7) rfl ?_
  refine zG_run hm 3 (cf' := (166, [some (zr 0 0), some (zi v1), none, some (zi v3), some (zi v4), none, some (zr 16 n6), some (zi v7), some (zi v8)], [zi v3, zi (p7 16 n6 3)], p7)) rfl ?_
  by_cases c8 : ¬ zw (p7 16 n6 3) = zw v3
  · rw [if_pos c8] at h
    refine zG_br hm rfl (cf' := (173, [some (zr 0 0), some (zi v1), none, some (zi v3), some (zi v4), none, some (zr 16 n6), some (zi v7), some (zi v8)], [], p7)) (if_pos c8) ?_
    refine zG_sub (lv' := [some (zr 0 0), some (zi v1), none, some (zi v3), some (zi v4), none, some (zr 16 n6), some (zi v7), some (zi v8)]) (zsb_s rfl (zsb_s rfl (zsb_n (zsb_s rfl (zsb_s rfl (zsb_n (zsb_s rfl (zsb_s rfl (zsb_s rfl zsb_0))))))))) ?_
    exact g_X10_since_j173 hd h kc kb kr
  · rw [if_neg c8] at h
    refine zG_br hm rfl (cf' := (169, [some (zr 0 0), some (zi v1), none, some (zi v3), some (zi v4), none, some (zr 16 n6), some (zi v7), some (zi v8)], [], p7)) (if_neg c8) ?_
    refine zG_run hm 2 (cf' := (173, [some (zr 0 0), some (zi v1), none, some (zi v3), some (zi v4), none, some (zr 16 n6), some (zi v8), some (zi v8)], [], p7)) rfl ?_
    refine zG_sub (lv' := [some (zr 0 0), some (zi v1), none, some (zi v3), some (zi v4), none, some (zr 16 n6), some (zi v8), some (zi v8)]) (zsb_s rfl (zsb_s rfl (zsb_n (zsb_s rfl (zsb_s rfl (zsb_n (zsb_s rfl (zsb_s rfl (zsb_s rfl zsb_0))))))))) ?_
    exact g_X10_since_j173 hd h kc kb kr
def f_X10_since_L121 (v1 : Int) (v3 : Int) (v4 : Int) (n6 : Nat) (v7 : Int) (v8 : Int) (M : zM) : Option ((Int × Int × zM) ⊕ (Int × zM)) :=
  if 60 < zw v8 then
    some (.inr (v7, M))
  else
    if ¬ zw v4 = 0 then
      f_X10_since_j139 v1 v3 v4 n6 v7 v8 M
    else
      if ¬ zw v7 = (-1) then
        some (.inr (v7, M))
      else
        f_X10_since_j139 v1 v3 v4 n6 v7 v8 M
theorem g_X10_since_L121 {v1 : Int} {v3 : Int} {v4 : Int} {n6 : Nat} {v7 : Int} {v8 : Int} {M : zM} {x : (Int × Int × zM) ⊕ (Int × zM)} {r : Option zV} {Mf : zM} {d : Nat} (hd : 4 ≤ d) (h : f_X10_since_L121 v1 v3 v4 n6 v7 v8 M = some x)
    (kc : ∀ s, x = .inl s → zG 97 d (121, [some (zr 0 0), some (zi v1), none, some (zi v3), some (zi v4), none, some (zr 16 n6), some (zi s.1), some (zi s.2.1)], [], s.2.2) r Mf)
    (kb : ∀ t, x = .inr t → zG 97 d (179, [none, none, none, none, none, none, none, some (zi t.1), none], [], t.2) r Mf) (kr : True) : zG 97 d (121, [some (zr 0 0), some (zi v1), none, some (zi v3), some (zi v4), none, some (zr 16 n6), some (zi v7), some (zi v8)], [], M) r Mf := by
  have hm := zmok_97
  unfold f_X10_since_L121 at h
  refine zG_run hm 2 (cf' := (125, [some (zr 0 0), some (zi v1), none, some (zi v3), some (zi v4), none, some (zr 16 n6), some (zi v7), some (zi v8)], [zi 60, zi v8], M)) rfl ?_
  by_cases c11 : 60 < zw v8
  · rw [if_pos c11] at h
    refine zG_br hm rfl (cf' := (179, [some (zr 0 0), some (zi v1), none, some (zi v3), some (zi v4), none, some (zr 16 n6), some (zi v7), some (zi v8)], [], M)) (if_pos c11) ?_
    refine zG_sub (lv' := [none, none, none, none, none, none, none, some (zi v7), none]) (zsb_n (zsb_n (zsb_n (zsb_n (zsb_n (zsb_n (zsb_n (zsb_s rfl (zsb_n zsb_0))))))))) ?_
    exact kb (v7, M) (Option.some.inj h).symm
  · rw [if_neg c11] at h
    refine zG_br hm rfl (cf' := (128, [some (zr 0 0), some (zi v1), none, some (zi v3), some (zi v4), none, some (zr 16 n6), some (zi v7), some (zi v8)], [], M)) (if_neg c11) ?_
    refine zG_run hm 1 (cf' := (130, [some (zr 0 0), some (zi v1), none, some (zi v3), some (zi v4), none, some (zr 16 n6), some (zi v7), some (zi v8)], [zi v4], M)) rfl ?_
    by_cases c10 : ¬ zw v4 = 0
    · rw [if_pos c10] at h
      refine zG_br hm rfl (cf' := (139, [some (zr 0 0), some (zi v1), none, some (zi v3), some (zi v4), none, some (zr 16 n6), some (zi v7), some (zi v8)], [], M)) (if_pos c10) ?_
      refine zG_sub (lv' := [some (zr 0 0), some (zi v1), none, some (zi v3), some (zi v4), none, some (zr 16 n6), some (zi v7), some (zi v8)]) (zsb_s rfl (zsb_s rfl (zsb_n (zsb_s rfl (zsb_s rfl (zsb_n (zsb_s rfl (zsb_s rfl (zsb_s rfl zsb_0))))))))) ?_
      exact g_X10_since_j139 hd h kc kb kr
    · rw [if_neg c10] at h
      refine zG_br hm rfl (cf' := (133, [some (zr 0 0), some (zi v1), none, some (zi v3), some (zi v4), none, some (zr 16 n6), some (zi v7), some (zi v8)], [], M)) (if_neg c10) ?_
      refine zG_run hm 2 (cf' := (136, [some (zr 0 0), some (zi v1), none, some (zi v3), some (zi v4), none, some (zr 16 n6), some (zi v7), some (zi v8)], [zi (-1), zi v7], M)) rfl ?_
      by_cases c9 : ¬ zw v7 = (-1)
      · rw [if_pos c9] at h
        refine zG_br hm rfl (cf' := (179, [some (zr 0 0), some (zi v1), none, some (zi v3), some (zi v4), none, some (zr 16 n6), some (zi v7), some (zi v8)], [], M)) (if_pos c9) ?_
        refine zG_sub (lv' := [none, none, none, none, none, none, none, some (zi v7), none]) (zsb_n (zsb_n (zsb_n (zsb_n (zsb_n (zsb_n (zsb_n (zsb_s rfl (zsb_n zsb_0))))))))) ?_
        exact kb (v7, M) (Option.some.inj h).symm
      · rw [if_neg c9] at h
        refine zG_br hm rfl (cf' := (139, [some (zr 0 0), some (zi v1), none, some (zi v3), some (zi v4), none, some (zr 16 n6), some (zi v7), some (zi v8)], [], M)) (if_neg c9) ?_
        refine zG_sub (lv' := [some (zr 0 0), some (zi v1), none, some (zi v3), some (zi v4), none, some (zr 16 n6), some (zi v7), some (zi v8)]) (zsb_s rfl (zsb_s rfl (zsb_n (zsb_s rfl (zsb_s rfl (zsb_n (zsb_s rfl (zsb_s rfl (zsb_s rfl zsb_0))))))))) ?_
        exact g_X10_since_j139 hd h kc kb kr
theorem gl_X10_since_L121 {v1 : Int} {v3 : Int} {v4 : Int} {n6 : Nat} {y : Int × zM} {r : Option zV} {Mf : zM} {d : Nat} (hd : 4 ≤ d)
    (kb : ∀ t, y = t → zG 97 d (179, [none, none, none, none, none, none, none, some (zi t.1), none], [], t.2) r Mf) (kr : True) : ∀ (n : Nat) (s : Int × Int × zM), zlp (fun s : Int × Int × zM => f_X10_since_L121 v1 v3 v4 n6 s.1 s.2.1 s.2.2) n s = some y → zG 97 d (121, [some (zr 0 0), some (zi v1), none, some (zi v3), some (zi v4), none, some (zr 16 n6), some (zi s.1), some (zi s.2.1)], [], s.2.2) r Mf := by
  intro n
  induction n with
  | zero => intro s h; cases h
  | succ n ih =>
    intro s h
    rcases zlp_cases h with ⟨s', h1, h2⟩ | h1
    · exact g_X10_since_L121 hd h1 (fun s2 e2 => by cases e2; exact ih _ h2) (fun t e2 => by cases e2) trivial
    · exact g_X10_since_L121 hd h1 (fun s2 e2 => by cases e2) (fun t e2 => kb t (Sum.inr.inj e2)) trivial
def f_X10_since_j116 (v1 : Int) (v3 : Int) (v4 : Int) (n6 : Nat) (vs0 : Int) (M : zM) : Option (Int × zM) :=
  (zlp (fun s : Int × Int × zM => f_X10_since_L121 v1 v3 v4 n6 s.1 s.2.1 s.2.2) zF (vs0, 1, M)).bind fun y12 =>
    some (y12.1, y12.2)
theorem g_X10_since_j116 {v1 : Int} {v3 : Int} {v4 : Int} {n6 : Nat} {vs0 : Int} {M : zM} {q : Int × zM} {d : Nat} (hd : 4 ≤ d) (h : f_X10_since_j116 v1 v3 v4 n6 vs0 M = some q) : zG 97 d (116, [some (zr 0 0), some (zi v1), none, some (zi v3), some (zi v4), none, some (zr 16 n6), none, none], [zi vs0], M) (some (zi q.1)) q.2 := by
  have hm := zmok_97
  unfold f_X10_since_j116 at h
  refine zG_run hm 3 (cf' := (121, [some (zr 0 0), some (zi v1), none, some (zi v3), some (zi v4), none, some (zr 16 n6), some (zi vs0), some (zi 1)], [], M)) rfl ?_
  refine zG_sub (lv' := [some (zr 0 0), some (zi v1), none, some (zi v3), some (zi v4), none, some (zr 16 n6), some (zi vs0), some (zi 1)]) (zsb_s rfl (zsb_s rfl (zsb_n (zsb_s rfl (zsb_s rfl (zsb_n (zsb_s rfl (zsb_s rfl (zsb_s rfl zsb_0))))))))) ?_
  obtain ⟨y12, hy12, h⟩ := Option.bind_eq_some_iff.mp h
  refine gl_X10_since_L121 hd (fun t e2 => ?_) trivial zF (vs0, 1, M) hy12
  cases e2
  refine zG_run hm 1 (cf' := (181, [none, none, none, none, none, none, none, some (zi y12.1), none], [zi y12.1], y12.2)) rfl ?_
  cases h
  exact zG_ri hm rfl rfl
def f_X10_since_j84 (v1 : Int) (v2 : Int) (v3 : Int) (v4 : Int) (n6 : Nat) (M : zM) : Option (Int × zM) :=
  zlet (zput M 16 n6 5 (M 11 2 10)) fun M4 =>
  zlet (zput M4 16 n6 3 v2) fun M5 =>
  if ¬ zw (M5 16 n6 3) = zw v3 then
    f_X10_since_j116 v1 v3 v4 n6 (-1) M5
  else
    f_X10_since_j116 v1 v3 v4 n6 0 M5
theorem g_X10_since_j84 {v1 : Int} {v2 : Int} {v3 : Int} {v4 : Int} {n6 : Nat} {M : zM} {q : Int × zM} {d : Nat} (hd : 4 ≤ d) (h : f_X10_since_j84 v1 v2 v3 v4 n6 M = some q) : zG 97 d (84, [some (zr 0 0), some (zi v1), some (zi v2), some (zi v3), some (zi v4), none, some (zr 16 n6), none, none], [], M) (some (zi q.1)) q.2 := by
  have hm := zmok_97
  unfold f_X10_since_j84 at h
  refine zG_run hm 5 (cf' := (96, [some (zr 0 0), some (zi v1), some (zi v2), some (zi v3), some (zi v4), none, some (zr 16 n6), none, none], [], (zput M 16 n6 5 (M 11 2 10)))) rfl ?_
  obtain ⟨M4, eM4, h⟩ := zlet_of h
  rw [eM4]
  refine zG_run hm 3 (cf' := (102, [some (zr 0 0), some (zi v1), some (zi v2), some (zi v3), some (zi v4), none, some (zr 16 n6), none, none], [], (zput M4 16 n6 3 v2))) rfl ?_
  obtain ⟨M5, eM5, h⟩ := zlet_of h
  rw [eM5]
  refine zG_run hm 3 (cf' := (108, [some (zr 0 0), some (zi v1), some (zi v2), some (zi v3), some (zi v4), none, some (zr 16 n6), none, none], [zi v3, zi (M5 16 n6 3)], M5)) rfl ?_
  by_cases c13 : ¬ zw (M5 16 n6 3) = zw v3
  · rw [if_pos c13] at h
    refine zG_br hm rfl (cf' := (115, [some (zr 0 0), some (zi v1), some (zi v2), some (zi v3), some (zi v4), none, some (zr 16 n6), none, none], [], M5)) (if_pos c13) ?_
    refine zG_run hm 1 (cf' := (116, [some (zr 0 0), some (zi v1), some (zi v2), some (zi v3), some (zi v4), none, some (zr 16 n6), none, none], [zi (-1)], M5)) rfl ?_
    refine zG_sub (lv' := [some (zr 0 0), some (zi v1), none, some (zi v3), some (zi v4), none, some (zr 16 n6), none, none]) (zsb_s rfl (zsb_s rfl (zsb_n (zsb_s rfl (zsb_s rfl (zsb_n (zsb_s rfl (zsb_n (zsb_n zsb_0))))))))) ?_
    exact g_X10_since_j116 hd h
  · rw [if_neg c13] at h
    refine zG_br hm rfl (cf' := (111, [some (zr 0 0), some (zi v1), some (zi v2), some (zi v3), some (zi v4), none, some (zr 16 n6), none, none], [], M5)) (if_neg c13) ?_
    refine zG_run hm 2 (cf' := (116, [some (zr 0 0), some (zi v1), some (zi v2), some (zi v3), some (zi v4), none, some (zr 16 n6), none, none], [zi 0], M5)) rfl ?_
    refine zG_sub (lv' := [some (zr 0 0), some (zi v1), none, some (zi v3), some (zi v4), none, some (zr 16 n6), none, none]) (zsb_s rfl (zsb_s rfl (zsb_n (zsb_s rfl (zsb_s rfl (zsb_n (zsb_s rfl (zsb_n (zsb_n zsb_0))))))))) ?_
    exact g_X10_since_j116 hd h
def f_X10_since_j25 (v1 : Int) (v2 : Int) (v3 : Int) (v4 : Int) (vs0 : Int) (M : zM) : Option (Int × zM) :=
  if zw vs0 = 0 then
    some ((-1), M)
  else
    (f_X0_hasThing 0 v1 M).bind fun p2 =>
      if ¬ zw p2.1 = 0 then
        (f_X0_copy 2 0 p2.2).bind fun p3 =>
          if 0 ≤ zw v1 ∧ zw v1 < 8 then
            if zw (p3 16 ((zix v1) + 16) 4) = (-1) then
              f_X10_since_j84 v1 v2 v3 v4 ((zix v1) + 16) p3
            else
              (f_X0_take 2 v1 p3).bind fun p14 =>
                f_X10_since_j84 v1 v2 v3 v4 ((zix v1) + 16) p14
          else
            none
      else
        some ((-1), p2.2)
theorem g_X10_since_j25 {v1 : Int} {v2 : Int} {v3 : Int} {v4 : Int} {vs0 : Int} {M : zM} {q : Int × zM} {d : Nat} (hd : 4 ≤ d) (h : f_X10_since_j25 v1 v2 v3 v4 vs0 M = some q) : zG 97 d (25, [some (zr 0 0), some (zi v1), some (zi v2), some (zi v3), some (zi v4), none, none, none, none], [zi vs0], M) (some (zi q.1)) q.2 := by
  have hm := zmok_97
  unfold f_X10_since_j25 at h
  refine zG_run hm 2 (cf' := (29, [some (zr 0 0), some (zi v1), some (zi v2), some (zi v3), some (zi v4), some (zi vs0), none, none, none], [zi vs0], M)) rfl ?_
  by_cases c18 : zw vs0 = 0
  · rw [if_pos c18] at h
    refine zG_br hm rfl (cf' := (43, [some (zr 0 0), some (zi v1), some (zi v2), some (zi v3), some (zi v4), some (zi vs0), none, none, none], [], M)) (if_pos c18) ?_
    refine zG_run hm 1 (cf' := (44, [some (zr 0 0), some (zi v1), some (zi v2), some (zi v3), some (zi v4), some (zi vs0), none, none, none], [zi (-1)], M)) rfl ?_
    cases h
    exact zG_ri hm rfl rfl
  · rw [if_neg c18] at h
    refine zG_br hm rfl (cf' := (32, [some (zr 0 0), some (zi v1), some (zi v2), some (zi v3), some (zi v4), some (zi vs0), none, none, none], [], M)) (if_neg c18) ?_
    refine zG_run hm 3 (cf' := (37, [some (zr 0 0), some (zi v1), some (zi v2), some (zi v3), some (zi v4), some (zi vs0), none, none, none], [zi v1, zr 11 0], M)) rfl ?_
    obtain ⟨p2, hp2, h⟩ := Option.bind_eq_some_iff.mp h
    refine zG_V hm zmok_4 rfl (as := [zi v1]) (rest := []) (st2 := [zi p2.1]) (pc2 := 40) rfl rfl (by omega) (met_X0_hasThing (d := 0) (Nat.le_refl _) hp2) rfl ?_
    by_cases c17 : ¬ zw p2.1 = 0
    · rw [if_pos c17] at h
      refine zG_br hm rfl (cf' := (45, [some (zr 0 0), some (zi v1), some (zi v2), some (zi v3), some (zi v4), some (zi vs0), none, none, none], [], p2.2)) (if_pos c17) ?_
      refine zG_run hm 4 (cf' := (53, [some (zr 0 0), some (zi v1), some (zi v2), some (zi v3), some (zi v4), some (zi vs0), none, none, none], [zr 11 0, zr 11 2], p2.2)) rfl ?_
      obtain ⟨p3, hp3, h⟩ := Option.bind_eq_some_iff.mp h
      refine zG_V hm zmok_0 rfl (as := [zr 11 0]) (rest := []) (st2 := []) (pc2 := 56) rfl rfl (by omega) (met_X0_copy (d := 1) (Nat.le_refl _) hp3) rfl ?_
      refine zG_run hm 4 (cf' := (64, [some (zr 0 0), some (zi v1), some (zi v2), some (zi v3), some (zi v4), some (zi vs0), none, none, none], [zi v1, zr 14 2], p3)) rfl ?_
      by_cases c16 : 0 ≤ zw v1 ∧ zw v1 < 8
      · rw [if_pos c16] at h
        refine zG_br hm rfl (cf' := (65, [some (zr 0 0), some (zi v1), some (zi v2), some (zi v3), some (zi v4), some (zi vs0), none, none, none], [zr 16 ((zix v1) + 16)], p3)) (if_pos c16) ?_
        refine zG_run hm 4 (cf' := (73, [some (zr 0 0), some (zi v1), some (zi v2), some (zi v3), some (zi v4), some (zi vs0), some (zr 16 ((zix v1) + 16)), none, none], [zi (-1), zi (p3 16 ((zix v1) + 16) 4)], p3)) rfl ?_
        by_cases c15 : zw (p3 16 ((zix v1) + 16) 4) = (-1)
        · rw [if_pos c15] at h
          refine zG_br hm rfl (cf' := (84, [some (zr 0 0), some (zi v1), some (zi v2), some (zi v3), some (zi v4), some (zi vs0), some (zr 16 ((zix v1) + 16)), none, none], [], p3)) (if_pos c15) ?_
          refine zG_sub (lv' := [some (zr 0 0), some (zi v1), some (zi v2), some (zi v3), some (zi v4), none, some (zr 16 ((zix v1) + 16)), none, none]) (zsb_s rfl (zsb_s rfl (zsb_s rfl (zsb_s rfl (zsb_s rfl (zsb_n (zsb_s rfl (zsb_n (zsb_n zsb_0))))))))) ?_
          exact g_X10_since_j84 hd h
        · rw [if_neg c15] at h
          refine zG_br hm rfl (cf' := (76, [some (zr 0 0), some (zi v1), some (zi v2), some (zi v3), some (zi v4), some (zi vs0), some (zr 16 ((zix v1) + 16)), none, none], [], p3)) (if_neg c15) ?_
          refine zG_run hm 3 (cf' := (81, [some (zr 0 0), some (zi v1), some (zi v2), some (zi v3), some (zi v4), some (zi vs0), some (zr 16 ((zix v1) + 16)), none, none], [zi v1, zr 11 2], p3)) rfl ?_
          obtain ⟨p14, hp14, h⟩ := Option.bind_eq_some_iff.mp h
          refine zG_V hm zmok_12 rfl (as := [zi v1]) (rest := []) (st2 := []) (pc2 := 84) rfl rfl (by omega) (met_X0_take (d := 0) (Nat.le_refl _) hp14) rfl ?_
          refine zG_sub (lv' := [some (zr 0 0), some (zi v1), some (zi v2), some (zi v3), some (zi v4), none, some (zr 16 ((zix v1) + 16)), none, none]) (zsb_s rfl (zsb_s rfl (zsb_s rfl (zsb_s rfl (zsb_s rfl (zsb_n (zsb_s rfl (zsb_n (zsb_n zsb_0))))))))) ?_
          exact g_X10_since_j84 hd h
      · rw [if_neg c16] at h
        cases h
    · rw [if_neg c17] at h
      refine zG_br hm rfl (cf' := (43, [some (zr 0 0), some (zi v1), some (zi v2), some (zi v3), some (zi v4), some (zi vs0), none, none, none], [], p2.2)) (if_neg c17) ?_
      refine zG_run hm 1 (cf' := (44, [some (zr 0 0), some (zi v1), some (zi v2), some (zi v3), some (zi v4), some (zi vs0), none, none, none], [zi (-1)], p2.2)) rfl ?_
      cases h
      exact zG_ri hm rfl rfl
def f_X10_since_j24 (v1 : Int) (v2 : Int) (v3 : Int) (v4 : Int) (M : zM) : Option (Int × zM) :=
  f_X10_since_j25 v1 v2 v3 v4 0 M
theorem g_X10_since_j24 {v1 : Int} {v2 : Int} {v3 : Int} {v4 : Int} {M : zM} {q : Int × zM} {d : Nat} (hd : 4 ≤ d) (h : f_X10_since_j24 v1 v2 v3 v4 M = some q) : zG 97 d (24, [some (zr 0 0), some (zi v1), some (zi v2), some (zi v3), some (zi v4), none, none, none, none], [], M) (some (zi q.1)) q.2 := by
  have hm := zmok_97
  unfold f_X10_since_j24 at h
  refine zG_run hm 1 (cf' := (25, [some (zr 0 0), some (zi v1), some (zi v2), some (zi v3), some (zi v4), none, none, none, none], [zi 0], M)) rfl ?_
  refine zG_sub (lv' := [some (zr 0 0), some (zi v1), some (zi v2), some (zi v3), some (zi v4), none, none, none, none]) (zsb_s rfl (zsb_s rfl (zsb_s rfl (zsb_s rfl (zsb_s rfl (zsb_n (zsb_n (zsb_n (zsb_n zsb_0))))))))) ?_
  exact g_X10_since_j25 hd h
def f_X10_since (v1 : Int) (v2 : Int) (v3 : Int) (v4 : Int) (M : zM) : Option (Int × zM) :=
  (f_X10_within v2 0 99 M).bind fun p1 =>
    if zw p1.1 = 0 then
      f_X10_since_j24 v1 v2 v3 v4 p1.2
    else
      (f_X10_within v3 0 99 p1.2).bind fun p19 =>
        if zw p19.1 = 0 then
          f_X10_since_j24 v1 v2 v3 v4 p19.2
        else
          f_X10_since_j25 v1 v2 v3 v4 1 p19.2
theorem g_X10_since {v1 : Int} {v2 : Int} {v3 : Int} {v4 : Int} {M : zM} {q : Int × zM} {d : Nat} (hd : 4 ≤ d) (h : f_X10_since v1 v2 v3 v4 M = some q) : zG 97 d (0, [some (zr 0 0), some (zi v1), some (zi v2), some (zi v3), some (zi v4), none, none, none, none], [], M) (some (zi q.1)) q.2 := by
  have hm := zmok_97
  unfold f_X10_since at h
  refine zG_run hm 3 (cf' := (4, [some (zr 0 0), some (zi v1), some (zi v2), some (zi v3), some (zi v4), none, none, none, none], [zi 99, zi 0, zi v2], M)) rfl ?_
  obtain ⟨p1, hp1, h⟩ := Option.bind_eq_some_iff.mp h
  refine zG_S hm zmok_108 rfl (as := [zi v2, zi 0, zi 99]) (rest := []) (st2 := [zi p1.1]) (pc2 := 7) rfl rfl (by omega) (met_X10_within (d := 0) (Nat.le_refl _) hp1) rfl ?_
  by_cases c21 : zw p1.1 = 0
  · rw [if_pos c21] at h
    refine zG_br hm rfl (cf' := (24, [some (zr 0 0), some (zi v1), some (zi v2), some (zi v3), some (zi v4), none, none, none, none], [], p1.2)) (if_pos c21) ?_
    refine zG_sub (lv' := [some (zr 0 0), some (zi v1), some (zi v2), some (zi v3), some (zi v4), none, none, none, none]) (zsb_s rfl (zsb_s rfl (zsb_s rfl (zsb_s rfl (zsb_s rfl (zsb_n (zsb_n (zsb_n (zsb_n zsb_0))))))))) ?_
    exact g_X10_since_j24 hd h
  · rw [if_neg c21] at h
    refine zG_br hm rfl (cf' := (10, [some (zr 0 0), some (zi v1), some (zi v2), some (zi v3), some (zi v4), none, none, none, none], [], p1.2)) (if_neg c21) ?_
    refine zG_run hm 3 (cf' := (14, [some (zr 0 0), some (zi v1), some (zi v2), some (zi v3), some (zi v4), none, none, none, none], [zi 99, zi 0, zi v3], p1.2)) rfl ?_
    obtain ⟨p19, hp19, h⟩ := Option.bind_eq_some_iff.mp h
    refine zG_S hm zmok_108 rfl (as := [zi v3, zi 0, zi 99]) (rest := []) (st2 := [zi p19.1]) (pc2 := 17) rfl rfl (by omega) (met_X10_within (d := 0) (Nat.le_refl _) hp19) rfl ?_
    by_cases c20 : zw p19.1 = 0
    · rw [if_pos c20] at h
      refine zG_br hm rfl (cf' := (24, [some (zr 0 0), some (zi v1), some (zi v2), some (zi v3), some (zi v4), none, none, none, none], [], p19.2)) (if_pos c20) ?_
      refine zG_sub (lv' := [some (zr 0 0), some (zi v1), some (zi v2), some (zi v3), some (zi v4), none, none, none, none]) (zsb_s rfl (zsb_s rfl (zsb_s rfl (zsb_s rfl (zsb_s rfl (zsb_n (zsb_n (zsb_n (zsb_n zsb_0))))))))) ?_
      exact g_X10_since_j24 hd h
    · rw [if_neg c20] at h
      refine zG_br hm rfl (cf' := (20, [some (zr 0 0), some (zi v1), some (zi v2), some (zi v3), some (zi v4), none, none, none, none], [], p19.2)) (if_neg c20) ?_
      refine zG_run hm 2 (cf' := (25, [some (zr 0 0), some (zi v1), some (zi v2), some (zi v3), some (zi v4), none, none, none, none], [zi 1], p19.2)) rfl ?_
      refine zG_sub (lv' := [some (zr 0 0), some (zi v1), some (zi v2), some (zi v3), some (zi v4), none, none, none, none]) (zsb_s rfl (zsb_s rfl (zsb_s rfl (zsb_s rfl (zsb_s rfl (zsb_n (zsb_n (zsb_n (zsb_n zsb_0))))))))) ?_
      exact g_X10_since_j25 hd h
theorem met_X10_since {v1 : Int} {v2 : Int} {v3 : Int} {v4 : Int} {M : zM} {q : Int × zM} {d : Nat} (hd : 4 ≤ d) (h : f_X10_since v1 v2 v3 v4 M = some q) : zMet 97 d [zr 0 0, zi v1, zi v2, zi v3, zi v4] M (some (zi q.1)) q.2 :=
  zMet_of (lv0 := [some (zr 0 0), some (zi v1), some (zi v2), some (zi v3), some (zi v4), none, none, none, none]) zmok_97 rfl rfl (fun v hv => by cases hv; trivial) (g_X10_since hd h)
def f_X11_since_j139 (v1 : Int) (v3 : Int) (v4 : Int) (v5 : Int) (v6 : Int) (M : zM) : Option ((Int × Int × zM) ⊕ (Int × zM)) :=
  zlet (zput M 68 0 38 ((M 68 0 38) + 1)) fun M9 =>
  if 0 ≤ zw (6 + v1) ∧ zw (6 + v1) < 161 then
    (f_X11_dearsOf v1 M9).bind fun p10 =>
      (f_X11_held (zw ((M9 68 0 (zix (6 + v1))) + p10.1)) 0 99 p10.2).bind fun p11 =>
        if 0 ≤ zw (6 + v1) ∧ zw (6 + v1) < 161 then
          zlet (zput p11.2 68 0 (zix (6 + v1)) p11.1) fun M12 =>
          some (.inl (v5, (v6 + 1), M12))
        else
          none
  else
    none
theorem g_X11_since_j139 {v1 : Int} {v3 : Int} {v4 : Int} {v5 : Int} {v6 : Int} {M : zM} {x : (Int × Int × zM) ⊕ (Int × zM)} {r : Option zV} {Mf : zM} {d : Nat} (hd : 4 ≤ d) (h : f_X11_since_j139 v1 v3 v4 v5 v6 M = some x)
    (kc : ∀ s, x = .inl s → zG 212 d (104, [some (zr 42 0), some (zi v1), none, some (zi v3), some (zi v4), some (zi s.1), some (zi s.2.1)], [], s.2.2) r Mf)
    (kb : ∀ t, x = .inr t → zG 212 d (187, [none, none, none, none, none, some (zi t.1), none], [], t.2) r Mf) (kr : True) : zG 212 d (139, [some (zr 42 0), some (zi v1), none, some (zi v3), some (zi v4), some (zi v5), some (zi v6)], [], M) r Mf := by
  have hm := zmok_212
  unfold f_X11_since_j139 at h
  refine zG_run hm 8 (cf' := (150, [some (zr 42 0), some (zi v1), none, some (zi v3), some (zi v4), some (zi v5), some (zi v6)], [], (zput M 68 0 38 ((M 68 0 38) + 1)))) rfl ?_
  obtain ⟨M9, eM9, h⟩ := zlet_of h
  rw [eM9]
  refine zG_run hm 10 (cf' := (166, [some (zr 42 0), some (zi v1), none, some (zi v3), some (zi v4), some (zi v5), some (zi v6)], [zi (6 + v1), zr 68 0, zi (6 + v1), zr 68 0], M9)) rfl ?_
  by_cases c14 : 0 ≤ zw (6 + v1) ∧ zw (6 + v1) < 161
  · rw [if_pos c14] at h
    refine zG_br hm rfl (cf' := (167, [some (zr 42 0), some (zi v1), none, some (zi v3), some (zi v4), some (zi v5), some (zi v6)], [zi (M9 68 0 (zix (6 + v1))), zi (6 + v1), zr 68 0], M9)) (if_pos c14) ?_
    refine zG_run hm 2 (cf' := (169, [some (zr 42 0), some (zi v1), none, some (zi v3), some (zi v4), some (zi v5), some (zi v6)], [zi v1, zr 42 0, zi (M9 68 0 (zix (6 + v1))), zi (6 + v1), zr 68 0], M9)) rfl ?_
    obtain ⟨p10, hp10, h⟩ := Option.bind_eq_some_iff.mp h
    refine zG_V hm zmok_175 rfl (as := [zi v1]) (rest := [zi (M9 68 0 (zix (6 + v1))), zi (6 + v1), zr 68 0]) (st2 := [zi p10.1, zi (M9 68 0 (zix (6 + v1))), zi (6 + v1), zr 68 0]) (pc2 := 172) rfl rfl (by omega) (met_X11_dearsOf (d := 3) (Nat.le_refl _) hp10) rfl ?_
    refine zG_run hm 4 (cf' := (177, [some (zr 42 0), some (zi v1), none, some (zi v3), some (zi v4), some (zi v5), some (zi v6)], [zi 99, zi 0, zl (zw ((M9 68 0 (zix (6 + v1))) + p10.1)), zi (6 + v1), zr 68 0], p10.2)) rfl ?_
    obtain ⟨p11, hp11, h⟩ := Option.bind_eq_some_iff.mp h
    refine zG_S hm zmok_120 rfl (as := [zl (zw ((M9 68 0 (zix (6 + v1))) + p10.1)), zi 0, zi 99]) (rest := [zi (6 + v1), zr 68 0]) (st2 := [zi p11.1, zi (6 + v1), zr 68 0]) (pc2 := 180) rfl rfl (by omega) (met_X11_held (d := 0) (Nat.le_refl _) hp11) rfl ?_
    by_cases c13 : 0 ≤ zw (6 + v1) ∧ zw (6 + v1) < 161
    · rw [if_pos c13] at h
      refine zG_br hm rfl (cf' := (181, [some (zr 42 0), some (zi v1), none, some (zi v3), some (zi v4), some (zi v5), some (zi v6)], [], (zput p11.2 68 0 (zix (6 + v1)) p11.1))) (if_pos c13) ?_
      obtain ⟨M12, eM12, h⟩ := zlet_of h
      rw [eM12]
      refine zG_run hm 2 (cf' := (104, [some (zr 42 0), some (zi v1), none, some (zi v3), some (zi v4), some (zi v5), some (zi (v6 + 1))], [], M12)) rfl ?_
      refine zG_sub (lv' := [some (zr 42 0), some (zi v1), none, some (zi v3), some (zi v4), some (zi v5), some (zi (v6 + 1))]) (zsb_s rfl (zsb_s rfl (zsb_n (zsb_s rfl (zsb_s rfl (zsb_s rfl (zsb_s rfl zsb_0))))))) ?_
      exact kc (v5, (v6 + 1), M12) (Option.some.inj h).symm
    · rw [if_neg c13] at h
      cases h
  · rw [if_neg c14] at h
    cases h
def f_X11_since_j135 (v1 : Int) (v3 : Int) (v4 : Int) (v6 : Int) (M : zM) : Option ((Int × Int × zM) ⊕ (Int × zM)) :=
  f_X11_since_j139 v1 v3 v4 v6 v6 M
theorem g_X11_since_j135 {v1 : Int} {v3 : Int} {v4 : Int} {v6 : Int} {M : zM} {x : (Int × Int × zM) ⊕ (Int × zM)} {r : Option zV} {Mf : zM} {d : Nat} (hd : 4 ≤ d) (h : f_X11_since_j135 v1 v3 v4 v6 M = some x)
    (kc : ∀ s, x = .inl s → zG 212 d (104, [some (zr 42 0), some (zi v1), none, some (zi v3), some (zi v4), some (zi s.1), some (zi s.2.1)], [], s.2.2) r Mf)
    (kb : ∀ t, x = .inr t → zG 212 d (187, [none, none, none, none, none, some (zi t.1), none], [], t.2) r Mf) (kr : True) : zG 212 d (135, [some (zr 42 0), some (zi v1), none, some (zi v3), some (zi v4), none, some (zi v6)], [], M) r Mf := by
  have hm := zmok_212
  unfold f_X11_since_j135 at h
  refine zG_run hm 2 (cf' := (139, [some (zr 42 0), some (zi v1), none, some (zi v3), some (zi v4), some (zi v6), some (zi v6)], [], M)) rfl ?_
  refine zG_sub (lv' := [some (zr 42 0), some (zi v1), none, some (zi v3), some (zi v4), some (zi v6), some (zi v6)]) (zsb_s rfl (zsb_s rfl (zsb_n (zsb_s rfl (zsb_s rfl (zsb_s rfl (zsb_s rfl zsb_0))))))) ?_
  exact g_X11_since_j139 hd h kc kb kr
def f_X11_since_L104 (v1 : Int) (v3 : Int) (v4 : Int) (v5 : Int) (v6 : Int) (M : zM) : Option ((Int × Int × zM) ⊕ (Int × zM)) :=
  if 61 ≤ zw v6 then
    some (.inr (v5, M))
  else
    if 0 ≤ zw (6 + v1) ∧ zw (6 + v1) < 161 then
      if ¬ zw (M 68 0 (zix (6 + v1))) = zw v3 then
        f_X11_since_j139 v1 v3 v4 v5 v6 M
      else
        if ¬ zw v4 = 0 then
          f_X11_since_j135 v1 v3 v4 v6 M
        else
          if ¬ zw v5 = (-1) then
            f_X11_since_j139 v1 v3 v4 v5 v6 M
          else
            f_X11_since_j135 v1 v3 v4 v6 M
    else
      none
theorem g_X11_since_L104 {v1 : Int} {v3 : Int} {v4 : Int} {v5 : Int} {v6 : Int} {M : zM} {x : (Int × Int × zM) ⊕ (Int × zM)} {r : Option zV} {Mf : zM} {d : Nat} (hd : 4 ≤ d) (h : f_X11_since_L104 v1 v3 v4 v5 v6 M = some x)
    (kc : ∀ s, x = .inl s → zG 212 d (104, [some (zr 42 0), some (zi v1), none, some (zi v3), some (zi v4), some (zi s.1), some (zi s.2.1)], [], s.2.2) r Mf)
    (kb : ∀ t, x = .inr t → zG 212 d (187, [none, none, none, none, none, some (zi t.1), none], [], t.2) r Mf) (kr : True) : zG 212 d (104, [some (zr 42 0), some (zi v1), none, some (zi v3), some (zi v4), some (zi v5), some (zi v6)], [], M) r Mf := by
  have hm := zmok_212
  unfold f_X11_since_L104 at h
  refine zG_run hm 2 (cf' := (108, [some (zr 42 0), some (zi v1), none, some (zi v3), some (zi v4), some (zi v5), some (zi v6)], [zi 61, zi v6], M)) rfl ?_
  by_cases c19 : 61 ≤ zw v6
  · rw [if_pos c19] at h
    refine zG_br hm rfl (cf' := (187, [some (zr 42 0), some (zi v1), none, some (zi v3), some (zi v4), some (zi v5), some (zi v6)], [], M)) (if_pos c19) ?_
    refine zG_sub (lv' := [none, none, none, none, none, some (zi v5), none]) (zsb_n (zsb_n (zsb_n (zsb_n (zsb_n (zsb_s rfl (zsb_n zsb_0))))))) ?_
    exact kb (v5, M) (Option.some.inj h).symm
  · rw [if_neg c19] at h
    refine zG_br hm rfl (cf' := (111, [some (zr 42 0), some (zi v1), none, some (zi v3), some (zi v4), some (zi v5), some (zi v6)], [], M)) (if_neg c19) ?_
    refine zG_run hm 5 (cf' := (119, [some (zr 42 0), some (zi v1), none, some (zi v3), some (zi v4), some (zi v5), some (zi v6)], [zi (6 + v1), zr 68 0], M)) rfl ?_
    by_cases c18 : 0 ≤ zw (6 + v1) ∧ zw (6 + v1) < 161
    · rw [if_pos c18] at h
      refine zG_br hm rfl (cf' := (120, [some (zr 42 0), some (zi v1), none, some (zi v3), some (zi v4), some (zi v5), some (zi v6)], [zi (M 68 0 (zix (6 + v1)))], M)) (if_pos c18) ?_
      refine zG_run hm 1 (cf' := (121, [some (zr 42 0), some (zi v1), none, some (zi v3), some (zi v4), some (zi v5), some (zi v6)], [zi v3, zi (M 68 0 (zix (6 + v1)))], M)) rfl ?_
      by_cases c17 : ¬ zw (M 68 0 (zix (6 + v1))) = zw v3
      · rw [if_pos c17] at h
        refine zG_br hm rfl (cf' := (139, [some (zr 42 0), some (zi v1), none, some (zi v3), some (zi v4), some (zi v5), some (zi v6)], [], M)) (if_pos c17) ?_
        refine zG_sub (lv' := [some (zr 42 0), some (zi v1), none, some (zi v3), some (zi v4), some (zi v5), some (zi v6)]) (zsb_s rfl (zsb_s rfl (zsb_n (zsb_s rfl (zsb_s rfl (zsb_s rfl (zsb_s rfl zsb_0))))))) ?_
        exact g_X11_since_j139 hd h kc kb kr
      · rw [if_neg c17] at h
        refine zG_br hm rfl (cf' := (124, [some (zr 42 0), some (zi v1), none, some (zi v3), some (zi v4), some (zi v5), some (zi v6)], [], M)) (if_neg c17) ?_
        refine zG_run hm 1 (cf' := (126, [some (zr 42 0), some (zi v1), none, some (zi v3), some (zi v4), some (zi v5), some (zi v6)], [zi v4], M)) rfl ?_
        by_cases c16 : ¬ zw v4 = 0
        · rw [if_pos c16] at h
          refine zG_br hm rfl (cf' := (135, [some (zr 42 0), some (zi v1), none, some (zi v3), some (zi v4), some (zi v5), some (zi v6)], [], M)) (if_pos c16) ?_
          refine zG_sub (lv' := [some (zr 42 0), some (zi v1), none, some (zi v3), some (zi v4), none, some (zi v6)]) (zsb_s rfl (zsb_s rfl (zsb_n (zsb_s rfl (zsb_s rfl (zsb_n (zsb_s rfl zsb_0))))))) ?_
          exact g_X11_since_j135 hd h kc kb kr
        · rw [if_neg c16] at h
          refine zG_br hm rfl (cf' := (129, [some (zr 42 0), some (zi v1), none, some (zi v3), some (zi v4), some (zi v5), some (zi v6)], [], M)) (if_neg c16) ?_
          refine zG_run hm 2 (cf' := (132, [some (zr 42 0), some (zi v1), none, some (zi v3), some (zi v4), some (zi v5), some (zi v6)], [zi (-1), zi v5], M)) rfl ?_
          by_cases c15 : ¬ zw v5 = (-1)
          · rw [if_pos c15] at h
            refine zG_br hm rfl (cf' := (139, [some (zr 42 0), some (zi v1), none, some (zi v3), some (zi v4), some (zi v5), some (zi v6)], [], M)) (if_pos c15) ?_
            refine zG_sub (lv' := [some (zr 42 0), some (zi v1), none, some (zi v3), some (zi v4), some (zi v5), some (zi v6)]) (zsb_s rfl (zsb_s rfl (zsb_n (zsb_s rfl (zsb_s rfl (zsb_s rfl (zsb_s rfl zsb_0))))))) ?_
            exact g_X11_since_j139 hd h kc kb kr
          · rw [if_neg c15] at h
            refine zG_br hm rfl (cf' := (135, [some (zr 42 0), some (zi v1), none, some (zi v3), some (zi v4), some (zi v5), some (zi v6)], [], M)) (if_neg c15) ?_
            refine zG_sub (lv' := [some (zr 42 0), some (zi v1), none, some (zi v3), some (zi v4), none, some (zi v6)]) (zsb_s rfl (zsb_s rfl (zsb_n (zsb_s rfl (zsb_s rfl (zsb_n (zsb_s rfl zsb_0))))))) ?_
            exact g_X11_since_j135 hd h kc kb kr
    · rw [if_neg c18] at h
      cases h
theorem gl_X11_since_L104 {v1 : Int} {v3 : Int} {v4 : Int} {y : Int × zM} {r : Option zV} {Mf : zM} {d : Nat} (hd : 4 ≤ d)
    (kb : ∀ t, y = t → zG 212 d (187, [none, none, none, none, none, some (zi t.1), none], [], t.2) r Mf) (kr : True) : ∀ (n : Nat) (s : Int × Int × zM), zlp (fun s : Int × Int × zM => f_X11_since_L104 v1 v3 v4 s.1 s.2.1 s.2.2) n s = some y → zG 212 d (104, [some (zr 42 0), some (zi v1), none, some (zi v3), some (zi v4), some (zi s.1), some (zi s.2.1)], [], s.2.2) r Mf := by
  intro n
  induction n with
  | zero => intro s h; cases h
  | succ n ih =>
    intro s h
    rcases zlp_cases h with ⟨s', h1, h2⟩ | h1
    · exact g_X11_since_L104 hd h1 (fun s2 e2 => by cases e2; exact ih _ h2) (fun t e2 => by cases e2) trivial
    · exact g_X11_since_L104 hd h1 (fun s2 e2 => by cases e2) (fun t e2 => kb t (Sum.inr.inj e2)) trivial
def f_X11_since_j71 (v1 : Int) (v2 : Int) (v3 : Int) (v4 : Int) (vs0 : Int) (vs1 : Int) (M : zM) : Option (Int × zM) :=
  if 0 ≤ zw vs1 ∧ zw vs1 < 161 then
    zlet (zput M 68 0 (zix vs1) vs0) fun M6 =>
    if 0 ≤ zw (22 + v1) ∧ zw (22 + v1) < 161 then
      zlet (zput M6 68 0 (zix (22 + v1)) (M6 68 0 38)) fun M7 =>
      if 0 ≤ zw (6 + v1) ∧ zw (6 + v1) < 161 then
        zlet (zput M7 68 0 (zix (6 + v1)) v2) fun M8 =>
        (zlp (fun s : Int × Int × zM => f_X11_since_L104 v1 v3 v4 s.1 s.2.1 s.2.2) zF ((-1), 0, M8)).bind fun y20 =>
          some (y20.1, y20.2)
      else
        none
    else
      none
  else
    none
theorem g_X11_since_j71 {v1 : Int} {v2 : Int} {v3 : Int} {v4 : Int} {vs0 : Int} {vs1 : Int} {M : zM} {q : Int × zM} {d : Nat} (hd : 4 ≤ d) (h : f_X11_since_j71 v1 v2 v3 v4 vs0 vs1 M = some q) : zG 212 d (71, [some (zr 42 0), some (zi v1), some (zi v2), some (zi v3), some (zi v4), none, none], [zi vs0, zi vs1, zr 68 0], M) (some (zi q.1)) q.2 := by
  have hm := zmok_212
  unfold f_X11_since_j71 at h
  by_cases c23 : 0 ≤ zw vs1 ∧ zw vs1 < 161
  · rw [if_pos c23] at h
    refine zG_br hm rfl (cf' := (72, [some (zr 42 0), some (zi v1), some (zi v2), some (zi v3), some (zi v4), none, none], [], (zput M 68 0 (zix vs1) vs0))) (if_pos c23) ?_
    obtain ⟨M6, eM6, h⟩ := zlet_of h
    rw [eM6]
    refine zG_run hm 9 (cf' := (87, [some (zr 42 0), some (zi v1), some (zi v2), some (zi v3), some (zi v4), none, none], [zi (M6 68 0 38), zi (22 + v1), zr 68 0], M6)) rfl ?_
    by_cases c22 : 0 ≤ zw (22 + v1) ∧ zw (22 + v1) < 161
    · rw [if_pos c22] at h
      refine zG_br hm rfl (cf' := (88, [some (zr 42 0), some (zi v1), some (zi v2), some (zi v3), some (zi v4), none, none], [], (zput M6 68 0 (zix (22 + v1)) (M6 68 0 38)))) (if_pos c22) ?_
      obtain ⟨M7, eM7, h⟩ := zlet_of h
      rw [eM7]
      refine zG_run hm 6 (cf' := (97, [some (zr 42 0), some (zi v1), some (zi v2), some (zi v3), some (zi v4), none, none], [zi v2, zi (6 + v1), zr 68 0], M7)) rfl ?_
      by_cases c21 : 0 ≤ zw (6 + v1) ∧ zw (6 + v1) < 161
      · rw [if_pos c21] at h
        refine zG_br hm rfl (cf' := (98, [some (zr 42 0), some (zi v1), some (zi v2), some (zi v3), some (zi v4), none, none], [], (zput M7 68 0 (zix (6 + v1)) v2))) (if_pos c21) ?_
        obtain ⟨M8, eM8, h⟩ := zlet_of h
        rw [eM8]
        refine zG_run hm 4 (cf' := (104, [some (zr 42 0), some (zi v1), some (zi v2), some (zi v3), some (zi v4), some (zi (-1)), some (zi 0)], [], M8)) rfl ?_
        refine zG_sub (lv' := [some (zr 42 0), some (zi v1), none, some (zi v3), some (zi v4), some (zi (-1)), some (zi 0)]) (zsb_s rfl (zsb_s rfl (zsb_n (zsb_s rfl (zsb_s rfl (zsb_s rfl (zsb_s rfl zsb_0))))))) ?_
        obtain ⟨y20, hy20, h⟩ := Option.bind_eq_some_iff.mp h
        refine gl_X11_since_L104 hd (fun t e2 => ?_) trivial zF ((-1), 0, M8) hy20
        cases e2
        refine zG_run hm 1 (cf' := (189, [none, none, none, none, none, some (zi y20.1), none], [zi y20.1], y20.2)) rfl ?_
        cases h
        exact zG_ri hm rfl rfl
      · rw [if_neg c21] at h
        cases h
    · rw [if_neg c22] at h
      cases h
  · rw [if_neg c23] at h
    cases h
def f_X11_since (v1 : Int) (v2 : Int) (v3 : Int) (v4 : Int) (M : zM) : Option (Int × zM) :=
  (f_X11_isThing v1 M).bind fun p1 =>
    if zw p1.1 = 0 then
      some ((-1), p1.2)
    else
      (f_X11_in v2 0 99 p1.2).bind fun p2 =>
        if zw p2.1 = 0 then
          some ((-1), p2.2)
        else
          (f_X11_in v3 0 99 p2.2).bind fun p3 =>
            if ¬ zw p3.1 = 0 then
              (f_X11_laysNow  p3.2).bind fun p4 =>
                (f_X11_isKept v1 p4).bind fun p5 =>
                  if zw p5.1 = 0 then
                    if 0 ≤ zw (14 + v1) ∧ zw (14 + v1) < 161 then
                      f_X11_since_j71 v1 v2 v3 v4 (p5.2 68 0 (zix (14 + v1))) (30 + v1) p5.2
                    else
                      none
                  else
                    if 0 ≤ zw (30 + v1) ∧ zw (30 + v1) < 161 then
                      f_X11_since_j71 v1 v2 v3 v4 (p5.2 68 0 (zix (30 + v1))) (30 + v1) p5.2
                    else
                      none
            else
              some ((-1), p3.2)
theorem g_X11_since {v1 : Int} {v2 : Int} {v3 : Int} {v4 : Int} {M : zM} {q : Int × zM} {d : Nat} (hd : 4 ≤ d) (h : f_X11_since v1 v2 v3 v4 M = some q) : zG 212 d (0, [some (zr 42 0), some (zi v1), some (zi v2), some (zi v3), some (zi v4), none, none], [], M) (some (zi q.1)) q.2 := by
  have hm := zmok_212
  unfold f_X11_since at h
  refine zG_run hm 2 (cf' := (2, [some (zr 42 0), some (zi v1), some (zi v2), some (zi v3), some (zi v4), none, none], [zi v1, zr 42 0], M)) rfl ?_
  obtain ⟨p1, hp1, h⟩ := Option.bind_eq_some_iff.mp h
  refine zG_V hm zmok_123 rfl (as := [zi v1]) (rest := []) (st2 := [zi p1.1]) (pc2 := 5) rfl rfl (by omega) (met_X11_isThing (d := 1) (Nat.le_refl _) hp1) rfl ?_
  by_cases c29 : zw p1.1 = 0
  · rw [if_pos c29] at h
    refine zG_br hm rfl (cf' := (28, [some (zr 42 0), some (zi v1), some (zi v2), some (zi v3), some (zi v4), none, none], [], p1.2)) (if_pos c29) ?_
    refine zG_run hm 1 (cf' := (29, [some (zr 42 0), some (zi v1), some (zi v2), some (zi v3), some (zi v4), none, none], [zi (-1)], p1.2)) rfl ?_
    cases h
    exact zG_ri hm rfl rfl
  · rw [if_neg c29] at h
    refine zG_br hm rfl (cf' := (8, [some (zr 42 0), some (zi v1), some (zi v2), some (zi v3), some (zi v4), none, none], [], p1.2)) (if_neg c29) ?_
    refine zG_run hm 3 (cf' := (12, [some (zr 42 0), some (zi v1), some (zi v2), some (zi v3), some (zi v4), none, none], [zi 99, zi 0, zi v2], p1.2)) rfl ?_
    obtain ⟨p2, hp2, h⟩ := Option.bind_eq_some_iff.mp h
    refine zG_S hm zmok_117 rfl (as := [zi v2, zi 0, zi 99]) (rest := []) (st2 := [zi p2.1]) (pc2 := 15) rfl rfl (by omega) (met_X11_in (d := 0) (Nat.le_refl _) hp2) rfl ?_
    by_cases c28 : zw p2.1 = 0
    · rw [if_pos c28] at h
      refine zG_br hm rfl (cf' := (28, [some (zr 42 0), some (zi v1), some (zi v2), some (zi v3), some (zi v4), none, none], [], p2.2)) (if_pos c28) ?_
      refine zG_run hm 1 (cf' := (29, [some (zr 42 0), some (zi v1), some (zi v2), some (zi v3), some (zi v4), none, none], [zi (-1)], p2.2)) rfl ?_
      cases h
      exact zG_ri hm rfl rfl
    · rw [if_neg c28] at h
      refine zG_br hm rfl (cf' := (18, [some (zr 42 0), some (zi v1), some (zi v2), some (zi v3), some (zi v4), none, none], [], p2.2)) (if_neg c28) ?_
      refine zG_run hm 3 (cf' := (22, [some (zr 42 0), some (zi v1), some (zi v2), some (zi v3), some (zi v4), none, none], [zi 99, zi 0, zi v3], p2.2)) rfl ?_
      obtain ⟨p3, hp3, h⟩ := Option.bind_eq_some_iff.mp h
      refine zG_S hm zmok_117 rfl (as := [zi v3, zi 0, zi 99]) (rest := []) (st2 := [zi p3.1]) (pc2 := 25) rfl rfl (by omega) (met_X11_in (d := 0) (Nat.le_refl _) hp3) rfl ?_
      by_cases c27 : ¬ zw p3.1 = 0
      · rw [if_pos c27] at h
        refine zG_br hm rfl (cf' := (30, [some (zr 42 0), some (zi v1), some (zi v2), some (zi v3), some (zi v4), none, none], [], p3.2)) (if_pos c27) ?_
        refine zG_run hm 1 (cf' := (31, [some (zr 42 0), some (zi v1), some (zi v2), some (zi v3), some (zi v4), none, none], [zr 42 0], p3.2)) rfl ?_
        obtain ⟨p4, hp4, h⟩ := Option.bind_eq_some_iff.mp h
        refine zG_V hm zmok_171 rfl (as := []) (rest := []) (st2 := []) (pc2 := 34) rfl rfl (by omega) (met_X11_laysNow (d := 0) (Nat.le_refl _) hp4) rfl ?_
        refine zG_run hm 7 (cf' := (44, [some (zr 42 0), some (zi v1), some (zi v2), some (zi v3), some (zi v4), none, none], [zi v1, zr 42 0, zi (30 + v1), zr 68 0], p4)) rfl ?_
        obtain ⟨p5, hp5, h⟩ := Option.bind_eq_some_iff.mp h
        refine zG_V hm zmok_173 rfl (as := [zi v1]) (rest := [zi (30 + v1), zr 68 0]) (st2 := [zi p5.1, zi (30 + v1), zr 68 0]) (pc2 := 47) rfl rfl (by omega) (met_X11_isKept (d := 0) (Nat.le_refl _) hp5) rfl ?_
        by_cases c26 : zw p5.1 = 0
        · rw [if_pos c26] at h
          refine zG_br hm rfl (cf' := (62, [some (zr 42 0), some (zi v1), some (zi v2), some (zi v3), some (zi v4), none, none], [zi (30 + v1), zr 68 0], p5.2)) (if_pos c26) ?_
          refine zG_run hm 5 (cf' := (70, [some (zr 42 0), some (zi v1), some (zi v2), some (zi v3), some (zi v4), none, none], [zi (14 + v1), zr 68 0, zi (30 + v1), zr 68 0], p5.2)) rfl ?_
          by_cases c24 : 0 ≤ zw (14 + v1) ∧ zw (14 + v1) < 161
          · rw [if_pos c24] at h
            refine zG_br hm rfl (cf' := (71, [some (zr 42 0), some (zi v1), some (zi v2), some (zi v3), some (zi v4), none, none], [zi (p5.2 68 0 (zix (14 + v1))), zi (30 + v1), zr 68 0], p5.2)) (if_pos c24) ?_
            refine zG_sub (lv' := [some (zr 42 0), some (zi v1), some (zi v2), some (zi v3), some (zi v4), none, none]) (zsb_s rfl (zsb_s rfl (zsb_s rfl (zsb_s rfl (zsb_s rfl (zsb_n (zsb_n zsb_0))))))) ?_
            exact g_X11_since_j71 hd h
          · rw [if_neg c24] at h
            cases h
        · rw [if_neg c26] at h
          refine zG_br hm rfl (cf' := (50, [some (zr 42 0), some (zi v1), some (zi v2), some (zi v3), some (zi v4), none, none], [zi (30 + v1), zr 68 0], p5.2)) (if_neg c26) ?_
          refine zG_run hm 5 (cf' := (58, [some (zr 42 0), some (zi v1), some (zi v2), some (zi v3), some (zi v4), none, none], [zi (30 + v1), zr 68 0, zi (30 + v1), zr 68 0], p5.2)) rfl ?_
          by_cases c25 : 0 ≤ zw (30 + v1) ∧ zw (30 + v1) < 161
          · rw [if_pos c25] at h
            refine zG_br hm rfl (cf' := (59, [some (zr 42 0), some (zi v1), some (zi v2), some (zi v3), some (zi v4), none, none], [zi (p5.2 68 0 (zix (30 + v1))), zi (30 + v1), zr 68 0], p5.2)) (if_pos c25) ?_
            refine zG_run hm 1 (cf' := (71, [some (zr 42 0), some (zi v1), some (zi v2), some (zi v3), some (zi v4), none, none], [zi (p5.2 68 0 (zix (30 + v1))), zi (30 + v1), zr 68 0], p5.2)) rfl ?_
            refine zG_sub (lv' := [some (zr 42 0), some (zi v1), some (zi v2), some (zi v3), some (zi v4), none, none]) (zsb_s rfl (zsb_s rfl (zsb_s rfl (zsb_s rfl (zsb_s rfl (zsb_n (zsb_n zsb_0))))))) ?_
            exact g_X11_since_j71 hd h
          · rw [if_neg c25] at h
            cases h
      · rw [if_neg c27] at h
        refine zG_br hm rfl (cf' := (28, [some (zr 42 0), some (zi v1), some (zi v2), some (zi v3), some (zi v4), none, none], [], p3.2)) (if_neg c27) ?_
        refine zG_run hm 1 (cf' := (29, [some (zr 42 0), some (zi v1), some (zi v2), some (zi v3), some (zi v4), none, none], [zi (-1)], p3.2)) rfl ?_
        cases h
        exact zG_ri hm rfl rfl
theorem met_X11_since {v1 : Int} {v2 : Int} {v3 : Int} {v4 : Int} {M : zM} {q : Int × zM} {d : Nat} (hd : 4 ≤ d) (h : f_X11_since v1 v2 v3 v4 M = some q) : zMet 212 d [zr 42 0, zi v1, zi v2, zi v3, zi v4] M (some (zi q.1)) q.2 :=
  zMet_of (lv0 := [some (zr 42 0), some (zi v1), some (zi v2), some (zi v3), some (zi v4), none, none]) zmok_212 rfl rfl (fun v hv => by cases hv; trivial) (g_X11_since hd h)
def f_X10_bargain_L45 (v1 : Int) (v3 : Int) (v4 : Int) (v5 : Int) (v6 : Int) (v7 : Int) (M : zM) : Option ((Int × Int × Int × zM) ⊕ (Int × Int × zM)) :=
  if zw v7 < 0 then
    some (.inr (v5, v6, M))
  else
    some (.inl (((if 0 < zw (v1 - (v7 * v3)) then (v1 - (v7 * v3)) else 0) - v5), v5, (v7 + (-1)), M))
theorem g_X10_bargain_L45 {v1 : Int} {v3 : Int} {v4 : Int} {v5 : Int} {v6 : Int} {v7 : Int} {M : zM} {x : (Int × Int × Int × zM) ⊕ (Int × Int × zM)} {r : Option zV} {Mf : zM} {d : Nat} (hd : 1 ≤ d) (h : f_X10_bargain_L45 v1 v3 v4 v5 v6 v7 M = some x)
    (kc : ∀ s, x = .inl s → zG 98 d (45, [none, some (zi v1), none, some (zi v3), some (zi v4), some (zi s.1), some (zi s.2.1), some (zi s.2.2.1), none], [], s.2.2.2) r Mf)
    (kb : ∀ t, x = .inr t → zG 98 d (79, [none, none, none, none, some (zi v4), some (zi t.1), some (zi t.2.1), none, none], [], t.2.2) r Mf) (kr : True) : zG 98 d (45, [none, some (zi v1), none, some (zi v3), some (zi v4), some (zi v5), some (zi v6), some (zi v7), none], [], M) r Mf := by
  have hm := zmok_98
  unfold f_X10_bargain_L45 at h
  refine zG_run hm 1 (cf' := (47, [none, some (zi v1), none, some (zi v3), some (zi v4), some (zi v5), some (zi v6), some (zi v7), none], [zi v7], M)) rfl ?_
  by_cases c4 : zw v7 < 0
  · rw [if_pos c4] at h
    refine zG_br hm rfl (cf' := (79, [none, some (zi v1), none, some (zi v3), some (zi v4), some (zi v5), some (zi v6), some (zi v7), none], [], M)) (if_pos c4) ?_
    refine zG_sub (lv' := [none, none, none, none, some (zi v4), some (zi v5), some (zi v6), none, none]) (zsb_n (zsb_n (zsb_n (zsb_n (zsb_s rfl (zsb_s rfl (zsb_s rfl (zsb_n (zsb_n zsb_0))))))))) ?_
    exact kb (v5, v6, M) (Option.some.inj h).symm
  · rw [if_neg c4] at h
    refine zG_br hm rfl (cf' := (50, [none, some (zi v1), none, some (zi v3), some (zi v4), some (zi v5), some (zi v6), some (zi v7), none], [], M)) (if_neg c4) ?_
    refine zG_run hm 6 (cf' := (57, [none, some (zi v1), none, some (zi v3), some (zi v4), some (zi v5), some (zi v6), some (zi v7), none], [zi (v1 - (v7 * v3)), zi 0], M)) rfl ?_
    refine zG_max hm rfl rfl ?_
    show zG 98 d (60, [none, some (zi v1), none, some (zi v3), some (zi v4), some (zi v5), some (zi v6), some (zi v7), none], [zi (if 0 < zw (v1 - (v7 * v3)) then (v1 - (v7 * v3)) else 0)], M) _ _
    refine zG_run hm 9 (cf' := (45, [none, some (zi v1), none, some (zi v3), some (zi v4), some (zi ((if 0 < zw (v1 - (v7 * v3)) then (v1 - (v7 * v3)) else 0) - v5)), some (zi v5), some (zi (v7 + (-1))), some (zi (if 0 < zw (v1 - (v7 * v3)) then (v1 - (v7 * v3)) else 0))], [], M)) rfl ?_
    refine zG_sub (lv' := [none, some (zi v1), none, some (zi v3), some (zi v4), some (zi ((if 0 < zw (v1 - (v7 * v3)) then (v1 - (v7 * v3)) else 0) - v5)), some (zi v5), some (zi (v7 + (-1))), none]) (zsb_n (zsb_s rfl (zsb_n (zsb_s rfl (zsb_s rfl (zsb_s rfl (zsb_s rfl (zsb_s rfl (zsb_n zsb_0))))))))) ?_
    exact kc (((if 0 < zw (v1 - (v7 * v3)) then (v1 - (v7 * v3)) else 0) - v5), v5, (v7 + (-1)), M) (Option.some.inj h).symm
theorem gl_X10_bargain_L45 {v1 : Int} {v3 : Int} {v4 : Int} {y : Int × Int × zM} {r : Option zV} {Mf : zM} {d : Nat} (hd : 1 ≤ d)
    (kb : ∀ t, y = t → zG 98 d (79, [none, none, none, none, some (zi v4), some (zi t.1), some (zi t.2.1), none, none], [], t.2.2) r Mf) (kr : True) : ∀ (n : Nat) (s : Int × Int × Int × zM), zlp (fun s : Int × Int × Int × zM => f_X10_bargain_L45 v1 v3 v4 s.1 s.2.1 s.2.2.1 s.2.2.2) n s = some y → zG 98 d (45, [none, some (zi v1), none, some (zi v3), some (zi v4), some (zi s.1), some (zi s.2.1), some (zi s.2.2.1), none], [], s.2.2.2) r Mf := by
  intro n
  induction n with
  | zero => intro s h; cases h
  | succ n ih =>
    intro s h
    rcases zlp_cases h with ⟨s', h1, h2⟩ | h1
    · exact g_X10_bargain_L45 hd h1 (fun s2 e2 => by cases e2; exact ih _ h2) (fun t e2 => by cases e2) trivial
    · exact g_X10_bargain_L45 hd h1 (fun s2 e2 => by cases e2) (fun t e2 => kb t (Sum.inr.inj e2)) trivial
def f_X10_bargain (v1 : Int) (v2 : Int) (v3 : Int) (v4 : Int) (M : zM) : Option (Int × zM) :=
  (f_X10_within v1 0 9999 M).bind fun p1 =>
    if zw p1.1 = 0 then
      some ((-1), p1.2)
    else
      (f_X10_within v2 1 20 p1.2).bind fun p2 =>
        if zw p2.1 = 0 then
          some ((-1), p2.2)
        else
          (f_X10_within v3 0 9999 p2.2).bind fun p3 =>
            if ¬ zw p3.1 = 0 then
              (zlp (fun s : Int × Int × Int × zM => f_X10_bargain_L45 v1 v3 v4 s.1 s.2.1 s.2.2.1 s.2.2.2) zF (0, 0, (v2 - 1), p3.2)).bind fun y5 =>
                if zw v4 = 0 then
                  some (y5.1, y5.2.2)
                else
                  some (y5.2.1, y5.2.2)
            else
              some ((-1), p3.2)
theorem g_X10_bargain {v1 : Int} {v2 : Int} {v3 : Int} {v4 : Int} {M : zM} {q : Int × zM} {d : Nat} (hd : 1 ≤ d) (h : f_X10_bargain v1 v2 v3 v4 M = some q) : zG 98 d (0, [some (zr 0 0), some (zi v1), some (zi v2), some (zi v3), some (zi v4), none, none, none, none], [], M) (some (zi q.1)) q.2 := by
  have hm := zmok_98
  unfold f_X10_bargain at h
  refine zG_run hm 3 (cf' := (5, [some (zr 0 0), some (zi v1), some (zi v2), some (zi v3), some (zi v4), none, none, none, none], [zi 9999, zi 0, zi v1], M)) rfl ?_
  obtain ⟨p1, hp1, h⟩ := Option.bind_eq_some_iff.mp h
  refine zG_S hm zmok_108 rfl (as := [zi v1, zi 0, zi 9999]) (rest := []) (st2 := [zi p1.1]) (pc2 := 8) rfl rfl (by omega) (met_X10_within (d := 0) (Nat.le_refl _) hp1) rfl ?_
  by_cases c9 : zw p1.1 = 0
  · rw [if_pos c9] at h
    refine zG_br hm rfl (cf' := (32, [some (zr 0 0), some (zi v1), some (zi v2), some (zi v3), some (zi v4), none, none, none, none], [], p1.2)) (if_pos c9) ?_
    refine zG_run hm 1 (cf' := (33, [some (zr 0 0), some (zi v1), some (zi v2), some (zi v3), some (zi v4), none, none, none, none], [zi (-1)], p1.2)) rfl ?_
    cases h
    exact zG_ri hm rfl rfl
  · rw [if_neg c9] at h
    refine zG_br hm rfl (cf' := (11, [some (zr 0 0), some (zi v1), some (zi v2), some (zi v3), some (zi v4), none, none, none, none], [], p1.2)) (if_neg c9) ?_
    refine zG_run hm 3 (cf' := (15, [some (zr 0 0), some (zi v1), some (zi v2), some (zi v3), some (zi v4), none, none, none, none], [zi 20, zi 1, zi v2], p1.2)) rfl ?_
    obtain ⟨p2, hp2, h⟩ := Option.bind_eq_some_iff.mp h
    refine zG_S hm zmok_108 rfl (as := [zi v2, zi 1, zi 20]) (rest := []) (st2 := [zi p2.1]) (pc2 := 18) rfl rfl (by omega) (met_X10_within (d := 0) (Nat.le_refl _) hp2) rfl ?_
    by_cases c8 : zw p2.1 = 0
    · rw [if_pos c8] at h
      refine zG_br hm rfl (cf' := (32, [some (zr 0 0), some (zi v1), some (zi v2), some (zi v3), some (zi v4), none, none, none, none], [], p2.2)) (if_pos c8) ?_
      refine zG_run hm 1 (cf' := (33, [some (zr 0 0), some (zi v1), some (zi v2), some (zi v3), some (zi v4), none, none, none, none], [zi (-1)], p2.2)) rfl ?_
      cases h
      exact zG_ri hm rfl rfl
    · rw [if_neg c8] at h
      refine zG_br hm rfl (cf' := (21, [some (zr 0 0), some (zi v1), some (zi v2), some (zi v3), some (zi v4), none, none, none, none], [], p2.2)) (if_neg c8) ?_
      refine zG_run hm 3 (cf' := (26, [some (zr 0 0), some (zi v1), some (zi v2), some (zi v3), some (zi v4), none, none, none, none], [zi 9999, zi 0, zi v3], p2.2)) rfl ?_
      obtain ⟨p3, hp3, h⟩ := Option.bind_eq_some_iff.mp h
      refine zG_S hm zmok_108 rfl (as := [zi v3, zi 0, zi 9999]) (rest := []) (st2 := [zi p3.1]) (pc2 := 29) rfl rfl (by omega) (met_X10_within (d := 0) (Nat.le_refl _) hp3) rfl ?_
      by_cases c7 : ¬ zw p3.1 = 0
      · rw [if_pos c7] at h
        refine zG_br hm rfl (cf' := (34, [some (zr 0 0), some (zi v1), some (zi v2), some (zi v3), some (zi v4), none, none, none, none], [], p3.2)) (if_pos c7) ?_
        refine zG_run hm 8 (cf' := (45, [some (zr 0 0), some (zi v1), some (zi v2), some (zi v3), some (zi v4), some (zi 0), some (zi 0), some (zi (v2 - 1)), none], [], p3.2)) rfl ?_
        refine zG_sub (lv' := [none, some (zi v1), none, some (zi v3), some (zi v4), some (zi 0), some (zi 0), some (zi (v2 - 1)), none]) (zsb_n (zsb_s rfl (zsb_n (zsb_s rfl (zsb_s rfl (zsb_s rfl (zsb_s rfl (zsb_s rfl (zsb_n zsb_0))))))))) ?_
        obtain ⟨y5, hy5, h⟩ := Option.bind_eq_some_iff.mp h
        refine gl_X10_bargain_L45 hd (fun t e2 => ?_) trivial zF (0, 0, (v2 - 1), p3.2) hy5
        cases e2
        refine zG_run hm 1 (cf' := (81, [none, none, none, none, some (zi v4), some (zi y5.1), some (zi y5.2.1), none, none], [zi v4], y5.2.2)) rfl ?_
        by_cases c6 : zw v4 = 0
        · rw [if_pos c6] at h
          refine zG_br hm rfl (cf' := (89, [none, none, none, none, some (zi v4), some (zi y5.1), some (zi y5.2.1), none, none], [], y5.2.2)) (if_pos c6) ?_
          refine zG_run hm 1 (cf' := (91, [none, none, none, none, some (zi v4), some (zi y5.1), some (zi y5.2.1), none, none], [zi y5.1], y5.2.2)) rfl ?_
          cases h
          exact zG_ri hm rfl rfl
        · rw [if_neg c6] at h
          refine zG_br hm rfl (cf' := (84, [none, none, none, none, some (zi v4), some (zi y5.1), some (zi y5.2.1), none, none], [], y5.2.2)) (if_neg c6) ?_
          refine zG_run hm 2 (cf' := (91, [none, none, none, none, some (zi v4), some (zi y5.1), some (zi y5.2.1), none, none], [zi y5.2.1], y5.2.2)) rfl ?_
          cases h
          exact zG_ri hm rfl rfl
      · rw [if_neg c7] at h
        refine zG_br hm rfl (cf' := (32, [some (zr 0 0), some (zi v1), some (zi v2), some (zi v3), some (zi v4), none, none, none, none], [], p3.2)) (if_neg c7) ?_
        refine zG_run hm 1 (cf' := (33, [some (zr 0 0), some (zi v1), some (zi v2), some (zi v3), some (zi v4), none, none, none, none], [zi (-1)], p3.2)) rfl ?_
        cases h
        exact zG_ri hm rfl rfl
theorem met_X10_bargain {v1 : Int} {v2 : Int} {v3 : Int} {v4 : Int} {M : zM} {q : Int × zM} {d : Nat} (hd : 1 ≤ d) (h : f_X10_bargain v1 v2 v3 v4 M = some q) : zMet 98 d [zr 0 0, zi v1, zi v2, zi v3, zi v4] M (some (zi q.1)) q.2 :=
  zMet_of (lv0 := [some (zr 0 0), some (zi v1), some (zi v2), some (zi v3), some (zi v4), none, none, none, none]) zmok_98 rfl rfl (fun v hv => by cases hv; trivial) (g_X10_bargain hd h)
def f_X11_bargain_j69 (v1 : Int) (v3 : Int) (v4 : Int) (v5 : Int) (v7 : Int) (vs0 : Int) (M : zM) : Option ((Int × Int × Int) ⊕ (Int × Int)) :=
  some (.inl ((vs0 - v5), v5, (v7 + (-1))))
theorem g_X11_bargain_j69 {v1 : Int} {v3 : Int} {v4 : Int} {v5 : Int} {v7 : Int} {vs0 : Int} {M : zM} {x : (Int × Int × Int) ⊕ (Int × Int)} {r : Option zV} {Mf : zM} {d : Nat} (hd : 1 ≤ d) (h : f_X11_bargain_j69 v1 v3 v4 v5 v7 vs0 M = some x)
    (kc : ∀ s, x = .inl s → zG 213 d (45, [none, some (zi v1), none, some (zi v3), some (zi v4), some (zi s.1), some (zi s.2.1), some (zi s.2.2), none], [], M) r Mf)
    (kb : ∀ t, x = .inr t → zG 213 d (88, [none, none, none, none, some (zi v4), some (zi t.1), some (zi t.2), none, none], [], M) r Mf) (kr : True) : zG 213 d (69, [none, some (zi v1), none, some (zi v3), some (zi v4), some (zi v5), none, some (zi v7), none], [zi vs0], M) r Mf := by
  have hm := zmok_213
  unfold f_X11_bargain_j69 at h
  refine zG_run hm 9 (cf' := (45, [none, some (zi v1), none, some (zi v3), some (zi v4), some (zi (vs0 - v5)), some (zi v5), some (zi (v7 + (-1))), some (zi vs0)], [], M)) rfl ?_
  refine zG_sub (lv' := [none, some (zi v1), none, some (zi v3), some (zi v4), some (zi (vs0 - v5)), some (zi v5), some (zi (v7 + (-1))), none]) (zsb_n (zsb_s rfl (zsb_n (zsb_s rfl (zsb_s rfl (zsb_s rfl (zsb_s rfl (zsb_s rfl (zsb_n zsb_0))))))))) ?_
  exact kc ((vs0 - v5), v5, (v7 + (-1))) (Option.some.inj h).symm
def f_X11_bargain_L45 (v1 : Int) (v3 : Int) (v4 : Int) (v5 : Int) (v6 : Int) (v7 : Int) (M : zM) : Option ((Int × Int × Int) ⊕ (Int × Int)) :=
  if zw v7 < 0 then
    some (.inr (v5, v6))
  else
    if 0 ≤ zw (v1 - (v7 * v3)) then
      f_X11_bargain_j69 v1 v3 v4 v5 v7 (v1 - (v7 * v3)) M
    else
      f_X11_bargain_j69 v1 v3 v4 v5 v7 0 M
theorem g_X11_bargain_L45 {v1 : Int} {v3 : Int} {v4 : Int} {v5 : Int} {v6 : Int} {v7 : Int} {M : zM} {x : (Int × Int × Int) ⊕ (Int × Int)} {r : Option zV} {Mf : zM} {d : Nat} (hd : 1 ≤ d) (h : f_X11_bargain_L45 v1 v3 v4 v5 v6 v7 M = some x)
    (kc : ∀ s, x = .inl s → zG 213 d (45, [none, some (zi v1), none, some (zi v3), some (zi v4), some (zi s.1), some (zi s.2.1), some (zi s.2.2), none], [], M) r Mf)
    (kb : ∀ t, x = .inr t → zG 213 d (88, [none, none, none, none, some (zi v4), some (zi t.1), some (zi t.2), none, none], [], M) r Mf) (kr : True) : zG 213 d (45, [none, some (zi v1), none, some (zi v3), some (zi v4), some (zi v5), some (zi v6), some (zi v7), none], [], M) r Mf := by
  have hm := zmok_213
  unfold f_X11_bargain_L45 at h
  refine zG_run hm 1 (cf' := (47, [none, some (zi v1), none, some (zi v3), some (zi v4), some (zi v5), some (zi v6), some (zi v7), none], [zi v7], M)) rfl ?_
  by_cases c5 : zw v7 < 0
  · rw [if_pos c5] at h
    refine zG_br hm rfl (cf' := (88, [none, some (zi v1), none, some (zi v3), some (zi v4), some (zi v5), some (zi v6), some (zi v7), none], [], M)) (if_pos c5) ?_
    refine zG_sub (lv' := [none, none, none, none, some (zi v4), some (zi v5), some (zi v6), none, none]) (zsb_n (zsb_n (zsb_n (zsb_n (zsb_s rfl (zsb_s rfl (zsb_s rfl (zsb_n (zsb_n zsb_0))))))))) ?_
    exact kb (v5, v6) (Option.some.inj h).symm
  · rw [if_neg c5] at h
    refine zG_br hm rfl (cf' := (50, [none, some (zi v1), none, some (zi v3), some (zi v4), some (zi v5), some (zi v6), some (zi v7), none], [], M)) (if_neg c5) ?_
    refine zG_run hm 5 (cf' := (56, [none, some (zi v1), none, some (zi v3), some (zi v4), some (zi v5), some (zi v6), some (zi v7), none], [zi (v1 - (v7 * v3))], M)) rfl ?_
    by_cases c4 : 0 ≤ zw (v1 - (v7 * v3))
    · rw [if_pos c4] at h
      refine zG_br hm rfl (cf' := (63, [none, some (zi v1), none, some (zi v3), some (zi v4), some (zi v5), some (zi v6), some (zi v7), none], [], M)) (if_pos c4) ?_
      refine zG_run hm 5 (cf' := (69, [none, some (zi v1), none, some (zi v3), some (zi v4), some (zi v5), some (zi v6), some (zi v7), none], [zi (v1 - (v7 * v3))], M)) rfl ?_
      refine zG_sub (lv' := [none, some (zi v1), none, some (zi v3), some (zi v4), some (zi v5), none, some (zi v7), none]) (zsb_n (zsb_s rfl (zsb_n (zsb_s rfl (zsb_s rfl (zsb_s rfl (zsb_n (zsb_s rfl (zsb_n zsb_0))))))))) ?_
      exact g_X11_bargain_j69 hd h kc kb kr
    · rw [if_neg c4] at h
      refine zG_br hm rfl (cf' := (59, [none, some (zi v1), none, some (zi v3), some (zi v4), some (zi v5), some (zi v6), some (zi v7), none], [], M)) (if_neg c4) ?_
      refine zG_run hm 2 (cf' := (69, [none, some (zi v1), none, some (zi v3), some (zi v4), some (zi v5), some (zi v6), some (zi v7), none], [zi 0], M)) rfl ?_
      refine zG_sub (lv' := [none, some (zi v1), none, some (zi v3), some (zi v4), some (zi v5), none, some (zi v7), none]) (zsb_n (zsb_s rfl (zsb_n (zsb_s rfl (zsb_s rfl (zsb_s rfl (zsb_n (zsb_s rfl (zsb_n zsb_0))))))))) ?_
      exact g_X11_bargain_j69 hd h kc kb kr
theorem gl_X11_bargain_L45 {v1 : Int} {v3 : Int} {v4 : Int} {M : zM} {y : Int × Int} {r : Option zV} {Mf : zM} {d : Nat} (hd : 1 ≤ d)
    (kb : ∀ t, y = t → zG 213 d (88, [none, none, none, none, some (zi v4), some (zi t.1), some (zi t.2), none, none], [], M) r Mf) (kr : True) : ∀ (n : Nat) (s : Int × Int × Int), zlp (fun s : Int × Int × Int => f_X11_bargain_L45 v1 v3 v4 s.1 s.2.1 s.2.2 M) n s = some y → zG 213 d (45, [none, some (zi v1), none, some (zi v3), some (zi v4), some (zi s.1), some (zi s.2.1), some (zi s.2.2), none], [], M) r Mf := by
  intro n
  induction n with
  | zero => intro s h; cases h
  | succ n ih =>
    intro s h
    rcases zlp_cases h with ⟨s', h1, h2⟩ | h1
    · exact g_X11_bargain_L45 hd h1 (fun s2 e2 => by cases e2; exact ih _ h2) (fun t e2 => by cases e2) trivial
    · exact g_X11_bargain_L45 hd h1 (fun s2 e2 => by cases e2) (fun t e2 => kb t (Sum.inr.inj e2)) trivial
def f_X11_bargain (v1 : Int) (v2 : Int) (v3 : Int) (v4 : Int) (M : zM) : Option (Int × zM) :=
  (f_X11_in v1 0 9999 M).bind fun p1 =>
    if zw p1.1 = 0 then
      some ((-1), p1.2)
    else
      (f_X11_in v2 1 20 p1.2).bind fun p2 =>
        if zw p2.1 = 0 then
          some ((-1), p2.2)
        else
          (f_X11_in v3 0 9999 p2.2).bind fun p3 =>
            if ¬ zw p3.1 = 0 then
              (zlp (fun s : Int × Int × Int => f_X11_bargain_L45 v1 v3 v4 s.1 s.2.1 s.2.2 p3.2) zF (0, 0, (v2 - 1))).bind fun y6 =>
                if zw v4 = 0 then
                  some (y6.1, p3.2)
                else
                  some (y6.2, p3.2)
            else
              some ((-1), p3.2)
theorem g_X11_bargain {v1 : Int} {v2 : Int} {v3 : Int} {v4 : Int} {M : zM} {q : Int × zM} {d : Nat} (hd : 1 ≤ d) (h : f_X11_bargain v1 v2 v3 v4 M = some q) : zG 213 d (0, [some (zr 42 0), some (zi v1), some (zi v2), some (zi v3), some (zi v4), none, none, none, none], [], M) (some (zi q.1)) q.2 := by
  have hm := zmok_213
  unfold f_X11_bargain at h
  refine zG_run hm 3 (cf' := (5, [some (zr 42 0), some (zi v1), some (zi v2), some (zi v3), some (zi v4), none, none, none, none], [zi 9999, zi 0, zi v1], M)) rfl ?_
  obtain ⟨p1, hp1, h⟩ := Option.bind_eq_some_iff.mp h
  refine zG_S hm zmok_117 rfl (as := [zi v1, zi 0, zi 9999]) (rest := []) (st2 := [zi p1.1]) (pc2 := 8) rfl rfl (by omega) (met_X11_in (d := 0) (Nat.le_refl _) hp1) rfl ?_
  by_cases c10 : zw p1.1 = 0
  · rw [if_pos c10] at h
    refine zG_br hm rfl (cf' := (32, [some (zr 42 0), some (zi v1), some (zi v2), some (zi v3), some (zi v4), none, none, none, none], [], p1.2)) (if_pos c10) ?_
    refine zG_run hm 1 (cf' := (33, [some (zr 42 0), some (zi v1), some (zi v2), some (zi v3), some (zi v4), none, none, none, none], [zi (-1)], p1.2)) rfl ?_
    cases h
    exact zG_ri hm rfl rfl
  · rw [if_neg c10] at h
    refine zG_br hm rfl (cf' := (11, [some (zr 42 0), some (zi v1), some (zi v2), some (zi v3), some (zi v4), none, none, none, none], [], p1.2)) (if_neg c10) ?_
    refine zG_run hm 3 (cf' := (15, [some (zr 42 0), some (zi v1), some (zi v2), some (zi v3), some (zi v4), none, none, none, none], [zi 20, zi 1, zi v2], p1.2)) rfl ?_
    obtain ⟨p2, hp2, h⟩ := Option.bind_eq_some_iff.mp h
    refine zG_S hm zmok_117 rfl (as := [zi v2, zi 1, zi 20]) (rest := []) (st2 := [zi p2.1]) (pc2 := 18) rfl rfl (by omega) (met_X11_in (d := 0) (Nat.le_refl _) hp2) rfl ?_
    by_cases c9 : zw p2.1 = 0
    · rw [if_pos c9] at h
      refine zG_br hm rfl (cf' := (32, [some (zr 42 0), some (zi v1), some (zi v2), some (zi v3), some (zi v4), none, none, none, none], [], p2.2)) (if_pos c9) ?_
      refine zG_run hm 1 (cf' := (33, [some (zr 42 0), some (zi v1), some (zi v2), some (zi v3), some (zi v4), none, none, none, none], [zi (-1)], p2.2)) rfl ?_
      cases h
      exact zG_ri hm rfl rfl
    · rw [if_neg c9] at h
      refine zG_br hm rfl (cf' := (21, [some (zr 42 0), some (zi v1), some (zi v2), some (zi v3), some (zi v4), none, none, none, none], [], p2.2)) (if_neg c9) ?_
      refine zG_run hm 3 (cf' := (26, [some (zr 42 0), some (zi v1), some (zi v2), some (zi v3), some (zi v4), none, none, none, none], [zi 9999, zi 0, zi v3], p2.2)) rfl ?_
      obtain ⟨p3, hp3, h⟩ := Option.bind_eq_some_iff.mp h
      refine zG_S hm zmok_117 rfl (as := [zi v3, zi 0, zi 9999]) (rest := []) (st2 := [zi p3.1]) (pc2 := 29) rfl rfl (by omega) (met_X11_in (d := 0) (Nat.le_refl _) hp3) rfl ?_
      by_cases c8 : ¬ zw p3.1 = 0
      · rw [if_pos c8] at h
        refine zG_br hm rfl (cf' := (34, [some (zr 42 0), some (zi v1), some (zi v2), some (zi v3), some (zi v4), none, none, none, none], [], p3.2)) (if_pos c8) ?_
        refine zG_run hm 8 (cf' := (45, [some (zr 42 0), some (zi v1), some (zi v2), some (zi v3), some (zi v4), some (zi 0), some (zi 0), some (zi (v2 - 1)), none], [], p3.2)) rfl ?_
        refine zG_sub (lv' := [none, some (zi v1), none, some (zi v3), some (zi v4), some (zi 0), some (zi 0), some (zi (v2 - 1)), none]) (zsb_n (zsb_s rfl (zsb_n (zsb_s rfl (zsb_s rfl (zsb_s rfl (zsb_s rfl (zsb_s rfl (zsb_n zsb_0))))))))) ?_
        obtain ⟨y6, hy6, h⟩ := Option.bind_eq_some_iff.mp h
        refine gl_X11_bargain_L45 hd (fun t e2 => ?_) trivial zF (0, 0, (v2 - 1)) hy6
        cases e2
        refine zG_run hm 1 (cf' := (90, [none, none, none, none, some (zi v4), some (zi y6.1), some (zi y6.2), none, none], [zi v4], p3.2)) rfl ?_
        by_cases c7 : zw v4 = 0
        · rw [if_pos c7] at h
          refine zG_br hm rfl (cf' := (98, [none, none, none, none, some (zi v4), some (zi y6.1), some (zi y6.2), none, none], [], p3.2)) (if_pos c7) ?_
          refine zG_run hm 1 (cf' := (100, [none, none, none, none, some (zi v4), some (zi y6.1), some (zi y6.2), none, none], [zi y6.1], p3.2)) rfl ?_
          cases h
          exact zG_ri hm rfl rfl
        · rw [if_neg c7] at h
          refine zG_br hm rfl (cf' := (93, [none, none, none, none, some (zi v4), some (zi y6.1), some (zi y6.2), none, none], [], p3.2)) (if_neg c7) ?_
          refine zG_run hm 2 (cf' := (100, [none, none, none, none, some (zi v4), some (zi y6.1), some (zi y6.2), none, none], [zi y6.2], p3.2)) rfl ?_
          cases h
          exact zG_ri hm rfl rfl
      · rw [if_neg c8] at h
        refine zG_br hm rfl (cf' := (32, [some (zr 42 0), some (zi v1), some (zi v2), some (zi v3), some (zi v4), none, none, none, none], [], p3.2)) (if_neg c8) ?_
        refine zG_run hm 1 (cf' := (33, [some (zr 42 0), some (zi v1), some (zi v2), some (zi v3), some (zi v4), none, none, none, none], [zi (-1)], p3.2)) rfl ?_
        cases h
        exact zG_ri hm rfl rfl
theorem met_X11_bargain {v1 : Int} {v2 : Int} {v3 : Int} {v4 : Int} {M : zM} {q : Int × zM} {d : Nat} (hd : 1 ≤ d) (h : f_X11_bargain v1 v2 v3 v4 M = some q) : zMet 213 d [zr 42 0, zi v1, zi v2, zi v3, zi v4] M (some (zi q.1)) q.2 :=
  zMet_of (lv0 := [some (zr 42 0), some (zi v1), some (zi v2), some (zi v3), some (zi v4), none, none, none, none]) zmok_213 rfl rfl (fun v hv => by cases hv; trivial) (g_X11_bargain hd h)
def f_X10_vote (v1 : Int) (M : zM) : Option (Int × zM) :=
  if ¬ zw v1 = (-1) then
    (f_X10_within v1 0 99 M).bind fun p1 =>
      if zw p1.1 = 0 then
        some ((-2), p1.2)
      else
        if zw (p1.2 23 0 8) < 9 then
          if 0 ≤ zw (p1.2 23 0 8) ∧ zw (p1.2 23 0 8) < 9 then
            zlet (zput p1.2 26 0 (zix (p1.2 23 0 8)) v1) fun M2 =>
            zlet (zput M2 23 0 8 ((M2 23 0 8) + 1)) fun M3 =>
            some ((M3 23 0 8), M3)
          else
            none
        else
          some ((-2), p1.2)
  else
    zlet (zput M 23 0 8 0) fun M7 =>
    some (0, M7)
theorem g_X10_vote {v1 : Int} {M : zM} {q : Int × zM} {d : Nat} (hd : 1 ≤ d) (h : f_X10_vote v1 M = some q) : zG 99 d (0, [some (zr 0 0), some (zi v1)], [], M) (some (zi q.1)) q.2 := by
  have hm := zmok_99
  unfold f_X10_vote at h
  refine zG_run hm 2 (cf' := (2, [some (zr 0 0), some (zi v1)], [zi (-1), zi v1], M)) rfl ?_
  by_cases c8 : ¬ zw v1 = (-1)
  · rw [if_pos c8] at h
    refine zG_br hm rfl (cf' := (15, [some (zr 0 0), some (zi v1)], [], M)) (if_pos c8) ?_
    refine zG_run hm 3 (cf' := (19, [some (zr 0 0), some (zi v1)], [zi 99, zi 0, zi v1], M)) rfl ?_
    obtain ⟨p1, hp1, h⟩ := Option.bind_eq_some_iff.mp h
    refine zG_S hm zmok_108 rfl (as := [zi v1, zi 0, zi 99]) (rest := []) (st2 := [zi p1.1]) (pc2 := 22) rfl rfl (by omega) (met_X10_within (d := 0) (Nat.le_refl _) hp1) rfl ?_
    by_cases c6 : zw p1.1 = 0
    · rw [if_pos c6] at h
      refine zG_br hm rfl (cf' := (37, [some (zr 0 0), some (zi v1)], [], p1.2)) (if_pos c6) ?_
      refine zG_run hm 1 (cf' := (39, [some (zr 0 0), some (zi v1)], [zi (-2)], p1.2)) rfl ?_
      cases h
      exact zG_ri hm rfl rfl
    · rw [if_neg c6] at h
      refine zG_br hm rfl (cf' := (25, [some (zr 0 0), some (zi v1)], [], p1.2)) (if_neg c6) ?_
      refine zG_run hm 4 (cf' := (34, [some (zr 0 0), some (zi v1)], [zi 9, zi (p1.2 23 0 8)], p1.2)) rfl ?_
      by_cases c5 : zw (p1.2 23 0 8) < 9
      · rw [if_pos c5] at h
        refine zG_br hm rfl (cf' := (40, [some (zr 0 0), some (zi v1)], [], p1.2)) (if_pos c5) ?_
        refine zG_run hm 7 (cf' := (55, [some (zr 0 0), some (zi v1)], [zi v1, zi (p1.2 23 0 8), zr 26 0], p1.2)) rfl ?_
        by_cases c4 : 0 ≤ zw (p1.2 23 0 8) ∧ zw (p1.2 23 0 8) < 9
        · rw [if_pos c4] at h
          refine zG_br hm rfl (cf' := (56, [some (zr 0 0), some (zi v1)], [], (zput p1.2 26 0 (zix (p1.2 23 0 8)) v1))) (if_pos c4) ?_
          obtain ⟨M2, eM2, h⟩ := zlet_of h
          rw [eM2]
          refine zG_run hm 7 (cf' := (69, [some (zr 0 0), some (zi v1)], [], (zput M2 23 0 8 ((M2 23 0 8) + 1)))) rfl ?_
          obtain ⟨M3, eM3, h⟩ := zlet_of h
          rw [eM3]
          refine zG_run hm 3 (cf' := (76, [some (zr 0 0), some (zi v1)], [zi (M3 23 0 8)], M3)) rfl ?_
          cases h
          exact zG_ri hm rfl rfl
        · rw [if_neg c4] at h
          cases h
      · rw [if_neg c5] at h
        refine zG_br hm rfl (cf' := (37, [some (zr 0 0), some (zi v1)], [], p1.2)) (if_neg c5) ?_
        refine zG_run hm 1 (cf' := (39, [some (zr 0 0), some (zi v1)], [zi (-2)], p1.2)) rfl ?_
        cases h
        exact zG_ri hm rfl rfl
  · rw [if_neg c8] at h
    refine zG_br hm rfl (cf' := (5, [some (zr 0 0), some (zi v1)], [], M)) (if_neg c8) ?_
    refine zG_run hm 4 (cf' := (13, [some (zr 0 0), some (zi v1)], [], (zput M 23 0 8 0))) rfl ?_
    obtain ⟨M7, eM7, h⟩ := zlet_of h
    rw [eM7]
    refine zG_run hm 1 (cf' := (14, [some (zr 0 0), some (zi v1)], [zi 0], M7)) rfl ?_
    cases h
    exact zG_ri hm rfl rfl
theorem met_X10_vote {v1 : Int} {M : zM} {q : Int × zM} {d : Nat} (hd : 1 ≤ d) (h : f_X10_vote v1 M = some q) : zMet 99 d [zr 0 0, zi v1] M (some (zi q.1)) q.2 :=
  zMet_of (lv0 := [some (zr 0 0), some (zi v1)]) zmok_99 rfl rfl (fun v hv => by cases hv; trivial) (g_X10_vote hd h)
def f_X11_vote (v1 : Int) (M : zM) : Option (Int × zM) :=
  if ¬ zw v1 = (-1) then
    (f_X11_in v1 0 99 M).bind fun p1 =>
      if zw p1.1 = 0 then
        some ((-2), p1.2)
      else
        if ¬ zw (p1.2 43 0 7) = 9 then
          if 0 ≤ zw (48 + (p1.2 43 0 7)) ∧ zw (48 + (p1.2 43 0 7)) < 5090 then
            zlet (zput p1.2 43 0 (zix (48 + (p1.2 43 0 7))) v1) fun M2 =>
            zlet (zput M2 43 0 7 ((M2 43 0 7) + 1)) fun M3 =>
            some ((M3 43 0 7), M3)
          else
            none
        else
          some ((-2), p1.2)
  else
    zlet (zput M 43 0 7 0) fun M7 =>
    some (0, M7)
theorem g_X11_vote {v1 : Int} {M : zM} {q : Int × zM} {d : Nat} (hd : 1 ≤ d) (h : f_X11_vote v1 M = some q) : zG 214 d (0, [some (zr 42 0), some (zi v1)], [], M) (some (zi q.1)) q.2 := by
  have hm := zmok_214
  unfold f_X11_vote at h
  refine zG_run hm 2 (cf' := (2, [some (zr 42 0), some (zi v1)], [zi (-1), zi v1], M)) rfl ?_
  by_cases c8 : ¬ zw v1 = (-1)
  · rw [if_pos c8] at h
    refine zG_br hm rfl (cf' := (15, [some (zr 42 0), some (zi v1)], [], M)) (if_pos c8) ?_
    refine zG_run hm 3 (cf' := (19, [some (zr 42 0), some (zi v1)], [zi 99, zi 0, zi v1], M)) rfl ?_
    obtain ⟨p1, hp1, h⟩ := Option.bind_eq_some_iff.mp h
    refine zG_S hm zmok_117 rfl (as := [zi v1, zi 0, zi 99]) (rest := []) (st2 := [zi p1.1]) (pc2 := 22) rfl rfl (by omega) (met_X11_in (d := 0) (Nat.le_refl _) hp1) rfl ?_
    by_cases c6 : zw p1.1 = 0
    · rw [if_pos c6] at h
      refine zG_br hm rfl (cf' := (37, [some (zr 42 0), some (zi v1)], [], p1.2)) (if_pos c6) ?_
      refine zG_run hm 1 (cf' := (39, [some (zr 42 0), some (zi v1)], [zi (-2)], p1.2)) rfl ?_
      cases h
      exact zG_ri hm rfl rfl
    · rw [if_neg c6] at h
      refine zG_br hm rfl (cf' := (25, [some (zr 42 0), some (zi v1)], [], p1.2)) (if_neg c6) ?_
      refine zG_run hm 5 (cf' := (34, [some (zr 42 0), some (zi v1)], [zi 9, zi (p1.2 43 0 7)], p1.2)) rfl ?_
      by_cases c5 : ¬ zw (p1.2 43 0 7) = 9
      · rw [if_pos c5] at h
        refine zG_br hm rfl (cf' := (40, [some (zr 42 0), some (zi v1)], [], p1.2)) (if_pos c5) ?_
        refine zG_run hm 9 (cf' := (55, [some (zr 42 0), some (zi v1)], [zi v1, zi (48 + (p1.2 43 0 7)), zr 43 0], p1.2)) rfl ?_
        by_cases c4 : 0 ≤ zw (48 + (p1.2 43 0 7)) ∧ zw (48 + (p1.2 43 0 7)) < 5090
        · rw [if_pos c4] at h
          refine zG_br hm rfl (cf' := (56, [some (zr 42 0), some (zi v1)], [], (zput p1.2 43 0 (zix (48 + (p1.2 43 0 7))) v1))) (if_pos c4) ?_
          obtain ⟨M2, eM2, h⟩ := zlet_of h
          rw [eM2]
          refine zG_run hm 8 (cf' := (67, [some (zr 42 0), some (zi v1)], [], (zput M2 43 0 7 ((M2 43 0 7) + 1)))) rfl ?_
          obtain ⟨M3, eM3, h⟩ := zlet_of h
          rw [eM3]
          refine zG_run hm 4 (cf' := (74, [some (zr 42 0), some (zi v1)], [zi (M3 43 0 7)], M3)) rfl ?_
          cases h
          exact zG_ri hm rfl rfl
        · rw [if_neg c4] at h
          cases h
      · rw [if_neg c5] at h
        refine zG_br hm rfl (cf' := (37, [some (zr 42 0), some (zi v1)], [], p1.2)) (if_neg c5) ?_
        refine zG_run hm 1 (cf' := (39, [some (zr 42 0), some (zi v1)], [zi (-2)], p1.2)) rfl ?_
        cases h
        exact zG_ri hm rfl rfl
  · rw [if_neg c8] at h
    refine zG_br hm rfl (cf' := (5, [some (zr 42 0), some (zi v1)], [], M)) (if_neg c8) ?_
    refine zG_run hm 5 (cf' := (13, [some (zr 42 0), some (zi v1)], [], (zput M 43 0 7 0))) rfl ?_
    obtain ⟨M7, eM7, h⟩ := zlet_of h
    rw [eM7]
    refine zG_run hm 1 (cf' := (14, [some (zr 42 0), some (zi v1)], [zi 0], M7)) rfl ?_
    cases h
    exact zG_ri hm rfl rfl
theorem met_X11_vote {v1 : Int} {M : zM} {q : Int × zM} {d : Nat} (hd : 1 ≤ d) (h : f_X11_vote v1 M = some q) : zMet 214 d [zr 42 0, zi v1] M (some (zi q.1)) q.2 :=
  zMet_of (lv0 := [some (zr 42 0), some (zi v1)]) zmok_214 rfl rfl (fun v hv => by cases hv; trivial) (g_X11_vote hd h)
def f_X9_middle_L14 (n0 : Nat) (v1 : Int) (v2 : Int) (v3 : Int) (M : zM) : Option ((Int × Int × zM) ⊕ (Int × zM)) :=
  if zw v3 ≤ 0 then
    some (.inr (v2, M))
  else
    if 0 ≤ zw (v3 - 1) ∧ zw (v3 - 1) < 9 then
      if 0 ≤ zw v1 ∧ zw v1 < 9 then
        if zw (M 27 n0 (zix (v3 - 1))) ≤ zw (M 26 n0 (zix v1)) then
          some (.inr (v2, M))
        else
          if 0 ≤ zw (v3 - 1) ∧ zw (v3 - 1) < 9 then
            if 0 ≤ zw v3 ∧ zw v3 < 9 then
              zlet (zput M 27 n0 (zix v3) (M 27 n0 (zix (v3 - 1)))) fun M1 =>
              some (.inl ((v3 - 1), (v3 + (-1)), M1))
            else
              none
          else
            none
      else
        none
    else
      none
theorem g_X9_middle_L14 {n0 : Nat} {v1 : Int} {v2 : Int} {v3 : Int} {M : zM} {x : (Int × Int × zM) ⊕ (Int × zM)} {r : Option zV} {Mf : zM} {d : Nat} (hd : 0 ≤ d) (h : f_X9_middle_L14 n0 v1 v2 v3 M = some x)
    (kc : ∀ s, x = .inl s → zG 64 d (14, [some (zr 23 n0), some (zi v1), some (zi s.1), some (zi s.2.1)], [], s.2.2) r Mf)
    (kb : ∀ t, x = .inr t → zG 64 d (59, [some (zr 23 n0), some (zi v1), some (zi t.1), none], [], t.2) r Mf) (kr : True) : zG 64 d (14, [some (zr 23 n0), some (zi v1), some (zi v2), some (zi v3)], [], M) r Mf := by
  have hm := zmok_64
  unfold f_X9_middle_L14 at h
  refine zG_run hm 1 (cf' := (15, [some (zr 23 n0), some (zi v1), some (zi v2), some (zi v3)], [zi v3], M)) rfl ?_
  by_cases c7 : zw v3 ≤ 0
  · rw [if_pos c7] at h
    refine zG_br hm rfl (cf' := (59, [some (zr 23 n0), some (zi v1), some (zi v2), some (zi v3)], [], M)) (if_pos c7) ?_
    refine zG_sub (lv' := [some (zr 23 n0), some (zi v1), some (zi v2), none]) (zsb_s rfl (zsb_s rfl (zsb_s rfl (zsb_n zsb_0)))) ?_
    exact kb (v2, M) (Option.some.inj h).symm
  · rw [if_neg c7] at h
    refine zG_br hm rfl (cf' := (18, [some (zr 23 n0), some (zi v1), some (zi v2), some (zi v3)], [], M)) (if_neg c7) ?_
    refine zG_run hm 5 (cf' := (25, [some (zr 23 n0), some (zi v1), some (zi v2), some (zi v3)], [zi (v3 - 1), zr 27 n0], M)) rfl ?_
    by_cases c6 : 0 ≤ zw (v3 - 1) ∧ zw (v3 - 1) < 9
    · rw [if_pos c6] at h
      refine zG_br hm rfl (cf' := (26, [some (zr 23 n0), some (zi v1), some (zi v2), some (zi v3)], [zi (M 27 n0 (zix (v3 - 1)))], M)) (if_pos c6) ?_
      refine zG_run hm 3 (cf' := (31, [some (zr 23 n0), some (zi v1), some (zi v2), some (zi v3)], [zi v1, zr 26 n0, zi (M 27 n0 (zix (v3 - 1)))], M)) rfl ?_
      by_cases c5 : 0 ≤ zw v1 ∧ zw v1 < 9
      · rw [if_pos c5] at h
        refine zG_br hm rfl (cf' := (32, [some (zr 23 n0), some (zi v1), some (zi v2), some (zi v3)], [zi (M 26 n0 (zix v1)), zi (M 27 n0 (zix (v3 - 1)))], M)) (if_pos c5) ?_
        by_cases c4 : zw (M 27 n0 (zix (v3 - 1))) ≤ zw (M 26 n0 (zix v1))
        · rw [if_pos c4] at h
          refine zG_br hm rfl (cf' := (59, [some (zr 23 n0), some (zi v1), some (zi v2), some (zi v3)], [], M)) (if_pos c4) ?_
          refine zG_sub (lv' := [some (zr 23 n0), some (zi v1), some (zi v2), none]) (zsb_s rfl (zsb_s rfl (zsb_s rfl (zsb_n zsb_0)))) ?_
          exact kb (v2, M) (Option.some.inj h).symm
        · rw [if_neg c4] at h
          refine zG_br hm rfl (cf' := (35, [some (zr 23 n0), some (zi v1), some (zi v2), some (zi v3)], [], M)) (if_neg c4) ?_
          refine zG_run hm 8 (cf' := (47, [some (zr 23 n0), some (zi v1), some (zi v2), some (zi v3)], [zi (v3 - 1), zr 27 n0, zi v3, zr 27 n0], M)) rfl ?_
          by_cases c3 : 0 ≤ zw (v3 - 1) ∧ zw (v3 - 1) < 9
          · rw [if_pos c3] at h
            refine zG_br hm rfl (cf' := (48, [some (zr 23 n0), some (zi v1), some (zi v2), some (zi v3)], [zi (M 27 n0 (zix (v3 - 1))), zi v3, zr 27 n0], M)) (if_pos c3) ?_
            by_cases c2 : 0 ≤ zw v3 ∧ zw v3 < 9
            · rw [if_pos c2] at h
              refine zG_br hm rfl (cf' := (49, [some (zr 23 n0), some (zi v1), some (zi v2), some (zi v3)], [], (zput M 27 n0 (zix v3) (M 27 n0 (zix (v3 - 1)))))) (if_pos c2) ?_
              obtain ⟨M1, eM1, h⟩ := zlet_of h
              rw [eM1]
              refine zG_run hm 6 (cf' := (14, [some (zr 23 n0), some (zi v1), some (zi (v3 - 1)), some (zi (v3 + (-1)))], [], M1)) rfl ?_
              refine zG_sub (lv' := [some (zr 23 n0), some (zi v1), some (zi (v3 - 1)), some (zi (v3 + (-1)))]) (zsb_s rfl (zsb_s rfl (zsb_s rfl (zsb_s rfl zsb_0)))) ?_
              exact kc ((v3 - 1), (v3 + (-1)), M1) (Option.some.inj h).symm
            · rw [if_neg c2] at h
              cases h
          · rw [if_neg c3] at h
            cases h
      · rw [if_neg c5] at h
        cases h
    · rw [if_neg c6] at h
      cases h
theorem gl_X9_middle_L14 {n0 : Nat} {v1 : Int} {y : Int × zM} {r : Option zV} {Mf : zM} {d : Nat} (hd : 0 ≤ d)
    (kb : ∀ t, y = t → zG 64 d (59, [some (zr 23 n0), some (zi v1), some (zi t.1), none], [], t.2) r Mf) (kr : True) : ∀ (n : Nat) (s : Int × Int × zM), zlp (fun s : Int × Int × zM => f_X9_middle_L14 n0 v1 s.1 s.2.1 s.2.2) n s = some y → zG 64 d (14, [some (zr 23 n0), some (zi v1), some (zi s.1), some (zi s.2.1)], [], s.2.2) r Mf := by
  intro n
  induction n with
  | zero => intro s h; cases h
  | succ n ih =>
    intro s h
    rcases zlp_cases h with ⟨s', h1, h2⟩ | h1
    · exact g_X9_middle_L14 hd h1 (fun s2 e2 => by cases e2; exact ih _ h2) (fun t e2 => by cases e2) trivial
    · exact g_X9_middle_L14 hd h1 (fun s2 e2 => by cases e2) (fun t e2 => kb t (Sum.inr.inj e2)) trivial
def f_X9_middle_j59 (n0 : Nat) (v1 : Int) (v2 : Int) (M : zM) : Option ((Int × zM) ⊕ (zM)) :=
  if 0 ≤ zw v1 ∧ zw v1 < 9 then
    if 0 ≤ zw v2 ∧ zw v2 < 9 then
      zlet (zput M 27 n0 (zix v2) (M 26 n0 (zix v1))) fun M9 =>
      some (.inl ((v1 + 1), M9))
    else
      none
  else
    none
theorem g_X9_middle_j59 {n0 : Nat} {v1 : Int} {v2 : Int} {M : zM} {x : (Int × zM) ⊕ (zM)} {r : Option zV} {Mf : zM} {d : Nat} (hd : 0 ≤ d) (h : f_X9_middle_j59 n0 v1 v2 M = some x)
    (kc : ∀ s, x = .inl s → zG 64 d (2, [some (zr 23 n0), some (zi s.1), none, none], [], s.2) r Mf)
    (kb : ∀ t, x = .inr t → zG 64 d (77, [some (zr 23 n0), none, none, none], [], t) r Mf) (kr : True) : zG 64 d (59, [some (zr 23 n0), some (zi v1), some (zi v2), none], [], M) r Mf := by
  have hm := zmok_64
  unfold f_X9_middle_j59 at h
  refine zG_run hm 6 (cf' := (69, [some (zr 23 n0), some (zi v1), some (zi v2), none], [zi v1, zr 26 n0, zi v2, zr 27 n0], M)) rfl ?_
  by_cases c11 : 0 ≤ zw v1 ∧ zw v1 < 9
  · rw [if_pos c11] at h
    refine zG_br hm rfl (cf' := (70, [some (zr 23 n0), some (zi v1), some (zi v2), none], [zi (M 26 n0 (zix v1)), zi v2, zr 27 n0], M)) (if_pos c11) ?_
    by_cases c10 : 0 ≤ zw v2 ∧ zw v2 < 9
    · rw [if_pos c10] at h
      refine zG_br hm rfl (cf' := (71, [some (zr 23 n0), some (zi v1), some (zi v2), none], [], (zput M 27 n0 (zix v2) (M 26 n0 (zix v1))))) (if_pos c10) ?_
      obtain ⟨M9, eM9, h⟩ := zlet_of h
      rw [eM9]
      refine zG_run hm 2 (cf' := (2, [some (zr 23 n0), some (zi (v1 + 1)), some (zi v2), none], [], M9)) rfl ?_
      refine zG_sub (lv' := [some (zr 23 n0), some (zi (v1 + 1)), none, none]) (zsb_s rfl (zsb_s rfl (zsb_n (zsb_n zsb_0)))) ?_
      exact kc ((v1 + 1), M9) (Option.some.inj h).symm
    · rw [if_neg c10] at h
      cases h
  · rw [if_neg c11] at h
    cases h
def f_X9_middle_L2 (n0 : Nat) (v1 : Int) (M : zM) : Option ((Int × zM) ⊕ (zM)) :=
  if zw (M 23 n0 8) ≤ zw v1 then
    some (.inr M)
  else
    (zlp (fun s : Int × Int × zM => f_X9_middle_L14 n0 v1 s.1 s.2.1 s.2.2) zF (v1, v1, M)).bind fun y8 =>
      f_X9_middle_j59 n0 v1 y8.1 y8.2
theorem g_X9_middle_L2 {n0 : Nat} {v1 : Int} {M : zM} {x : (Int × zM) ⊕ (zM)} {r : Option zV} {Mf : zM} {d : Nat} (hd : 0 ≤ d) (h : f_X9_middle_L2 n0 v1 M = some x)
    (kc : ∀ s, x = .inl s → zG 64 d (2, [some (zr 23 n0), some (zi s.1), none, none], [], s.2) r Mf)
    (kb : ∀ t, x = .inr t → zG 64 d (77, [some (zr 23 n0), none, none, none], [], t) r Mf) (kr : True) : zG 64 d (2, [some (zr 23 n0), some (zi v1), none, none], [], M) r Mf := by
  have hm := zmok_64
  unfold f_X9_middle_L2 at h
  refine zG_run hm 3 (cf' := (7, [some (zr 23 n0), some (zi v1), none, none], [zi (M 23 n0 8), zi v1], M)) rfl ?_
  by_cases c12 : zw (M 23 n0 8) ≤ zw v1
  · rw [if_pos c12] at h
    refine zG_br hm rfl (cf' := (77, [some (zr 23 n0), some (zi v1), none, none], [], M)) (if_pos c12) ?_
    refine zG_sub (lv' := [some (zr 23 n0), none, none, none]) (zsb_s rfl (zsb_n (zsb_n (zsb_n zsb_0)))) ?_
    exact kb M (Option.some.inj h).symm
  · rw [if_neg c12] at h
    refine zG_br hm rfl (cf' := (10, [some (zr 23 n0), some (zi v1), none, none], [], M)) (if_neg c12) ?_
    refine zG_run hm 4 (cf' := (14, [some (zr 23 n0), some (zi v1), some (zi v1), some (zi v1)], [], M)) rfl ?_
    refine zG_sub (lv' := [some (zr 23 n0), some (zi v1), some (zi v1), some (zi v1)]) (zsb_s rfl (zsb_s rfl (zsb_s rfl (zsb_s rfl zsb_0)))) ?_
    obtain ⟨y8, hy8, h⟩ := Option.bind_eq_some_iff.mp h
    refine gl_X9_middle_L14 hd (fun t e2 => ?_) trivial zF (v1, v1, M) hy8
    cases e2
    refine zG_sub (lv' := [some (zr 23 n0), some (zi v1), some (zi y8.1), none]) (zsb_s rfl (zsb_s rfl (zsb_s rfl (zsb_n zsb_0)))) ?_
    exact g_X9_middle_j59 hd h kc kb kr
theorem gl_X9_middle_L2 {n0 : Nat} {y : zM} {r : Option zV} {Mf : zM} {d : Nat} (hd : 0 ≤ d)
    (kb : ∀ t, y = t → zG 64 d (77, [some (zr 23 n0), none, none, none], [], t) r Mf) (kr : True) : ∀ (n : Nat) (s : Int × zM), zlp (fun s : Int × zM => f_X9_middle_L2 n0 s.1 s.2) n s = some y → zG 64 d (2, [some (zr 23 n0), some (zi s.1), none, none], [], s.2) r Mf := by
  intro n
  induction n with
  | zero => intro s h; cases h
  | succ n ih =>
    intro s h
    rcases zlp_cases h with ⟨s', h1, h2⟩ | h1
    · exact g_X9_middle_L2 hd h1 (fun s2 e2 => by cases e2; exact ih _ h2) (fun t e2 => by cases e2) trivial
    · exact g_X9_middle_L2 hd h1 (fun s2 e2 => by cases e2) (fun t e2 => kb t (Sum.inr.inj e2)) trivial
def f_X9_middle (n0 : Nat) (M : zM) : Option (Int × zM) :=
  (zlp (fun s : Int × zM => f_X9_middle_L2 n0 s.1 s.2) zF (0, M)).bind fun y13 =>
    if ¬ zw (y13 23 n0 8) = 0 then
      if 0 ≤ zw (Int.tdiv (zw ((y13 23 n0 8) - 1)) 2) ∧ zw (Int.tdiv (zw ((y13 23 n0 8) - 1)) 2) < 9 then
        some ((y13 27 n0 (zix (Int.tdiv (zw ((y13 23 n0 8) - 1)) 2))), y13)
      else
        none
    else
      some ((-1), y13)
theorem g_X9_middle {n0 : Nat} {M : zM} {q : Int × zM} {d : Nat} (hd : 0 ≤ d) (h : f_X9_middle n0 M = some q) : zG 64 d (0, [some (zr 23 n0), none, none, none], [], M) (some (zi q.1)) q.2 := by
  have hm := zmok_64
  unfold f_X9_middle at h
  refine zG_run hm 2 (cf' := (2, [some (zr 23 n0), some (zi 0), none, none], [], M)) rfl ?_
  refine zG_sub (lv' := [some (zr 23 n0), some (zi 0), none, none]) (zsb_s rfl (zsb_s rfl (zsb_n (zsb_n zsb_0)))) ?_
  obtain ⟨y13, hy13, h⟩ := Option.bind_eq_some_iff.mp h
  refine gl_X9_middle_L2 hd (fun t e2 => ?_) trivial zF (0, M) hy13
  cases e2
  refine zG_run hm 2 (cf' := (81, [some (zr 23 n0), none, none, none], [zi (y13 23 n0 8)], y13)) rfl ?_
  by_cases c15 : ¬ zw (y13 23 n0 8) = 0
  · rw [if_pos c15] at h
    refine zG_br hm rfl (cf' := (88, [some (zr 23 n0), none, none, none], [], y13)) (if_pos c15) ?_
    refine zG_run hm 8 (cf' := (100, [some (zr 23 n0), none, none, none], [zi (Int.tdiv (zw ((y13 23 n0 8) - 1)) 2), zr 27 n0], y13)) rfl ?_
    by_cases c14 : 0 ≤ zw (Int.tdiv (zw ((y13 23 n0 8) - 1)) 2) ∧ zw (Int.tdiv (zw ((y13 23 n0 8) - 1)) 2) < 9
    · rw [if_pos c14] at h
      refine zG_br hm rfl (cf' := (101, [some (zr 23 n0), none, none, none], [zi (y13 27 n0 (zix (Int.tdiv (zw ((y13 23 n0 8) - 1)) 2)))], y13)) (if_pos c14) ?_
      cases h
      exact zG_ri hm rfl rfl
    · rw [if_neg c14] at h
      cases h
  · rw [if_neg c15] at h
    refine zG_br hm rfl (cf' := (84, [some (zr 23 n0), none, none, none], [], y13)) (if_neg c15) ?_
    refine zG_run hm 2 (cf' := (101, [some (zr 23 n0), none, none, none], [zi (-1)], y13)) rfl ?_
    cases h
    exact zG_ri hm rfl rfl
theorem met_X9_middle {n0 : Nat} {M : zM} {q : Int × zM} {d : Nat} (hd : 0 ≤ d) (h : f_X9_middle n0 M = some q) : zMet 64 d [zr 23 n0] M (some (zi q.1)) q.2 :=
  zMet_of (lv0 := [some (zr 23 n0), none, none, none]) zmok_64 rfl rfl (fun v hv => by cases hv; trivial) (g_X9_middle hd h)
