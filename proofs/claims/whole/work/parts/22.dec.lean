/-! methods, decompiled: 2 -/
def f_X4_number_L5 (v2 : Int) (v3 : Int) (v4 : Int) (M : zM) : Option ((Int × Int × zM) ⊕ (Int × zM)) :=
  if zw v2 ≤ zw v4 then
    some (.inr (v3, M))
  else
    (f_X6_at v4 M).bind fun p1 =>
      some (.inl ((if 10000 < zw (((v3 * 10) + p1.1) - 48) then 10000 else (((v3 * 10) + p1.1) - 48)), (v4 + 1), p1.2))
theorem g_X4_number_L5 {v2 : Int} {v3 : Int} {v4 : Int} {M : zM} {x : (Int × Int × zM) ⊕ (Int × zM)} {r : Option zV} {Mf : zM} {d : Nat} (hd : 1 ≤ d) (h : f_X4_number_L5 v2 v3 v4 M = some x)
    (kc : ∀ s, x = .inl s → zG 43 d (5, [some (zr 38 0), none, some (zi v2), some (zi s.1), some (zi s.2.1)], [], s.2.2) r Mf)
    (kb : ∀ t, x = .inr t → zG 43 d (41, [none, none, none, some (zi t.1), none], [], t.2) r Mf) (kr : True) : zG 43 d (5, [some (zr 38 0), none, some (zi v2), some (zi v3), some (zi v4)], [], M) r Mf := by
  have hm := zmok_43
  unfold f_X4_number_L5 at h
  refine zG_run hm 2 (cf' := (8, [some (zr 38 0), none, some (zi v2), some (zi v3), some (zi v4)], [zi v2, zi v4], M)) rfl ?_
  by_cases c2 : zw v2 ≤ zw v4
  · rw [if_pos c2] at h
    refine zG_br hm rfl (cf' := (41, [some (zr 38 0), none, some (zi v2), some (zi v3), some (zi v4)], [], M)) (if_pos c2) ?_
    refine zG_sub (lv' := [none, none, none, some (zi v3), none]) (zsb_n (zsb_n (zsb_n (zsb_s rfl (zsb_n zsb_0))))) ?_
    exact kb (v3, M) (Option.some.inj h).symm
  · rw [if_neg c2] at h
    refine zG_br hm rfl (cf' := (11, [some (zr 38 0), none, some (zi v2), some (zi v3), some (zi v4)], [], M)) (if_neg c2) ?_
    refine zG_run hm 6 (cf' := (21, [some (zr 38 0), none, some (zi v2), some (zi v3), some (zi v4)], [zi v4, zr 35 0, zi (v3 * 10)], M)) rfl ?_
    obtain ⟨p1, hp1, h⟩ := Option.bind_eq_some_iff.mp h
    refine zG_V hm zmok_54 rfl (as := [zi v4]) (rest := [zi (v3 * 10)]) (st2 := [zi p1.1, zi (v3 * 10)]) (pc2 := 24) rfl rfl (by omega) (met_X6_at (d := 0) (Nat.le_refl _) hp1) rfl ?_
    refine zG_run hm 4 (cf' := (31, [some (zr 38 0), none, some (zi v2), some (zi v3), some (zi v4)], [zi 10000, zi (((v3 * 10) + p1.1) - 48)], p1.2)) rfl ?_
    refine zG_min hm rfl rfl ?_
    show zG 43 d (34, [some (zr 38 0), none, some (zi v2), some (zi v3), some (zi v4)], [zi (if 10000 < zw (((v3 * 10) + p1.1) - 48) then 10000 else (((v3 * 10) + p1.1) - 48))], p1.2) _ _
    refine zG_run hm 3 (cf' := (5, [some (zr 38 0), none, some (zi v2), some (zi (if 10000 < zw (((v3 * 10) + p1.1) - 48) then 10000 else (((v3 * 10) + p1.1) - 48))), some (zi (v4 + 1))], [], p1.2)) rfl ?_
    refine zG_sub (lv' := [some (zr 38 0), none, some (zi v2), some (zi (if 10000 < zw (((v3 * 10) + p1.1) - 48) then 10000 else (((v3 * 10) + p1.1) - 48))), some (zi (v4 + 1))]) (zsb_s rfl (zsb_n (zsb_s rfl (zsb_s rfl (zsb_s rfl zsb_0))))) ?_
    exact kc ((if 10000 < zw (((v3 * 10) + p1.1) - 48) then 10000 else (((v3 * 10) + p1.1) - 48)), (v4 + 1), p1.2) (Option.some.inj h).symm
theorem gl_X4_number_L5 {v2 : Int} {y : Int × zM} {r : Option zV} {Mf : zM} {d : Nat} (hd : 1 ≤ d)
    (kb : ∀ t, y = t → zG 43 d (41, [none, none, none, some (zi t.1), none], [], t.2) r Mf) (kr : True) : ∀ (n : Nat) (s : Int × Int × zM), zlp (fun s : Int × Int × zM => f_X4_number_L5 v2 s.1 s.2.1 s.2.2) n s = some y → zG 43 d (5, [some (zr 38 0), none, some (zi v2), some (zi s.1), some (zi s.2.1)], [], s.2.2) r Mf := by
  intro n
  induction n with
  | zero => intro s h; cases h
  | succ n ih =>
    intro s h
    rcases zlp_cases h with ⟨s', h1, h2⟩ | h1
    · exact g_X4_number_L5 hd h1 (fun s2 e2 => by cases e2; exact ih _ h2) (fun t e2 => by cases e2) trivial
    · exact g_X4_number_L5 hd h1 (fun s2 e2 => by cases e2) (fun t e2 => kb t (Sum.inr.inj e2)) trivial
def f_X4_number (v1 : Int) (v2 : Int) (M : zM) : Option (Int × zM) :=
  (zlp (fun s : Int × Int × zM => f_X4_number_L5 v2 s.1 s.2.1 s.2.2) zF (0, v1, M)).bind fun y3 =>
    some (y3.1, y3.2)
theorem g_X4_number {v1 : Int} {v2 : Int} {M : zM} {q : Int × zM} {d : Nat} (hd : 1 ≤ d) (h : f_X4_number v1 v2 M = some q) : zG 43 d (0, [some (zr 38 0), some (zi v1), some (zi v2), none, none], [], M) (some (zi q.1)) q.2 := by
  have hm := zmok_43
  unfold f_X4_number at h
  refine zG_run hm 4 (cf' := (5, [some (zr 38 0), some (zi v1), some (zi v2), some (zi 0), some (zi v1)], [], M)) rfl ?_
  refine zG_sub (lv' := [some (zr 38 0), none, some (zi v2), some (zi 0), some (zi v1)]) (zsb_s rfl (zsb_n (zsb_s rfl (zsb_s rfl (zsb_s rfl zsb_0))))) ?_
  obtain ⟨y3, hy3, h⟩ := Option.bind_eq_some_iff.mp h
  refine gl_X4_number_L5 hd (fun t e2 => ?_) trivial zF (0, v1, M) hy3
  cases e2
  refine zG_run hm 1 (cf' := (42, [none, none, none, some (zi y3.1), none], [zi y3.1], y3.2)) rfl ?_
  cases h
  exact zG_ri hm rfl rfl
theorem met_X4_number {v1 : Int} {v2 : Int} {M : zM} {q : Int × zM} {d : Nat} (hd : 1 ≤ d) (h : f_X4_number v1 v2 M = some q) : zMet 43 d [zr 38 0, zi v1, zi v2] M (some (zi q.1)) q.2 :=
  zMet_of (lv0 := [some (zr 38 0), some (zi v1), some (zi v2), none, none]) zmok_43 rfl rfl (fun v hv => by cases hv; trivial) (g_X4_number hd h)
def f_X4_reads_L15 (n1 : Nat) (v2 : Int) (v4 : Int) (M : zM) : Option ((Int × zM) ⊕ ((Int × zM) ⊕ (zM))) :=
  (f_J0_length_8abf5 n1 M).bind fun p2 =>
    if zw p2.1 ≤ zw v4 then
      some (.inr (.inr p2.2))
    else
      (f_X6_at (v2 + v4) p2.2).bind fun p3 =>
        (f_J0_charAt_5068e n1 v4 p3.2).bind fun p4 =>
          if zw p3.1 = zw p4.1 then
            some (.inl ((v4 + 1), p4.2))
          else
            some (.inr (.inl (0, p4.2)))
theorem g_X4_reads_L15 {n1 : Nat} {v2 : Int} {v4 : Int} {M : zM} {x : (Int × zM) ⊕ ((Int × zM) ⊕ (zM))} {r : Option zV} {Mf : zM} {d : Nat} (hd : 4 ≤ d) (h : f_X4_reads_L15 n1 v2 v4 M = some x)
    (kc : ∀ s, x = .inl s → zG 49 d (15, [some (zr 38 0), some (zr 90 n1), some (zi v2), none, some (zi s.1)], [], s.2) r Mf)
    (kb : ∀ t, x = .inr (.inr t) → zG 49 d (52, [none, none, none, none, none], [], t) r Mf) (kr : ∀ q, x = .inr (.inl q) → r = some (zi q.1) ∧ Mf = q.2) : zG 49 d (15, [some (zr 38 0), some (zr 90 n1), some (zi v2), none, some (zi v4)], [], M) r Mf := by
  have hm := zmok_49
  unfold f_X4_reads_L15 at h
  refine zG_run hm 2 (cf' := (18, [some (zr 38 0), some (zr 90 n1), some (zi v2), none, some (zi v4)], [zr 90 n1, zi v4], M)) rfl ?_
  obtain ⟨p2, hp2, h⟩ := Option.bind_eq_some_iff.mp h
  refine zG_Str hm zmok_230 rfl (lt_J0_length_8abf5 hp2) rfl (as := []) (rest := [zi v4]) (st2 := [zi p2.1, zi v4]) (pc2 := 21) rfl rfl (by omega) (met_J0_length_8abf5 (d := 1) (Nat.le_refl _) hp2) rfl ?_
  by_cases c6 : zw p2.1 ≤ zw v4
  · rw [if_pos c6] at h
    refine zG_br hm rfl (cf' := (52, [some (zr 38 0), some (zr 90 n1), some (zi v2), none, some (zi v4)], [], p2.2)) (if_pos c6) ?_
    refine zG_sub (lv' := [none, none, none, none, none]) (zsb_n (zsb_n (zsb_n (zsb_n (zsb_n zsb_0))))) ?_
    exact kb p2.2 (Option.some.inj h).symm
  · rw [if_neg c6] at h
    refine zG_br hm rfl (cf' := (24, [some (zr 38 0), some (zr 90 n1), some (zi v2), none, some (zi v4)], [], p2.2)) (if_neg c6) ?_
    refine zG_run hm 5 (cf' := (32, [some (zr 38 0), some (zr 90 n1), some (zi v2), none, some (zi v4)], [zi (v2 + v4), zr 35 0], p2.2)) rfl ?_
    obtain ⟨p3, hp3, h⟩ := Option.bind_eq_some_iff.mp h
    refine zG_V hm zmok_54 rfl (as := [zi (v2 + v4)]) (rest := []) (st2 := [zi p3.1]) (pc2 := 35) rfl rfl (by omega) (met_X6_at (d := 0) (Nat.le_refl _) hp3) rfl ?_
    refine zG_run hm 2 (cf' := (38, [some (zr 38 0), some (zr 90 n1), some (zi v2), none, some (zi v4)], [zi v4, zr 90 n1, zi p3.1], p3.2)) rfl ?_
    obtain ⟨p4, hp4, h⟩ := Option.bind_eq_some_iff.mp h
    refine zG_Str hm zmok_233 rfl (lt_J0_charAt_5068e hp4) rfl (as := [zi v4]) (rest := [zi p3.1]) (st2 := [zi p4.1, zi p3.1]) (pc2 := 41) rfl rfl (by omega) (met_J0_charAt_5068e (d := 3) (Nat.le_refl _) hp4) rfl ?_
    by_cases c5 : zw p3.1 = zw p4.1
    · rw [if_pos c5] at h
      refine zG_br hm rfl (cf' := (46, [some (zr 38 0), some (zr 90 n1), some (zi v2), none, some (zi v4)], [], p4.2)) (if_pos c5) ?_
      refine zG_run hm 2 (cf' := (15, [some (zr 38 0), some (zr 90 n1), some (zi v2), none, some (zi (v4 + 1))], [], p4.2)) rfl ?_
      refine zG_sub (lv' := [some (zr 38 0), some (zr 90 n1), some (zi v2), none, some (zi (v4 + 1))]) (zsb_s rfl (zsb_s rfl (zsb_s rfl (zsb_n (zsb_s rfl zsb_0))))) ?_
      exact kc ((v4 + 1), p4.2) (Option.some.inj h).symm
    · rw [if_neg c5] at h
      refine zG_br hm rfl (cf' := (44, [some (zr 38 0), some (zr 90 n1), some (zi v2), none, some (zi v4)], [], p4.2)) (if_neg c5) ?_
      refine zG_run hm 1 (cf' := (45, [some (zr 38 0), some (zr 90 n1), some (zi v2), none, some (zi v4)], [zi 0], p4.2)) rfl ?_
      obtain ⟨rfl, rfl⟩ := kr (0, p4.2) (Option.some.inj h).symm
      exact zG_rz hm rfl rfl (Or.inl rfl)
theorem gl_X4_reads_L15 {n1 : Nat} {v2 : Int} {y : (Int × zM) ⊕ (zM)} {r : Option zV} {Mf : zM} {d : Nat} (hd : 4 ≤ d)
    (kb : ∀ t, y = .inr t → zG 49 d (52, [none, none, none, none, none], [], t) r Mf) (kr : ∀ q, y = .inl q → r = some (zi q.1) ∧ Mf = q.2) : ∀ (n : Nat) (s : Int × zM), zlp (fun s : Int × zM => f_X4_reads_L15 n1 v2 s.1 s.2) n s = some y → zG 49 d (15, [some (zr 38 0), some (zr 90 n1), some (zi v2), none, some (zi s.1)], [], s.2) r Mf := by
  intro n
  induction n with
  | zero => intro s h; cases h
  | succ n ih =>
    intro s h
    rcases zlp_cases h with ⟨s', h1, h2⟩ | h1
    · exact g_X4_reads_L15 hd h1 (fun s2 e2 => by cases e2; exact ih _ h2) (fun t e2 => by cases e2) (fun q e2 => by cases e2)
    · exact g_X4_reads_L15 hd h1 (fun s2 e2 => by cases e2) (fun t e2 => kb t (Sum.inr.inj e2)) (fun q e2 => kr q (Sum.inr.inj e2))
def f_X4_reads (n1 : Nat) (v2 : Int) (v3 : Int) (M : zM) : Option (Int × zM) :=
  (f_J0_length_8abf5 n1 M).bind fun p1 =>
    if zw (v3 - v2) = zw p1.1 then
      (zlp (fun s : Int × zM => f_X4_reads_L15 n1 v2 s.1 s.2) zF (0, p1.2)).bind fun y7 =>
        match y7 with
        | .inl q9 => some q9
        | .inr t8 =>
          some (1, t8)
    else
      some (0, p1.2)
theorem g_X4_reads {n1 : Nat} {v2 : Int} {v3 : Int} {M : zM} {q : Int × zM} {d : Nat} (hd : 4 ≤ d) (h : f_X4_reads n1 v2 v3 M = some q) : zG 49 d (0, [some (zr 38 0), some (zr 90 n1), some (zi v2), some (zi v3), none], [], M) (some (zi q.1)) q.2 := by
  have hm := zmok_49
  unfold f_X4_reads at h
  refine zG_run hm 4 (cf' := (4, [some (zr 38 0), some (zr 90 n1), some (zi v2), some (zi v3), none], [zr 90 n1, zi (v3 - v2)], M)) rfl ?_
  obtain ⟨p1, hp1, h⟩ := Option.bind_eq_some_iff.mp h
  refine zG_Str hm zmok_230 rfl (lt_J0_length_8abf5 hp1) rfl (as := []) (rest := [zi (v3 - v2)]) (st2 := [zi p1.1, zi (v3 - v2)]) (pc2 := 7) rfl rfl (by omega) (met_J0_length_8abf5 (d := 1) (Nat.le_refl _) hp1) rfl ?_
  by_cases c10 : zw (v3 - v2) = zw p1.1
  · rw [if_pos c10] at h
    refine zG_br hm rfl (cf' := (12, [some (zr 38 0), some (zr 90 n1), some (zi v2), some (zi v3), none], [], p1.2)) (if_pos c10) ?_
    refine zG_run hm 2 (cf' := (15, [some (zr 38 0), some (zr 90 n1), some (zi v2), some (zi v3), some (zi 0)], [], p1.2)) rfl ?_
    refine zG_sub (lv' := [some (zr 38 0), some (zr 90 n1), some (zi v2), none, some (zi 0)]) (zsb_s rfl (zsb_s rfl (zsb_s rfl (zsb_n (zsb_s rfl zsb_0))))) ?_
    obtain ⟨y7, hy7, h⟩ := Option.bind_eq_some_iff.mp h
    refine gl_X4_reads_L15 hd (fun t8 e2 => ?_) (fun q e2 => ?_) zF (0, p1.2) hy7
    · cases e2
      refine zG_run hm 1 (cf' := (53, [none, none, none, none, none], [zi 1], t8)) rfl ?_
      cases h
      exact zG_rz hm rfl rfl (Or.inr rfl)
    · cases e2
      cases h
      exact ⟨rfl, rfl⟩
  · rw [if_neg c10] at h
    refine zG_br hm rfl (cf' := (10, [some (zr 38 0), some (zr 90 n1), some (zi v2), some (zi v3), none], [], p1.2)) (if_neg c10) ?_
    refine zG_run hm 1 (cf' := (11, [some (zr 38 0), some (zr 90 n1), some (zi v2), some (zi v3), none], [zi 0], p1.2)) rfl ?_
    cases h
    exact zG_rz hm rfl rfl (Or.inl rfl)
theorem met_X4_reads {n1 : Nat} {v2 : Int} {v3 : Int} {M : zM} {q : Int × zM} {d : Nat} (hd : 4 ≤ d) (h : f_X4_reads n1 v2 v3 M = some q) : zMet 49 d [zr 38 0, zr 90 n1, zi v2, zi v3] M (some (zi q.1)) q.2 :=
  zMet_of (lv0 := [some (zr 38 0), some (zr 90 n1), some (zi v2), some (zi v3), none]) zmok_49 rfl rfl (fun v hv => by cases hv; trivial) (g_X4_reads hd h)
def f_X4_wordKind (v1 : Int) (v2 : Int) (M : zM) : Option (Int × zM) :=
  (f_X4_reads 0 v1 v2 M).bind fun p1 =>
    if zw p1.1 = 0 then
      (f_X4_reads 1 v1 v2 p1.2).bind fun p2 =>
        if zw p2.1 = 0 then
          (f_X4_reads 2 v1 v2 p2.2).bind fun p3 =>
            if zw p3.1 = 0 then
              (f_X4_reads 3 v1 v2 p3.2).bind fun p4 =>
                if zw p4.1 = 0 then
                  (f_X4_reads 4 v1 v2 p4.2).bind fun p5 =>
                    if zw p5.1 = 0 then
                      (f_X4_reads 5 v1 v2 p5.2).bind fun p6 =>
                        if zw p6.1 = 0 then
                          (f_X4_reads 6 v1 v2 p6.2).bind fun p7 =>
                            if zw p7.1 = 0 then
                              (f_X4_reads 7 v1 v2 p7.2).bind fun p8 =>
                                if zw p8.1 = 0 then
                                  (f_X4_reads 8 v1 v2 p8.2).bind fun p9 =>
                                    if zw p9.1 = 0 then
                                      (f_X4_reads 9 v1 v2 p9.2).bind fun p10 =>
                                        if zw p10.1 = 0 then
                                          (f_X4_reads 10 v1 v2 p10.2).bind fun p11 =>
                                            if zw p11.1 = 0 then
                                              (f_X4_reads 11 v1 v2 p11.2).bind fun p12 =>
                                                if zw p12.1 = 0 then
                                                  (f_X4_reads 12 v1 v2 p12.2).bind fun p13 =>
                                                    if zw p13.1 = 0 then
                                                      (f_X4_reads 13 v1 v2 p13.2).bind fun p14 =>
                                                        if zw p14.1 = 0 then
                                                          (f_X4_reads 14 v1 v2 p14.2).bind fun p15 =>
                                                            if zw p15.1 = 0 then
                                                              (f_X4_reads 15 v1 v2 p15.2).bind fun p16 =>
                                                                if zw p16.1 = 0 then
                                                                  (f_X4_reads 16 v1 v2 p16.2).bind fun p17 =>
                                                                    if zw p17.1 = 0 then
                                                                      (f_X4_reads 17 v1 v2 p17.2).bind fun p18 =>
                                                                        if zw p18.1 = 0 then
                                                                          (f_X4_reads 18 v1 v2 p18.2).bind fun p19 =>
                                                                            if zw p19.1 = 0 then
                                                                              (f_X4_reads 19 v1 v2 p19.2).bind fun p20 =>
                                                                                if zw p20.1 = 0 then
                                                                                  (f_X4_reads 20 v1 v2 p20.2).bind fun p21 =>
                                                                                    if zw p21.1 = 0 then
                                                                                      (f_X4_reads 21 v1 v2 p21.2).bind fun p22 =>
                                                                                        if zw p22.1 = 0 then
                                                                                          (f_X4_reads 22 v1 v2 p22.2).bind fun p23 =>
                                                                                            if zw p23.1 = 0 then
                                                                                              (f_X4_reads 23 v1 v2 p23.2).bind fun p24 =>
                                                                                                if zw p24.1 = 0 then
                                                                                                  (f_X4_reads 24 v1 v2 p24.2).bind fun p25 =>
                                                                                                    if zw p25.1 = 0 then
                                                                                                      some (39, p25.2)
                                                                                                    else
                                                                                                      some (24, p25.2)
                                                                                                else
                                                                                                  some (23, p24.2)
                                                                                            else
                                                                                              some (22, p23.2)
                                                                                        else
                                                                                          some (21, p22.2)
                                                                                    else
                                                                                      some (20, p21.2)
                                                                                else
                                                                                  some (19, p20.2)
                                                                            else
                                                                              some (18, p19.2)
                                                                        else
                                                                          some (17, p18.2)
                                                                    else
                                                                      some (16, p17.2)
                                                                else
                                                                  some (15, p16.2)
                                                            else
                                                              some (14, p15.2)
                                                        else
                                                          some (13, p14.2)
                                                    else
                                                      some (12, p13.2)
                                                else
                                                  some (11, p12.2)
                                            else
                                              some (10, p11.2)
                                        else
                                          some (9, p10.2)
                                    else
                                      some (8, p9.2)
                                else
                                  some (7, p8.2)
                            else
                              some (6, p7.2)
                        else
                          some (5, p6.2)
                    else
                      some (4, p5.2)
                else
                  some (3, p4.2)
            else
              some (2, p3.2)
        else
          some (1, p2.2)
    else
      some (0, p1.2)
theorem g_X4_wordKind {v1 : Int} {v2 : Int} {M : zM} {q : Int × zM} {d : Nat} (hd : 5 ≤ d) (h : f_X4_wordKind v1 v2 M = some q) : zG 48 d (0, [some (zr 38 0), some (zi v1), some (zi v2)], [], M) (some (zi q.1)) q.2 := by
  have hm := zmok_48
  unfold f_X4_wordKind at h
  refine zG_run hm 4 (cf' := (5, [some (zr 38 0), some (zi v1), some (zi v2)], [zi v2, zi v1, zr 90 0, zr 38 0], M)) rfl ?_
  obtain ⟨p1, hp1, h⟩ := Option.bind_eq_some_iff.mp h
  refine zG_V hm zmok_49 rfl (as := [zr 90 0, zi v1, zi v2]) (rest := []) (st2 := [zi p1.1]) (pc2 := 8) rfl rfl (by omega) (met_X4_reads (d := 4) (Nat.le_refl _) hp1) rfl ?_
  by_cases c50 : zw p1.1 = 0
  · rw [if_pos c50] at h
    refine zG_br hm rfl (cf' := (13, [some (zr 38 0), some (zi v1), some (zi v2)], [], p1.2)) (if_pos c50) ?_
    refine zG_run hm 4 (cf' := (18, [some (zr 38 0), some (zi v1), some (zi v2)], [zi v2, zi v1, zr 90 1, zr 38 0], p1.2)) rfl ?_
    obtain ⟨p2, hp2, h⟩ := Option.bind_eq_some_iff.mp h
    refine zG_V hm zmok_49 rfl (as := [zr 90 1, zi v1, zi v2]) (rest := []) (st2 := [zi p2.1]) (pc2 := 21) rfl rfl (by omega) (met_X4_reads (d := 4) (Nat.le_refl _) hp2) rfl ?_
    by_cases c49 : zw p2.1 = 0
    · rw [if_pos c49] at h
      refine zG_br hm rfl (cf' := (26, [some (zr 38 0), some (zi v1), some (zi v2)], [], p2.2)) (if_pos c49) ?_
      refine zG_run hm 4 (cf' := (31, [some (zr 38 0), some (zi v1), some (zi v2)], [zi v2, zi v1, zr 90 2, zr 38 0], p2.2)) rfl ?_
      obtain ⟨p3, hp3, h⟩ := Option.bind_eq_some_iff.mp h
      refine zG_V hm zmok_49 rfl (as := [zr 90 2, zi v1, zi v2]) (rest := []) (st2 := [zi p3.1]) (pc2 := 34) rfl rfl (by omega) (met_X4_reads (d := 4) (Nat.le_refl _) hp3) rfl ?_
      by_cases c48 : zw p3.1 = 0
      · rw [if_pos c48] at h
        refine zG_br hm rfl (cf' := (39, [some (zr 38 0), some (zi v1), some (zi v2)], [], p3.2)) (if_pos c48) ?_
        refine zG_run hm 4 (cf' := (44, [some (zr 38 0), some (zi v1), some (zi v2)], [zi v2, zi v1, zr 90 3, zr 38 0], p3.2)) rfl ?_
        obtain ⟨p4, hp4, h⟩ := Option.bind_eq_some_iff.mp h
        refine zG_V hm zmok_49 rfl (as := [zr 90 3, zi v1, zi v2]) (rest := []) (st2 := [zi p4.1]) (pc2 := 47) rfl rfl (by omega) (met_X4_reads (d := 4) (Nat.le_refl _) hp4) rfl ?_
        by_cases c47 : zw p4.1 = 0
        · rw [if_pos c47] at h
          refine zG_br hm rfl (cf' := (52, [some (zr 38 0), some (zi v1), some (zi v2)], [], p4.2)) (if_pos c47) ?_
          refine zG_run hm 4 (cf' := (57, [some (zr 38 0), some (zi v1), some (zi v2)], [zi v2, zi v1, zr 90 4, zr 38 0], p4.2)) rfl ?_
          obtain ⟨p5, hp5, h⟩ := Option.bind_eq_some_iff.mp h
          refine zG_V hm zmok_49 rfl (as := [zr 90 4, zi v1, zi v2]) (rest := []) (st2 := [zi p5.1]) (pc2 := 60) rfl rfl (by omega) (met_X4_reads (d := 4) (Nat.le_refl _) hp5) rfl ?_
          by_cases c46 : zw p5.1 = 0
          · rw [if_pos c46] at h
            refine zG_br hm rfl (cf' := (65, [some (zr 38 0), some (zi v1), some (zi v2)], [], p5.2)) (if_pos c46) ?_
            refine zG_run hm 4 (cf' := (70, [some (zr 38 0), some (zi v1), some (zi v2)], [zi v2, zi v1, zr 90 5, zr 38 0], p5.2)) rfl ?_
            obtain ⟨p6, hp6, h⟩ := Option.bind_eq_some_iff.mp h
            refine zG_V hm zmok_49 rfl (as := [zr 90 5, zi v1, zi v2]) (rest := []) (st2 := [zi p6.1]) (pc2 := 73) rfl rfl (by omega) (met_X4_reads (d := 4) (Nat.le_refl _) hp6) rfl ?_
            by_cases c45 : zw p6.1 = 0
            · rw [if_pos c45] at h
              refine zG_br hm rfl (cf' := (78, [some (zr 38 0), some (zi v1), some (zi v2)], [], p6.2)) (if_pos c45) ?_
              refine zG_run hm 4 (cf' := (83, [some (zr 38 0), some (zi v1), some (zi v2)], [zi v2, zi v1, zr 90 6, zr 38 0], p6.2)) rfl ?_
              obtain ⟨p7, hp7, h⟩ := Option.bind_eq_some_iff.mp h
              refine zG_V hm zmok_49 rfl (as := [zr 90 6, zi v1, zi v2]) (rest := []) (st2 := [zi p7.1]) (pc2 := 86) rfl rfl (by omega) (met_X4_reads (d := 4) (Nat.le_refl _) hp7) rfl ?_
              by_cases c44 : zw p7.1 = 0
              · rw [if_pos c44] at h
                refine zG_br hm rfl (cf' := (92, [some (zr 38 0), some (zi v1), some (zi v2)], [], p7.2)) (if_pos c44) ?_
                refine zG_run hm 4 (cf' := (97, [some (zr 38 0), some (zi v1), some (zi v2)], [zi v2, zi v1, zr 90 7, zr 38 0], p7.2)) rfl ?_
                obtain ⟨p8, hp8, h⟩ := Option.bind_eq_some_iff.mp h
                refine zG_V hm zmok_49 rfl (as := [zr 90 7, zi v1, zi v2]) (rest := []) (st2 := [zi p8.1]) (pc2 := 100) rfl rfl (by omega) (met_X4_reads (d := 4) (Nat.le_refl _) hp8) rfl ?_
                by_cases c43 : zw p8.1 = 0
                · rw [if_pos c43] at h
                  refine zG_br hm rfl (cf' := (106, [some (zr 38 0), some (zi v1), some (zi v2)], [], p8.2)) (if_pos c43) ?_
                  refine zG_run hm 4 (cf' := (111, [some (zr 38 0), some (zi v1), some (zi v2)], [zi v2, zi v1, zr 90 8, zr 38 0], p8.2)) rfl ?_
                  obtain ⟨p9, hp9, h⟩ := Option.bind_eq_some_iff.mp h
                  refine zG_V hm zmok_49 rfl (as := [zr 90 8, zi v1, zi v2]) (rest := []) (st2 := [zi p9.1]) (pc2 := 114) rfl rfl (by omega) (met_X4_reads (d := 4) (Nat.le_refl _) hp9) rfl ?_
                  by_cases c42 : zw p9.1 = 0
                  · rw [if_pos c42] at h
                    refine zG_br hm rfl (cf' := (120, [some (zr 38 0), some (zi v1), some (zi v2)], [], p9.2)) (if_pos c42) ?_
                    refine zG_run hm 4 (cf' := (125, [some (zr 38 0), some (zi v1), some (zi v2)], [zi v2, zi v1, zr 90 9, zr 38 0], p9.2)) rfl ?_
                    obtain ⟨p10, hp10, h⟩ := Option.bind_eq_some_iff.mp h
                    refine zG_V hm zmok_49 rfl (as := [zr 90 9, zi v1, zi v2]) (rest := []) (st2 := [zi p10.1]) (pc2 := 128) rfl rfl (by omega) (met_X4_reads (d := 4) (Nat.le_refl _) hp10) rfl ?_
                    by_cases c41 : zw p10.1 = 0
                    · rw [if_pos c41] at h
                      refine zG_br hm rfl (cf' := (134, [some (zr 38 0), some (zi v1), some (zi v2)], [], p10.2)) (if_pos c41) ?_
                      refine zG_run hm 4 (cf' := (139, [some (zr 38 0), some (zi v1), some (zi v2)], [zi v2, zi v1, zr 90 10, zr 38 0], p10.2)) rfl ?_
                      obtain ⟨p11, hp11, h⟩ := Option.bind_eq_some_iff.mp h
                      refine zG_V hm zmok_49 rfl (as := [zr 90 10, zi v1, zi v2]) (rest := []) (st2 := [zi p11.1]) (pc2 := 142) rfl rfl (by omega) (met_X4_reads (d := 4) (Nat.le_refl _) hp11) rfl ?_
                      by_cases c40 : zw p11.1 = 0
                      · rw [if_pos c40] at h
                        refine zG_br hm rfl (cf' := (148, [some (zr 38 0), some (zi v1), some (zi v2)], [], p11.2)) (if_pos c40) ?_
                        refine zG_run hm 4 (cf' := (153, [some (zr 38 0), some (zi v1), some (zi v2)], [zi v2, zi v1, zr 90 11, zr 38 0], p11.2)) rfl ?_
                        obtain ⟨p12, hp12, h⟩ := Option.bind_eq_some_iff.mp h
                        refine zG_V hm zmok_49 rfl (as := [zr 90 11, zi v1, zi v2]) (rest := []) (st2 := [zi p12.1]) (pc2 := 156) rfl rfl (by omega) (met_X4_reads (d := 4) (Nat.le_refl _) hp12) rfl ?_
                        by_cases c39 : zw p12.1 = 0
                        · rw [if_pos c39] at h
                          refine zG_br hm rfl (cf' := (162, [some (zr 38 0), some (zi v1), some (zi v2)], [], p12.2)) (if_pos c39) ?_
                          refine zG_run hm 4 (cf' := (167, [some (zr 38 0), some (zi v1), some (zi v2)], [zi v2, zi v1, zr 90 12, zr 38 0], p12.2)) rfl ?_
                          obtain ⟨p13, hp13, h⟩ := Option.bind_eq_some_iff.mp h
                          refine zG_V hm zmok_49 rfl (as := [zr 90 12, zi v1, zi v2]) (rest := []) (st2 := [zi p13.1]) (pc2 := 170) rfl rfl (by omega) (met_X4_reads (d := 4) (Nat.le_refl _) hp13) rfl ?_
                          by_cases c38 : zw p13.1 = 0
                          · rw [if_pos c38] at h
                            refine zG_br hm rfl (cf' := (176, [some (zr 38 0), some (zi v1), some (zi v2)], [], p13.2)) (if_pos c38) ?_
                            refine zG_run hm 4 (cf' := (181, [some (zr 38 0), some (zi v1), some (zi v2)], [zi v2, zi v1, zr 90 13, zr 38 0], p13.2)) rfl ?_
                            obtain ⟨p14, hp14, h⟩ := Option.bind_eq_some_iff.mp h
                            refine zG_V hm zmok_49 rfl (as := [zr 90 13, zi v1, zi v2]) (rest := []) (st2 := [zi p14.1]) (pc2 := 184) rfl rfl (by omega) (met_X4_reads (d := 4) (Nat.le_refl _) hp14) rfl ?_
                            by_cases c37 : zw p14.1 = 0
                            · rw [if_pos c37] at h
                              refine zG_br hm rfl (cf' := (190, [some (zr 38 0), some (zi v1), some (zi v2)], [], p14.2)) (if_pos c37) ?_
                              refine zG_run hm 4 (cf' := (195, [some (zr 38 0), some (zi v1), some (zi v2)], [zi v2, zi v1, zr 90 14, zr 38 0], p14.2)) rfl ?_
                              obtain ⟨p15, hp15, h⟩ := Option.bind_eq_some_iff.mp h
                              refine zG_V hm zmok_49 rfl (as := [zr 90 14, zi v1, zi v2]) (rest := []) (st2 := [zi p15.1]) (pc2 := 198) rfl rfl (by omega) (met_X4_reads (d := 4) (Nat.le_refl _) hp15) rfl ?_
                              by_cases c36 : zw p15.1 = 0
                              · rw [if_pos c36] at h
                                refine zG_br hm rfl (cf' := (204, [some (zr 38 0), some (zi v1), some (zi v2)], [], p15.2)) (if_pos c36) ?_
                                refine zG_run hm 4 (cf' := (209, [some (zr 38 0), some (zi v1), some (zi v2)], [zi v2, zi v1, zr 90 15, zr 38 0], p15.2)) rfl ?_
                                obtain ⟨p16, hp16, h⟩ := Option.bind_eq_some_iff.mp h
                                refine zG_V hm zmok_49 rfl (as := [zr 90 15, zi v1, zi v2]) (rest := []) (st2 := [zi p16.1]) (pc2 := 212) rfl rfl (by omega) (met_X4_reads (d := 4) (Nat.le_refl _) hp16) rfl ?_
                                by_cases c35 : zw p16.1 = 0
                                · rw [if_pos c35] at h
                                  refine zG_br hm rfl (cf' := (218, [some (zr 38 0), some (zi v1), some (zi v2)], [], p16.2)) (if_pos c35) ?_
                                  refine zG_run hm 4 (cf' := (223, [some (zr 38 0), some (zi v1), some (zi v2)], [zi v2, zi v1, zr 90 16, zr 38 0], p16.2)) rfl ?_
                                  obtain ⟨p17, hp17, h⟩ := Option.bind_eq_some_iff.mp h
                                  refine zG_V hm zmok_49 rfl (as := [zr 90 16, zi v1, zi v2]) (rest := []) (st2 := [zi p17.1]) (pc2 := 226) rfl rfl (by omega) (met_X4_reads (d := 4) (Nat.le_refl _) hp17) rfl ?_
                                  by_cases c34 : zw p17.1 = 0
                                  · rw [if_pos c34] at h
                                    refine zG_br hm rfl (cf' := (232, [some (zr 38 0), some (zi v1), some (zi v2)], [], p17.2)) (if_pos c34) ?_
                                    refine zG_run hm 4 (cf' := (237, [some (zr 38 0), some (zi v1), some (zi v2)], [zi v2, zi v1, zr 90 17, zr 38 0], p17.2)) rfl ?_
                                    obtain ⟨p18, hp18, h⟩ := Option.bind_eq_some_iff.mp h
                                    refine zG_V hm zmok_49 rfl (as := [zr 90 17, zi v1, zi v2]) (rest := []) (st2 := [zi p18.1]) (pc2 := 240) rfl rfl (by omega) (met_X4_reads (d := 4) (Nat.le_refl _) hp18) rfl ?_
                                    by_cases c33 : zw p18.1 = 0
                                    · rw [if_pos c33] at h
                                      refine zG_br hm rfl (cf' := (246, [some (zr 38 0), some (zi v1), some (zi v2)], [], p18.2)) (if_pos c33) ?_
                                      refine zG_run hm 4 (cf' := (251, [some (zr 38 0), some (zi v1), some (zi v2)], [zi v2, zi v1, zr 90 18, zr 38 0], p18.2)) rfl ?_
                                      obtain ⟨p19, hp19, h⟩ := Option.bind_eq_some_iff.mp h
                                      refine zG_V hm zmok_49 rfl (as := [zr 90 18, zi v1, zi v2]) (rest := []) (st2 := [zi p19.1]) (pc2 := 254) rfl rfl (by omega) (met_X4_reads (d := 4) (Nat.le_refl _) hp19) rfl ?_
                                      by_cases c32 : zw p19.1 = 0
                                      · rw [if_pos c32] at h
                                        refine zG_br hm rfl (cf' := (260, [some (zr 38 0), some (zi v1), some (zi v2)], [], p19.2)) (if_pos c32) ?_
                                        refine zG_run hm 4 (cf' := (265, [some (zr 38 0), some (zi v1), some (zi v2)], [zi v2, zi v1, zr 90 19, zr 38 0], p19.2)) rfl ?_
                                        obtain ⟨p20, hp20, h⟩ := Option.bind_eq_some_iff.mp h
                                        refine zG_V hm zmok_49 rfl (as := [zr 90 19, zi v1, zi v2]) (rest := []) (st2 := [zi p20.1]) (pc2 := 268) rfl rfl (by omega) (met_X4_reads (d := 4) (Nat.le_refl _) hp20) rfl ?_
                                        by_cases c31 : zw p20.1 = 0
                                        · rw [if_pos c31] at h
                                          refine zG_br hm rfl (cf' := (274, [some (zr 38 0), some (zi v1), some (zi v2)], [], p20.2)) (if_pos c31) ?_
                                          refine zG_run hm 4 (cf' := (279, [some (zr 38 0), some (zi v1), some (zi v2)], [zi v2, zi v1, zr 90 20, zr 38 0], p20.2)) rfl ?_
                                          obtain ⟨p21, hp21, h⟩ := Option.bind_eq_some_iff.mp h
                                          refine zG_V hm zmok_49 rfl (as := [zr 90 20, zi v1, zi v2]) (rest := []) (st2 := [zi p21.1]) (pc2 := 282) rfl rfl (by omega) (met_X4_reads (d := 4) (Nat.le_refl _) hp21) rfl ?_
                                          by_cases c30 : zw p21.1 = 0
                                          · rw [if_pos c30] at h
                                            refine zG_br hm rfl (cf' := (288, [some (zr 38 0), some (zi v1), some (zi v2)], [], p21.2)) (if_pos c30) ?_
                                            refine zG_run hm 4 (cf' := (293, [some (zr 38 0), some (zi v1), some (zi v2)], [zi v2, zi v1, zr 90 21, zr 38 0], p21.2)) rfl ?_
                                            obtain ⟨p22, hp22, h⟩ := Option.bind_eq_some_iff.mp h
                                            refine zG_V hm zmok_49 rfl (as := [zr 90 21, zi v1, zi v2]) (rest := []) (st2 := [zi p22.1]) (pc2 := 296) rfl rfl (by omega) (met_X4_reads (d := 4) (Nat.le_refl _) hp22) rfl ?_
                                            by_cases c29 : zw p22.1 = 0
                                            · rw [if_pos c29] at h
                                              refine zG_br hm rfl (cf' := (302, [some (zr 38 0), some (zi v1), some (zi v2)], [], p22.2)) (if_pos c29) ?_
                                              refine zG_run hm 4 (cf' := (307, [some (zr 38 0), some (zi v1), some (zi v2)], [zi v2, zi v1, zr 90 22, zr 38 0], p22.2)) rfl ?_
                                              obtain ⟨p23, hp23, h⟩ := Option.bind_eq_some_iff.mp h
                                              refine zG_V hm zmok_49 rfl (as := [zr 90 22, zi v1, zi v2]) (rest := []) (st2 := [zi p23.1]) (pc2 := 310) rfl rfl (by omega) (met_X4_reads (d := 4) (Nat.le_refl _) hp23) rfl ?_
                                              by_cases c28 : zw p23.1 = 0
                                              · rw [if_pos c28] at h
                                                refine zG_br hm rfl (cf' := (316, [some (zr 38 0), some (zi v1), some (zi v2)], [], p23.2)) (if_pos c28) ?_
                                                refine zG_run hm 4 (cf' := (321, [some (zr 38 0), some (zi v1), some (zi v2)], [zi v2, zi v1, zr 90 23, zr 38 0], p23.2)) rfl ?_
                                                obtain ⟨p24, hp24, h⟩ := Option.bind_eq_some_iff.mp h
                                                refine zG_V hm zmok_49 rfl (as := [zr 90 23, zi v1, zi v2]) (rest := []) (st2 := [zi p24.1]) (pc2 := 324) rfl rfl (by omega) (met_X4_reads (d := 4) (Nat.le_refl _) hp24) rfl ?_
                                                by_cases c27 : zw p24.1 = 0
                                                · rw [if_pos c27] at h
                                                  refine zG_br hm rfl (cf' := (330, [some (zr 38 0), some (zi v1), some (zi v2)], [], p24.2)) (if_pos c27) ?_
                                                  refine zG_run hm 4 (cf' := (335, [some (zr 38 0), some (zi v1), some (zi v2)], [zi v2, zi v1, zr 90 24, zr 38 0], p24.2)) rfl ?_
                                                  obtain ⟨p25, hp25, h⟩ := Option.bind_eq_some_iff.mp h
                                                  refine zG_V hm zmok_49 rfl (as := [zr 90 24, zi v1, zi v2]) (rest := []) (st2 := [zi p25.1]) (pc2 := 338) rfl rfl (by omega) (met_X4_reads (d := 4) (Nat.le_refl _) hp25) rfl ?_
                                                  by_cases c26 : zw p25.1 = 0
                                                  · rw [if_pos c26] at h
                                                    refine zG_br hm rfl (cf' := (344, [some (zr 38 0), some (zi v1), some (zi v2)], [], p25.2)) (if_pos c26) ?_
                                                    refine zG_run hm 1 (cf' := (346, [some (zr 38 0), some (zi v1), some (zi v2)], [zi 39], p25.2)) rfl ?_
                                                    cases h
                                                    exact zG_ri hm rfl rfl
                                                  · rw [if_neg c26] at h
                                                    refine zG_br hm rfl (cf' := (341, [some (zr 38 0), some (zi v1), some (zi v2)], [], p25.2)) (if_neg c26) ?_
                                                    refine zG_run hm 1 (cf' := (343, [some (zr 38 0), some (zi v1), some (zi v2)], [zi 24], p25.2)) rfl ?_
                                                    cases h
                                                    exact zG_ri hm rfl rfl
                                                · rw [if_neg c27] at h
                                                  refine zG_br hm rfl (cf' := (327, [some (zr 38 0), some (zi v1), some (zi v2)], [], p24.2)) (if_neg c27) ?_
                                                  refine zG_run hm 1 (cf' := (329, [some (zr 38 0), some (zi v1), some (zi v2)], [zi 23], p24.2)) rfl ?_
                                                  cases h
                                                  exact zG_ri hm rfl rfl
                                              · rw [if_neg c28] at h
                                                refine zG_br hm rfl (cf' := (313, [some (zr 38 0), some (zi v1), some (zi v2)], [], p23.2)) (if_neg c28) ?_
                                                refine zG_run hm 1 (cf' := (315, [some (zr 38 0), some (zi v1), some (zi v2)], [zi 22], p23.2)) rfl ?_
                                                cases h
                                                exact zG_ri hm rfl rfl
                                            · rw [if_neg c29] at h
                                              refine zG_br hm rfl (cf' := (299, [some (zr 38 0), some (zi v1), some (zi v2)], [], p22.2)) (if_neg c29) ?_
                                              refine zG_run hm 1 (cf' := (301, [some (zr 38 0), some (zi v1), some (zi v2)], [zi 21], p22.2)) rfl ?_
                                              cases h
                                              exact zG_ri hm rfl rfl
                                          · rw [if_neg c30] at h
                                            refine zG_br hm rfl (cf' := (285, [some (zr 38 0), some (zi v1), some (zi v2)], [], p21.2)) (if_neg c30) ?_
                                            refine zG_run hm 1 (cf' := (287, [some (zr 38 0), some (zi v1), some (zi v2)], [zi 20], p21.2)) rfl ?_
                                            cases h
                                            exact zG_ri hm rfl rfl
                                        · rw [if_neg c31] at h
                                          refine zG_br hm rfl (cf' := (271, [some (zr 38 0), some (zi v1), some (zi v2)], [], p20.2)) (if_neg c31) ?_
                                          refine zG_run hm 1 (cf' := (273, [some (zr 38 0), some (zi v1), some (zi v2)], [zi 19], p20.2)) rfl ?_
                                          cases h
                                          exact zG_ri hm rfl rfl
                                      · rw [if_neg c32] at h
                                        refine zG_br hm rfl (cf' := (257, [some (zr 38 0), some (zi v1), some (zi v2)], [], p19.2)) (if_neg c32) ?_
                                        refine zG_run hm 1 (cf' := (259, [some (zr 38 0), some (zi v1), some (zi v2)], [zi 18], p19.2)) rfl ?_
                                        cases h
                                        exact zG_ri hm rfl rfl
                                    · rw [if_neg c33] at h
                                      refine zG_br hm rfl (cf' := (243, [some (zr 38 0), some (zi v1), some (zi v2)], [], p18.2)) (if_neg c33) ?_
                                      refine zG_run hm 1 (cf' := (245, [some (zr 38 0), some (zi v1), some (zi v2)], [zi 17], p18.2)) rfl ?_
                                      cases h
                                      exact zG_ri hm rfl rfl
                                  · rw [if_neg c34] at h
                                    refine zG_br hm rfl (cf' := (229, [some (zr 38 0), some (zi v1), some (zi v2)], [], p17.2)) (if_neg c34) ?_
                                    refine zG_run hm 1 (cf' := (231, [some (zr 38 0), some (zi v1), some (zi v2)], [zi 16], p17.2)) rfl ?_
                                    cases h
                                    exact zG_ri hm rfl rfl
                                · rw [if_neg c35] at h
                                  refine zG_br hm rfl (cf' := (215, [some (zr 38 0), some (zi v1), some (zi v2)], [], p16.2)) (if_neg c35) ?_
                                  refine zG_run hm 1 (cf' := (217, [some (zr 38 0), some (zi v1), some (zi v2)], [zi 15], p16.2)) rfl ?_
                                  cases h
                                  exact zG_ri hm rfl rfl
                              · rw [if_neg c36] at h
                                refine zG_br hm rfl (cf' := (201, [some (zr 38 0), some (zi v1), some (zi v2)], [], p15.2)) (if_neg c36) ?_
                                refine zG_run hm 1 (cf' := (203, [some (zr 38 0), some (zi v1), some (zi v2)], [zi 14], p15.2)) rfl ?_
                                cases h
                                exact zG_ri hm rfl rfl
                            · rw [if_neg c37] at h
                              refine zG_br hm rfl (cf' := (187, [some (zr 38 0), some (zi v1), some (zi v2)], [], p14.2)) (if_neg c37) ?_
                              refine zG_run hm 1 (cf' := (189, [some (zr 38 0), some (zi v1), some (zi v2)], [zi 13], p14.2)) rfl ?_
                              cases h
                              exact zG_ri hm rfl rfl
                          · rw [if_neg c38] at h
                            refine zG_br hm rfl (cf' := (173, [some (zr 38 0), some (zi v1), some (zi v2)], [], p13.2)) (if_neg c38) ?_
                            refine zG_run hm 1 (cf' := (175, [some (zr 38 0), some (zi v1), some (zi v2)], [zi 12], p13.2)) rfl ?_
                            cases h
                            exact zG_ri hm rfl rfl
                        · rw [if_neg c39] at h
                          refine zG_br hm rfl (cf' := (159, [some (zr 38 0), some (zi v1), some (zi v2)], [], p12.2)) (if_neg c39) ?_
                          refine zG_run hm 1 (cf' := (161, [some (zr 38 0), some (zi v1), some (zi v2)], [zi 11], p12.2)) rfl ?_
                          cases h
                          exact zG_ri hm rfl rfl
                      · rw [if_neg c40] at h
                        refine zG_br hm rfl (cf' := (145, [some (zr 38 0), some (zi v1), some (zi v2)], [], p11.2)) (if_neg c40) ?_
                        refine zG_run hm 1 (cf' := (147, [some (zr 38 0), some (zi v1), some (zi v2)], [zi 10], p11.2)) rfl ?_
                        cases h
                        exact zG_ri hm rfl rfl
                    · rw [if_neg c41] at h
                      refine zG_br hm rfl (cf' := (131, [some (zr 38 0), some (zi v1), some (zi v2)], [], p10.2)) (if_neg c41) ?_
                      refine zG_run hm 1 (cf' := (133, [some (zr 38 0), some (zi v1), some (zi v2)], [zi 9], p10.2)) rfl ?_
                      cases h
                      exact zG_ri hm rfl rfl
                  · rw [if_neg c42] at h
                    refine zG_br hm rfl (cf' := (117, [some (zr 38 0), some (zi v1), some (zi v2)], [], p9.2)) (if_neg c42) ?_
                    refine zG_run hm 1 (cf' := (119, [some (zr 38 0), some (zi v1), some (zi v2)], [zi 8], p9.2)) rfl ?_
                    cases h
                    exact zG_ri hm rfl rfl
                · rw [if_neg c43] at h
                  refine zG_br hm rfl (cf' := (103, [some (zr 38 0), some (zi v1), some (zi v2)], [], p8.2)) (if_neg c43) ?_
                  refine zG_run hm 1 (cf' := (105, [some (zr 38 0), some (zi v1), some (zi v2)], [zi 7], p8.2)) rfl ?_
                  cases h
                  exact zG_ri hm rfl rfl
              · rw [if_neg c44] at h
                refine zG_br hm rfl (cf' := (89, [some (zr 38 0), some (zi v1), some (zi v2)], [], p7.2)) (if_neg c44) ?_
                refine zG_run hm 1 (cf' := (91, [some (zr 38 0), some (zi v1), some (zi v2)], [zi 6], p7.2)) rfl ?_
                cases h
                exact zG_ri hm rfl rfl
            · rw [if_neg c45] at h
              refine zG_br hm rfl (cf' := (76, [some (zr 38 0), some (zi v1), some (zi v2)], [], p6.2)) (if_neg c45) ?_
              refine zG_run hm 1 (cf' := (77, [some (zr 38 0), some (zi v1), some (zi v2)], [zi 5], p6.2)) rfl ?_
              cases h
              exact zG_ri hm rfl rfl
          · rw [if_neg c46] at h
            refine zG_br hm rfl (cf' := (63, [some (zr 38 0), some (zi v1), some (zi v2)], [], p5.2)) (if_neg c46) ?_
            refine zG_run hm 1 (cf' := (64, [some (zr 38 0), some (zi v1), some (zi v2)], [zi 4], p5.2)) rfl ?_
            cases h
            exact zG_ri hm rfl rfl
        · rw [if_neg c47] at h
          refine zG_br hm rfl (cf' := (50, [some (zr 38 0), some (zi v1), some (zi v2)], [], p4.2)) (if_neg c47) ?_
          refine zG_run hm 1 (cf' := (51, [some (zr 38 0), some (zi v1), some (zi v2)], [zi 3], p4.2)) rfl ?_
          cases h
          exact zG_ri hm rfl rfl
      · rw [if_neg c48] at h
        refine zG_br hm rfl (cf' := (37, [some (zr 38 0), some (zi v1), some (zi v2)], [], p3.2)) (if_neg c48) ?_
        refine zG_run hm 1 (cf' := (38, [some (zr 38 0), some (zi v1), some (zi v2)], [zi 2], p3.2)) rfl ?_
        cases h
        exact zG_ri hm rfl rfl
    · rw [if_neg c49] at h
      refine zG_br hm rfl (cf' := (24, [some (zr 38 0), some (zi v1), some (zi v2)], [], p2.2)) (if_neg c49) ?_
      refine zG_run hm 1 (cf' := (25, [some (zr 38 0), some (zi v1), some (zi v2)], [zi 1], p2.2)) rfl ?_
      cases h
      exact zG_ri hm rfl rfl
  · rw [if_neg c50] at h
    refine zG_br hm rfl (cf' := (11, [some (zr 38 0), some (zi v1), some (zi v2)], [], p1.2)) (if_neg c50) ?_
    refine zG_run hm 1 (cf' := (12, [some (zr 38 0), some (zi v1), some (zi v2)], [zi 0], p1.2)) rfl ?_
    cases h
    exact zG_ri hm rfl rfl
theorem met_X4_wordKind {v1 : Int} {v2 : Int} {M : zM} {q : Int × zM} {d : Nat} (hd : 5 ≤ d) (h : f_X4_wordKind v1 v2 M = some q) : zMet 48 d [zr 38 0, zi v1, zi v2] M (some (zi q.1)) q.2 :=
  zMet_of (lv0 := [some (zr 38 0), some (zi v1), some (zi v2)]) zmok_48 rfl rfl (fun v hv => by cases hv; trivial) (g_X4_wordKind hd h)
def f_X4_findOne_j182 (vs0 : Int) (vs1 : Int) (M : zM) : Option (Int × zM) :=
  some ((vs1 + vs0), M)
theorem g_X4_findOne_j182 {vs0 : Int} {vs1 : Int} {M : zM} {q : Int × zM} {d : Nat} (hd : 6 ≤ d) (h : f_X4_findOne_j182 vs0 vs1 M = some q) : zG 41 d (182, [none, none, none, none, none], [zi vs0, zi vs1], M) (some (zi q.1)) q.2 := by
  have hm := zmok_41
  unfold f_X4_findOne_j182 at h
  refine zG_run hm 3 (cf' := (187, [none, none, none, none, some (zi (vs1 + vs0))], [zi (vs1 + vs0)], M)) rfl ?_
  cases h
  exact zG_ri hm rfl rfl
def f_X4_findOne_j177 (vs0 : Int) (M : zM) : Option (Int × zM) :=
  f_X4_findOne_j182 1 vs0 M
theorem g_X4_findOne_j177 {vs0 : Int} {M : zM} {q : Int × zM} {d : Nat} (hd : 6 ≤ d) (h : f_X4_findOne_j177 vs0 M = some q) : zG 41 d (177, [none, none, none, none, none], [zi vs0], M) (some (zi q.1)) q.2 := by
  have hm := zmok_41
  unfold f_X4_findOne_j177 at h
  refine zG_run hm 2 (cf' := (182, [none, none, none, none, none], [zi 1, zi vs0], M)) rfl ?_
  refine zG_sub (lv' := [none, none, none, none, none]) (zsb_n (zsb_n (zsb_n (zsb_n (zsb_n zsb_0))))) ?_
  exact g_X4_findOne_j182 hd h
def f_X4_findOne_L77 (v1 : Int) (v2 : Int) (v4 : Int) (M : zM) : Option ((Int × zM) ⊕ (Int × zM)) :=
  if zw (M 35 0 1) ≤ zw v4 then
    some (.inr (v4, M))
  else
    (f_X6_at v4 M).bind fun p12 =>
      (f_X4_isDigit p12.1 p12.2).bind fun p13 =>
        if zw p13.1 = 0 then
          some (.inr (v4, p13.2))
        else
          some (.inl ((v4 + 1), p13.2))
theorem g_X4_findOne_L77 {v1 : Int} {v2 : Int} {v4 : Int} {M : zM} {x : (Int × zM) ⊕ (Int × zM)} {r : Option zV} {Mf : zM} {d : Nat} (hd : 6 ≤ d) (h : f_X4_findOne_L77 v1 v2 v4 M = some x)
    (kc : ∀ s, x = .inl s → zG 41 d (77, [some (zr 38 0), some (zi v1), some (zi v2), none, some (zi s.1)], [], s.2) r Mf)
    (kb : ∀ t, x = .inr t → zG 41 d (110, [some (zr 38 0), some (zi v1), some (zi v2), none, some (zi t.1)], [], t.2) r Mf) (kr : True) : zG 41 d (77, [some (zr 38 0), some (zi v1), some (zi v2), none, some (zi v4)], [], M) r Mf := by
  have hm := zmok_41
  unfold f_X4_findOne_L77 at h
  refine zG_run hm 4 (cf' := (86, [some (zr 38 0), some (zi v1), some (zi v2), none, some (zi v4)], [zi (M 35 0 1), zi v4], M)) rfl ?_
  by_cases c15 : zw (M 35 0 1) ≤ zw v4
  · rw [if_pos c15] at h
    refine zG_br hm rfl (cf' := (110, [some (zr 38 0), some (zi v1), some (zi v2), none, some (zi v4)], [], M)) (if_pos c15) ?_
    refine zG_sub (lv' := [some (zr 38 0), some (zi v1), some (zi v2), none, some (zi v4)]) (zsb_s rfl (zsb_s rfl (zsb_s rfl (zsb_n (zsb_s rfl zsb_0))))) ?_
    exact kb (v4, M) (Option.some.inj h).symm
  · rw [if_neg c15] at h
    refine zG_br hm rfl (cf' := (89, [some (zr 38 0), some (zi v1), some (zi v2), none, some (zi v4)], [], M)) (if_neg c15) ?_
    refine zG_run hm 3 (cf' := (95, [some (zr 38 0), some (zi v1), some (zi v2), none, some (zi v4)], [zi v4, zr 35 0], M)) rfl ?_
    obtain ⟨p12, hp12, h⟩ := Option.bind_eq_some_iff.mp h
    refine zG_V hm zmok_54 rfl (as := [zi v4]) (rest := []) (st2 := [zi p12.1]) (pc2 := 98) rfl rfl (by omega) (met_X6_at (d := 0) (Nat.le_refl _) hp12) rfl ?_
    obtain ⟨p13, hp13, h⟩ := Option.bind_eq_some_iff.mp h
    refine zG_S hm zmok_46 rfl (as := [zi p12.1]) (rest := []) (st2 := [zi p13.1]) (pc2 := 101) rfl rfl (by omega) (met_X4_isDigit (d := 0) (Nat.le_refl _) hp13) rfl ?_
    by_cases c14 : zw p13.1 = 0
    · rw [if_pos c14] at h
      refine zG_br hm rfl (cf' := (110, [some (zr 38 0), some (zi v1), some (zi v2), none, some (zi v4)], [], p13.2)) (if_pos c14) ?_
      refine zG_sub (lv' := [some (zr 38 0), some (zi v1), some (zi v2), none, some (zi v4)]) (zsb_s rfl (zsb_s rfl (zsb_s rfl (zsb_n (zsb_s rfl zsb_0))))) ?_
      exact kb (v4, p13.2) (Option.some.inj h).symm
    · rw [if_neg c14] at h
      refine zG_br hm rfl (cf' := (104, [some (zr 38 0), some (zi v1), some (zi v2), none, some (zi v4)], [], p13.2)) (if_neg c14) ?_
      refine zG_run hm 2 (cf' := (77, [some (zr 38 0), some (zi v1), some (zi v2), none, some (zi (v4 + 1))], [], p13.2)) rfl ?_
      refine zG_sub (lv' := [some (zr 38 0), some (zi v1), some (zi v2), none, some (zi (v4 + 1))]) (zsb_s rfl (zsb_s rfl (zsb_s rfl (zsb_n (zsb_s rfl zsb_0))))) ?_
      exact kc ((v4 + 1), p13.2) (Option.some.inj h).symm
theorem gl_X4_findOne_L77 {v1 : Int} {v2 : Int} {y : Int × zM} {r : Option zV} {Mf : zM} {d : Nat} (hd : 6 ≤ d)
    (kb : ∀ t, y = t → zG 41 d (110, [some (zr 38 0), some (zi v1), some (zi v2), none, some (zi t.1)], [], t.2) r Mf) (kr : True) : ∀ (n : Nat) (s : Int × zM), zlp (fun s : Int × zM => f_X4_findOne_L77 v1 v2 s.1 s.2) n s = some y → zG 41 d (77, [some (zr 38 0), some (zi v1), some (zi v2), none, some (zi s.1)], [], s.2) r Mf := by
  intro n
  induction n with
  | zero => intro s h; cases h
  | succ n ih =>
    intro s h
    rcases zlp_cases h with ⟨s', h1, h2⟩ | h1
    · exact g_X4_findOne_L77 hd h1 (fun s2 e2 => by cases e2; exact ih _ h2) (fun t e2 => by cases e2) trivial
    · exact g_X4_findOne_L77 hd h1 (fun s2 e2 => by cases e2) (fun t e2 => kb t (Sum.inr.inj e2)) trivial
def f_X4_findOne_j110 (v1 : Int) (v2 : Int) (v4 : Int) (M : zM) : Option (Int × zM) :=
  if 0 ≤ zw v1 ∧ zw v1 < 301 then
    zlet (zput M 39 0 (zix v1) 25) fun M17 =>
    (f_X4_number v2 v4 M17).bind fun p18 =>
      if 0 ≤ zw v1 ∧ zw v1 < 301 then
        zlet (zput p18.2 40 0 (zix v1) p18.1) fun M19 =>
        some (v4, M19)
      else
        none
  else
    none
theorem g_X4_findOne_j110 {v1 : Int} {v2 : Int} {v4 : Int} {M : zM} {q : Int × zM} {d : Nat} (hd : 6 ≤ d) (h : f_X4_findOne_j110 v1 v2 v4 M = some q) : zG 41 d (110, [some (zr 38 0), some (zi v1), some (zi v2), none, some (zi v4)], [], M) (some (zi q.1)) q.2 := by
  have hm := zmok_41
  unfold f_X4_findOne_j110 at h
  refine zG_run hm 4 (cf' := (117, [some (zr 38 0), some (zi v1), some (zi v2), none, some (zi v4)], [zi 25, zi v1, zr 39 0], M)) rfl ?_
  by_cases c21 : 0 ≤ zw v1 ∧ zw v1 < 301
  · rw [if_pos c21] at h
    refine zG_br hm rfl (cf' := (118, [some (zr 38 0), some (zi v1), some (zi v2), none, some (zi v4)], [], (zput M 39 0 (zix v1) 25))) (if_pos c21) ?_
    obtain ⟨M17, eM17, h⟩ := zlet_of h
    rw [eM17]
    refine zG_run hm 6 (cf' := (127, [some (zr 38 0), some (zi v1), some (zi v2), none, some (zi v4)], [zi v4, zi v2, zr 38 0, zi v1, zr 40 0], M17)) rfl ?_
    obtain ⟨p18, hp18, h⟩ := Option.bind_eq_some_iff.mp h
    refine zG_V hm zmok_43 rfl (as := [zi v2, zi v4]) (rest := [zi v1, zr 40 0]) (st2 := [zi p18.1, zi v1, zr 40 0]) (pc2 := 130) rfl rfl (by omega) (met_X4_number (d := 1) (Nat.le_refl _) hp18) rfl ?_
    by_cases c20 : 0 ≤ zw v1 ∧ zw v1 < 301
    · rw [if_pos c20] at h
      refine zG_br hm rfl (cf' := (131, [some (zr 38 0), some (zi v1), some (zi v2), none, some (zi v4)], [], (zput p18.2 40 0 (zix v1) p18.1))) (if_pos c20) ?_
      obtain ⟨M19, eM19, h⟩ := zlet_of h
      rw [eM19]
      refine zG_run hm 2 (cf' := (187, [some (zr 38 0), some (zi v1), some (zi v2), none, some (zi v4)], [zi v4], M19)) rfl ?_
      cases h
      exact zG_ri hm rfl rfl
    · rw [if_neg c20] at h
      cases h
  · rw [if_neg c21] at h
    cases h
def f_X4_findOne_L21 (v1 : Int) (v2 : Int) (v4 : Int) (M : zM) : Option ((Int × zM) ⊕ (Int × zM)) :=
  if zw (M 35 0 1) ≤ zw v4 then
    some (.inr (v4, M))
  else
    (f_X6_at v4 M).bind fun p23 =>
      (f_X4_isLetter p23.1 p23.2).bind fun p24 =>
        if zw p24.1 = 0 then
          some (.inr (v4, p24.2))
        else
          some (.inl ((v4 + 1), p24.2))
theorem g_X4_findOne_L21 {v1 : Int} {v2 : Int} {v4 : Int} {M : zM} {x : (Int × zM) ⊕ (Int × zM)} {r : Option zV} {Mf : zM} {d : Nat} (hd : 6 ≤ d) (h : f_X4_findOne_L21 v1 v2 v4 M = some x)
    (kc : ∀ s, x = .inl s → zG 41 d (21, [some (zr 38 0), some (zi v1), some (zi v2), none, some (zi s.1)], [], s.2) r Mf)
    (kb : ∀ t, x = .inr t → zG 41 d (54, [some (zr 38 0), some (zi v1), some (zi v2), none, some (zi t.1)], [], t.2) r Mf) (kr : True) : zG 41 d (21, [some (zr 38 0), some (zi v1), some (zi v2), none, some (zi v4)], [], M) r Mf := by
  have hm := zmok_41
  unfold f_X4_findOne_L21 at h
  refine zG_run hm 4 (cf' := (30, [some (zr 38 0), some (zi v1), some (zi v2), none, some (zi v4)], [zi (M 35 0 1), zi v4], M)) rfl ?_
  by_cases c26 : zw (M 35 0 1) ≤ zw v4
  · rw [if_pos c26] at h
    refine zG_br hm rfl (cf' := (54, [some (zr 38 0), some (zi v1), some (zi v2), none, some (zi v4)], [], M)) (if_pos c26) ?_
    refine zG_sub (lv' := [some (zr 38 0), some (zi v1), some (zi v2), none, some (zi v4)]) (zsb_s rfl (zsb_s rfl (zsb_s rfl (zsb_n (zsb_s rfl zsb_0))))) ?_
    exact kb (v4, M) (Option.some.inj h).symm
  · rw [if_neg c26] at h
    refine zG_br hm rfl (cf' := (33, [some (zr 38 0), some (zi v1), some (zi v2), none, some (zi v4)], [], M)) (if_neg c26) ?_
    refine zG_run hm 3 (cf' := (39, [some (zr 38 0), some (zi v1), some (zi v2), none, some (zi v4)], [zi v4, zr 35 0], M)) rfl ?_
    obtain ⟨p23, hp23, h⟩ := Option.bind_eq_some_iff.mp h
    refine zG_V hm zmok_54 rfl (as := [zi v4]) (rest := []) (st2 := [zi p23.1]) (pc2 := 42) rfl rfl (by omega) (met_X6_at (d := 0) (Nat.le_refl _) hp23) rfl ?_
    obtain ⟨p24, hp24, h⟩ := Option.bind_eq_some_iff.mp h
    refine zG_S hm zmok_45 rfl (as := [zi p23.1]) (rest := []) (st2 := [zi p24.1]) (pc2 := 45) rfl rfl (by omega) (met_X4_isLetter (d := 0) (Nat.le_refl _) hp24) rfl ?_
    by_cases c25 : zw p24.1 = 0
    · rw [if_pos c25] at h
      refine zG_br hm rfl (cf' := (54, [some (zr 38 0), some (zi v1), some (zi v2), none, some (zi v4)], [], p24.2)) (if_pos c25) ?_
      refine zG_sub (lv' := [some (zr 38 0), some (zi v1), some (zi v2), none, some (zi v4)]) (zsb_s rfl (zsb_s rfl (zsb_s rfl (zsb_n (zsb_s rfl zsb_0))))) ?_
      exact kb (v4, p24.2) (Option.some.inj h).symm
    · rw [if_neg c25] at h
      refine zG_br hm rfl (cf' := (48, [some (zr 38 0), some (zi v1), some (zi v2), none, some (zi v4)], [], p24.2)) (if_neg c25) ?_
      refine zG_run hm 2 (cf' := (21, [some (zr 38 0), some (zi v1), some (zi v2), none, some (zi (v4 + 1))], [], p24.2)) rfl ?_
      refine zG_sub (lv' := [some (zr 38 0), some (zi v1), some (zi v2), none, some (zi (v4 + 1))]) (zsb_s rfl (zsb_s rfl (zsb_s rfl (zsb_n (zsb_s rfl zsb_0))))) ?_
      exact kc ((v4 + 1), p24.2) (Option.some.inj h).symm
theorem gl_X4_findOne_L21 {v1 : Int} {v2 : Int} {y : Int × zM} {r : Option zV} {Mf : zM} {d : Nat} (hd : 6 ≤ d)
    (kb : ∀ t, y = t → zG 41 d (54, [some (zr 38 0), some (zi v1), some (zi v2), none, some (zi t.1)], [], t.2) r Mf) (kr : True) : ∀ (n : Nat) (s : Int × zM), zlp (fun s : Int × zM => f_X4_findOne_L21 v1 v2 s.1 s.2) n s = some y → zG 41 d (21, [some (zr 38 0), some (zi v1), some (zi v2), none, some (zi s.1)], [], s.2) r Mf := by
  intro n
  induction n with
  | zero => intro s h; cases h
  | succ n ih =>
    intro s h
    rcases zlp_cases h with ⟨s', h1, h2⟩ | h1
    · exact g_X4_findOne_L21 hd h1 (fun s2 e2 => by cases e2; exact ih _ h2) (fun t e2 => by cases e2) trivial
    · exact g_X4_findOne_L21 hd h1 (fun s2 e2 => by cases e2) (fun t e2 => kb t (Sum.inr.inj e2)) trivial
def f_X4_findOne_j54 (v1 : Int) (v2 : Int) (v4 : Int) (M : zM) : Option (Int × zM) :=
  (f_X4_wordKind v2 v4 M).bind fun p28 =>
    if 0 ≤ zw v1 ∧ zw v1 < 301 then
      zlet (zput p28.2 39 0 (zix v1) p28.1) fun M29 =>
      some (v4, M29)
    else
      none
theorem g_X4_findOne_j54 {v1 : Int} {v2 : Int} {v4 : Int} {M : zM} {q : Int × zM} {d : Nat} (hd : 6 ≤ d) (h : f_X4_findOne_j54 v1 v2 v4 M = some q) : zG 41 d (54, [some (zr 38 0), some (zi v1), some (zi v2), none, some (zi v4)], [], M) (some (zi q.1)) q.2 := by
  have hm := zmok_41
  unfold f_X4_findOne_j54 at h
  refine zG_run hm 6 (cf' := (63, [some (zr 38 0), some (zi v1), some (zi v2), none, some (zi v4)], [zi v4, zi v2, zr 38 0, zi v1, zr 39 0], M)) rfl ?_
  obtain ⟨p28, hp28, h⟩ := Option.bind_eq_some_iff.mp h
  refine zG_V hm zmok_48 rfl (as := [zi v2, zi v4]) (rest := [zi v1, zr 39 0]) (st2 := [zi p28.1, zi v1, zr 39 0]) (pc2 := 66) rfl rfl (by omega) (met_X4_wordKind (d := 5) (Nat.le_refl _) hp28) rfl ?_
  by_cases c30 : 0 ≤ zw v1 ∧ zw v1 < 301
  · rw [if_pos c30] at h
    refine zG_br hm rfl (cf' := (67, [some (zr 38 0), some (zi v1), some (zi v2), none, some (zi v4)], [], (zput p28.2 39 0 (zix v1) p28.1))) (if_pos c30) ?_
    obtain ⟨M29, eM29, h⟩ := zlet_of h
    rw [eM29]
    refine zG_run hm 2 (cf' := (187, [some (zr 38 0), some (zi v1), some (zi v2), none, some (zi v4)], [zi v4], M29)) rfl ?_
    cases h
    exact zG_ri hm rfl rfl
  · rw [if_neg c30] at h
    cases h
def f_X4_findOne (v1 : Int) (v2 : Int) (M : zM) : Option (Int × zM) :=
  (f_X6_at v2 M).bind fun p1 =>
    (f_X4_isLetter p1.1 p1.2).bind fun p2 =>
      if zw p2.1 = 0 then
        (f_X4_isDigit p1.1 p2.2).bind fun p3 =>
          if zw p3.1 = 0 then
            (f_X6_at (v2 + 1) p3.2).bind fun p4 =>
              (f_X4_markKind p1.1 p4.1 p4.2).bind fun p5 =>
                if 0 ≤ zw v1 ∧ zw v1 < 301 then
                  zlet (zput p5.2 39 0 (zix v1) p5.1) fun M6 =>
                  if 0 ≤ zw v1 ∧ zw v1 < 301 then
                    if zw (M6 39 0 (zix v1)) = 27 then
                      f_X4_findOne_j177 (v2 + 1) M6
                    else
                      if 0 ≤ zw v1 ∧ zw v1 < 301 then
                        if ¬ zw (M6 39 0 (zix v1)) = 29 then
                          f_X4_findOne_j182 0 (v2 + 1) M6
                        else
                          f_X4_findOne_j177 (v2 + 1) M6
                      else
                        none
                  else
                    none
                else
                  none
          else
            (zlp (fun s : Int × zM => f_X4_findOne_L77 v1 v2 s.1 s.2) zF ((v2 + 1), p3.2)).bind fun y16 =>
              f_X4_findOne_j110 v1 v2 y16.1 y16.2
      else
        (zlp (fun s : Int × zM => f_X4_findOne_L21 v1 v2 s.1 s.2) zF ((v2 + 1), p2.2)).bind fun y27 =>
          f_X4_findOne_j54 v1 v2 y27.1 y27.2
theorem g_X4_findOne {v1 : Int} {v2 : Int} {M : zM} {q : Int × zM} {d : Nat} (hd : 6 ≤ d) (h : f_X4_findOne v1 v2 M = some q) : zG 41 d (0, [some (zr 38 0), some (zi v1), some (zi v2), none, none], [], M) (some (zi q.1)) q.2 := by
  have hm := zmok_41
  unfold f_X4_findOne at h
  refine zG_run hm 3 (cf' := (5, [some (zr 38 0), some (zi v1), some (zi v2), none, none], [zi v2, zr 35 0], M)) rfl ?_
  obtain ⟨p1, hp1, h⟩ := Option.bind_eq_some_iff.mp h
  refine zG_V hm zmok_54 rfl (as := [zi v2]) (rest := []) (st2 := [zi p1.1]) (pc2 := 8) rfl rfl (by omega) (met_X6_at (d := 0) (Nat.le_refl _) hp1) rfl ?_
  refine zG_run hm 6 (cf' := (15, [some (zr 38 0), some (zi v1), some (zi v2), some (zi p1.1), some (zi (v2 + 1))], [zi p1.1], p1.2)) rfl ?_
  obtain ⟨p2, hp2, h⟩ := Option.bind_eq_some_iff.mp h
  refine zG_S hm zmok_45 rfl (as := [zi p1.1]) (rest := []) (st2 := [zi p2.1]) (pc2 := 18) rfl rfl (by omega) (met_X4_isLetter (d := 0) (Nat.le_refl _) hp2) rfl ?_
  by_cases c31 : zw p2.1 = 0
  · rw [if_pos c31] at h
    refine zG_br hm rfl (cf' := (70, [some (zr 38 0), some (zi v1), some (zi v2), some (zi p1.1), some (zi (v2 + 1))], [], p2.2)) (if_pos c31) ?_
    refine zG_run hm 1 (cf' := (71, [some (zr 38 0), some (zi v1), some (zi v2), some (zi p1.1), some (zi (v2 + 1))], [zi p1.1], p2.2)) rfl ?_
    obtain ⟨p3, hp3, h⟩ := Option.bind_eq_some_iff.mp h
    refine zG_S hm zmok_46 rfl (as := [zi p1.1]) (rest := []) (st2 := [zi p3.1]) (pc2 := 74) rfl rfl (by omega) (met_X4_isDigit (d := 0) (Nat.le_refl _) hp3) rfl ?_
    by_cases c22 : zw p3.1 = 0
    · rw [if_pos c22] at h
      refine zG_br hm rfl (cf' := (134, [some (zr 38 0), some (zi v1), some (zi v2), some (zi p1.1), some (zi (v2 + 1))], [], p3.2)) (if_pos c22) ?_
      refine zG_run hm 7 (cf' := (146, [some (zr 38 0), some (zi v1), some (zi v2), some (zi p1.1), some (zi (v2 + 1))], [zi (v2 + 1), zr 35 0, zi p1.1, zi v1, zr 39 0], p3.2)) rfl ?_
      obtain ⟨p4, hp4, h⟩ := Option.bind_eq_some_iff.mp h
      refine zG_V hm zmok_54 rfl (as := [zi (v2 + 1)]) (rest := [zi p1.1, zi v1, zr 39 0]) (st2 := [zi p4.1, zi p1.1, zi v1, zr 39 0]) (pc2 := 149) rfl rfl (by omega) (met_X6_at (d := 0) (Nat.le_refl _) hp4) rfl ?_
      obtain ⟨p5, hp5, h⟩ := Option.bind_eq_some_iff.mp h
      refine zG_S hm zmok_47 rfl (as := [zi p1.1, zi p4.1]) (rest := [zi v1, zr 39 0]) (st2 := [zi p5.1, zi v1, zr 39 0]) (pc2 := 152) rfl rfl (by omega) (met_X4_markKind (d := 0) (Nat.le_refl _) hp5) rfl ?_
      by_cases c11 : 0 ≤ zw v1 ∧ zw v1 < 301
      · rw [if_pos c11] at h
        refine zG_br hm rfl (cf' := (153, [some (zr 38 0), some (zi v1), some (zi v2), some (zi p1.1), some (zi (v2 + 1))], [], (zput p5.2 39 0 (zix v1) p5.1))) (if_pos c11) ?_
        obtain ⟨M6, eM6, h⟩ := zlet_of h
        rw [eM6]
        refine zG_run hm 4 (cf' := (160, [some (zr 38 0), some (zi v1), some (zi v2), some (zi p1.1), some (zi (v2 + 1))], [zi v1, zr 39 0, zi (v2 + 1)], M6)) rfl ?_
        by_cases c10 : 0 ≤ zw v1 ∧ zw v1 < 301
        · rw [if_pos c10] at h
          refine zG_br hm rfl (cf' := (161, [some (zr 38 0), some (zi v1), some (zi v2), some (zi p1.1), some (zi (v2 + 1))], [zi (M6 39 0 (zix v1)), zi (v2 + 1)], M6)) (if_pos c10) ?_
          refine zG_run hm 1 (cf' := (163, [some (zr 38 0), some (zi v1), some (zi v2), some (zi p1.1), some (zi (v2 + 1))], [zi 27, zi (M6 39 0 (zix v1)), zi (v2 + 1)], M6)) rfl ?_
          by_cases c9 : zw (M6 39 0 (zix v1)) = 27
          · rw [if_pos c9] at h
            refine zG_br hm rfl (cf' := (177, [some (zr 38 0), some (zi v1), some (zi v2), some (zi p1.1), some (zi (v2 + 1))], [zi (v2 + 1)], M6)) (if_pos c9) ?_
            refine zG_sub (lv' := [none, none, none, none, none]) (zsb_n (zsb_n (zsb_n (zsb_n (zsb_n zsb_0))))) ?_
            exact g_X4_findOne_j177 hd h
          · rw [if_neg c9] at h
            refine zG_br hm rfl (cf' := (166, [some (zr 38 0), some (zi v1), some (zi v2), some (zi p1.1), some (zi (v2 + 1))], [zi (v2 + 1)], M6)) (if_neg c9) ?_
            refine zG_run hm 3 (cf' := (171, [some (zr 38 0), some (zi v1), some (zi v2), some (zi p1.1), some (zi (v2 + 1))], [zi v1, zr 39 0, zi (v2 + 1)], M6)) rfl ?_
            by_cases c8 : 0 ≤ zw v1 ∧ zw v1 < 301
            · rw [if_pos c8] at h
              refine zG_br hm rfl (cf' := (172, [some (zr 38 0), some (zi v1), some (zi v2), some (zi p1.1), some (zi (v2 + 1))], [zi (M6 39 0 (zix v1)), zi (v2 + 1)], M6)) (if_pos c8) ?_
              refine zG_run hm 1 (cf' := (174, [some (zr 38 0), some (zi v1), some (zi v2), some (zi p1.1), some (zi (v2 + 1))], [zi 29, zi (M6 39 0 (zix v1)), zi (v2 + 1)], M6)) rfl ?_
              by_cases c7 : ¬ zw (M6 39 0 (zix v1)) = 29
              · rw [if_pos c7] at h
                refine zG_br hm rfl (cf' := (181, [some (zr 38 0), some (zi v1), some (zi v2), some (zi p1.1), some (zi (v2 + 1))], [zi (v2 + 1)], M6)) (if_pos c7) ?_
                refine zG_run hm 1 (cf' := (182, [some (zr 38 0), some (zi v1), some (zi v2), some (zi p1.1), some (zi (v2 + 1))], [zi 0, zi (v2 + 1)], M6)) rfl ?_
                refine zG_sub (lv' := [none, none, none, none, none]) (zsb_n (zsb_n (zsb_n (zsb_n (zsb_n zsb_0))))) ?_
                exact g_X4_findOne_j182 hd h
              · rw [if_neg c7] at h
                refine zG_br hm rfl (cf' := (177, [some (zr 38 0), some (zi v1), some (zi v2), some (zi p1.1), some (zi (v2 + 1))], [zi (v2 + 1)], M6)) (if_neg c7) ?_
                refine zG_sub (lv' := [none, none, none, none, none]) (zsb_n (zsb_n (zsb_n (zsb_n (zsb_n zsb_0))))) ?_
                exact g_X4_findOne_j177 hd h
            · rw [if_neg c8] at h
              cases h
        · rw [if_neg c10] at h
          cases h
      · rw [if_neg c11] at h
        cases h
    · rw [if_neg c22] at h
      refine zG_br hm rfl (cf' := (77, [some (zr 38 0), some (zi v1), some (zi v2), some (zi p1.1), some (zi (v2 + 1))], [], p3.2)) (if_neg c22) ?_
      refine zG_sub (lv' := [some (zr 38 0), some (zi v1), some (zi v2), none, some (zi (v2 + 1))]) (zsb_s rfl (zsb_s rfl (zsb_s rfl (zsb_n (zsb_s rfl zsb_0))))) ?_
      obtain ⟨y16, hy16, h⟩ := Option.bind_eq_some_iff.mp h
      refine gl_X4_findOne_L77 hd (fun t e2 => ?_) trivial zF ((v2 + 1), p3.2) hy16
      cases e2
      refine zG_sub (lv' := [some (zr 38 0), some (zi v1), some (zi v2), none, some (zi y16.1)]) (zsb_s rfl (zsb_s rfl (zsb_s rfl (zsb_n (zsb_s rfl zsb_0))))) ?_
      exact g_X4_findOne_j110 hd h
  · rw [if_neg c31] at h
    refine zG_br hm rfl (cf' := (21, [some (zr 38 0), some (zi v1), some (zi v2), some (zi p1.1), some (zi (v2 + 1))], [], p2.2)) (if_neg c31) ?_
    refine zG_sub (lv' := [some (zr 38 0), some (zi v1), some (zi v2), none, some (zi (v2 + 1))]) (zsb_s rfl (zsb_s rfl (zsb_s rfl (zsb_n (zsb_s rfl zsb_0))))) ?_
    obtain ⟨y27, hy27, h⟩ := Option.bind_eq_some_iff.mp h
    refine gl_X4_findOne_L21 hd (fun t e2 => ?_) trivial zF ((v2 + 1), p2.2) hy27
    cases e2
    refine zG_sub (lv' := [some (zr 38 0), some (zi v1), some (zi v2), none, some (zi y27.1)]) (zsb_s rfl (zsb_s rfl (zsb_s rfl (zsb_n (zsb_s rfl zsb_0))))) ?_
    exact g_X4_findOne_j54 hd h
theorem met_X4_findOne {v1 : Int} {v2 : Int} {M : zM} {q : Int × zM} {d : Nat} (hd : 6 ≤ d) (h : f_X4_findOne v1 v2 M = some q) : zMet 41 d [zr 38 0, zi v1, zi v2] M (some (zi q.1)) q.2 :=
  zMet_of (lv0 := [some (zr 38 0), some (zi v1), some (zi v2), none, none]) zmok_41 rfl rfl (fun v hv => by cases hv; trivial) (g_X4_findOne hd h)
def f_X4_find_j61 (v1 : Int) (v2 : Int) (v3 : Int) (M : zM) : Option ((Int × Int × Int × zM) ⊕ (Int × zM)) :=
  some (.inl (v1, v2, (v3 + 1), M))
theorem g_X4_find_j61 {v1 : Int} {v2 : Int} {v3 : Int} {M : zM} {x : (Int × Int × Int × zM) ⊕ (Int × zM)} {r : Option zV} {Mf : zM} {d : Nat} (hd : 7 ≤ d) (h : f_X4_find_j61 v1 v2 v3 M = some x)
    (kc : ∀ s, x = .inl s → zG 40 d (6, [some (zr 38 0), some (zi s.1), some (zi s.2.1), some (zi s.2.2.1)], [], s.2.2.2) r Mf)
    (kb : ∀ t, x = .inr t → zG 40 d (67, [some (zr 38 0), some (zi t.1), none, none], [], t.2) r Mf) (kr : True) : zG 40 d (61, [some (zr 38 0), some (zi v1), some (zi v2), some (zi v3)], [], M) r Mf := by
  have hm := zmok_40
  unfold f_X4_find_j61 at h
  refine zG_run hm 2 (cf' := (6, [some (zr 38 0), some (zi v1), some (zi v2), some (zi (v3 + 1))], [], M)) rfl ?_
  refine zG_sub (lv' := [some (zr 38 0), some (zi v1), some (zi v2), some (zi (v3 + 1))]) (zsb_s rfl (zsb_s rfl (zsb_s rfl (zsb_s rfl zsb_0)))) ?_
  exact kc (v1, v2, (v3 + 1), M) (Option.some.inj h).symm
def f_X4_find_L6 (v1 : Int) (v2 : Int) (v3 : Int) (M : zM) : Option ((Int × Int × Int × zM) ⊕ (Int × zM)) :=
  if 300 ≤ zw v3 then
    some (.inr (v1, M))
  else
    if zw (M 35 0 1) ≤ zw v2 then
      some (.inr (v1, M))
    else
      (f_X6_at v2 M).bind fun p1 =>
        (f_X4_isBlank p1.1 p1.2).bind fun p2 =>
          if zw p2.1 = 0 then
            if 0 ≤ zw v1 ∧ zw v1 < 301 then
              zlet (zput p2.2 41 0 (zix v1) v2) fun M3 =>
              (f_X4_findOne v1 v2 M3).bind fun p4 =>
                f_X4_find_j61 (v1 + 1) p4.1 v3 p4.2
            else
              none
          else
            f_X4_find_j61 v1 (v2 + 1) v3 p2.2
theorem g_X4_find_L6 {v1 : Int} {v2 : Int} {v3 : Int} {M : zM} {x : (Int × Int × Int × zM) ⊕ (Int × zM)} {r : Option zV} {Mf : zM} {d : Nat} (hd : 7 ≤ d) (h : f_X4_find_L6 v1 v2 v3 M = some x)
    (kc : ∀ s, x = .inl s → zG 40 d (6, [some (zr 38 0), some (zi s.1), some (zi s.2.1), some (zi s.2.2.1)], [], s.2.2.2) r Mf)
    (kb : ∀ t, x = .inr t → zG 40 d (67, [some (zr 38 0), some (zi t.1), none, none], [], t.2) r Mf) (kr : True) : zG 40 d (6, [some (zr 38 0), some (zi v1), some (zi v2), some (zi v3)], [], M) r Mf := by
  have hm := zmok_40
  unfold f_X4_find_L6 at h
  refine zG_run hm 2 (cf' := (10, [some (zr 38 0), some (zi v1), some (zi v2), some (zi v3)], [zi 300, zi v3], M)) rfl ?_
  by_cases c8 : 300 ≤ zw v3
  · rw [if_pos c8] at h
    refine zG_br hm rfl (cf' := (67, [some (zr 38 0), some (zi v1), some (zi v2), some (zi v3)], [], M)) (if_pos c8) ?_
    refine zG_sub (lv' := [some (zr 38 0), some (zi v1), none, none]) (zsb_s rfl (zsb_s rfl (zsb_n (zsb_n zsb_0)))) ?_
    exact kb (v1, M) (Option.some.inj h).symm
  · rw [if_neg c8] at h
    refine zG_br hm rfl (cf' := (13, [some (zr 38 0), some (zi v1), some (zi v2), some (zi v3)], [], M)) (if_neg c8) ?_
    refine zG_run hm 4 (cf' := (21, [some (zr 38 0), some (zi v1), some (zi v2), some (zi v3)], [zi (M 35 0 1), zi v2], M)) rfl ?_
    by_cases c7 : zw (M 35 0 1) ≤ zw v2
    · rw [if_pos c7] at h
      refine zG_br hm rfl (cf' := (67, [some (zr 38 0), some (zi v1), some (zi v2), some (zi v3)], [], M)) (if_pos c7) ?_
      refine zG_sub (lv' := [some (zr 38 0), some (zi v1), none, none]) (zsb_s rfl (zsb_s rfl (zsb_n (zsb_n zsb_0)))) ?_
      exact kb (v1, M) (Option.some.inj h).symm
    · rw [if_neg c7] at h
      refine zG_br hm rfl (cf' := (24, [some (zr 38 0), some (zi v1), some (zi v2), some (zi v3)], [], M)) (if_neg c7) ?_
      refine zG_run hm 3 (cf' := (29, [some (zr 38 0), some (zi v1), some (zi v2), some (zi v3)], [zi v2, zr 35 0], M)) rfl ?_
      obtain ⟨p1, hp1, h⟩ := Option.bind_eq_some_iff.mp h
      refine zG_V hm zmok_54 rfl (as := [zi v2]) (rest := []) (st2 := [zi p1.1]) (pc2 := 32) rfl rfl (by omega) (met_X6_at (d := 0) (Nat.le_refl _) hp1) rfl ?_
      obtain ⟨p2, hp2, h⟩ := Option.bind_eq_some_iff.mp h
      refine zG_S hm zmok_44 rfl (as := [zi p1.1]) (rest := []) (st2 := [zi p2.1]) (pc2 := 35) rfl rfl (by omega) (met_X4_isBlank (d := 0) (Nat.le_refl _) hp2) rfl ?_
      by_cases c6 : zw p2.1 = 0
      · rw [if_pos c6] at h
        refine zG_br hm rfl (cf' := (44, [some (zr 38 0), some (zi v1), some (zi v2), some (zi v3)], [], p2.2)) (if_pos c6) ?_
        refine zG_run hm 4 (cf' := (50, [some (zr 38 0), some (zi v1), some (zi v2), some (zi v3)], [zi v2, zi v1, zr 41 0], p2.2)) rfl ?_
        by_cases c5 : 0 ≤ zw v1 ∧ zw v1 < 301
        · rw [if_pos c5] at h
          refine zG_br hm rfl (cf' := (51, [some (zr 38 0), some (zi v1), some (zi v2), some (zi v3)], [], (zput p2.2 41 0 (zix v1) v2))) (if_pos c5) ?_
          obtain ⟨M3, eM3, h⟩ := zlet_of h
          rw [eM3]
          refine zG_run hm 3 (cf' := (54, [some (zr 38 0), some (zi v1), some (zi v2), some (zi v3)], [zi v2, zi v1, zr 38 0], M3)) rfl ?_
          obtain ⟨p4, hp4, h⟩ := Option.bind_eq_some_iff.mp h
          refine zG_V hm zmok_41 rfl (as := [zi v1, zi v2]) (rest := []) (st2 := [zi p4.1]) (pc2 := 57) rfl rfl (by omega) (met_X4_findOne (d := 6) (Nat.le_refl _) hp4) rfl ?_
          refine zG_run hm 2 (cf' := (61, [some (zr 38 0), some (zi (v1 + 1)), some (zi p4.1), some (zi v3)], [], p4.2)) rfl ?_
          refine zG_sub (lv' := [some (zr 38 0), some (zi (v1 + 1)), some (zi p4.1), some (zi v3)]) (zsb_s rfl (zsb_s rfl (zsb_s rfl (zsb_s rfl zsb_0)))) ?_
          exact g_X4_find_j61 hd h kc kb kr
        · rw [if_neg c5] at h
          cases h
      · rw [if_neg c6] at h
        refine zG_br hm rfl (cf' := (38, [some (zr 38 0), some (zi v1), some (zi v2), some (zi v3)], [], p2.2)) (if_neg c6) ?_
        refine zG_run hm 2 (cf' := (61, [some (zr 38 0), some (zi v1), some (zi (v2 + 1)), some (zi v3)], [], p2.2)) rfl ?_
        refine zG_sub (lv' := [some (zr 38 0), some (zi v1), some (zi (v2 + 1)), some (zi v3)]) (zsb_s rfl (zsb_s rfl (zsb_s rfl (zsb_s rfl zsb_0)))) ?_
        exact g_X4_find_j61 hd h kc kb kr
theorem gl_X4_find_L6  {y : Int × zM} {r : Option zV} {Mf : zM} {d : Nat} (hd : 7 ≤ d)
    (kb : ∀ t, y = t → zG 40 d (67, [some (zr 38 0), some (zi t.1), none, none], [], t.2) r Mf) (kr : True) : ∀ (n : Nat) (s : Int × Int × Int × zM), zlp (fun s : Int × Int × Int × zM => f_X4_find_L6  s.1 s.2.1 s.2.2.1 s.2.2.2) n s = some y → zG 40 d (6, [some (zr 38 0), some (zi s.1), some (zi s.2.1), some (zi s.2.2.1)], [], s.2.2.2) r Mf := by
  intro n
  induction n with
  | zero => intro s h; cases h
  | succ n ih =>
    intro s h
    rcases zlp_cases h with ⟨s', h1, h2⟩ | h1
    · exact g_X4_find_L6 hd h1 (fun s2 e2 => by cases e2; exact ih _ h2) (fun t e2 => by cases e2) trivial
    · exact g_X4_find_L6 hd h1 (fun s2 e2 => by cases e2) (fun t e2 => kb t (Sum.inr.inj e2)) trivial
def f_X4_find_j67 (v1 : Int) (M : zM) : Option (zM) :=
  if 0 ≤ zw v1 ∧ zw v1 < 301 then
    zlet (zput M 39 0 (zix v1) 40) fun M10 =>
    if 0 ≤ zw v1 ∧ zw v1 < 301 then
      zlet (zput M10 41 0 (zix v1) (M10 35 0 1)) fun M11 =>
      zlet (zput M11 38 0 4 0) fun M12 =>
      zlet (zput M12 38 0 5 (M12 39 0 0)) fun M13 =>
      some M13
    else
      none
  else
    none
theorem g_X4_find_j67 {v1 : Int} {M : zM} {q : zM} {d : Nat} (hd : 7 ≤ d) (h : f_X4_find_j67 v1 M = some q) : zG 40 d (67, [some (zr 38 0), some (zi v1), none, none], [], M) none q := by
  have hm := zmok_40
  unfold f_X4_find_j67 at h
  refine zG_run hm 4 (cf' := (74, [some (zr 38 0), some (zi v1), none, none], [zi 40, zi v1, zr 39 0], M)) rfl ?_
  by_cases c15 : 0 ≤ zw v1 ∧ zw v1 < 301
  · rw [if_pos c15] at h
    refine zG_br hm rfl (cf' := (75, [some (zr 38 0), some (zi v1), none, none], [], (zput M 39 0 (zix v1) 40))) (if_pos c15) ?_
    obtain ⟨M10, eM10, h⟩ := zlet_of h
    rw [eM10]
    refine zG_run hm 6 (cf' := (87, [some (zr 38 0), some (zi v1), none, none], [zi (M10 35 0 1), zi v1, zr 41 0], M10)) rfl ?_
    by_cases c14 : 0 ≤ zw v1 ∧ zw v1 < 301
    · rw [if_pos c14] at h
      refine zG_br hm rfl (cf' := (88, [some (zr 38 0), some (zi v1), none, none], [], (zput M10 41 0 (zix v1) (M10 35 0 1)))) (if_pos c14) ?_
      obtain ⟨M11, eM11, h⟩ := zlet_of h
      rw [eM11]
      refine zG_run hm 3 (cf' := (93, [some (zr 38 0), some (zi v1), none, none], [], (zput M11 38 0 4 0))) rfl ?_
      obtain ⟨M12, eM12, h⟩ := zlet_of h
      rw [eM12]
      refine zG_run hm 6 (cf' := (103, [some (zr 38 0), some (zi v1), none, none], [], (zput M12 38 0 5 (M12 39 0 0)))) rfl ?_
      obtain ⟨M13, eM13, h⟩ := zlet_of h
      rw [eM13]
      cases h
      exact zG_rv hm rfl rfl
    · rw [if_neg c14] at h
      cases h
  · rw [if_neg c15] at h
    cases h
def f_X4_find  (M : zM) : Option (zM) :=
  (zlp (fun s : Int × Int × Int × zM => f_X4_find_L6  s.1 s.2.1 s.2.2.1 s.2.2.2) zF (0, 0, 0, M)).bind fun y9 =>
    f_X4_find_j67 y9.1 y9.2
theorem g_X4_find  {M : zM} {q : zM} {d : Nat} (hd : 7 ≤ d) (h : f_X4_find  M = some q) : zG 40 d (0, [some (zr 38 0), none, none, none], [], M) none q := by
  have hm := zmok_40
  unfold f_X4_find at h
  refine zG_run hm 6 (cf' := (6, [some (zr 38 0), some (zi 0), some (zi 0), some (zi 0)], [], M)) rfl ?_
  refine zG_sub (lv' := [some (zr 38 0), some (zi 0), some (zi 0), some (zi 0)]) (zsb_s rfl (zsb_s rfl (zsb_s rfl (zsb_s rfl zsb_0)))) ?_
  obtain ⟨y9, hy9, h⟩ := Option.bind_eq_some_iff.mp h
  refine gl_X4_find_L6 hd (fun t e2 => ?_) trivial zF (0, 0, 0, M) hy9
  cases e2
  refine zG_sub (lv' := [some (zr 38 0), some (zi y9.1), none, none]) (zsb_s rfl (zsb_s rfl (zsb_n (zsb_n zsb_0)))) ?_
  exact g_X4_find_j67 hd h
theorem met_X4_find  {M : zM} {q : zM} {d : Nat} (hd : 7 ≤ d) (h : f_X4_find  M = some q) : zMet 40 d [zr 38 0] M none q :=
  zMet_of (lv0 := [some (zr 38 0), none, none, none]) zmok_40 rfl rfl (fun v hv => by cases hv) (g_X4_find hd h)
def f_X4_advance  (M : zM) : Option (zM) :=
  zlet (zput M 38 0 4 (if 300 < zw ((M 38 0 4) + 1) then 300 else ((M 38 0 4) + 1))) fun M1 =>
  if 0 ≤ zw (M1 38 0 4) ∧ zw (M1 38 0 4) < 301 then
    zlet (zput M1 38 0 5 (M1 39 0 (zix (M1 38 0 4)))) fun M2 =>
    some M2
  else
    none
theorem g_X4_advance  {M : zM} {q : zM} {d : Nat} (hd : 0 ≤ d) (h : f_X4_advance  M = some q) : zG 42 d (0, [some (zr 38 0)], [], M) none q := by
  have hm := zmok_42
  unfold f_X4_advance at h
  refine zG_run hm 6 (cf' := (10, [some (zr 38 0)], [zi 300, zi ((M 38 0 4) + 1), zr 38 0], M)) rfl ?_
  refine zG_min hm rfl rfl ?_
  show zG 42 d (13, [some (zr 38 0)], [zi (if 300 < zw ((M 38 0 4) + 1) then 300 else ((M 38 0 4) + 1)), zr 38 0], M) _ _
  refine zG_run hm 1 (cf' := (16, [some (zr 38 0)], [], (zput M 38 0 4 (if 300 < zw ((M 38 0 4) + 1) then 300 else ((M 38 0 4) + 1))))) rfl ?_
  obtain ⟨M1, eM1, h⟩ := zlet_of h
  rw [eM1]
  refine zG_run hm 5 (cf' := (25, [some (zr 38 0)], [zi (M1 38 0 4), zr 39 0, zr 38 0], M1)) rfl ?_
  by_cases c3 : 0 ≤ zw (M1 38 0 4) ∧ zw (M1 38 0 4) < 301
  · rw [if_pos c3] at h
    refine zG_br hm rfl (cf' := (26, [some (zr 38 0)], [zi (M1 39 0 (zix (M1 38 0 4))), zr 38 0], M1)) (if_pos c3) ?_
    refine zG_run hm 1 (cf' := (29, [some (zr 38 0)], [], (zput M1 38 0 5 (M1 39 0 (zix (M1 38 0 4)))))) rfl ?_
    obtain ⟨M2, eM2, h⟩ := zlet_of h
    rw [eM2]
    cases h
    exact zG_rv hm rfl rfl
  · rw [if_neg c3] at h
    cases h
theorem met_X4_advance  {M : zM} {q : zM} {d : Nat} (hd : 0 ≤ d) (h : f_X4_advance  M = some q) : zMet 42 d [zr 38 0] M none q :=
  zMet_of (lv0 := [some (zr 38 0)]) zmok_42 rfl rfl (fun v hv => by cases hv) (g_X4_advance hd h)
def f_X2_fail_j31  (M : zM) : Option (zM) :=
  zlet (zput M 38 0 5 41) fun M1 =>
  some M1
theorem g_X2_fail_j31  {M : zM} {q : zM} {d : Nat} (hd : 0 ≤ d) (h : f_X2_fail_j31  M = some q) : zG 23 d (31, [some (zr 37 0), none], [], M) none q := by
  have hm := zmok_23
  unfold f_X2_fail_j31 at h
  refine zG_run hm 4 (cf' := (40, [some (zr 37 0), none], [], (zput M 38 0 5 41))) rfl ?_
  obtain ⟨M1, eM1, h⟩ := zlet_of h
  rw [eM1]
  cases h
  exact zG_rv hm rfl rfl
def f_X2_fail (v1 : Int) (M : zM) : Option (zM) :=
  if ¬ zw (M 37 0 4) = 0 then
    f_X2_fail_j31  M
  else
    zlet (zput M 37 0 4 v1) fun M2 =>
    if 0 ≤ zw (M2 38 0 4) ∧ zw (M2 38 0 4) < 301 then
      zlet (zput M2 37 0 5 (M2 41 0 (zix (M2 38 0 4)))) fun M3 =>
      f_X2_fail_j31  M3
    else
      none
theorem g_X2_fail {v1 : Int} {M : zM} {q : zM} {d : Nat} (hd : 0 ≤ d) (h : f_X2_fail v1 M = some q) : zG 23 d (0, [some (zr 37 0), some (zi v1)], [], M) none q := by
  have hm := zmok_23
  unfold f_X2_fail at h
  refine zG_run hm 2 (cf' := (4, [some (zr 37 0), some (zi v1)], [zi (M 37 0 4)], M)) rfl ?_
  by_cases c5 : ¬ zw (M 37 0 4) = 0
  · rw [if_pos c5] at h
    refine zG_br hm rfl (cf' := (31, [some (zr 37 0), some (zi v1)], [], M)) (if_pos c5) ?_
    refine zG_sub (lv' := [some (zr 37 0), none]) (zsb_s rfl (zsb_n zsb_0)) ?_
    exact g_X2_fail_j31 hd h
  · rw [if_neg c5] at h
    refine zG_br hm rfl (cf' := (7, [some (zr 37 0), some (zi v1)], [], M)) (if_neg c5) ?_
    refine zG_run hm 3 (cf' := (12, [some (zr 37 0), some (zi v1)], [], (zput M 37 0 4 v1))) rfl ?_
    obtain ⟨M2, eM2, h⟩ := zlet_of h
    rw [eM2]
    refine zG_run hm 7 (cf' := (27, [some (zr 37 0), some (zi v1)], [zi (M2 38 0 4), zr 41 0, zr 37 0], M2)) rfl ?_
    by_cases c4 : 0 ≤ zw (M2 38 0 4) ∧ zw (M2 38 0 4) < 301
    · rw [if_pos c4] at h
      refine zG_br hm rfl (cf' := (28, [some (zr 37 0), some (zi v1)], [zi (M2 41 0 (zix (M2 38 0 4))), zr 37 0], M2)) (if_pos c4) ?_
      refine zG_run hm 1 (cf' := (31, [some (zr 37 0), some (zi v1)], [], (zput M2 37 0 5 (M2 41 0 (zix (M2 38 0 4)))))) rfl ?_
      obtain ⟨M3, eM3, h⟩ := zlet_of h
      rw [eM3]
      refine zG_sub (lv' := [some (zr 37 0), none]) (zsb_s rfl (zsb_n zsb_0)) ?_
      exact g_X2_fail_j31 hd h
    · rw [if_neg c4] at h
      cases h
theorem met_X2_fail {v1 : Int} {M : zM} {q : zM} {d : Nat} (hd : 0 ≤ d) (h : f_X2_fail v1 M = some q) : zMet 23 d [zr 37 0, zi v1] M none q :=
  zMet_of (lv0 := [some (zr 37 0), some (zi v1)]) zmok_23 rfl rfl (fun v hv => by cases hv) (g_X2_fail hd h)
def f_X2_number (v1 : Int) (v2 : Int) (M : zM) : Option (Int × zM) :=
  if 0 ≤ zw (M 38 0 4) ∧ zw (M 38 0 4) < 301 then
    if zw (M 38 0 5) = 25 then
      (f_X10_within (M 40 0 (zix (M 38 0 4))) v1 v2 M).bind fun p1 =>
        if ¬ zw p1.1 = 0 then
          (f_X4_advance  p1.2).bind fun p2 =>
            some ((M 40 0 (zix (M 38 0 4))), p2)
        else
          (f_X2_fail 2 p1.2).bind fun p3 =>
            some (0, p3)
    else
      (f_X2_fail 1 M).bind fun p5 =>
        some (0, p5)
  else
    none
theorem g_X2_number {v1 : Int} {v2 : Int} {M : zM} {q : Int × zM} {d : Nat} (hd : 1 ≤ d) (h : f_X2_number v1 v2 M = some q) : zG 25 d (0, [some (zr 37 0), some (zi v1), some (zi v2), none], [], M) (some (zi q.1)) q.2 := by
  have hm := zmok_25
  unfold f_X2_number at h
  refine zG_run hm 6 (cf' := (14, [some (zr 37 0), some (zi v1), some (zi v2), none], [zi (M 38 0 4), zr 40 0], M)) rfl ?_
  by_cases c7 : 0 ≤ zw (M 38 0 4) ∧ zw (M 38 0 4) < 301
  · rw [if_pos c7] at h
    refine zG_br hm rfl (cf' := (15, [some (zr 37 0), some (zi v1), some (zi v2), none], [zi (M 40 0 (zix (M 38 0 4)))], M)) (if_pos c7) ?_
    refine zG_run hm 5 (cf' := (25, [some (zr 37 0), some (zi v1), some (zi v2), some (zi (M 40 0 (zix (M 38 0 4))))], [zi 25, zi (M 38 0 5)], M)) rfl ?_
    by_cases c6 : zw (M 38 0 5) = 25
    · rw [if_pos c6] at h
      refine zG_br hm rfl (cf' := (35, [some (zr 37 0), some (zi v1), some (zi v2), some (zi (M 40 0 (zix (M 38 0 4))))], [], M)) (if_pos c6) ?_
      refine zG_run hm 3 (cf' := (38, [some (zr 37 0), some (zi v1), some (zi v2), some (zi (M 40 0 (zix (M 38 0 4))))], [zi v2, zi v1, zi (M 40 0 (zix (M 38 0 4)))], M)) rfl ?_
      obtain ⟨p1, hp1, h⟩ := Option.bind_eq_some_iff.mp h
      refine zG_S hm zmok_108 rfl (as := [zi (M 40 0 (zix (M 38 0 4))), zi v1, zi v2]) (rest := []) (st2 := [zi p1.1]) (pc2 := 41) rfl rfl (by omega) (met_X10_within (d := 0) (Nat.le_refl _) hp1) rfl ?_
      by_cases c4 : ¬ zw p1.1 = 0
      · rw [if_pos c4] at h
        refine zG_br hm rfl (cf' := (51, [some (zr 37 0), some (zi v1), some (zi v2), some (zi (M 40 0 (zix (M 38 0 4))))], [], p1.2)) (if_pos c4) ?_
        refine zG_run hm 2 (cf' := (55, [some (zr 37 0), some (zi v1), some (zi v2), some (zi (M 40 0 (zix (M 38 0 4))))], [zr 38 0], p1.2)) rfl ?_
        obtain ⟨p2, hp2, h⟩ := Option.bind_eq_some_iff.mp h
        refine zG_V hm zmok_42 rfl (as := []) (rest := []) (st2 := []) (pc2 := 58) rfl rfl (by omega) (met_X4_advance (d := 0) (Nat.le_refl _) hp2) rfl ?_
        refine zG_run hm 1 (cf' := (59, [some (zr 37 0), some (zi v1), some (zi v2), some (zi (M 40 0 (zix (M 38 0 4))))], [zi (M 40 0 (zix (M 38 0 4)))], p2)) rfl ?_
        cases h
        exact zG_ri hm rfl rfl
      · rw [if_neg c4] at h
        refine zG_br hm rfl (cf' := (44, [some (zr 37 0), some (zi v1), some (zi v2), some (zi (M 40 0 (zix (M 38 0 4))))], [], p1.2)) (if_neg c4) ?_
        refine zG_run hm 2 (cf' := (46, [some (zr 37 0), some (zi v1), some (zi v2), some (zi (M 40 0 (zix (M 38 0 4))))], [zi 2, zr 37 0], p1.2)) rfl ?_
        obtain ⟨p3, hp3, h⟩ := Option.bind_eq_some_iff.mp h
        refine zG_V hm zmok_23 rfl (as := [zi 2]) (rest := []) (st2 := []) (pc2 := 49) rfl rfl (by omega) (met_X2_fail (d := 0) (Nat.le_refl _) hp3) rfl ?_
        refine zG_run hm 1 (cf' := (50, [some (zr 37 0), some (zi v1), some (zi v2), some (zi (M 40 0 (zix (M 38 0 4))))], [zi 0], p3)) rfl ?_
        cases h
        exact zG_ri hm rfl rfl
    · rw [if_neg c6] at h
      refine zG_br hm rfl (cf' := (28, [some (zr 37 0), some (zi v1), some (zi v2), some (zi (M 40 0 (zix (M 38 0 4))))], [], M)) (if_neg c6) ?_
      refine zG_run hm 2 (cf' := (30, [some (zr 37 0), some (zi v1), some (zi v2), some (zi (M 40 0 (zix (M 38 0 4))))], [zi 1, zr 37 0], M)) rfl ?_
      obtain ⟨p5, hp5, h⟩ := Option.bind_eq_some_iff.mp h
      refine zG_V hm zmok_23 rfl (as := [zi 1]) (rest := []) (st2 := []) (pc2 := 33) rfl rfl (by omega) (met_X2_fail (d := 0) (Nat.le_refl _) hp5) rfl ?_
      refine zG_run hm 1 (cf' := (34, [some (zr 37 0), some (zi v1), some (zi v2), some (zi (M 40 0 (zix (M 38 0 4))))], [zi 0], p5)) rfl ?_
      cases h
      exact zG_ri hm rfl rfl
  · rw [if_neg c7] at h
    cases h
theorem met_X2_number {v1 : Int} {v2 : Int} {M : zM} {q : Int × zM} {d : Nat} (hd : 1 ≤ d) (h : f_X2_number v1 v2 M = some q) : zMet 25 d [zr 37 0, zi v1, zi v2] M (some (zi q.1)) q.2 :=
  zMet_of (lv0 := [some (zr 37 0), some (zi v1), some (zi v2), none]) zmok_25 rfl rfl (fun v hv => by cases hv; trivial) (g_X2_number hd h)
def f_X2_expect (v1 : Int) (M : zM) : Option (zM) :=
  if ¬ zw (M 38 0 5) = zw v1 then
    (f_X2_fail 1 M).bind fun p1 =>
      some p1
  else
    (f_X4_advance  M).bind fun p2 =>
      some p2
theorem g_X2_expect {v1 : Int} {M : zM} {q : zM} {d : Nat} (hd : 1 ≤ d) (h : f_X2_expect v1 M = some q) : zG 24 d (0, [some (zr 37 0), some (zi v1)], [], M) none q := by
  have hm := zmok_24
  unfold f_X2_expect at h
  refine zG_run hm 4 (cf' := (8, [some (zr 37 0), some (zi v1)], [zi v1, zi (M 38 0 5)], M)) rfl ?_
  by_cases c3 : ¬ zw (M 38 0 5) = zw v1
  · rw [if_pos c3] at h
    refine zG_br hm rfl (cf' := (21, [some (zr 37 0), some (zi v1)], [], M)) (if_pos c3) ?_
    refine zG_run hm 2 (cf' := (23, [some (zr 37 0), some (zi v1)], [zi 1, zr 37 0], M)) rfl ?_
    obtain ⟨p1, hp1, h⟩ := Option.bind_eq_some_iff.mp h
    refine zG_V hm zmok_23 rfl (as := [zi 1]) (rest := []) (st2 := []) (pc2 := 26) rfl rfl (by omega) (met_X2_fail (d := 0) (Nat.le_refl _) hp1) rfl ?_
    cases h
    exact zG_rv hm rfl rfl
  · rw [if_neg c3] at h
    refine zG_br hm rfl (cf' := (11, [some (zr 37 0), some (zi v1)], [], M)) (if_neg c3) ?_
    refine zG_run hm 2 (cf' := (15, [some (zr 37 0), some (zi v1)], [zr 38 0], M)) rfl ?_
    obtain ⟨p2, hp2, h⟩ := Option.bind_eq_some_iff.mp h
    refine zG_V hm zmok_42 rfl (as := []) (rest := []) (st2 := []) (pc2 := 18) rfl rfl (by omega) (met_X4_advance (d := 0) (Nat.le_refl _) hp2) rfl ?_
    refine zG_run hm 1 (cf' := (26, [some (zr 37 0), some (zi v1)], [], p2)) rfl ?_
    cases h
    exact zG_rv hm rfl rfl
theorem met_X2_expect {v1 : Int} {M : zM} {q : zM} {d : Nat} (hd : 1 ≤ d) (h : f_X2_expect v1 M = some q) : zMet 24 d [zr 37 0, zi v1] M none q :=
  zMet_of (lv0 := [some (zr 37 0), some (zi v1)]) zmok_24 rfl rfl (fun v hv => by cases hv) (g_X2_expect hd h)
def f_X2_readDeed (v1 : Int) (v2 : Int) (M : zM) : Option (zM) :=
  if zw v1 = 4 then
    if 0 ≤ M 37 0 1 ∧ M 37 0 1 < 4 then
      (f_X2_number 0 10 M).bind fun p2 =>
        if 0 ≤ zw v2 ∧ zw v2 < 24 then
          zlet (zput p2.2 4 ((M 37 0 1).toNat) (zix v2) p2.1) fun M3 =>
          some M3
        else
          none
    else
      none
  else
    if zw v1 = 5 then
      if 0 ≤ M 37 0 1 ∧ M 37 0 1 < 4 then
        (f_X2_number 0 99 M).bind fun p7 =>
          if 0 ≤ zw v2 ∧ zw v2 < 24 then
            zlet (zput p7.2 4 ((M 37 0 1).toNat) (zix v2) p7.1) fun M8 =>
            (f_X2_expect 16 M8).bind fun p9 =>
              if 0 ≤ p9 37 0 1 ∧ p9 37 0 1 < 4 then
                (f_X2_number 0 5 p9).bind fun p10 =>
                  if 0 ≤ zw v2 ∧ zw v2 < 24 then
                    zlet (zput p10.2 5 ((p9 37 0 1).toNat) (zix v2) p10.1) fun M11 =>
                    (f_X2_expect 13 M11).bind fun p12 =>
                      if 0 ≤ p12 37 0 1 ∧ p12 37 0 1 < 4 then
                        (f_X2_number 1 9 p12).bind fun p13 =>
                          if 0 ≤ zw v2 ∧ zw v2 < 24 then
                            zlet (zput p13.2 6 ((p12 37 0 1).toNat) (zix v2) p13.1) fun M14 =>
                            some M14
                          else
                            none
                      else
                        none
                  else
                    none
              else
                none
          else
            none
      else
        none
    else
      if zw v1 = 6 then
        if 0 ≤ M 37 0 1 ∧ M 37 0 1 < 4 then
          (f_X2_number 0 99 M).bind fun p22 =>
            if 0 ≤ zw v2 ∧ zw v2 < 24 then
              zlet (zput p22.2 4 ((M 37 0 1).toNat) (zix v2) p22.1) fun M23 =>
              some M23
            else
              none
        else
          none
      else
        if zw v1 = 7 then
          if 0 ≤ M 37 0 1 ∧ M 37 0 1 < 4 then
            (f_X2_number 0 7 M).bind fun p27 =>
              if 0 ≤ zw v2 ∧ zw v2 < 24 then
                zlet (zput p27.2 4 ((M 37 0 1).toNat) (zix v2) p27.1) fun M28 =>
                some M28
              else
                none
          else
            none
        else
          if zw v1 = 8 then
            if 0 ≤ M 37 0 1 ∧ M 37 0 1 < 4 then
              (f_X2_number 0 7 M).bind fun p32 =>
                if 0 ≤ zw v2 ∧ zw v2 < 24 then
                  zlet (zput p32.2 4 ((M 37 0 1).toNat) (zix v2) p32.1) fun M33 =>
                  some M33
                else
                  none
            else
              none
          else
            if zw v1 = 9 then
              if 0 ≤ M 37 0 1 ∧ M 37 0 1 < 4 then
                (f_X2_number 0 7 M).bind fun p37 =>
                  if 0 ≤ zw v2 ∧ zw v2 < 24 then
                    zlet (zput p37.2 4 ((M 37 0 1).toNat) (zix v2) p37.1) fun M38 =>
                    (f_X2_expect 2 M38).bind fun p39 =>
                      if 0 ≤ p39 37 0 1 ∧ p39 37 0 1 < 4 then
                        (f_X2_number 0 5 p39).bind fun p40 =>
                          if 0 ≤ zw v2 ∧ zw v2 < 24 then
                            zlet (zput p40.2 5 ((p39 37 0 1).toNat) (zix v2) p40.1) fun M41 =>
                            some M41
                          else
                            none
                      else
                        none
                  else
                    none
              else
                none
            else
              if zw v1 = 10 then
                if 0 ≤ M 37 0 1 ∧ M 37 0 1 < 4 then
                  (f_X2_number 1 60 M).bind fun p47 =>
                    if 0 ≤ zw v2 ∧ zw v2 < 24 then
                      zlet (zput p47.2 4 ((M 37 0 1).toNat) (zix v2) p47.1) fun M48 =>
                      some M48
                    else
                      none
                else
                  none
              else
                if 0 ≤ M 37 0 1 ∧ M 37 0 1 < 4 then
                  (f_X2_number 0 7 M).bind fun p51 =>
                    if 0 ≤ zw v2 ∧ zw v2 < 24 then
                      zlet (zput p51.2 4 ((M 37 0 1).toNat) (zix v2) p51.1) fun M52 =>
                      some M52
                    else
                      none
                else
                  none
theorem g_X2_readDeed {v1 : Int} {v2 : Int} {M : zM} {q : zM} {d : Nat} (hd : 2 ≤ d) (h : f_X2_readDeed v1 v2 M = some q) : zG 27 d (0, [some (zr 37 0), some (zi v1), some (zi v2)], [], M) none q := by
  have hm := zmok_27
  unfold f_X2_readDeed at h
  refine zG_run hm 1 (cf' := (1, [some (zr 37 0), some (zi v1), some (zi v2)], [zi v1], M)) rfl ?_
  by_cases c1 : zw v1 = 4
  · rw [if_pos c1] at h
    refine zG_tIn hm rfl (tgt := 44) (off := 43) c1 (by decide) rfl (by decide) ?_
    refine zG_run hm 1 (cf' := (45, [some (zr 37 0), some (zi v1), some (zi v2)], [zr 37 0], M)) rfl ?_
    by_cases c5 : 0 ≤ M 37 0 1 ∧ M 37 0 1 < 4
    · rw [if_pos c5] at h
      refine zG_gi hm rfl (pc2 := 48) rfl c5 rfl ?_
      refine zG_run hm 5 (cf' := (56, [some (zr 37 0), some (zi v1), some (zi v2)], [zi 10, zi 0, zr 37 0, zi v2, zr 4 ((M 37 0 1).toNat)], M)) rfl ?_
      obtain ⟨p2, hp2, h⟩ := Option.bind_eq_some_iff.mp h
      refine zG_V hm zmok_25 rfl (as := [zi 0, zi 10]) (rest := [zi v2, zr 4 ((M 37 0 1).toNat)]) (st2 := [zi p2.1, zi v2, zr 4 ((M 37 0 1).toNat)]) (pc2 := 59) rfl rfl (by omega) (met_X2_number (d := 1) (Nat.le_refl _) hp2) rfl ?_
      by_cases c4 : 0 ≤ zw v2 ∧ zw v2 < 24
      · rw [if_pos c4] at h
        refine zG_br hm rfl (cf' := (60, [some (zr 37 0), some (zi v1), some (zi v2)], [], (zput p2.2 4 ((M 37 0 1).toNat) (zix v2) p2.1))) (if_pos c4) ?_
        obtain ⟨M3, eM3, h⟩ := zlet_of h
        rw [eM3]
        refine zG_run hm 1 (cf' := (218, [some (zr 37 0), some (zi v1), some (zi v2)], [], M3)) rfl ?_
        cases h
        exact zG_rv hm rfl rfl
      · rw [if_neg c4] at h
        cases h
    · rw [if_neg c5] at h
      cases h
  · rw [if_neg c1] at h
    by_cases c6 : zw v1 = 5
    · rw [if_pos c6] at h
      refine zG_tIn hm rfl (tgt := 63) (off := 62) c6 (by decide) rfl (by decide) ?_
      refine zG_run hm 1 (cf' := (64, [some (zr 37 0), some (zi v1), some (zi v2)], [zr 37 0], M)) rfl ?_
      by_cases c20 : 0 ≤ M 37 0 1 ∧ M 37 0 1 < 4
      · rw [if_pos c20] at h
        refine zG_gi hm rfl (pc2 := 67) rfl c20 rfl ?_
        refine zG_run hm 5 (cf' := (75, [some (zr 37 0), some (zi v1), some (zi v2)], [zi 99, zi 0, zr 37 0, zi v2, zr 4 ((M 37 0 1).toNat)], M)) rfl ?_
        obtain ⟨p7, hp7, h⟩ := Option.bind_eq_some_iff.mp h
        refine zG_V hm zmok_25 rfl (as := [zi 0, zi 99]) (rest := [zi v2, zr 4 ((M 37 0 1).toNat)]) (st2 := [zi p7.1, zi v2, zr 4 ((M 37 0 1).toNat)]) (pc2 := 78) rfl rfl (by omega) (met_X2_number (d := 1) (Nat.le_refl _) hp7) rfl ?_
        by_cases c19 : 0 ≤ zw v2 ∧ zw v2 < 24
        · rw [if_pos c19] at h
          refine zG_br hm rfl (cf' := (79, [some (zr 37 0), some (zi v1), some (zi v2)], [], (zput p7.2 4 ((M 37 0 1).toNat) (zix v2) p7.1))) (if_pos c19) ?_
          obtain ⟨M8, eM8, h⟩ := zlet_of h
          rw [eM8]
          refine zG_run hm 2 (cf' := (82, [some (zr 37 0), some (zi v1), some (zi v2)], [zi 16, zr 37 0], M8)) rfl ?_
          obtain ⟨p9, hp9, h⟩ := Option.bind_eq_some_iff.mp h
          refine zG_V hm zmok_24 rfl (as := [zi 16]) (rest := []) (st2 := []) (pc2 := 85) rfl rfl (by omega) (met_X2_expect (d := 1) (Nat.le_refl _) hp9) rfl ?_
          refine zG_run hm 1 (cf' := (86, [some (zr 37 0), some (zi v1), some (zi v2)], [zr 37 0], p9)) rfl ?_
          by_cases c18 : 0 ≤ p9 37 0 1 ∧ p9 37 0 1 < 4
          · rw [if_pos c18] at h
            refine zG_gi hm rfl (pc2 := 89) rfl c18 rfl ?_
            refine zG_run hm 5 (cf' := (96, [some (zr 37 0), some (zi v1), some (zi v2)], [zi 5, zi 0, zr 37 0, zi v2, zr 5 ((p9 37 0 1).toNat)], p9)) rfl ?_
            obtain ⟨p10, hp10, h⟩ := Option.bind_eq_some_iff.mp h
            refine zG_V hm zmok_25 rfl (as := [zi 0, zi 5]) (rest := [zi v2, zr 5 ((p9 37 0 1).toNat)]) (st2 := [zi p10.1, zi v2, zr 5 ((p9 37 0 1).toNat)]) (pc2 := 99) rfl rfl (by omega) (met_X2_number (d := 1) (Nat.le_refl _) hp10) rfl ?_
            by_cases c17 : 0 ≤ zw v2 ∧ zw v2 < 24
            · rw [if_pos c17] at h
              refine zG_br hm rfl (cf' := (100, [some (zr 37 0), some (zi v1), some (zi v2)], [], (zput p10.2 5 ((p9 37 0 1).toNat) (zix v2) p10.1))) (if_pos c17) ?_
              obtain ⟨M11, eM11, h⟩ := zlet_of h
              rw [eM11]
              refine zG_run hm 2 (cf' := (103, [some (zr 37 0), some (zi v1), some (zi v2)], [zi 13, zr 37 0], M11)) rfl ?_
              obtain ⟨p12, hp12, h⟩ := Option.bind_eq_some_iff.mp h
              refine zG_V hm zmok_24 rfl (as := [zi 13]) (rest := []) (st2 := []) (pc2 := 106) rfl rfl (by omega) (met_X2_expect (d := 1) (Nat.le_refl _) hp12) rfl ?_
              refine zG_run hm 1 (cf' := (107, [some (zr 37 0), some (zi v1), some (zi v2)], [zr 37 0], p12)) rfl ?_
              by_cases c16 : 0 ≤ p12 37 0 1 ∧ p12 37 0 1 < 4
              · rw [if_pos c16] at h
                refine zG_gi hm rfl (pc2 := 110) rfl c16 rfl ?_
                refine zG_run hm 5 (cf' := (118, [some (zr 37 0), some (zi v1), some (zi v2)], [zi 9, zi 1, zr 37 0, zi v2, zr 6 ((p12 37 0 1).toNat)], p12)) rfl ?_
                obtain ⟨p13, hp13, h⟩ := Option.bind_eq_some_iff.mp h
                refine zG_V hm zmok_25 rfl (as := [zi 1, zi 9]) (rest := [zi v2, zr 6 ((p12 37 0 1).toNat)]) (st2 := [zi p13.1, zi v2, zr 6 ((p12 37 0 1).toNat)]) (pc2 := 121) rfl rfl (by omega) (met_X2_number (d := 1) (Nat.le_refl _) hp13) rfl ?_
                by_cases c15 : 0 ≤ zw v2 ∧ zw v2 < 24
                · rw [if_pos c15] at h
                  refine zG_br hm rfl (cf' := (122, [some (zr 37 0), some (zi v1), some (zi v2)], [], (zput p13.2 6 ((p12 37 0 1).toNat) (zix v2) p13.1))) (if_pos c15) ?_
                  obtain ⟨M14, eM14, h⟩ := zlet_of h
                  rw [eM14]
                  refine zG_run hm 1 (cf' := (218, [some (zr 37 0), some (zi v1), some (zi v2)], [], M14)) rfl ?_
                  cases h
                  exact zG_rv hm rfl rfl
                · rw [if_neg c15] at h
                  cases h
              · rw [if_neg c16] at h
                cases h
            · rw [if_neg c17] at h
              cases h
          · rw [if_neg c18] at h
            cases h
        · rw [if_neg c19] at h
          cases h
      · rw [if_neg c20] at h
        cases h
    · rw [if_neg c6] at h
      by_cases c21 : zw v1 = 6
      · rw [if_pos c21] at h
        refine zG_tIn hm rfl (tgt := 125) (off := 124) c21 (by decide) rfl (by decide) ?_
        refine zG_run hm 1 (cf' := (126, [some (zr 37 0), some (zi v1), some (zi v2)], [zr 37 0], M)) rfl ?_
        by_cases c25 : 0 ≤ M 37 0 1 ∧ M 37 0 1 < 4
        · rw [if_pos c25] at h
          refine zG_gi hm rfl (pc2 := 129) rfl c25 rfl ?_
          refine zG_run hm 5 (cf' := (137, [some (zr 37 0), some (zi v1), some (zi v2)], [zi 99, zi 0, zr 37 0, zi v2, zr 4 ((M 37 0 1).toNat)], M)) rfl ?_
          obtain ⟨p22, hp22, h⟩ := Option.bind_eq_some_iff.mp h
          refine zG_V hm zmok_25 rfl (as := [zi 0, zi 99]) (rest := [zi v2, zr 4 ((M 37 0 1).toNat)]) (st2 := [zi p22.1, zi v2, zr 4 ((M 37 0 1).toNat)]) (pc2 := 140) rfl rfl (by omega) (met_X2_number (d := 1) (Nat.le_refl _) hp22) rfl ?_
          by_cases c24 : 0 ≤ zw v2 ∧ zw v2 < 24
          · rw [if_pos c24] at h
            refine zG_br hm rfl (cf' := (141, [some (zr 37 0), some (zi v1), some (zi v2)], [], (zput p22.2 4 ((M 37 0 1).toNat) (zix v2) p22.1))) (if_pos c24) ?_
            obtain ⟨M23, eM23, h⟩ := zlet_of h
            rw [eM23]
            refine zG_run hm 1 (cf' := (218, [some (zr 37 0), some (zi v1), some (zi v2)], [], M23)) rfl ?_
            cases h
            exact zG_rv hm rfl rfl
          · rw [if_neg c24] at h
            cases h
        · rw [if_neg c25] at h
          cases h
      · rw [if_neg c21] at h
        by_cases c26 : zw v1 = 7
        · rw [if_pos c26] at h
          refine zG_tIn hm rfl (tgt := 202) (off := 201) c26 (by decide) rfl (by decide) ?_
          refine zG_run hm 1 (cf' := (203, [some (zr 37 0), some (zi v1), some (zi v2)], [zr 37 0], M)) rfl ?_
          by_cases c30 : 0 ≤ M 37 0 1 ∧ M 37 0 1 < 4
          · rw [if_pos c30] at h
            refine zG_gi hm rfl (pc2 := 206) rfl c30 rfl ?_
            refine zG_run hm 5 (cf' := (214, [some (zr 37 0), some (zi v1), some (zi v2)], [zi 7, zi 0, zr 37 0, zi v2, zr 4 ((M 37 0 1).toNat)], M)) rfl ?_
            obtain ⟨p27, hp27, h⟩ := Option.bind_eq_some_iff.mp h
            refine zG_V hm zmok_25 rfl (as := [zi 0, zi 7]) (rest := [zi v2, zr 4 ((M 37 0 1).toNat)]) (st2 := [zi p27.1, zi v2, zr 4 ((M 37 0 1).toNat)]) (pc2 := 217) rfl rfl (by omega) (met_X2_number (d := 1) (Nat.le_refl _) hp27) rfl ?_
            by_cases c29 : 0 ≤ zw v2 ∧ zw v2 < 24
            · rw [if_pos c29] at h
              refine zG_br hm rfl (cf' := (218, [some (zr 37 0), some (zi v1), some (zi v2)], [], (zput p27.2 4 ((M 37 0 1).toNat) (zix v2) p27.1))) (if_pos c29) ?_
              obtain ⟨M28, eM28, h⟩ := zlet_of h
              rw [eM28]
              cases h
              exact zG_rv hm rfl rfl
            · rw [if_neg c29] at h
              cases h
          · rw [if_neg c30] at h
            cases h
        · rw [if_neg c26] at h
          by_cases c31 : zw v1 = 8
          · rw [if_pos c31] at h
            refine zG_tIn hm rfl (tgt := 202) (off := 201) c31 (by decide) rfl (by decide) ?_
            refine zG_run hm 1 (cf' := (203, [some (zr 37 0), some (zi v1), some (zi v2)], [zr 37 0], M)) rfl ?_
            by_cases c35 : 0 ≤ M 37 0 1 ∧ M 37 0 1 < 4
            · rw [if_pos c35] at h
              refine zG_gi hm rfl (pc2 := 206) rfl c35 rfl ?_
              refine zG_run hm 5 (cf' := (214, [some (zr 37 0), some (zi v1), some (zi v2)], [zi 7, zi 0, zr 37 0, zi v2, zr 4 ((M 37 0 1).toNat)], M)) rfl ?_
              obtain ⟨p32, hp32, h⟩ := Option.bind_eq_some_iff.mp h
              refine zG_V hm zmok_25 rfl (as := [zi 0, zi 7]) (rest := [zi v2, zr 4 ((M 37 0 1).toNat)]) (st2 := [zi p32.1, zi v2, zr 4 ((M 37 0 1).toNat)]) (pc2 := 217) rfl rfl (by omega) (met_X2_number (d := 1) (Nat.le_refl _) hp32) rfl ?_
              by_cases c34 : 0 ≤ zw v2 ∧ zw v2 < 24
              · rw [if_pos c34] at h
                refine zG_br hm rfl (cf' := (218, [some (zr 37 0), some (zi v1), some (zi v2)], [], (zput p32.2 4 ((M 37 0 1).toNat) (zix v2) p32.1))) (if_pos c34) ?_
                obtain ⟨M33, eM33, h⟩ := zlet_of h
                rw [eM33]
                cases h
                exact zG_rv hm rfl rfl
              · rw [if_neg c34] at h
                cases h
            · rw [if_neg c35] at h
              cases h
          · rw [if_neg c31] at h
            by_cases c36 : zw v1 = 9
            · rw [if_pos c36] at h
              refine zG_tIn hm rfl (tgt := 144) (off := 143) c36 (by decide) rfl (by decide) ?_
              refine zG_run hm 1 (cf' := (145, [some (zr 37 0), some (zi v1), some (zi v2)], [zr 37 0], M)) rfl ?_
              by_cases c45 : 0 ≤ M 37 0 1 ∧ M 37 0 1 < 4
              · rw [if_pos c45] at h
                refine zG_gi hm rfl (pc2 := 148) rfl c45 rfl ?_
                refine zG_run hm 5 (cf' := (156, [some (zr 37 0), some (zi v1), some (zi v2)], [zi 7, zi 0, zr 37 0, zi v2, zr 4 ((M 37 0 1).toNat)], M)) rfl ?_
                obtain ⟨p37, hp37, h⟩ := Option.bind_eq_some_iff.mp h
                refine zG_V hm zmok_25 rfl (as := [zi 0, zi 7]) (rest := [zi v2, zr 4 ((M 37 0 1).toNat)]) (st2 := [zi p37.1, zi v2, zr 4 ((M 37 0 1).toNat)]) (pc2 := 159) rfl rfl (by omega) (met_X2_number (d := 1) (Nat.le_refl _) hp37) rfl ?_
                by_cases c44 : 0 ≤ zw v2 ∧ zw v2 < 24
                · rw [if_pos c44] at h
                  refine zG_br hm rfl (cf' := (160, [some (zr 37 0), some (zi v1), some (zi v2)], [], (zput p37.2 4 ((M 37 0 1).toNat) (zix v2) p37.1))) (if_pos c44) ?_
                  obtain ⟨M38, eM38, h⟩ := zlet_of h
                  rw [eM38]
                  refine zG_run hm 2 (cf' := (162, [some (zr 37 0), some (zi v1), some (zi v2)], [zi 2, zr 37 0], M38)) rfl ?_
                  obtain ⟨p39, hp39, h⟩ := Option.bind_eq_some_iff.mp h
                  refine zG_V hm zmok_24 rfl (as := [zi 2]) (rest := []) (st2 := []) (pc2 := 165) rfl rfl (by omega) (met_X2_expect (d := 1) (Nat.le_refl _) hp39) rfl ?_
                  refine zG_run hm 1 (cf' := (166, [some (zr 37 0), some (zi v1), some (zi v2)], [zr 37 0], p39)) rfl ?_
                  by_cases c43 : 0 ≤ p39 37 0 1 ∧ p39 37 0 1 < 4
                  · rw [if_pos c43] at h
                    refine zG_gi hm rfl (pc2 := 169) rfl c43 rfl ?_
                    refine zG_run hm 5 (cf' := (176, [some (zr 37 0), some (zi v1), some (zi v2)], [zi 5, zi 0, zr 37 0, zi v2, zr 5 ((p39 37 0 1).toNat)], p39)) rfl ?_
                    obtain ⟨p40, hp40, h⟩ := Option.bind_eq_some_iff.mp h
                    refine zG_V hm zmok_25 rfl (as := [zi 0, zi 5]) (rest := [zi v2, zr 5 ((p39 37 0 1).toNat)]) (st2 := [zi p40.1, zi v2, zr 5 ((p39 37 0 1).toNat)]) (pc2 := 179) rfl rfl (by omega) (met_X2_number (d := 1) (Nat.le_refl _) hp40) rfl ?_
                    by_cases c42 : 0 ≤ zw v2 ∧ zw v2 < 24
                    · rw [if_pos c42] at h
                      refine zG_br hm rfl (cf' := (180, [some (zr 37 0), some (zi v1), some (zi v2)], [], (zput p40.2 5 ((p39 37 0 1).toNat) (zix v2) p40.1))) (if_pos c42) ?_
                      obtain ⟨M41, eM41, h⟩ := zlet_of h
                      rw [eM41]
                      refine zG_run hm 1 (cf' := (218, [some (zr 37 0), some (zi v1), some (zi v2)], [], M41)) rfl ?_
                      cases h
                      exact zG_rv hm rfl rfl
                    · rw [if_neg c42] at h
                      cases h
                  · rw [if_neg c43] at h
                    cases h
                · rw [if_neg c44] at h
                  cases h
              · rw [if_neg c45] at h
                cases h
            · rw [if_neg c36] at h
              by_cases c46 : zw v1 = 10
              · rw [if_pos c46] at h
                refine zG_tIn hm rfl (tgt := 183) (off := 182) c46 (by decide) rfl (by decide) ?_
                refine zG_run hm 1 (cf' := (184, [some (zr 37 0), some (zi v1), some (zi v2)], [zr 37 0], M)) rfl ?_
                by_cases c50 : 0 ≤ M 37 0 1 ∧ M 37 0 1 < 4
                · rw [if_pos c50] at h
                  refine zG_gi hm rfl (pc2 := 187) rfl c50 rfl ?_
                  refine zG_run hm 5 (cf' := (195, [some (zr 37 0), some (zi v1), some (zi v2)], [zi 60, zi 1, zr 37 0, zi v2, zr 4 ((M 37 0 1).toNat)], M)) rfl ?_
                  obtain ⟨p47, hp47, h⟩ := Option.bind_eq_some_iff.mp h
                  refine zG_V hm zmok_25 rfl (as := [zi 1, zi 60]) (rest := [zi v2, zr 4 ((M 37 0 1).toNat)]) (st2 := [zi p47.1, zi v2, zr 4 ((M 37 0 1).toNat)]) (pc2 := 198) rfl rfl (by omega) (met_X2_number (d := 1) (Nat.le_refl _) hp47) rfl ?_
                  by_cases c49 : 0 ≤ zw v2 ∧ zw v2 < 24
                  · rw [if_pos c49] at h
                    refine zG_br hm rfl (cf' := (199, [some (zr 37 0), some (zi v1), some (zi v2)], [], (zput p47.2 4 ((M 37 0 1).toNat) (zix v2) p47.1))) (if_pos c49) ?_
                    obtain ⟨M48, eM48, h⟩ := zlet_of h
                    rw [eM48]
                    refine zG_run hm 1 (cf' := (218, [some (zr 37 0), some (zi v1), some (zi v2)], [], M48)) rfl ?_
                    cases h
                    exact zG_rv hm rfl rfl
                  · rw [if_neg c49] at h
                    cases h
                · rw [if_neg c50] at h
                  cases h
              · rw [if_neg c46] at h
                refine zG_tOut hm rfl (tgt := 202) (by omega) (by decide) ?_
                refine zG_run hm 1 (cf' := (203, [some (zr 37 0), some (zi v1), some (zi v2)], [zr 37 0], M)) rfl ?_
                by_cases c54 : 0 ≤ M 37 0 1 ∧ M 37 0 1 < 4
                · rw [if_pos c54] at h
                  refine zG_gi hm rfl (pc2 := 206) rfl c54 rfl ?_
                  refine zG_run hm 5 (cf' := (214, [some (zr 37 0), some (zi v1), some (zi v2)], [zi 7, zi 0, zr 37 0, zi v2, zr 4 ((M 37 0 1).toNat)], M)) rfl ?_
                  obtain ⟨p51, hp51, h⟩ := Option.bind_eq_some_iff.mp h
                  refine zG_V hm zmok_25 rfl (as := [zi 0, zi 7]) (rest := [zi v2, zr 4 ((M 37 0 1).toNat)]) (st2 := [zi p51.1, zi v2, zr 4 ((M 37 0 1).toNat)]) (pc2 := 217) rfl rfl (by omega) (met_X2_number (d := 1) (Nat.le_refl _) hp51) rfl ?_
                  by_cases c53 : 0 ≤ zw v2 ∧ zw v2 < 24
                  · rw [if_pos c53] at h
                    refine zG_br hm rfl (cf' := (218, [some (zr 37 0), some (zi v1), some (zi v2)], [], (zput p51.2 4 ((M 37 0 1).toNat) (zix v2) p51.1))) (if_pos c53) ?_
                    obtain ⟨M52, eM52, h⟩ := zlet_of h
                    rw [eM52]
                    cases h
                    exact zG_rv hm rfl rfl
                  · rw [if_neg c53] at h
                    cases h
                · rw [if_neg c54] at h
                  cases h
theorem met_X2_readDeed {v1 : Int} {v2 : Int} {M : zM} {q : zM} {d : Nat} (hd : 2 ≤ d) (h : f_X2_readDeed v1 v2 M = some q) : zMet 27 d [zr 37 0, zi v1, zi v2] M none q :=
  zMet_of (lv0 := [some (zr 37 0), some (zi v1), some (zi v2)]) zmok_27 rfl rfl (fun v hv => by cases hv) (g_X2_readDeed hd h)
def f_X7_add (n0 : Nat) (v1 : Int) (v2 : Int) (M : zM) : Option (Int × zM) :=
  if zw (M 2 n0 9) < 300 then
    if 0 ≤ zw (M 2 n0 9) ∧ zw (M 2 n0 9) < 300 then
      zlet (zput M 9 n0 (zix (M 2 n0 9)) v1) fun M1 =>
      if 0 ≤ zw (M1 2 n0 9) ∧ zw (M1 2 n0 9) < 300 then
        zlet (zput M1 10 n0 (zix (M1 2 n0 9)) v2) fun M2 =>
        zlet (zput M2 2 n0 9 ((M2 2 n0 9) + 1)) fun M3 =>
        some (((M3 2 n0 9) - 1), M3)
      else
        none
    else
      none
  else
    some ((-1), M)
theorem g_X7_add {n0 : Nat} {v1 : Int} {v2 : Int} {M : zM} {q : Int × zM} {d : Nat} (hd : 0 ≤ d) (h : f_X7_add n0 v1 v2 M = some q) : zG 56 d (0, [some (zr 2 n0), some (zi v1), some (zi v2)], [], M) (some (zi q.1)) q.2 := by
  have hm := zmok_56
  unfold f_X7_add at h
  refine zG_run hm 3 (cf' := (7, [some (zr 2 n0), some (zi v1), some (zi v2)], [zi 300, zi (M 2 n0 9)], M)) rfl ?_
  by_cases c6 : zw (M 2 n0 9) < 300
  · rw [if_pos c6] at h
    refine zG_br hm rfl (cf' := (12, [some (zr 2 n0), some (zi v1), some (zi v2)], [], M)) (if_pos c6) ?_
    refine zG_run hm 5 (cf' := (21, [some (zr 2 n0), some (zi v1), some (zi v2)], [zi v1, zi (M 2 n0 9), zr 9 n0], M)) rfl ?_
    by_cases c5 : 0 ≤ zw (M 2 n0 9) ∧ zw (M 2 n0 9) < 300
    · rw [if_pos c5] at h
      refine zG_br hm rfl (cf' := (22, [some (zr 2 n0), some (zi v1), some (zi v2)], [], (zput M 9 n0 (zix (M 2 n0 9)) v1))) (if_pos c5) ?_
      obtain ⟨M1, eM1, h⟩ := zlet_of h
      rw [eM1]
      refine zG_run hm 5 (cf' := (31, [some (zr 2 n0), some (zi v1), some (zi v2)], [zi v2, zi (M1 2 n0 9), zr 10 n0], M1)) rfl ?_
      by_cases c4 : 0 ≤ zw (M1 2 n0 9) ∧ zw (M1 2 n0 9) < 300
      · rw [if_pos c4] at h
        refine zG_br hm rfl (cf' := (32, [some (zr 2 n0), some (zi v1), some (zi v2)], [], (zput M1 10 n0 (zix (M1 2 n0 9)) v2))) (if_pos c4) ?_
        obtain ⟨M2, eM2, h⟩ := zlet_of h
        rw [eM2]
        refine zG_run hm 6 (cf' := (42, [some (zr 2 n0), some (zi v1), some (zi v2)], [], (zput M2 2 n0 9 ((M2 2 n0 9) + 1)))) rfl ?_
        obtain ⟨M3, eM3, h⟩ := zlet_of h
        rw [eM3]
        refine zG_run hm 4 (cf' := (48, [some (zr 2 n0), some (zi v1), some (zi v2)], [zi ((M3 2 n0 9) - 1)], M3)) rfl ?_
        cases h
        exact zG_ri hm rfl rfl
      · rw [if_neg c4] at h
        cases h
    · rw [if_neg c5] at h
      cases h
  · rw [if_neg c6] at h
    refine zG_br hm rfl (cf' := (10, [some (zr 2 n0), some (zi v1), some (zi v2)], [], M)) (if_neg c6) ?_
    refine zG_run hm 1 (cf' := (11, [some (zr 2 n0), some (zi v1), some (zi v2)], [zi (-1)], M)) rfl ?_
    cases h
    exact zG_ri hm rfl rfl
theorem met_X7_add {n0 : Nat} {v1 : Int} {v2 : Int} {M : zM} {q : Int × zM} {d : Nat} (hd : 0 ≤ d) (h : f_X7_add n0 v1 v2 M = some q) : zMet 56 d [zr 2 n0, zi v1, zi v2] M (some (zi q.1)) q.2 :=
  zMet_of (lv0 := [some (zr 2 n0), some (zi v1), some (zi v2)]) zmok_56 rfl rfl (fun v hv => by cases hv; trivial) (g_X7_add hd h)
def f_X2_sum_j38 (rec : Nat → Int → Int → Int → zM → Option zM) (v1 : Int) (v2 : Int) (M : zM) : Option ((Int × zM) ⊕ (zM)) :=
  (f_X4_advance  M).bind fun p2 =>
    (rec 1 v1 0 0 p2).bind fun p3 =>
      if 0 ≤ p3 37 0 1 ∧ p3 37 0 1 < 4 then
        (f_X7_add ((p3 37 0 1).toNat) (M 38 0 5) 0 p3).bind fun p4 =>
          some (.inl ((v2 + 1), p4.2))
      else
        none
theorem g_X2_sum_j38 {rec : Nat → Int → Int → Int → zM → Option zM} {v1 : Int} {v2 : Int} {M : zM} {x : (Int × zM) ⊕ (zM)} {r : Option zV} {Mf : zM} {d : Nat} {dr : Nat} (hrec : ∀ (t : Nat) (a b c : Int) (M q : zM), rec t a b c M = some q → zRec t dr a b c M q) (hdr : dr + 1 ≤ d) (hd : 1 ≤ d) (h : f_X2_sum_j38 rec v1 v2 M = some x)
    (kc : ∀ s, x = .inl s → zG 28 d (7, [some (zr 37 0), some (zi v1), some (zi s.1), none], [], s.2) r Mf)
    (kb : ∀ t, x = .inr t → zG 28 d (74, [none, none, none, none], [], t) r Mf) (kr : True) : zG 28 d (38, [some (zr 37 0), some (zi v1), some (zi v2), none], [], M) r Mf := by
  have hm := zmok_28
  unfold f_X2_sum_j38 at h
  refine zG_run hm 6 (cf' := (50, [some (zr 37 0), some (zi v1), some (zi v2), some (zi (M 38 0 5))], [zr 38 0], M)) rfl ?_
  obtain ⟨p2, hp2, h⟩ := Option.bind_eq_some_iff.mp h
  refine zG_V hm zmok_42 rfl (as := []) (rest := []) (st2 := []) (pc2 := 53) rfl rfl (by omega) (met_X4_advance (d := 0) (Nat.le_refl _) hp2) rfl ?_
  refine zG_run hm 2 (cf' := (55, [some (zr 37 0), some (zi v1), some (zi v2), some (zi (M 38 0 5))], [zi v1, zr 37 0], p2)) rfl ?_
  obtain ⟨p3, hp3, h⟩ := Option.bind_eq_some_iff.mp h
  refine zG_V hm zmok_29 rfl (as := [zi v1]) (rest := []) (st2 := []) (pc2 := 58) rfl rfl hdr (hrec _ _ _ _ _ _ hp3) rfl ?_
  refine zG_run hm 1 (cf' := (59, [some (zr 37 0), some (zi v1), some (zi v2), some (zi (M 38 0 5))], [zr 37 0], p3)) rfl ?_
  by_cases c5 : 0 ≤ p3 37 0 1 ∧ p3 37 0 1 < 4
  · rw [if_pos c5] at h
    refine zG_gi hm rfl (pc2 := 62) rfl c5 rfl ?_
    refine zG_run hm 2 (cf' := (64, [some (zr 37 0), some (zi v1), some (zi v2), some (zi (M 38 0 5))], [zi 0, zi (M 38 0 5), zr 2 (p3 37 0 1).toNat], p3)) rfl ?_
    obtain ⟨p4, hp4, h⟩ := Option.bind_eq_some_iff.mp h
    refine zG_V hm zmok_56 rfl (as := [zi (M 38 0 5), zi 0]) (rest := []) (st2 := [zi p4.1]) (pc2 := 67) rfl rfl (by omega) (met_X7_add (d := 0) (Nat.le_refl _) hp4) rfl ?_
    refine zG_run hm 3 (cf' := (7, [some (zr 37 0), some (zi v1), some (zi (v2 + 1)), some (zi (M 38 0 5))], [], p4.2)) rfl ?_
    refine zG_sub (lv' := [some (zr 37 0), some (zi v1), some (zi (v2 + 1)), none]) (zsb_s rfl (zsb_s rfl (zsb_s rfl (zsb_n zsb_0)))) ?_
    exact kc ((v2 + 1), p4.2) (Option.some.inj h).symm
  · rw [if_neg c5] at h
    cases h
def f_X2_sum_L7 (rec : Nat → Int → Int → Int → zM → Option zM) (v1 : Int) (v2 : Int) (M : zM) : Option ((Int × zM) ⊕ (zM)) :=
  if 300 ≤ zw v2 then
    some (.inr M)
  else
    if zw (M 38 0 5) = 32 then
      f_X2_sum_j38 rec v1 v2 M
    else
      if ¬ zw (M 38 0 5) = 33 then
        some (.inr M)
      else
        f_X2_sum_j38 rec v1 v2 M
theorem g_X2_sum_L7 {rec : Nat → Int → Int → Int → zM → Option zM} {v1 : Int} {v2 : Int} {M : zM} {x : (Int × zM) ⊕ (zM)} {r : Option zV} {Mf : zM} {d : Nat} {dr : Nat} (hrec : ∀ (t : Nat) (a b c : Int) (M q : zM), rec t a b c M = some q → zRec t dr a b c M q) (hdr : dr + 1 ≤ d) (hd : 1 ≤ d) (h : f_X2_sum_L7 rec v1 v2 M = some x)
    (kc : ∀ s, x = .inl s → zG 28 d (7, [some (zr 37 0), some (zi v1), some (zi s.1), none], [], s.2) r Mf)
    (kb : ∀ t, x = .inr t → zG 28 d (74, [none, none, none, none], [], t) r Mf) (kr : True) : zG 28 d (7, [some (zr 37 0), some (zi v1), some (zi v2), none], [], M) r Mf := by
  have hm := zmok_28
  unfold f_X2_sum_L7 at h
  refine zG_run hm 2 (cf' := (11, [some (zr 37 0), some (zi v1), some (zi v2), none], [zi 300, zi v2], M)) rfl ?_
  by_cases c8 : 300 ≤ zw v2
  · rw [if_pos c8] at h
    refine zG_br hm rfl (cf' := (74, [some (zr 37 0), some (zi v1), some (zi v2), none], [], M)) (if_pos c8) ?_
    refine zG_sub (lv' := [none, none, none, none]) (zsb_n (zsb_n (zsb_n (zsb_n zsb_0)))) ?_
    exact kb M (Option.some.inj h).symm
  · rw [if_neg c8] at h
    refine zG_br hm rfl (cf' := (14, [some (zr 37 0), some (zi v1), some (zi v2), none], [], M)) (if_neg c8) ?_
    refine zG_run hm 4 (cf' := (23, [some (zr 37 0), some (zi v1), some (zi v2), none], [zi 32, zi (M 38 0 5)], M)) rfl ?_
    by_cases c7 : zw (M 38 0 5) = 32
    · rw [if_pos c7] at h
      refine zG_br hm rfl (cf' := (38, [some (zr 37 0), some (zi v1), some (zi v2), none], [], M)) (if_pos c7) ?_
      refine zG_sub (lv' := [some (zr 37 0), some (zi v1), some (zi v2), none]) (zsb_s rfl (zsb_s rfl (zsb_s rfl (zsb_n zsb_0)))) ?_
      exact g_X2_sum_j38 hrec hdr hd h kc kb kr
    · rw [if_neg c7] at h
      refine zG_br hm rfl (cf' := (26, [some (zr 37 0), some (zi v1), some (zi v2), none], [], M)) (if_neg c7) ?_
      refine zG_run hm 4 (cf' := (35, [some (zr 37 0), some (zi v1), some (zi v2), none], [zi 33, zi (M 38 0 5)], M)) rfl ?_
      by_cases c6 : ¬ zw (M 38 0 5) = 33
      · rw [if_pos c6] at h
        refine zG_br hm rfl (cf' := (74, [some (zr 37 0), some (zi v1), some (zi v2), none], [], M)) (if_pos c6) ?_
        refine zG_sub (lv' := [none, none, none, none]) (zsb_n (zsb_n (zsb_n (zsb_n zsb_0)))) ?_
        exact kb M (Option.some.inj h).symm
      · rw [if_neg c6] at h
        refine zG_br hm rfl (cf' := (38, [some (zr 37 0), some (zi v1), some (zi v2), none], [], M)) (if_neg c6) ?_
        refine zG_sub (lv' := [some (zr 37 0), some (zi v1), some (zi v2), none]) (zsb_s rfl (zsb_s rfl (zsb_s rfl (zsb_n zsb_0)))) ?_
        exact g_X2_sum_j38 hrec hdr hd h kc kb kr
theorem gl_X2_sum_L7 {rec : Nat → Int → Int → Int → zM → Option zM} {v1 : Int} {y : zM} {r : Option zV} {Mf : zM} {d : Nat} {dr : Nat} (hrec : ∀ (t : Nat) (a b c : Int) (M q : zM), rec t a b c M = some q → zRec t dr a b c M q) (hdr : dr + 1 ≤ d) (hd : 1 ≤ d)
    (kb : ∀ t, y = t → zG 28 d (74, [none, none, none, none], [], t) r Mf) (kr : True) : ∀ (n : Nat) (s : Int × zM), zlp (fun s : Int × zM => f_X2_sum_L7 rec v1 s.1 s.2) n s = some y → zG 28 d (7, [some (zr 37 0), some (zi v1), some (zi s.1), none], [], s.2) r Mf := by
  intro n
  induction n with
  | zero => intro s h; cases h
  | succ n ih =>
    intro s h
    rcases zlp_cases h with ⟨s', h1, h2⟩ | h1
    · exact g_X2_sum_L7 hrec hdr hd h1 (fun s2 e2 => by cases e2; exact ih _ h2) (fun t e2 => by cases e2) trivial
    · exact g_X2_sum_L7 hrec hdr hd h1 (fun s2 e2 => by cases e2) (fun t e2 => kb t (Sum.inr.inj e2)) trivial
def f_X2_sum (rec : Nat → Int → Int → Int → zM → Option zM) (v1 : Int) (M : zM) : Option (zM) :=
  (rec 1 v1 0 0 M).bind fun p1 =>
    (zlp (fun s : Int × zM => f_X2_sum_L7 rec v1 s.1 s.2) zF (0, p1)).bind fun y9 =>
      some y9
theorem g_X2_sum {rec : Nat → Int → Int → Int → zM → Option zM} {v1 : Int} {M : zM} {q : zM} {d : Nat} {dr : Nat} (hrec : ∀ (t : Nat) (a b c : Int) (M q : zM), rec t a b c M = some q → zRec t dr a b c M q) (hdr : dr + 1 ≤ d) (hd : 1 ≤ d) (h : f_X2_sum rec v1 M = some q) : zG 28 d (0, [some (zr 37 0), some (zi v1), none, none], [], M) none q := by
  have hm := zmok_28
  unfold f_X2_sum at h
  refine zG_run hm 2 (cf' := (2, [some (zr 37 0), some (zi v1), none, none], [zi v1, zr 37 0], M)) rfl ?_
  obtain ⟨p1, hp1, h⟩ := Option.bind_eq_some_iff.mp h
  refine zG_V hm zmok_29 rfl (as := [zi v1]) (rest := []) (st2 := []) (pc2 := 5) rfl rfl hdr (hrec _ _ _ _ _ _ hp1) rfl ?_
  refine zG_run hm 2 (cf' := (7, [some (zr 37 0), some (zi v1), some (zi 0), none], [], p1)) rfl ?_
  refine zG_sub (lv' := [some (zr 37 0), some (zi v1), some (zi 0), none]) (zsb_s rfl (zsb_s rfl (zsb_s rfl (zsb_n zsb_0)))) ?_
  obtain ⟨y9, hy9, h⟩ := Option.bind_eq_some_iff.mp h
  refine gl_X2_sum_L7 hrec hdr hd (fun t e2 => ?_) trivial zF (0, p1) hy9
  cases e2
  cases h
  exact zG_rv hm rfl rfl
theorem met_X2_sum {rec : Nat → Int → Int → Int → zM → Option zM} {v1 : Int} {M : zM} {q : zM} {d : Nat} {dr : Nat} (hrec : ∀ (t : Nat) (a b c : Int) (M q : zM), rec t a b c M = some q → zRec t dr a b c M q) (hdr : dr + 1 ≤ d) (hd : 1 ≤ d) (h : f_X2_sum rec v1 M = some q) : zMet 28 d [zr 37 0, zi v1] M none q :=
  zMet_of (lv0 := [some (zr 37 0), some (zi v1), none, none]) zmok_28 rfl rfl (fun v hv => by cases hv) (g_X2_sum hrec hdr hd h)
def f_X2_product_j38 (rec : Nat → Int → Int → Int → zM → Option zM) (v1 : Int) (v2 : Int) (M : zM) : Option ((Int × zM) ⊕ (zM)) :=
  (f_X4_advance  M).bind fun p2 =>
    (rec 2 v1 0 0 p2).bind fun p3 =>
      if 0 ≤ p3 37 0 1 ∧ p3 37 0 1 < 4 then
        (f_X7_add ((p3 37 0 1).toNat) (M 38 0 5) 0 p3).bind fun p4 =>
          some (.inl ((v2 + 1), p4.2))
      else
        none
theorem g_X2_product_j38 {rec : Nat → Int → Int → Int → zM → Option zM} {v1 : Int} {v2 : Int} {M : zM} {x : (Int × zM) ⊕ (zM)} {r : Option zV} {Mf : zM} {d : Nat} {dr : Nat} (hrec : ∀ (t : Nat) (a b c : Int) (M q : zM), rec t a b c M = some q → zRec t dr a b c M q) (hdr : dr + 1 ≤ d) (hd : 1 ≤ d) (h : f_X2_product_j38 rec v1 v2 M = some x)
    (kc : ∀ s, x = .inl s → zG 29 d (7, [some (zr 37 0), some (zi v1), some (zi s.1), none], [], s.2) r Mf)
    (kb : ∀ t, x = .inr t → zG 29 d (74, [none, none, none, none], [], t) r Mf) (kr : True) : zG 29 d (38, [some (zr 37 0), some (zi v1), some (zi v2), none], [], M) r Mf := by
  have hm := zmok_29
  unfold f_X2_product_j38 at h
  refine zG_run hm 6 (cf' := (50, [some (zr 37 0), some (zi v1), some (zi v2), some (zi (M 38 0 5))], [zr 38 0], M)) rfl ?_
  obtain ⟨p2, hp2, h⟩ := Option.bind_eq_some_iff.mp h
  refine zG_V hm zmok_42 rfl (as := []) (rest := []) (st2 := []) (pc2 := 53) rfl rfl (by omega) (met_X4_advance (d := 0) (Nat.le_refl _) hp2) rfl ?_
  refine zG_run hm 2 (cf' := (55, [some (zr 37 0), some (zi v1), some (zi v2), some (zi (M 38 0 5))], [zi v1, zr 37 0], p2)) rfl ?_
  obtain ⟨p3, hp3, h⟩ := Option.bind_eq_some_iff.mp h
  refine zG_V hm zmok_30 rfl (as := [zi v1]) (rest := []) (st2 := []) (pc2 := 58) rfl rfl hdr (hrec _ _ _ _ _ _ hp3) rfl ?_
  refine zG_run hm 1 (cf' := (59, [some (zr 37 0), some (zi v1), some (zi v2), some (zi (M 38 0 5))], [zr 37 0], p3)) rfl ?_
  by_cases c5 : 0 ≤ p3 37 0 1 ∧ p3 37 0 1 < 4
  · rw [if_pos c5] at h
    refine zG_gi hm rfl (pc2 := 62) rfl c5 rfl ?_
    refine zG_run hm 2 (cf' := (64, [some (zr 37 0), some (zi v1), some (zi v2), some (zi (M 38 0 5))], [zi 0, zi (M 38 0 5), zr 2 (p3 37 0 1).toNat], p3)) rfl ?_
    obtain ⟨p4, hp4, h⟩ := Option.bind_eq_some_iff.mp h
    refine zG_V hm zmok_56 rfl (as := [zi (M 38 0 5), zi 0]) (rest := []) (st2 := [zi p4.1]) (pc2 := 67) rfl rfl (by omega) (met_X7_add (d := 0) (Nat.le_refl _) hp4) rfl ?_
    refine zG_run hm 3 (cf' := (7, [some (zr 37 0), some (zi v1), some (zi (v2 + 1)), some (zi (M 38 0 5))], [], p4.2)) rfl ?_
    refine zG_sub (lv' := [some (zr 37 0), some (zi v1), some (zi (v2 + 1)), none]) (zsb_s rfl (zsb_s rfl (zsb_s rfl (zsb_n zsb_0)))) ?_
    exact kc ((v2 + 1), p4.2) (Option.some.inj h).symm
  · rw [if_neg c5] at h
    cases h
def f_X2_product_L7 (rec : Nat → Int → Int → Int → zM → Option zM) (v1 : Int) (v2 : Int) (M : zM) : Option ((Int × zM) ⊕ (zM)) :=
  if 300 ≤ zw v2 then
    some (.inr M)
  else
    if zw (M 38 0 5) = 34 then
      f_X2_product_j38 rec v1 v2 M
    else
      if ¬ zw (M 38 0 5) = 35 then
        some (.inr M)
      else
        f_X2_product_j38 rec v1 v2 M
theorem g_X2_product_L7 {rec : Nat → Int → Int → Int → zM → Option zM} {v1 : Int} {v2 : Int} {M : zM} {x : (Int × zM) ⊕ (zM)} {r : Option zV} {Mf : zM} {d : Nat} {dr : Nat} (hrec : ∀ (t : Nat) (a b c : Int) (M q : zM), rec t a b c M = some q → zRec t dr a b c M q) (hdr : dr + 1 ≤ d) (hd : 1 ≤ d) (h : f_X2_product_L7 rec v1 v2 M = some x)
    (kc : ∀ s, x = .inl s → zG 29 d (7, [some (zr 37 0), some (zi v1), some (zi s.1), none], [], s.2) r Mf)
    (kb : ∀ t, x = .inr t → zG 29 d (74, [none, none, none, none], [], t) r Mf) (kr : True) : zG 29 d (7, [some (zr 37 0), some (zi v1), some (zi v2), none], [], M) r Mf := by
  have hm := zmok_29
  unfold f_X2_product_L7 at h
  refine zG_run hm 2 (cf' := (11, [some (zr 37 0), some (zi v1), some (zi v2), none], [zi 300, zi v2], M)) rfl ?_
  by_cases c8 : 300 ≤ zw v2
  · rw [if_pos c8] at h
    refine zG_br hm rfl (cf' := (74, [some (zr 37 0), some (zi v1), some (zi v2), none], [], M)) (if_pos c8) ?_
    refine zG_sub (lv' := [none, none, none, none]) (zsb_n (zsb_n (zsb_n (zsb_n zsb_0)))) ?_
    exact kb M (Option.some.inj h).symm
  · rw [if_neg c8] at h
    refine zG_br hm rfl (cf' := (14, [some (zr 37 0), some (zi v1), some (zi v2), none], [], M)) (if_neg c8) ?_
    refine zG_run hm 4 (cf' := (23, [some (zr 37 0), some (zi v1), some (zi v2), none], [zi 34, zi (M 38 0 5)], M)) rfl ?_
    by_cases c7 : zw (M 38 0 5) = 34
    · rw [if_pos c7] at h
      refine zG_br hm rfl (cf' := (38, [some (zr 37 0), some (zi v1), some (zi v2), none], [], M)) (if_pos c7) ?_
      refine zG_sub (lv' := [some (zr 37 0), some (zi v1), some (zi v2), none]) (zsb_s rfl (zsb_s rfl (zsb_s rfl (zsb_n zsb_0)))) ?_
      exact g_X2_product_j38 hrec hdr hd h kc kb kr
    · rw [if_neg c7] at h
      refine zG_br hm rfl (cf' := (26, [some (zr 37 0), some (zi v1), some (zi v2), none], [], M)) (if_neg c7) ?_
      refine zG_run hm 4 (cf' := (35, [some (zr 37 0), some (zi v1), some (zi v2), none], [zi 35, zi (M 38 0 5)], M)) rfl ?_
      by_cases c6 : ¬ zw (M 38 0 5) = 35
      · rw [if_pos c6] at h
        refine zG_br hm rfl (cf' := (74, [some (zr 37 0), some (zi v1), some (zi v2), none], [], M)) (if_pos c6) ?_
        refine zG_sub (lv' := [none, none, none, none]) (zsb_n (zsb_n (zsb_n (zsb_n zsb_0)))) ?_
        exact kb M (Option.some.inj h).symm
      · rw [if_neg c6] at h
        refine zG_br hm rfl (cf' := (38, [some (zr 37 0), some (zi v1), some (zi v2), none], [], M)) (if_neg c6) ?_
        refine zG_sub (lv' := [some (zr 37 0), some (zi v1), some (zi v2), none]) (zsb_s rfl (zsb_s rfl (zsb_s rfl (zsb_n zsb_0)))) ?_
        exact g_X2_product_j38 hrec hdr hd h kc kb kr
theorem gl_X2_product_L7 {rec : Nat → Int → Int → Int → zM → Option zM} {v1 : Int} {y : zM} {r : Option zV} {Mf : zM} {d : Nat} {dr : Nat} (hrec : ∀ (t : Nat) (a b c : Int) (M q : zM), rec t a b c M = some q → zRec t dr a b c M q) (hdr : dr + 1 ≤ d) (hd : 1 ≤ d)
    (kb : ∀ t, y = t → zG 29 d (74, [none, none, none, none], [], t) r Mf) (kr : True) : ∀ (n : Nat) (s : Int × zM), zlp (fun s : Int × zM => f_X2_product_L7 rec v1 s.1 s.2) n s = some y → zG 29 d (7, [some (zr 37 0), some (zi v1), some (zi s.1), none], [], s.2) r Mf := by
  intro n
  induction n with
  | zero => intro s h; cases h
  | succ n ih =>
    intro s h
    rcases zlp_cases h with ⟨s', h1, h2⟩ | h1
    · exact g_X2_product_L7 hrec hdr hd h1 (fun s2 e2 => by cases e2; exact ih _ h2) (fun t e2 => by cases e2) trivial
    · exact g_X2_product_L7 hrec hdr hd h1 (fun s2 e2 => by cases e2) (fun t e2 => kb t (Sum.inr.inj e2)) trivial
def f_X2_product (rec : Nat → Int → Int → Int → zM → Option zM) (v1 : Int) (M : zM) : Option (zM) :=
  (rec 2 v1 0 0 M).bind fun p1 =>
    (zlp (fun s : Int × zM => f_X2_product_L7 rec v1 s.1 s.2) zF (0, p1)).bind fun y9 =>
      some y9
theorem g_X2_product {rec : Nat → Int → Int → Int → zM → Option zM} {v1 : Int} {M : zM} {q : zM} {d : Nat} {dr : Nat} (hrec : ∀ (t : Nat) (a b c : Int) (M q : zM), rec t a b c M = some q → zRec t dr a b c M q) (hdr : dr + 1 ≤ d) (hd : 1 ≤ d) (h : f_X2_product rec v1 M = some q) : zG 29 d (0, [some (zr 37 0), some (zi v1), none, none], [], M) none q := by
  have hm := zmok_29
  unfold f_X2_product at h
  refine zG_run hm 2 (cf' := (2, [some (zr 37 0), some (zi v1), none, none], [zi v1, zr 37 0], M)) rfl ?_
  obtain ⟨p1, hp1, h⟩ := Option.bind_eq_some_iff.mp h
  refine zG_V hm zmok_30 rfl (as := [zi v1]) (rest := []) (st2 := []) (pc2 := 5) rfl rfl hdr (hrec _ _ _ _ _ _ hp1) rfl ?_
  refine zG_run hm 2 (cf' := (7, [some (zr 37 0), some (zi v1), some (zi 0), none], [], p1)) rfl ?_
  refine zG_sub (lv' := [some (zr 37 0), some (zi v1), some (zi 0), none]) (zsb_s rfl (zsb_s rfl (zsb_s rfl (zsb_n zsb_0)))) ?_
  obtain ⟨y9, hy9, h⟩ := Option.bind_eq_some_iff.mp h
  refine gl_X2_product_L7 hrec hdr hd (fun t e2 => ?_) trivial zF (0, p1) hy9
  cases e2
  cases h
  exact zG_rv hm rfl rfl
theorem met_X2_product {rec : Nat → Int → Int → Int → zM → Option zM} {v1 : Int} {M : zM} {q : zM} {d : Nat} {dr : Nat} (hrec : ∀ (t : Nat) (a b c : Int) (M q : zM), rec t a b c M = some q → zRec t dr a b c M q) (hdr : dr + 1 ≤ d) (hd : 1 ≤ d) (h : f_X2_product rec v1 M = some q) : zMet 29 d [zr 37 0, zi v1] M none q :=
  zMet_of (lv0 := [some (zr 37 0), some (zi v1), none, none]) zmok_29 rfl rfl (fun v hv => by cases hv) (g_X2_product hrec hdr hd h)
def f_X2_isName_j12 (v0 : Int) (M : zM) : Option (Int × zM) :=
  if zw v0 = 4 then
    some (1, M)
  else
    if ¬ zw v0 = 5 then
      some (0, M)
    else
      some (1, M)
theorem g_X2_isName_j12 {v0 : Int} {M : zM} {q : Int × zM} {d : Nat} (hd : 0 ≤ d) (h : f_X2_isName_j12 v0 M = some q) : zG 31 d (12, [some (zi v0)], [], M) (some (zi q.1)) q.2 := by
  have hm := zmok_31
  unfold f_X2_isName_j12 at h
  refine zG_run hm 2 (cf' := (14, [some (zi v0)], [zi 4, zi v0], M)) rfl ?_
  by_cases c2 : zw v0 = 4
  · rw [if_pos c2] at h
    refine zG_br hm rfl (cf' := (22, [some (zi v0)], [], M)) (if_pos c2) ?_
    refine zG_run hm 2 (cf' := (27, [some (zi v0)], [zi 1], M)) rfl ?_
    cases h
    exact zG_rz hm rfl rfl (Or.inr rfl)
  · rw [if_neg c2] at h
    refine zG_br hm rfl (cf' := (17, [some (zi v0)], [], M)) (if_neg c2) ?_
    refine zG_run hm 2 (cf' := (19, [some (zi v0)], [zi 5, zi v0], M)) rfl ?_
    by_cases c1 : ¬ zw v0 = 5
    · rw [if_pos c1] at h
      refine zG_br hm rfl (cf' := (26, [some (zi v0)], [], M)) (if_pos c1) ?_
      refine zG_run hm 1 (cf' := (27, [some (zi v0)], [zi 0], M)) rfl ?_
      cases h
      exact zG_rz hm rfl rfl (Or.inl rfl)
    · rw [if_neg c1] at h
      refine zG_br hm rfl (cf' := (22, [some (zi v0)], [], M)) (if_neg c1) ?_
      refine zG_run hm 2 (cf' := (27, [some (zi v0)], [zi 1], M)) rfl ?_
      cases h
      exact zG_rz hm rfl rfl (Or.inr rfl)
def f_X2_isName (v0 : Int) (M : zM) : Option (Int × zM) :=
  if zw v0 < 10 then
    f_X2_isName_j12 v0 M
  else
    if zw v0 ≤ 15 then
      some (1, M)
    else
      f_X2_isName_j12 v0 M
theorem g_X2_isName {v0 : Int} {M : zM} {q : Int × zM} {d : Nat} (hd : 0 ≤ d) (h : f_X2_isName v0 M = some q) : zG 31 d (0, [some (zi v0)], [], M) (some (zi q.1)) q.2 := by
  have hm := zmok_31
  unfold f_X2_isName at h
  refine zG_run hm 2 (cf' := (3, [some (zi v0)], [zi 10, zi v0], M)) rfl ?_
  by_cases c4 : zw v0 < 10
  · rw [if_pos c4] at h
    refine zG_br hm rfl (cf' := (12, [some (zi v0)], [], M)) (if_pos c4) ?_
    refine zG_sub (lv' := [some (zi v0)]) (zsb_s rfl zsb_0) ?_
    exact g_X2_isName_j12 hd h
  · rw [if_neg c4] at h
    refine zG_br hm rfl (cf' := (6, [some (zi v0)], [], M)) (if_neg c4) ?_
    refine zG_run hm 2 (cf' := (9, [some (zi v0)], [zi 15, zi v0], M)) rfl ?_
    by_cases c3 : zw v0 ≤ 15
    · rw [if_pos c3] at h
      refine zG_br hm rfl (cf' := (22, [some (zi v0)], [], M)) (if_pos c3) ?_
      refine zG_run hm 2 (cf' := (27, [some (zi v0)], [zi 1], M)) rfl ?_
      cases h
      exact zG_rz hm rfl rfl (Or.inr rfl)
    · rw [if_neg c3] at h
      refine zG_br hm rfl (cf' := (12, [some (zi v0)], [], M)) (if_neg c3) ?_
      refine zG_sub (lv' := [some (zi v0)]) (zsb_s rfl zsb_0) ?_
      exact g_X2_isName_j12 hd h
theorem met_X2_isName {v0 : Int} {M : zM} {q : Int × zM} {d : Nat} (hd : 0 ≤ d) (h : f_X2_isName v0 M = some q) : zMet 31 d [zi v0] M (some (zi q.1)) q.2 :=
  zMet_of (lv0 := [some (zi v0)]) zmok_31 rfl rfl (fun v hv => by cases hv; trivial) (g_X2_isName hd h)
def f_X2_name_j45 (v1 : Int) (M : zM) : Option (zM) :=
  if 0 ≤ M 37 0 1 ∧ M 37 0 1 < 4 then
    (f_X7_add ((M 37 0 1).toNat) 50 v1 M).bind fun p1 =>
      (f_X4_advance  p1.2).bind fun p2 =>
        some p2
  else
    none
theorem g_X2_name_j45 {v1 : Int} {M : zM} {q : zM} {d : Nat} (hd : 1 ≤ d) (h : f_X2_name_j45 v1 M = some q) : zG 32 d (45, [some (zr 37 0), some (zi v1), none], [], M) none q := by
  have hm := zmok_32
  unfold f_X2_name_j45 at h
  refine zG_run hm 1 (cf' := (46, [some (zr 37 0), some (zi v1), none], [zr 37 0], M)) rfl ?_
  by_cases c3 : 0 ≤ M 37 0 1 ∧ M 37 0 1 < 4
  · rw [if_pos c3] at h
    refine zG_gi hm rfl (pc2 := 49) rfl c3 rfl ?_
    refine zG_run hm 2 (cf' := (52, [some (zr 37 0), some (zi v1), none], [zi v1, zi 50, zr 2 (M 37 0 1).toNat], M)) rfl ?_
    obtain ⟨p1, hp1, h⟩ := Option.bind_eq_some_iff.mp h
    refine zG_V hm zmok_56 rfl (as := [zi 50, zi v1]) (rest := []) (st2 := [zi p1.1]) (pc2 := 55) rfl rfl (by omega) (met_X7_add (d := 0) (Nat.le_refl _) hp1) rfl ?_
    refine zG_run hm 3 (cf' := (60, [some (zr 37 0), some (zi v1), none], [zr 38 0], p1.2)) rfl ?_
    obtain ⟨p2, hp2, h⟩ := Option.bind_eq_some_iff.mp h
    refine zG_V hm zmok_42 rfl (as := []) (rest := []) (st2 := []) (pc2 := 63) rfl rfl (by omega) (met_X4_advance (d := 0) (Nat.le_refl _) hp2) rfl ?_
    cases h
    exact zG_rv hm rfl rfl
  · rw [if_neg c3] at h
    cases h
def f_X2_name_j24 (v1 : Int) (vs0 : Int) (M : zM) : Option (zM) :=
  if zw vs0 = 0 then
    f_X2_name_j45 v1 M
  else
    if zw (M 37 0 2) = 3 then
      f_X2_name_j45 v1 M
    else
      (f_X2_fail 5 M).bind fun p4 =>
        some p4
theorem g_X2_name_j24 {v1 : Int} {vs0 : Int} {M : zM} {q : zM} {d : Nat} (hd : 1 ≤ d) (h : f_X2_name_j24 v1 vs0 M = some q) : zG 32 d (24, [some (zr 37 0), some (zi v1), none], [zi vs0], M) none q := by
  have hm := zmok_32
  unfold f_X2_name_j24 at h
  refine zG_run hm 2 (cf' := (26, [some (zr 37 0), some (zi v1), some (zi vs0)], [zi vs0], M)) rfl ?_
  by_cases c6 : zw vs0 = 0
  · rw [if_pos c6] at h
    refine zG_br hm rfl (cf' := (45, [some (zr 37 0), some (zi v1), some (zi vs0)], [], M)) (if_pos c6) ?_
    refine zG_sub (lv' := [some (zr 37 0), some (zi v1), none]) (zsb_s rfl (zsb_s rfl (zsb_n zsb_0))) ?_
    exact g_X2_name_j45 hd h
  · rw [if_neg c6] at h
    refine zG_br hm rfl (cf' := (29, [some (zr 37 0), some (zi v1), some (zi vs0)], [], M)) (if_neg c6) ?_
    refine zG_run hm 3 (cf' := (34, [some (zr 37 0), some (zi v1), some (zi vs0)], [zi 3, zi (M 37 0 2)], M)) rfl ?_
    by_cases c5 : zw (M 37 0 2) = 3
    · rw [if_pos c5] at h
      refine zG_br hm rfl (cf' := (45, [some (zr 37 0), some (zi v1), some (zi vs0)], [], M)) (if_pos c5) ?_
      refine zG_sub (lv' := [some (zr 37 0), some (zi v1), none]) (zsb_s rfl (zsb_s rfl (zsb_n zsb_0))) ?_
      exact g_X2_name_j45 hd h
    · rw [if_neg c5] at h
      refine zG_br hm rfl (cf' := (37, [some (zr 37 0), some (zi v1), some (zi vs0)], [], M)) (if_neg c5) ?_
      refine zG_run hm 2 (cf' := (39, [some (zr 37 0), some (zi v1), some (zi vs0)], [zi 5, zr 37 0], M)) rfl ?_
      obtain ⟨p4, hp4, h⟩ := Option.bind_eq_some_iff.mp h
      refine zG_V hm zmok_23 rfl (as := [zi 5]) (rest := []) (st2 := []) (pc2 := 42) rfl rfl (by omega) (met_X2_fail (d := 0) (Nat.le_refl _) hp4) rfl ?_
      refine zG_run hm 1 (cf' := (63, [some (zr 37 0), some (zi v1), some (zi vs0)], [], p4)) rfl ?_
      cases h
      exact zG_rv hm rfl rfl
def f_X2_name_j19 (v1 : Int) (M : zM) : Option (zM) :=
  f_X2_name_j24 v1 1 M
theorem g_X2_name_j19 {v1 : Int} {M : zM} {q : zM} {d : Nat} (hd : 1 ≤ d) (h : f_X2_name_j19 v1 M = some q) : zG 32 d (19, [some (zr 37 0), some (zi v1), none], [], M) none q := by
  have hm := zmok_32
  unfold f_X2_name_j19 at h
  refine zG_run hm 2 (cf' := (24, [some (zr 37 0), some (zi v1), none], [zi 1], M)) rfl ?_
  refine zG_sub (lv' := [some (zr 37 0), some (zi v1), none]) (zsb_s rfl (zsb_s rfl (zsb_n zsb_0))) ?_
  exact g_X2_name_j24 hd h
def f_X2_name_j23 (v1 : Int) (M : zM) : Option (zM) :=
  f_X2_name_j24 v1 0 M
theorem g_X2_name_j23 {v1 : Int} {M : zM} {q : zM} {d : Nat} (hd : 1 ≤ d) (h : f_X2_name_j23 v1 M = some q) : zG 32 d (23, [some (zr 37 0), some (zi v1), none], [], M) none q := by
  have hm := zmok_32
  unfold f_X2_name_j23 at h
  refine zG_run hm 1 (cf' := (24, [some (zr 37 0), some (zi v1), none], [zi 0], M)) rfl ?_
  refine zG_sub (lv' := [some (zr 37 0), some (zi v1), none]) (zsb_s rfl (zsb_s rfl (zsb_n zsb_0))) ?_
  exact g_X2_name_j24 hd h
def f_X2_name (v1 : Int) (M : zM) : Option (zM) :=
  if zw v1 = 15 then
    f_X2_name_j19 v1 M
  else
    if ¬ zw v1 = 5 then
      f_X2_name_j23 v1 M
    else
      if zw (M 37 0 2) = 2 then
        f_X2_name_j23 v1 M
      else
        f_X2_name_j19 v1 M
theorem g_X2_name {v1 : Int} {M : zM} {q : zM} {d : Nat} (hd : 1 ≤ d) (h : f_X2_name v1 M = some q) : zG 32 d (0, [some (zr 37 0), some (zi v1), none], [], M) none q := by
  have hm := zmok_32
  unfold f_X2_name at h
  refine zG_run hm 2 (cf' := (3, [some (zr 37 0), some (zi v1), none], [zi 15, zi v1], M)) rfl ?_
  by_cases c9 : zw v1 = 15
  · rw [if_pos c9] at h
    refine zG_br hm rfl (cf' := (19, [some (zr 37 0), some (zi v1), none], [], M)) (if_pos c9) ?_
    refine zG_sub (lv' := [some (zr 37 0), some (zi v1), none]) (zsb_s rfl (zsb_s rfl (zsb_n zsb_0))) ?_
    exact g_X2_name_j19 hd h
  · rw [if_neg c9] at h
    refine zG_br hm rfl (cf' := (6, [some (zr 37 0), some (zi v1), none], [], M)) (if_neg c9) ?_
    refine zG_run hm 2 (cf' := (8, [some (zr 37 0), some (zi v1), none], [zi 5, zi v1], M)) rfl ?_
    by_cases c8 : ¬ zw v1 = 5
    · rw [if_pos c8] at h
      refine zG_br hm rfl (cf' := (23, [some (zr 37 0), some (zi v1), none], [], M)) (if_pos c8) ?_
      refine zG_sub (lv' := [some (zr 37 0), some (zi v1), none]) (zsb_s rfl (zsb_s rfl (zsb_n zsb_0))) ?_
      exact g_X2_name_j23 hd h
    · rw [if_neg c8] at h
      refine zG_br hm rfl (cf' := (11, [some (zr 37 0), some (zi v1), none], [], M)) (if_neg c8) ?_
      refine zG_run hm 3 (cf' := (16, [some (zr 37 0), some (zi v1), none], [zi 2, zi (M 37 0 2)], M)) rfl ?_
      by_cases c7 : zw (M 37 0 2) = 2
      · rw [if_pos c7] at h
        refine zG_br hm rfl (cf' := (23, [some (zr 37 0), some (zi v1), none], [], M)) (if_pos c7) ?_
        refine zG_sub (lv' := [some (zr 37 0), some (zi v1), none]) (zsb_s rfl (zsb_s rfl (zsb_n zsb_0))) ?_
        exact g_X2_name_j23 hd h
      · rw [if_neg c7] at h
        refine zG_br hm rfl (cf' := (19, [some (zr 37 0), some (zi v1), none], [], M)) (if_neg c7) ?_
        refine zG_sub (lv' := [some (zr 37 0), some (zi v1), none]) (zsb_s rfl (zsb_s rfl (zsb_n zsb_0))) ?_
        exact g_X2_name_j19 hd h
theorem met_X2_name {v1 : Int} {M : zM} {q : zM} {d : Nat} (hd : 1 ≤ d) (h : f_X2_name v1 M = some q) : zMet 32 d [zr 37 0, zi v1] M none q :=
  zMet_of (lv0 := [some (zr 37 0), some (zi v1), none]) zmok_32 rfl rfl (fun v hv => by cases hv) (g_X2_name hd h)
def f_X2_one_j82 (rec : Nat → Int → Int → Int → zM → Option zM) (v1 : Int) (v2 : Int) (M : zM) : Option (zM) :=
  if zw v1 < 8 then
    (f_X4_advance  M).bind fun p2 =>
      (rec 3 v2 (v1 + 1) 0 p2).bind fun p3 =>
        some p3
  else
    (f_X2_fail 3 M).bind fun p4 =>
      some p4
theorem g_X2_one_j82 {rec : Nat → Int → Int → Int → zM → Option zM} {v1 : Int} {v2 : Int} {M : zM} {q : zM} {d : Nat} {dr : Nat} (hrec : ∀ (t : Nat) (a b c : Int) (M q : zM), rec t a b c M = some q → zRec t dr a b c M q) (hdr : dr + 1 ≤ d) (hd : 2 ≤ d) (h : f_X2_one_j82 rec v1 v2 M = some q) : zG 30 d (82, [some (zr 37 0), some (zi v1), some (zi v2)], [], M) none q := by
  have hm := zmok_30
  unfold f_X2_one_j82 at h
  refine zG_run hm 2 (cf' := (85, [some (zr 37 0), some (zi v1), some (zi v2)], [zi 8, zi v1], M)) rfl ?_
  by_cases c5 : zw v1 < 8
  · rw [if_pos c5] at h
    refine zG_br hm rfl (cf' := (96, [some (zr 37 0), some (zi v1), some (zi v2)], [], M)) (if_pos c5) ?_
    refine zG_run hm 2 (cf' := (100, [some (zr 37 0), some (zi v1), some (zi v2)], [zr 38 0], M)) rfl ?_
    obtain ⟨p2, hp2, h⟩ := Option.bind_eq_some_iff.mp h
    refine zG_V hm zmok_42 rfl (as := []) (rest := []) (st2 := []) (pc2 := 103) rfl rfl (by omega) (met_X4_advance (d := 0) (Nat.le_refl _) hp2) rfl ?_
    refine zG_run hm 5 (cf' := (108, [some (zr 37 0), some (zi v1), some (zi v2)], [zi (v1 + 1), zi v2, zr 37 0], p2)) rfl ?_
    obtain ⟨p3, hp3, h⟩ := Option.bind_eq_some_iff.mp h
    refine zG_V hm zmok_33 rfl (as := [zi v2, zi (v1 + 1)]) (rest := []) (st2 := []) (pc2 := 111) rfl rfl hdr (hrec _ _ _ _ _ _ hp3) rfl ?_
    cases h
    exact zG_rv hm rfl rfl
  · rw [if_neg c5] at h
    refine zG_br hm rfl (cf' := (88, [some (zr 37 0), some (zi v1), some (zi v2)], [], M)) (if_neg c5) ?_
    refine zG_run hm 2 (cf' := (90, [some (zr 37 0), some (zi v1), some (zi v2)], [zi 3, zr 37 0], M)) rfl ?_
    obtain ⟨p4, hp4, h⟩ := Option.bind_eq_some_iff.mp h
    refine zG_V hm zmok_23 rfl (as := [zi 3]) (rest := []) (st2 := []) (pc2 := 93) rfl rfl (by omega) (met_X2_fail (d := 0) (Nat.le_refl _) hp4) rfl ?_
    refine zG_run hm 1 (cf' := (111, [some (zr 37 0), some (zi v1), some (zi v2)], [], p4)) rfl ?_
    cases h
    exact zG_rv hm rfl rfl
def f_X2_one (rec : Nat → Int → Int → Int → zM → Option zM) (v1 : Int) (M : zM) : Option (zM) :=
  if ¬ zw (M 38 0 5) = 25 then
    (f_X2_isName (M 38 0 5) M).bind fun p1 =>
      if zw p1.1 = 0 then
        if zw (M 38 0 5) = 36 then
          f_X2_one_j82 rec v1 (M 38 0 5) p1.2
        else
          if zw (M 38 0 5) = 33 then
            f_X2_one_j82 rec v1 (M 38 0 5) p1.2
          else
            if zw (M 38 0 5) = 17 then
              f_X2_one_j82 rec v1 (M 38 0 5) p1.2
            else
              if zw (M 38 0 5) = 18 then
                f_X2_one_j82 rec v1 (M 38 0 5) p1.2
              else
                (f_X2_fail 1 p1.2).bind fun p6 =>
                  some p6
      else
        (f_X2_name (M 38 0 5) p1.2).bind fun p11 =>
          some p11
  else
    if 0 ≤ M 37 0 1 ∧ M 37 0 1 < 4 then
      (f_X2_number 0 9999 M).bind fun p13 =>
        (f_X7_add ((M 37 0 1).toNat) 25 p13.1 p13.2).bind fun p14 =>
          some p14.2
    else
      none
theorem g_X2_one {rec : Nat → Int → Int → Int → zM → Option zM} {v1 : Int} {M : zM} {q : zM} {d : Nat} {dr : Nat} (hrec : ∀ (t : Nat) (a b c : Int) (M q : zM), rec t a b c M = some q → zRec t dr a b c M q) (hdr : dr + 1 ≤ d) (hd : 2 ≤ d) (h : f_X2_one rec v1 M = some q) : zG 30 d (0, [some (zr 37 0), some (zi v1), none], [], M) none q := by
  have hm := zmok_30
  unfold f_X2_one at h
  refine zG_run hm 6 (cf' := (11, [some (zr 37 0), some (zi v1), some (zi (M 38 0 5))], [zi 25, zi (M 38 0 5)], M)) rfl ?_
  by_cases c16 : ¬ zw (M 38 0 5) = 25
  · rw [if_pos c16] at h
    refine zG_br hm rfl (cf' := (35, [some (zr 37 0), some (zi v1), some (zi (M 38 0 5))], [], M)) (if_pos c16) ?_
    refine zG_run hm 1 (cf' := (36, [some (zr 37 0), some (zi v1), some (zi (M 38 0 5))], [zi (M 38 0 5)], M)) rfl ?_
    obtain ⟨p1, hp1, h⟩ := Option.bind_eq_some_iff.mp h
    refine zG_S hm zmok_31 rfl (as := [zi (M 38 0 5)]) (rest := []) (st2 := [zi p1.1]) (pc2 := 39) rfl rfl (by omega) (met_X2_isName (d := 0) (Nat.le_refl _) hp1) rfl ?_
    by_cases c12 : zw p1.1 = 0
    · rw [if_pos c12] at h
      refine zG_br hm rfl (cf' := (50, [some (zr 37 0), some (zi v1), some (zi (M 38 0 5))], [], p1.2)) (if_pos c12) ?_
      refine zG_run hm 2 (cf' := (53, [some (zr 37 0), some (zi v1), some (zi (M 38 0 5))], [zi 36, zi (M 38 0 5)], p1.2)) rfl ?_
      by_cases c10 : zw (M 38 0 5) = 36
      · rw [if_pos c10] at h
        refine zG_br hm rfl (cf' := (82, [some (zr 37 0), some (zi v1), some (zi (M 38 0 5))], [], p1.2)) (if_pos c10) ?_
        refine zG_sub (lv' := [some (zr 37 0), some (zi v1), some (zi (M 38 0 5))]) (zsb_s rfl (zsb_s rfl (zsb_s rfl zsb_0))) ?_
        exact g_X2_one_j82 hrec hdr hd h
      · rw [if_neg c10] at h
        refine zG_br hm rfl (cf' := (56, [some (zr 37 0), some (zi v1), some (zi (M 38 0 5))], [], p1.2)) (if_neg c10) ?_
        refine zG_run hm 2 (cf' := (59, [some (zr 37 0), some (zi v1), some (zi (M 38 0 5))], [zi 33, zi (M 38 0 5)], p1.2)) rfl ?_
        by_cases c9 : zw (M 38 0 5) = 33
        · rw [if_pos c9] at h
          refine zG_br hm rfl (cf' := (82, [some (zr 37 0), some (zi v1), some (zi (M 38 0 5))], [], p1.2)) (if_pos c9) ?_
          refine zG_sub (lv' := [some (zr 37 0), some (zi v1), some (zi (M 38 0 5))]) (zsb_s rfl (zsb_s rfl (zsb_s rfl zsb_0))) ?_
          exact g_X2_one_j82 hrec hdr hd h
        · rw [if_neg c9] at h
          refine zG_br hm rfl (cf' := (62, [some (zr 37 0), some (zi v1), some (zi (M 38 0 5))], [], p1.2)) (if_neg c9) ?_
          refine zG_run hm 2 (cf' := (65, [some (zr 37 0), some (zi v1), some (zi (M 38 0 5))], [zi 17, zi (M 38 0 5)], p1.2)) rfl ?_
          by_cases c8 : zw (M 38 0 5) = 17
          · rw [if_pos c8] at h
            refine zG_br hm rfl (cf' := (82, [some (zr 37 0), some (zi v1), some (zi (M 38 0 5))], [], p1.2)) (if_pos c8) ?_
            refine zG_sub (lv' := [some (zr 37 0), some (zi v1), some (zi (M 38 0 5))]) (zsb_s rfl (zsb_s rfl (zsb_s rfl zsb_0))) ?_
            exact g_X2_one_j82 hrec hdr hd h
          · rw [if_neg c8] at h
            refine zG_br hm rfl (cf' := (68, [some (zr 37 0), some (zi v1), some (zi (M 38 0 5))], [], p1.2)) (if_neg c8) ?_
            refine zG_run hm 2 (cf' := (71, [some (zr 37 0), some (zi v1), some (zi (M 38 0 5))], [zi 18, zi (M 38 0 5)], p1.2)) rfl ?_
            by_cases c7 : zw (M 38 0 5) = 18
            · rw [if_pos c7] at h
              refine zG_br hm rfl (cf' := (82, [some (zr 37 0), some (zi v1), some (zi (M 38 0 5))], [], p1.2)) (if_pos c7) ?_
              refine zG_sub (lv' := [some (zr 37 0), some (zi v1), some (zi (M 38 0 5))]) (zsb_s rfl (zsb_s rfl (zsb_s rfl zsb_0))) ?_
              exact g_X2_one_j82 hrec hdr hd h
            · rw [if_neg c7] at h
              refine zG_br hm rfl (cf' := (74, [some (zr 37 0), some (zi v1), some (zi (M 38 0 5))], [], p1.2)) (if_neg c7) ?_
              refine zG_run hm 2 (cf' := (76, [some (zr 37 0), some (zi v1), some (zi (M 38 0 5))], [zi 1, zr 37 0], p1.2)) rfl ?_
              obtain ⟨p6, hp6, h⟩ := Option.bind_eq_some_iff.mp h
              refine zG_V hm zmok_23 rfl (as := [zi 1]) (rest := []) (st2 := []) (pc2 := 79) rfl rfl (by omega) (met_X2_fail (d := 0) (Nat.le_refl _) hp6) rfl ?_
              refine zG_run hm 1 (cf' := (111, [some (zr 37 0), some (zi v1), some (zi (M 38 0 5))], [], p6)) rfl ?_
              cases h
              exact zG_rv hm rfl rfl
    · rw [if_neg c12] at h
      refine zG_br hm rfl (cf' := (42, [some (zr 37 0), some (zi v1), some (zi (M 38 0 5))], [], p1.2)) (if_neg c12) ?_
      refine zG_run hm 2 (cf' := (44, [some (zr 37 0), some (zi v1), some (zi (M 38 0 5))], [zi (M 38 0 5), zr 37 0], p1.2)) rfl ?_
      obtain ⟨p11, hp11, h⟩ := Option.bind_eq_some_iff.mp h
      refine zG_V hm zmok_32 rfl (as := [zi (M 38 0 5)]) (rest := []) (st2 := []) (pc2 := 47) rfl rfl (by omega) (met_X2_name (d := 1) (Nat.le_refl _) hp11) rfl ?_
      refine zG_run hm 1 (cf' := (111, [some (zr 37 0), some (zi v1), some (zi (M 38 0 5))], [], p11)) rfl ?_
      cases h
      exact zG_rv hm rfl rfl
  · rw [if_neg c16] at h
    refine zG_br hm rfl (cf' := (14, [some (zr 37 0), some (zi v1), some (zi (M 38 0 5))], [], M)) (if_neg c16) ?_
    refine zG_run hm 1 (cf' := (15, [some (zr 37 0), some (zi v1), some (zi (M 38 0 5))], [zr 37 0], M)) rfl ?_
    by_cases c15 : 0 ≤ M 37 0 1 ∧ M 37 0 1 < 4
    · rw [if_pos c15] at h
      refine zG_gi hm rfl (pc2 := 18) rfl c15 rfl ?_
      refine zG_run hm 4 (cf' := (25, [some (zr 37 0), some (zi v1), some (zi (M 38 0 5))], [zi 9999, zi 0, zr 37 0, zi 25, zr 2 (M 37 0 1).toNat], M)) rfl ?_
      obtain ⟨p13, hp13, h⟩ := Option.bind_eq_some_iff.mp h
      refine zG_V hm zmok_25 rfl (as := [zi 0, zi 9999]) (rest := [zi 25, zr 2 (M 37 0 1).toNat]) (st2 := [zi p13.1, zi 25, zr 2 (M 37 0 1).toNat]) (pc2 := 28) rfl rfl (by omega) (met_X2_number (d := 1) (Nat.le_refl _) hp13) rfl ?_
      obtain ⟨p14, hp14, h⟩ := Option.bind_eq_some_iff.mp h
      refine zG_V hm zmok_56 rfl (as := [zi 25, zi p13.1]) (rest := []) (st2 := [zi p14.1]) (pc2 := 31) rfl rfl (by omega) (met_X7_add (d := 0) (Nat.le_refl _) hp14) rfl ?_
      refine zG_run hm 2 (cf' := (111, [some (zr 37 0), some (zi v1), some (zi (M 38 0 5))], [], p14.2)) rfl ?_
      cases h
      exact zG_rv hm rfl rfl
    · rw [if_neg c15] at h
      cases h
theorem met_X2_one {rec : Nat → Int → Int → Int → zM → Option zM} {v1 : Int} {M : zM} {q : zM} {d : Nat} {dr : Nat} (hrec : ∀ (t : Nat) (a b c : Int) (M q : zM), rec t a b c M = some q → zRec t dr a b c M q) (hdr : dr + 1 ≤ d) (hd : 2 ≤ d) (h : f_X2_one rec v1 M = some q) : zMet 30 d [zr 37 0, zi v1] M none q :=
  zMet_of (lv0 := [some (zr 37 0), some (zi v1), none]) zmok_30 rfl rfl (fun v hv => by cases hv) (g_X2_one hrec hdr hd h)
def f_X7_leadHere (n0 : Nat) (v1 : Int) (M : zM) : Option (zM) :=
  if zw v1 < 0 then
    some M
  else
    if zw (M 2 n0 9) ≤ zw v1 then
      some M
    else
      if 0 ≤ zw v1 ∧ zw v1 < 300 then
        zlet (zput M 10 n0 (zix v1) (M 2 n0 9)) fun M1 =>
        some M1
      else
        none
theorem g_X7_leadHere {n0 : Nat} {v1 : Int} {M : zM} {q : zM} {d : Nat} (hd : 0 ≤ d) (h : f_X7_leadHere n0 v1 M = some q) : zG 57 d (0, [some (zr 2 n0), some (zi v1)], [], M) none q := by
  have hm := zmok_57
  unfold f_X7_leadHere at h
  refine zG_run hm 1 (cf' := (1, [some (zr 2 n0), some (zi v1)], [zi v1], M)) rfl ?_
  by_cases c4 : zw v1 < 0
  · rw [if_pos c4] at h
    refine zG_br hm rfl (cf' := (22, [some (zr 2 n0), some (zi v1)], [], M)) (if_pos c4) ?_
    cases h
    exact zG_rv hm rfl rfl
  · rw [if_neg c4] at h
    refine zG_br hm rfl (cf' := (4, [some (zr 2 n0), some (zi v1)], [], M)) (if_neg c4) ?_
    refine zG_run hm 3 (cf' := (9, [some (zr 2 n0), some (zi v1)], [zi (M 2 n0 9), zi v1], M)) rfl ?_
    by_cases c3 : zw (M 2 n0 9) ≤ zw v1
    · rw [if_pos c3] at h
      refine zG_br hm rfl (cf' := (22, [some (zr 2 n0), some (zi v1)], [], M)) (if_pos c3) ?_
      cases h
      exact zG_rv hm rfl rfl
    · rw [if_neg c3] at h
      refine zG_br hm rfl (cf' := (12, [some (zr 2 n0), some (zi v1)], [], M)) (if_neg c3) ?_
      refine zG_run hm 5 (cf' := (21, [some (zr 2 n0), some (zi v1)], [zi (M 2 n0 9), zi v1, zr 10 n0], M)) rfl ?_
      by_cases c2 : 0 ≤ zw v1 ∧ zw v1 < 300
      · rw [if_pos c2] at h
        refine zG_br hm rfl (cf' := (22, [some (zr 2 n0), some (zi v1)], [], (zput M 10 n0 (zix v1) (M 2 n0 9)))) (if_pos c2) ?_
        obtain ⟨M1, eM1, h⟩ := zlet_of h
        rw [eM1]
        cases h
        exact zG_rv hm rfl rfl
      · rw [if_neg c2] at h
        cases h
theorem met_X7_leadHere {n0 : Nat} {v1 : Int} {M : zM} {q : zM} {d : Nat} (hd : 0 ≤ d) (h : f_X7_leadHere n0 v1 M = some q) : zMet 57 d [zr 2 n0, zi v1] M none q :=
  zMet_of (lv0 := [some (zr 2 n0), some (zi v1)]) zmok_57 rfl rfl (fun v hv => by cases hv) (g_X7_leadHere hd h)
def f_X2_opened (rec : Nat → Int → Int → Int → zM → Option zM) (v1 : Int) (v2 : Int) (M : zM) : Option (zM) :=
  if ¬ zw v1 = 36 then
    if ¬ zw v1 = 33 then
      if ¬ zw v1 = 17 then
        (rec 4 v2 0 0 M).bind fun p1 =>
          (f_X2_expect 19 p1).bind fun p2 =>
            if 0 ≤ p2 37 0 1 ∧ p2 37 0 1 < 4 then
              (f_X7_add ((p2 37 0 1).toNat) 19 0 p2).bind fun p3 =>
                (rec 0 v2 0 0 p3.2).bind fun p4 =>
                  (f_X2_expect 20 p4).bind fun p5 =>
                    if 0 ≤ p5 37 0 1 ∧ p5 37 0 1 < 4 then
                      (f_X7_add ((p5 37 0 1).toNat) 20 0 p5).bind fun p6 =>
                        if 0 ≤ p6.2 37 0 1 ∧ p6.2 37 0 1 < 4 then
                          (f_X7_leadHere ((p6.2 37 0 1).toNat) p3.1 p6.2).bind fun p7 =>
                            (rec 0 v2 0 0 p7).bind fun p8 =>
                              (f_X2_expect 21 p8).bind fun p9 =>
                                if 0 ≤ p9 37 0 1 ∧ p9 37 0 1 < 4 then
                                  (f_X7_leadHere ((p9 37 0 1).toNat) p6.1 p9).bind fun p10 =>
                                    some p10
                                else
                                  none
                        else
                          none
                    else
                      none
            else
              none
      else
        (rec 2 v2 0 0 M).bind fun p15 =>
          (f_X2_expect 16 p15).bind fun p16 =>
            (rec 2 v2 0 0 p16).bind fun p17 =>
              if 0 ≤ p17 37 0 1 ∧ p17 37 0 1 < 4 then
                (f_X7_add ((p17 37 0 1).toNat) 17 0 p17).bind fun p18 =>
                  some p18.2
              else
                none
    else
      (rec 2 v2 0 0 M).bind fun p21 =>
        if 0 ≤ p21 37 0 1 ∧ p21 37 0 1 < 4 then
          (f_X7_add ((p21 37 0 1).toNat) 51 0 p21).bind fun p22 =>
            some p22.2
        else
          none
  else
    (rec 0 v2 0 0 M).bind fun p25 =>
      (f_X2_expect 37 p25).bind fun p26 =>
        some p26
theorem g_X2_opened {rec : Nat → Int → Int → Int → zM → Option zM} {v1 : Int} {v2 : Int} {M : zM} {q : zM} {d : Nat} {dr : Nat} (hrec : ∀ (t : Nat) (a b c : Int) (M q : zM), rec t a b c M = some q → zRec t dr a b c M q) (hdr : dr + 1 ≤ d) (hd : 2 ≤ d) (h : f_X2_opened rec v1 v2 M = some q) : zG 33 d (0, [some (zr 37 0), some (zi v1), some (zi v2), none, none], [], M) none q := by
  have hm := zmok_33
  unfold f_X2_opened at h
  refine zG_run hm 2 (cf' := (3, [some (zr 37 0), some (zi v1), some (zi v2), none, none], [zi 36, zi v1], M)) rfl ?_
  by_cases c27 : ¬ zw v1 = 36
  · rw [if_pos c27] at h
    refine zG_br hm rfl (cf' := (20, [some (zr 37 0), some (zi v1), some (zi v2), none, none], [], M)) (if_pos c27) ?_
    refine zG_run hm 2 (cf' := (23, [some (zr 37 0), some (zi v1), some (zi v2), none, none], [zi 33, zi v1], M)) rfl ?_
    by_cases c24 : ¬ zw v1 = 33
    · rw [if_pos c24] at h
      refine zG_br hm rfl (cf' := (45, [some (zr 37 0), some (zi v1), some (zi v2), none, none], [], M)) (if_pos c24) ?_
      refine zG_run hm 2 (cf' := (48, [some (zr 37 0), some (zi v1), some (zi v2), none, none], [zi 17, zi v1], M)) rfl ?_
      by_cases c20 : ¬ zw v1 = 17
      · rw [if_pos c20] at h
        refine zG_br hm rfl (cf' := (81, [some (zr 37 0), some (zi v1), some (zi v2), none, none], [], M)) (if_pos c20) ?_
        refine zG_run hm 2 (cf' := (83, [some (zr 37 0), some (zi v1), some (zi v2), none, none], [zi v2, zr 37 0], M)) rfl ?_
        obtain ⟨p1, hp1, h⟩ := Option.bind_eq_some_iff.mp h
        refine zG_V hm zmok_34 rfl (as := [zi v2]) (rest := []) (st2 := []) (pc2 := 86) rfl rfl hdr (hrec _ _ _ _ _ _ hp1) rfl ?_
        refine zG_run hm 2 (cf' := (89, [some (zr 37 0), some (zi v1), some (zi v2), none, none], [zi 19, zr 37 0], p1)) rfl ?_
        obtain ⟨p2, hp2, h⟩ := Option.bind_eq_some_iff.mp h
        refine zG_V hm zmok_24 rfl (as := [zi 19]) (rest := []) (st2 := []) (pc2 := 92) rfl rfl (by omega) (met_X2_expect (d := 1) (Nat.le_refl _) hp2) rfl ?_
        refine zG_run hm 1 (cf' := (93, [some (zr 37 0), some (zi v1), some (zi v2), none, none], [zr 37 0], p2)) rfl ?_
        by_cases c14 : 0 ≤ p2 37 0 1 ∧ p2 37 0 1 < 4
        · rw [if_pos c14] at h
          refine zG_gi hm rfl (pc2 := 96) rfl c14 rfl ?_
          refine zG_run hm 2 (cf' := (99, [some (zr 37 0), some (zi v1), some (zi v2), none, none], [zi 0, zi 19, zr 2 (p2 37 0 1).toNat], p2)) rfl ?_
          obtain ⟨p3, hp3, h⟩ := Option.bind_eq_some_iff.mp h
          refine zG_V hm zmok_56 rfl (as := [zi 19, zi 0]) (rest := []) (st2 := [zi p3.1]) (pc2 := 102) rfl rfl (by omega) (met_X7_add (d := 0) (Nat.le_refl _) hp3) rfl ?_
          refine zG_run hm 3 (cf' := (105, [some (zr 37 0), some (zi v1), some (zi v2), some (zi p3.1), none], [zi v2, zr 37 0], p3.2)) rfl ?_
          obtain ⟨p4, hp4, h⟩ := Option.bind_eq_some_iff.mp h
          refine zG_V hm zmok_28 rfl (as := [zi v2]) (rest := []) (st2 := []) (pc2 := 108) rfl rfl hdr (hrec _ _ _ _ _ _ hp4) rfl ?_
          refine zG_run hm 2 (cf' := (111, [some (zr 37 0), some (zi v1), some (zi v2), some (zi p3.1), none], [zi 20, zr 37 0], p4)) rfl ?_
          obtain ⟨p5, hp5, h⟩ := Option.bind_eq_some_iff.mp h
          refine zG_V hm zmok_24 rfl (as := [zi 20]) (rest := []) (st2 := []) (pc2 := 114) rfl rfl (by omega) (met_X2_expect (d := 1) (Nat.le_refl _) hp5) rfl ?_
          refine zG_run hm 1 (cf' := (115, [some (zr 37 0), some (zi v1), some (zi v2), some (zi p3.1), none], [zr 37 0], p5)) rfl ?_
          by_cases c13 : 0 ≤ p5 37 0 1 ∧ p5 37 0 1 < 4
          · rw [if_pos c13] at h
            refine zG_gi hm rfl (pc2 := 118) rfl c13 rfl ?_
            refine zG_run hm 2 (cf' := (121, [some (zr 37 0), some (zi v1), some (zi v2), some (zi p3.1), none], [zi 0, zi 20, zr 2 (p5 37 0 1).toNat], p5)) rfl ?_
            obtain ⟨p6, hp6, h⟩ := Option.bind_eq_some_iff.mp h
            refine zG_V hm zmok_56 rfl (as := [zi 20, zi 0]) (rest := []) (st2 := [zi p6.1]) (pc2 := 124) rfl rfl (by omega) (met_X7_add (d := 0) (Nat.le_refl _) hp6) rfl ?_
            refine zG_run hm 2 (cf' := (127, [some (zr 37 0), some (zi v1), some (zi v2), some (zi p3.1), some (zi p6.1)], [zr 37 0], p6.2)) rfl ?_
            by_cases c12 : 0 ≤ p6.2 37 0 1 ∧ p6.2 37 0 1 < 4
            · rw [if_pos c12] at h
              refine zG_gi hm rfl (pc2 := 130) rfl c12 rfl ?_
              refine zG_run hm 1 (cf' := (131, [some (zr 37 0), some (zi v1), some (zi v2), some (zi p3.1), some (zi p6.1)], [zi p3.1, zr 2 (p6.2 37 0 1).toNat], p6.2)) rfl ?_
              obtain ⟨p7, hp7, h⟩ := Option.bind_eq_some_iff.mp h
              refine zG_V hm zmok_57 rfl (as := [zi p3.1]) (rest := []) (st2 := []) (pc2 := 134) rfl rfl (by omega) (met_X7_leadHere (d := 0) (Nat.le_refl _) hp7) rfl ?_
              refine zG_run hm 2 (cf' := (136, [some (zr 37 0), some (zi v1), some (zi v2), some (zi p3.1), some (zi p6.1)], [zi v2, zr 37 0], p7)) rfl ?_
              obtain ⟨p8, hp8, h⟩ := Option.bind_eq_some_iff.mp h
              refine zG_V hm zmok_28 rfl (as := [zi v2]) (rest := []) (st2 := []) (pc2 := 139) rfl rfl hdr (hrec _ _ _ _ _ _ hp8) rfl ?_
              refine zG_run hm 2 (cf' := (142, [some (zr 37 0), some (zi v1), some (zi v2), some (zi p3.1), some (zi p6.1)], [zi 21, zr 37 0], p8)) rfl ?_
              obtain ⟨p9, hp9, h⟩ := Option.bind_eq_some_iff.mp h
              refine zG_V hm zmok_24 rfl (as := [zi 21]) (rest := []) (st2 := []) (pc2 := 145) rfl rfl (by omega) (met_X2_expect (d := 1) (Nat.le_refl _) hp9) rfl ?_
              refine zG_run hm 1 (cf' := (146, [some (zr 37 0), some (zi v1), some (zi v2), some (zi p3.1), some (zi p6.1)], [zr 37 0], p9)) rfl ?_
              by_cases c11 : 0 ≤ p9 37 0 1 ∧ p9 37 0 1 < 4
              · rw [if_pos c11] at h
                refine zG_gi hm rfl (pc2 := 149) rfl c11 rfl ?_
                refine zG_run hm 1 (cf' := (151, [some (zr 37 0), some (zi v1), some (zi v2), some (zi p3.1), some (zi p6.1)], [zi p6.1, zr 2 (p9 37 0 1).toNat], p9)) rfl ?_
                obtain ⟨p10, hp10, h⟩ := Option.bind_eq_some_iff.mp h
                refine zG_V hm zmok_57 rfl (as := [zi p6.1]) (rest := []) (st2 := []) (pc2 := 154) rfl rfl (by omega) (met_X7_leadHere (d := 0) (Nat.le_refl _) hp10) rfl ?_
                cases h
                exact zG_rv hm rfl rfl
              · rw [if_neg c11] at h
                cases h
            · rw [if_neg c12] at h
              cases h
          · rw [if_neg c13] at h
            cases h
        · rw [if_neg c14] at h
          cases h
      · rw [if_neg c20] at h
        refine zG_br hm rfl (cf' := (51, [some (zr 37 0), some (zi v1), some (zi v2), none, none], [], M)) (if_neg c20) ?_
        refine zG_run hm 2 (cf' := (53, [some (zr 37 0), some (zi v1), some (zi v2), none, none], [zi v2, zr 37 0], M)) rfl ?_
        obtain ⟨p15, hp15, h⟩ := Option.bind_eq_some_iff.mp h
        refine zG_V hm zmok_30 rfl (as := [zi v2]) (rest := []) (st2 := []) (pc2 := 56) rfl rfl hdr (hrec _ _ _ _ _ _ hp15) rfl ?_
        refine zG_run hm 2 (cf' := (59, [some (zr 37 0), some (zi v1), some (zi v2), none, none], [zi 16, zr 37 0], p15)) rfl ?_
        obtain ⟨p16, hp16, h⟩ := Option.bind_eq_some_iff.mp h
        refine zG_V hm zmok_24 rfl (as := [zi 16]) (rest := []) (st2 := []) (pc2 := 62) rfl rfl (by omega) (met_X2_expect (d := 1) (Nat.le_refl _) hp16) rfl ?_
        refine zG_run hm 2 (cf' := (64, [some (zr 37 0), some (zi v1), some (zi v2), none, none], [zi v2, zr 37 0], p16)) rfl ?_
        obtain ⟨p17, hp17, h⟩ := Option.bind_eq_some_iff.mp h
        refine zG_V hm zmok_30 rfl (as := [zi v2]) (rest := []) (st2 := []) (pc2 := 67) rfl rfl hdr (hrec _ _ _ _ _ _ hp17) rfl ?_
        refine zG_run hm 1 (cf' := (68, [some (zr 37 0), some (zi v1), some (zi v2), none, none], [zr 37 0], p17)) rfl ?_
        by_cases c19 : 0 ≤ p17 37 0 1 ∧ p17 37 0 1 < 4
        · rw [if_pos c19] at h
          refine zG_gi hm rfl (pc2 := 71) rfl c19 rfl ?_
          refine zG_run hm 2 (cf' := (74, [some (zr 37 0), some (zi v1), some (zi v2), none, none], [zi 0, zi 17, zr 2 (p17 37 0 1).toNat], p17)) rfl ?_
          obtain ⟨p18, hp18, h⟩ := Option.bind_eq_some_iff.mp h
          refine zG_V hm zmok_56 rfl (as := [zi 17, zi 0]) (rest := []) (st2 := [zi p18.1]) (pc2 := 77) rfl rfl (by omega) (met_X7_add (d := 0) (Nat.le_refl _) hp18) rfl ?_
          refine zG_run hm 2 (cf' := (154, [some (zr 37 0), some (zi v1), some (zi v2), none, none], [], p18.2)) rfl ?_
          cases h
          exact zG_rv hm rfl rfl
        · rw [if_neg c19] at h
          cases h
    · rw [if_neg c24] at h
      refine zG_br hm rfl (cf' := (26, [some (zr 37 0), some (zi v1), some (zi v2), none, none], [], M)) (if_neg c24) ?_
      refine zG_run hm 2 (cf' := (28, [some (zr 37 0), some (zi v1), some (zi v2), none, none], [zi v2, zr 37 0], M)) rfl ?_
      obtain ⟨p21, hp21, h⟩ := Option.bind_eq_some_iff.mp h
      refine zG_V hm zmok_30 rfl (as := [zi v2]) (rest := []) (st2 := []) (pc2 := 31) rfl rfl hdr (hrec _ _ _ _ _ _ hp21) rfl ?_
      refine zG_run hm 1 (cf' := (32, [some (zr 37 0), some (zi v1), some (zi v2), none, none], [zr 37 0], p21)) rfl ?_
      by_cases c23 : 0 ≤ p21 37 0 1 ∧ p21 37 0 1 < 4
      · rw [if_pos c23] at h
        refine zG_gi hm rfl (pc2 := 35) rfl c23 rfl ?_
        refine zG_run hm 2 (cf' := (38, [some (zr 37 0), some (zi v1), some (zi v2), none, none], [zi 0, zi 51, zr 2 (p21 37 0 1).toNat], p21)) rfl ?_
        obtain ⟨p22, hp22, h⟩ := Option.bind_eq_some_iff.mp h
        refine zG_V hm zmok_56 rfl (as := [zi 51, zi 0]) (rest := []) (st2 := [zi p22.1]) (pc2 := 41) rfl rfl (by omega) (met_X7_add (d := 0) (Nat.le_refl _) hp22) rfl ?_
        refine zG_run hm 2 (cf' := (154, [some (zr 37 0), some (zi v1), some (zi v2), none, none], [], p22.2)) rfl ?_
        cases h
        exact zG_rv hm rfl rfl
      · rw [if_neg c23] at h
        cases h
  · rw [if_neg c27] at h
    refine zG_br hm rfl (cf' := (6, [some (zr 37 0), some (zi v1), some (zi v2), none, none], [], M)) (if_neg c27) ?_
    refine zG_run hm 2 (cf' := (8, [some (zr 37 0), some (zi v1), some (zi v2), none, none], [zi v2, zr 37 0], M)) rfl ?_
    obtain ⟨p25, hp25, h⟩ := Option.bind_eq_some_iff.mp h
    refine zG_V hm zmok_28 rfl (as := [zi v2]) (rest := []) (st2 := []) (pc2 := 11) rfl rfl hdr (hrec _ _ _ _ _ _ hp25) rfl ?_
    refine zG_run hm 2 (cf' := (14, [some (zr 37 0), some (zi v1), some (zi v2), none, none], [zi 37, zr 37 0], p25)) rfl ?_
    obtain ⟨p26, hp26, h⟩ := Option.bind_eq_some_iff.mp h
    refine zG_V hm zmok_24 rfl (as := [zi 37]) (rest := []) (st2 := []) (pc2 := 17) rfl rfl (by omega) (met_X2_expect (d := 1) (Nat.le_refl _) hp26) rfl ?_
    refine zG_run hm 1 (cf' := (154, [some (zr 37 0), some (zi v1), some (zi v2), none, none], [], p26)) rfl ?_
    cases h
    exact zG_rv hm rfl rfl
theorem met_X2_opened {rec : Nat → Int → Int → Int → zM → Option zM} {v1 : Int} {v2 : Int} {M : zM} {q : zM} {d : Nat} {dr : Nat} (hrec : ∀ (t : Nat) (a b c : Int) (M q : zM), rec t a b c M = some q → zRec t dr a b c M q) (hdr : dr + 1 ≤ d) (hd : 2 ≤ d) (h : f_X2_opened rec v1 v2 M = some q) : zMet 33 d [zr 37 0, zi v1, zi v2] M none q :=
  zMet_of (lv0 := [some (zr 37 0), some (zi v1), some (zi v2), none, none]) zmok_33 rfl rfl (fun v hv => by cases hv) (g_X2_opened hrec hdr hd h)
def f_X2_either_L7 (rec : Nat → Int → Int → Int → zM → Option zM) (v1 : Int) (v2 : Int) (M : zM) : Option ((Int × zM) ⊕ (zM)) :=
  if 300 ≤ zw v2 then
    some (.inr M)
  else
    if ¬ zw (M 38 0 5) = 22 then
      some (.inr M)
    else
      (f_X4_advance  M).bind fun p2 =>
        (rec 5 v1 0 0 p2).bind fun p3 =>
          if 0 ≤ p3 37 0 1 ∧ p3 37 0 1 < 4 then
            (f_X7_add ((p3 37 0 1).toNat) 22 0 p3).bind fun p4 =>
              some (.inl ((v2 + 1), p4.2))
          else
            none
theorem g_X2_either_L7 {rec : Nat → Int → Int → Int → zM → Option zM} {v1 : Int} {v2 : Int} {M : zM} {x : (Int × zM) ⊕ (zM)} {r : Option zV} {Mf : zM} {d : Nat} {dr : Nat} (hrec : ∀ (t : Nat) (a b c : Int) (M q : zM), rec t a b c M = some q → zRec t dr a b c M q) (hdr : dr + 1 ≤ d) (hd : 1 ≤ d) (h : f_X2_either_L7 rec v1 v2 M = some x)
    (kc : ∀ s, x = .inl s → zG 34 d (7, [some (zr 37 0), some (zi v1), some (zi s.1)], [], s.2) r Mf)
    (kb : ∀ t, x = .inr t → zG 34 d (55, [none, none, none], [], t) r Mf) (kr : True) : zG 34 d (7, [some (zr 37 0), some (zi v1), some (zi v2)], [], M) r Mf := by
  have hm := zmok_34
  unfold f_X2_either_L7 at h
  refine zG_run hm 2 (cf' := (11, [some (zr 37 0), some (zi v1), some (zi v2)], [zi 300, zi v2], M)) rfl ?_
  by_cases c7 : 300 ≤ zw v2
  · rw [if_pos c7] at h
    refine zG_br hm rfl (cf' := (55, [some (zr 37 0), some (zi v1), some (zi v2)], [], M)) (if_pos c7) ?_
    refine zG_sub (lv' := [none, none, none]) (zsb_n (zsb_n (zsb_n zsb_0))) ?_
    exact kb M (Option.some.inj h).symm
  · rw [if_neg c7] at h
    refine zG_br hm rfl (cf' := (14, [some (zr 37 0), some (zi v1), some (zi v2)], [], M)) (if_neg c7) ?_
    refine zG_run hm 4 (cf' := (23, [some (zr 37 0), some (zi v1), some (zi v2)], [zi 22, zi (M 38 0 5)], M)) rfl ?_
    by_cases c6 : ¬ zw (M 38 0 5) = 22
    · rw [if_pos c6] at h
      refine zG_br hm rfl (cf' := (55, [some (zr 37 0), some (zi v1), some (zi v2)], [], M)) (if_pos c6) ?_
      refine zG_sub (lv' := [none, none, none]) (zsb_n (zsb_n (zsb_n zsb_0))) ?_
      exact kb M (Option.some.inj h).symm
    · rw [if_neg c6] at h
      refine zG_br hm rfl (cf' := (26, [some (zr 37 0), some (zi v1), some (zi v2)], [], M)) (if_neg c6) ?_
      refine zG_run hm 2 (cf' := (30, [some (zr 37 0), some (zi v1), some (zi v2)], [zr 38 0], M)) rfl ?_
      obtain ⟨p2, hp2, h⟩ := Option.bind_eq_some_iff.mp h
      refine zG_V hm zmok_42 rfl (as := []) (rest := []) (st2 := []) (pc2 := 33) rfl rfl (by omega) (met_X4_advance (d := 0) (Nat.le_refl _) hp2) rfl ?_
      refine zG_run hm 2 (cf' := (35, [some (zr 37 0), some (zi v1), some (zi v2)], [zi v1, zr 37 0], p2)) rfl ?_
      obtain ⟨p3, hp3, h⟩ := Option.bind_eq_some_iff.mp h
      refine zG_V hm zmok_35 rfl (as := [zi v1]) (rest := []) (st2 := []) (pc2 := 38) rfl rfl hdr (hrec _ _ _ _ _ _ hp3) rfl ?_
      refine zG_run hm 1 (cf' := (39, [some (zr 37 0), some (zi v1), some (zi v2)], [zr 37 0], p3)) rfl ?_
      by_cases c5 : 0 ≤ p3 37 0 1 ∧ p3 37 0 1 < 4
      · rw [if_pos c5] at h
        refine zG_gi hm rfl (pc2 := 42) rfl c5 rfl ?_
        refine zG_run hm 2 (cf' := (45, [some (zr 37 0), some (zi v1), some (zi v2)], [zi 0, zi 22, zr 2 (p3 37 0 1).toNat], p3)) rfl ?_
        obtain ⟨p4, hp4, h⟩ := Option.bind_eq_some_iff.mp h
        refine zG_V hm zmok_56 rfl (as := [zi 22, zi 0]) (rest := []) (st2 := [zi p4.1]) (pc2 := 48) rfl rfl (by omega) (met_X7_add (d := 0) (Nat.le_refl _) hp4) rfl ?_
        refine zG_run hm 3 (cf' := (7, [some (zr 37 0), some (zi v1), some (zi (v2 + 1))], [], p4.2)) rfl ?_
        refine zG_sub (lv' := [some (zr 37 0), some (zi v1), some (zi (v2 + 1))]) (zsb_s rfl (zsb_s rfl (zsb_s rfl zsb_0))) ?_
        exact kc ((v2 + 1), p4.2) (Option.some.inj h).symm
      · rw [if_neg c5] at h
        cases h
theorem gl_X2_either_L7 {rec : Nat → Int → Int → Int → zM → Option zM} {v1 : Int} {y : zM} {r : Option zV} {Mf : zM} {d : Nat} {dr : Nat} (hrec : ∀ (t : Nat) (a b c : Int) (M q : zM), rec t a b c M = some q → zRec t dr a b c M q) (hdr : dr + 1 ≤ d) (hd : 1 ≤ d)
    (kb : ∀ t, y = t → zG 34 d (55, [none, none, none], [], t) r Mf) (kr : True) : ∀ (n : Nat) (s : Int × zM), zlp (fun s : Int × zM => f_X2_either_L7 rec v1 s.1 s.2) n s = some y → zG 34 d (7, [some (zr 37 0), some (zi v1), some (zi s.1)], [], s.2) r Mf := by
  intro n
  induction n with
  | zero => intro s h; cases h
  | succ n ih =>
    intro s h
    rcases zlp_cases h with ⟨s', h1, h2⟩ | h1
    · exact g_X2_either_L7 hrec hdr hd h1 (fun s2 e2 => by cases e2; exact ih _ h2) (fun t e2 => by cases e2) trivial
    · exact g_X2_either_L7 hrec hdr hd h1 (fun s2 e2 => by cases e2) (fun t e2 => kb t (Sum.inr.inj e2)) trivial
def f_X2_either (rec : Nat → Int → Int → Int → zM → Option zM) (v1 : Int) (M : zM) : Option (zM) :=
  (rec 5 v1 0 0 M).bind fun p1 =>
    (zlp (fun s : Int × zM => f_X2_either_L7 rec v1 s.1 s.2) zF (0, p1)).bind fun y8 =>
      some y8
theorem g_X2_either {rec : Nat → Int → Int → Int → zM → Option zM} {v1 : Int} {M : zM} {q : zM} {d : Nat} {dr : Nat} (hrec : ∀ (t : Nat) (a b c : Int) (M q : zM), rec t a b c M = some q → zRec t dr a b c M q) (hdr : dr + 1 ≤ d) (hd : 1 ≤ d) (h : f_X2_either rec v1 M = some q) : zG 34 d (0, [some (zr 37 0), some (zi v1), none], [], M) none q := by
  have hm := zmok_34
  unfold f_X2_either at h
  refine zG_run hm 2 (cf' := (2, [some (zr 37 0), some (zi v1), none], [zi v1, zr 37 0], M)) rfl ?_
  obtain ⟨p1, hp1, h⟩ := Option.bind_eq_some_iff.mp h
  refine zG_V hm zmok_35 rfl (as := [zi v1]) (rest := []) (st2 := []) (pc2 := 5) rfl rfl hdr (hrec _ _ _ _ _ _ hp1) rfl ?_
  refine zG_run hm 2 (cf' := (7, [some (zr 37 0), some (zi v1), some (zi 0)], [], p1)) rfl ?_
  refine zG_sub (lv' := [some (zr 37 0), some (zi v1), some (zi 0)]) (zsb_s rfl (zsb_s rfl (zsb_s rfl zsb_0))) ?_
  obtain ⟨y8, hy8, h⟩ := Option.bind_eq_some_iff.mp h
  refine gl_X2_either_L7 hrec hdr hd (fun t e2 => ?_) trivial zF (0, p1) hy8
  cases e2
  cases h
  exact zG_rv hm rfl rfl
theorem met_X2_either {rec : Nat → Int → Int → Int → zM → Option zM} {v1 : Int} {M : zM} {q : zM} {d : Nat} {dr : Nat} (hrec : ∀ (t : Nat) (a b c : Int) (M q : zM), rec t a b c M = some q → zRec t dr a b c M q) (hdr : dr + 1 ≤ d) (hd : 1 ≤ d) (h : f_X2_either rec v1 M = some q) : zMet 34 d [zr 37 0, zi v1] M none q :=
  zMet_of (lv0 := [some (zr 37 0), some (zi v1), none]) zmok_34 rfl rfl (fun v hv => by cases hv) (g_X2_either hrec hdr hd h)
def f_X2_both_L7 (rec : Nat → Int → Int → Int → zM → Option zM) (v1 : Int) (v2 : Int) (M : zM) : Option ((Int × zM) ⊕ (zM)) :=
  if 300 ≤ zw v2 then
    some (.inr M)
  else
    if ¬ zw (M 38 0 5) = 23 then
      some (.inr M)
    else
      (f_X4_advance  M).bind fun p2 =>
        (rec 6 v1 0 0 p2).bind fun p3 =>
          if 0 ≤ p3 37 0 1 ∧ p3 37 0 1 < 4 then
            (f_X7_add ((p3 37 0 1).toNat) 23 0 p3).bind fun p4 =>
              some (.inl ((v2 + 1), p4.2))
          else
            none
theorem g_X2_both_L7 {rec : Nat → Int → Int → Int → zM → Option zM} {v1 : Int} {v2 : Int} {M : zM} {x : (Int × zM) ⊕ (zM)} {r : Option zV} {Mf : zM} {d : Nat} {dr : Nat} (hrec : ∀ (t : Nat) (a b c : Int) (M q : zM), rec t a b c M = some q → zRec t dr a b c M q) (hdr : dr + 1 ≤ d) (hd : 1 ≤ d) (h : f_X2_both_L7 rec v1 v2 M = some x)
    (kc : ∀ s, x = .inl s → zG 35 d (7, [some (zr 37 0), some (zi v1), some (zi s.1)], [], s.2) r Mf)
    (kb : ∀ t, x = .inr t → zG 35 d (55, [none, none, none], [], t) r Mf) (kr : True) : zG 35 d (7, [some (zr 37 0), some (zi v1), some (zi v2)], [], M) r Mf := by
  have hm := zmok_35
  unfold f_X2_both_L7 at h
  refine zG_run hm 2 (cf' := (11, [some (zr 37 0), some (zi v1), some (zi v2)], [zi 300, zi v2], M)) rfl ?_
  by_cases c7 : 300 ≤ zw v2
  · rw [if_pos c7] at h
    refine zG_br hm rfl (cf' := (55, [some (zr 37 0), some (zi v1), some (zi v2)], [], M)) (if_pos c7) ?_
    refine zG_sub (lv' := [none, none, none]) (zsb_n (zsb_n (zsb_n zsb_0))) ?_
    exact kb M (Option.some.inj h).symm
  · rw [if_neg c7] at h
    refine zG_br hm rfl (cf' := (14, [some (zr 37 0), some (zi v1), some (zi v2)], [], M)) (if_neg c7) ?_
    refine zG_run hm 4 (cf' := (23, [some (zr 37 0), some (zi v1), some (zi v2)], [zi 23, zi (M 38 0 5)], M)) rfl ?_
    by_cases c6 : ¬ zw (M 38 0 5) = 23
    · rw [if_pos c6] at h
      refine zG_br hm rfl (cf' := (55, [some (zr 37 0), some (zi v1), some (zi v2)], [], M)) (if_pos c6) ?_
      refine zG_sub (lv' := [none, none, none]) (zsb_n (zsb_n (zsb_n zsb_0))) ?_
      exact kb M (Option.some.inj h).symm
    · rw [if_neg c6] at h
      refine zG_br hm rfl (cf' := (26, [some (zr 37 0), some (zi v1), some (zi v2)], [], M)) (if_neg c6) ?_
      refine zG_run hm 2 (cf' := (30, [some (zr 37 0), some (zi v1), some (zi v2)], [zr 38 0], M)) rfl ?_
      obtain ⟨p2, hp2, h⟩ := Option.bind_eq_some_iff.mp h
      refine zG_V hm zmok_42 rfl (as := []) (rest := []) (st2 := []) (pc2 := 33) rfl rfl (by omega) (met_X4_advance (d := 0) (Nat.le_refl _) hp2) rfl ?_
      refine zG_run hm 2 (cf' := (35, [some (zr 37 0), some (zi v1), some (zi v2)], [zi v1, zr 37 0], p2)) rfl ?_
      obtain ⟨p3, hp3, h⟩ := Option.bind_eq_some_iff.mp h
      refine zG_V hm zmok_36 rfl (as := [zi v1]) (rest := []) (st2 := []) (pc2 := 38) rfl rfl hdr (hrec _ _ _ _ _ _ hp3) rfl ?_
      refine zG_run hm 1 (cf' := (39, [some (zr 37 0), some (zi v1), some (zi v2)], [zr 37 0], p3)) rfl ?_
      by_cases c5 : 0 ≤ p3 37 0 1 ∧ p3 37 0 1 < 4
      · rw [if_pos c5] at h
        refine zG_gi hm rfl (pc2 := 42) rfl c5 rfl ?_
        refine zG_run hm 2 (cf' := (45, [some (zr 37 0), some (zi v1), some (zi v2)], [zi 0, zi 23, zr 2 (p3 37 0 1).toNat], p3)) rfl ?_
        obtain ⟨p4, hp4, h⟩ := Option.bind_eq_some_iff.mp h
        refine zG_V hm zmok_56 rfl (as := [zi 23, zi 0]) (rest := []) (st2 := [zi p4.1]) (pc2 := 48) rfl rfl (by omega) (met_X7_add (d := 0) (Nat.le_refl _) hp4) rfl ?_
        refine zG_run hm 3 (cf' := (7, [some (zr 37 0), some (zi v1), some (zi (v2 + 1))], [], p4.2)) rfl ?_
        refine zG_sub (lv' := [some (zr 37 0), some (zi v1), some (zi (v2 + 1))]) (zsb_s rfl (zsb_s rfl (zsb_s rfl zsb_0))) ?_
        exact kc ((v2 + 1), p4.2) (Option.some.inj h).symm
      · rw [if_neg c5] at h
        cases h
theorem gl_X2_both_L7 {rec : Nat → Int → Int → Int → zM → Option zM} {v1 : Int} {y : zM} {r : Option zV} {Mf : zM} {d : Nat} {dr : Nat} (hrec : ∀ (t : Nat) (a b c : Int) (M q : zM), rec t a b c M = some q → zRec t dr a b c M q) (hdr : dr + 1 ≤ d) (hd : 1 ≤ d)
    (kb : ∀ t, y = t → zG 35 d (55, [none, none, none], [], t) r Mf) (kr : True) : ∀ (n : Nat) (s : Int × zM), zlp (fun s : Int × zM => f_X2_both_L7 rec v1 s.1 s.2) n s = some y → zG 35 d (7, [some (zr 37 0), some (zi v1), some (zi s.1)], [], s.2) r Mf := by
  intro n
  induction n with
  | zero => intro s h; cases h
  | succ n ih =>
    intro s h
    rcases zlp_cases h with ⟨s', h1, h2⟩ | h1
    · exact g_X2_both_L7 hrec hdr hd h1 (fun s2 e2 => by cases e2; exact ih _ h2) (fun t e2 => by cases e2) trivial
    · exact g_X2_both_L7 hrec hdr hd h1 (fun s2 e2 => by cases e2) (fun t e2 => kb t (Sum.inr.inj e2)) trivial
def f_X2_both (rec : Nat → Int → Int → Int → zM → Option zM) (v1 : Int) (M : zM) : Option (zM) :=
  (rec 6 v1 0 0 M).bind fun p1 =>
    (zlp (fun s : Int × zM => f_X2_both_L7 rec v1 s.1 s.2) zF (0, p1)).bind fun y8 =>
      some y8
theorem g_X2_both {rec : Nat → Int → Int → Int → zM → Option zM} {v1 : Int} {M : zM} {q : zM} {d : Nat} {dr : Nat} (hrec : ∀ (t : Nat) (a b c : Int) (M q : zM), rec t a b c M = some q → zRec t dr a b c M q) (hdr : dr + 1 ≤ d) (hd : 1 ≤ d) (h : f_X2_both rec v1 M = some q) : zG 35 d (0, [some (zr 37 0), some (zi v1), none], [], M) none q := by
  have hm := zmok_35
  unfold f_X2_both at h
  refine zG_run hm 2 (cf' := (2, [some (zr 37 0), some (zi v1), none], [zi v1, zr 37 0], M)) rfl ?_
  obtain ⟨p1, hp1, h⟩ := Option.bind_eq_some_iff.mp h
  refine zG_V hm zmok_36 rfl (as := [zi v1]) (rest := []) (st2 := []) (pc2 := 5) rfl rfl hdr (hrec _ _ _ _ _ _ hp1) rfl ?_
  refine zG_run hm 2 (cf' := (7, [some (zr 37 0), some (zi v1), some (zi 0)], [], p1)) rfl ?_
  refine zG_sub (lv' := [some (zr 37 0), some (zi v1), some (zi 0)]) (zsb_s rfl (zsb_s rfl (zsb_s rfl zsb_0))) ?_
  obtain ⟨y8, hy8, h⟩ := Option.bind_eq_some_iff.mp h
  refine gl_X2_both_L7 hrec hdr hd (fun t e2 => ?_) trivial zF (0, p1) hy8
  cases e2
  cases h
  exact zG_rv hm rfl rfl
theorem met_X2_both {rec : Nat → Int → Int → Int → zM → Option zM} {v1 : Int} {M : zM} {q : zM} {d : Nat} {dr : Nat} (hrec : ∀ (t : Nat) (a b c : Int) (M q : zM), rec t a b c M = some q → zRec t dr a b c M q) (hdr : dr + 1 ≤ d) (hd : 1 ≤ d) (h : f_X2_both rec v1 M = some q) : zMet 35 d [zr 37 0, zi v1] M none q :=
  zMet_of (lv0 := [some (zr 37 0), some (zi v1), none]) zmok_35 rfl rfl (fun v hv => by cases hv) (g_X2_both hrec hdr hd h)
def f_X2_ask_j91 (rec : Nat → Int → Int → Int → zM → Option zM)  (M : zM) : Option (zM) :=
  (f_X2_fail 1 M).bind fun p2 =>
    some p2
theorem g_X2_ask_j91 {rec : Nat → Int → Int → Int → zM → Option zM}  {M : zM} {q : zM} {d : Nat} {dr : Nat} (hrec : ∀ (t : Nat) (a b c : Int) (M q : zM), rec t a b c M = some q → zRec t dr a b c M q) (hdr : dr + 1 ≤ d) (hd : 1 ≤ d) (h : f_X2_ask_j91 rec  M = some q) : zG 36 d (91, [some (zr 37 0), none, none], [], M) none q := by
  have hm := zmok_36
  unfold f_X2_ask_j91 at h
  refine zG_run hm 2 (cf' := (93, [some (zr 37 0), none, none], [zi 1, zr 37 0], M)) rfl ?_
  obtain ⟨p2, hp2, h⟩ := Option.bind_eq_some_iff.mp h
  refine zG_V hm zmok_23 rfl (as := [zi 1]) (rest := []) (st2 := []) (pc2 := 96) rfl rfl (by omega) (met_X2_fail (d := 0) (Nat.le_refl _) hp2) rfl ?_
  refine zG_run hm 1 (cf' := (121, [some (zr 37 0), none, none], [], p2)) rfl ?_
  cases h
  exact zG_rv hm rfl rfl
def f_X2_ask_j26 (rec : Nat → Int → Int → Int → zM → Option zM) (v1 : Int) (M : zM) : Option (zM) :=
  if ¬ zw (M 38 0 5) = 24 then
    (rec 0 v1 0 0 M).bind fun p1 =>
      if zw (p1 38 0 5) < 26 then
        f_X2_ask_j91 rec  p1
      else
        if zw (p1 38 0 5) ≤ 31 then
          (f_X4_advance  p1).bind fun p3 =>
            (rec 0 v1 0 0 p3).bind fun p4 =>
              if 0 ≤ p4 37 0 1 ∧ p4 37 0 1 < 4 then
                (f_X7_add ((p4 37 0 1).toNat) (p1 38 0 5) 0 p4).bind fun p5 =>
                  some p5.2
              else
                none
        else
          f_X2_ask_j91 rec  p1
  else
    (f_X4_advance  M).bind fun p9 =>
      (rec 6 (v1 + 1) 0 0 p9).bind fun p10 =>
        if 0 ≤ p10 37 0 1 ∧ p10 37 0 1 < 4 then
          (f_X7_add ((p10 37 0 1).toNat) 24 0 p10).bind fun p11 =>
            some p11.2
        else
          none
theorem g_X2_ask_j26 {rec : Nat → Int → Int → Int → zM → Option zM} {v1 : Int} {M : zM} {q : zM} {d : Nat} {dr : Nat} (hrec : ∀ (t : Nat) (a b c : Int) (M q : zM), rec t a b c M = some q → zRec t dr a b c M q) (hdr : dr + 1 ≤ d) (hd : 1 ≤ d) (h : f_X2_ask_j26 rec v1 M = some q) : zG 36 d (26, [some (zr 37 0), some (zi v1), none], [], M) none q := by
  have hm := zmok_36
  unfold f_X2_ask_j26 at h
  refine zG_run hm 4 (cf' := (35, [some (zr 37 0), some (zi v1), none], [zi 24, zi (M 38 0 5)], M)) rfl ?_
  by_cases c13 : ¬ zw (M 38 0 5) = 24
  · rw [if_pos c13] at h
    refine zG_br hm rfl (cf' := (66, [some (zr 37 0), some (zi v1), none], [], M)) (if_pos c13) ?_
    refine zG_run hm 2 (cf' := (68, [some (zr 37 0), some (zi v1), none], [zi v1, zr 37 0], M)) rfl ?_
    obtain ⟨p1, hp1, h⟩ := Option.bind_eq_some_iff.mp h
    refine zG_V hm zmok_28 rfl (as := [zi v1]) (rest := []) (st2 := []) (pc2 := 71) rfl rfl hdr (hrec _ _ _ _ _ _ hp1) rfl ?_
    refine zG_run hm 6 (cf' := (82, [some (zr 37 0), some (zi v1), some (zi (p1 38 0 5))], [zi 26, zi (p1 38 0 5)], p1)) rfl ?_
    by_cases c8 : zw (p1 38 0 5) < 26
    · rw [if_pos c8] at h
      refine zG_br hm rfl (cf' := (91, [some (zr 37 0), some (zi v1), some (zi (p1 38 0 5))], [], p1)) (if_pos c8) ?_
      refine zG_sub (lv' := [some (zr 37 0), none, none]) (zsb_s rfl (zsb_n (zsb_n zsb_0))) ?_
      exact g_X2_ask_j91 hrec hdr hd h
    · rw [if_neg c8] at h
      refine zG_br hm rfl (cf' := (85, [some (zr 37 0), some (zi v1), some (zi (p1 38 0 5))], [], p1)) (if_neg c8) ?_
      refine zG_run hm 2 (cf' := (88, [some (zr 37 0), some (zi v1), some (zi (p1 38 0 5))], [zi 31, zi (p1 38 0 5)], p1)) rfl ?_
      by_cases c7 : zw (p1 38 0 5) ≤ 31
      · rw [if_pos c7] at h
        refine zG_br hm rfl (cf' := (99, [some (zr 37 0), some (zi v1), some (zi (p1 38 0 5))], [], p1)) (if_pos c7) ?_
        refine zG_run hm 2 (cf' := (103, [some (zr 37 0), some (zi v1), some (zi (p1 38 0 5))], [zr 38 0], p1)) rfl ?_
        obtain ⟨p3, hp3, h⟩ := Option.bind_eq_some_iff.mp h
        refine zG_V hm zmok_42 rfl (as := []) (rest := []) (st2 := []) (pc2 := 106) rfl rfl (by omega) (met_X4_advance (d := 0) (Nat.le_refl _) hp3) rfl ?_
        refine zG_run hm 2 (cf' := (108, [some (zr 37 0), some (zi v1), some (zi (p1 38 0 5))], [zi v1, zr 37 0], p3)) rfl ?_
        obtain ⟨p4, hp4, h⟩ := Option.bind_eq_some_iff.mp h
        refine zG_V hm zmok_28 rfl (as := [zi v1]) (rest := []) (st2 := []) (pc2 := 111) rfl rfl hdr (hrec _ _ _ _ _ _ hp4) rfl ?_
        refine zG_run hm 1 (cf' := (112, [some (zr 37 0), some (zi v1), some (zi (p1 38 0 5))], [zr 37 0], p4)) rfl ?_
        by_cases c6 : 0 ≤ p4 37 0 1 ∧ p4 37 0 1 < 4
        · rw [if_pos c6] at h
          refine zG_gi hm rfl (pc2 := 115) rfl c6 rfl ?_
          refine zG_run hm 2 (cf' := (117, [some (zr 37 0), some (zi v1), some (zi (p1 38 0 5))], [zi 0, zi (p1 38 0 5), zr 2 (p4 37 0 1).toNat], p4)) rfl ?_
          obtain ⟨p5, hp5, h⟩ := Option.bind_eq_some_iff.mp h
          refine zG_V hm zmok_56 rfl (as := [zi (p1 38 0 5), zi 0]) (rest := []) (st2 := [zi p5.1]) (pc2 := 120) rfl rfl (by omega) (met_X7_add (d := 0) (Nat.le_refl _) hp5) rfl ?_
          refine zG_run hm 1 (cf' := (121, [some (zr 37 0), some (zi v1), some (zi (p1 38 0 5))], [], p5.2)) rfl ?_
          cases h
          exact zG_rv hm rfl rfl
        · rw [if_neg c6] at h
          cases h
      · rw [if_neg c7] at h
        refine zG_br hm rfl (cf' := (91, [some (zr 37 0), some (zi v1), some (zi (p1 38 0 5))], [], p1)) (if_neg c7) ?_
        refine zG_sub (lv' := [some (zr 37 0), none, none]) (zsb_s rfl (zsb_n (zsb_n zsb_0))) ?_
        exact g_X2_ask_j91 hrec hdr hd h
  · rw [if_neg c13] at h
    refine zG_br hm rfl (cf' := (38, [some (zr 37 0), some (zi v1), none], [], M)) (if_neg c13) ?_
    refine zG_run hm 2 (cf' := (42, [some (zr 37 0), some (zi v1), none], [zr 38 0], M)) rfl ?_
    obtain ⟨p9, hp9, h⟩ := Option.bind_eq_some_iff.mp h
    refine zG_V hm zmok_42 rfl (as := []) (rest := []) (st2 := []) (pc2 := 45) rfl rfl (by omega) (met_X4_advance (d := 0) (Nat.le_refl _) hp9) rfl ?_
    refine zG_run hm 4 (cf' := (49, [some (zr 37 0), some (zi v1), none], [zi (v1 + 1), zr 37 0], p9)) rfl ?_
    obtain ⟨p10, hp10, h⟩ := Option.bind_eq_some_iff.mp h
    refine zG_V hm zmok_36 rfl (as := [zi (v1 + 1)]) (rest := []) (st2 := []) (pc2 := 52) rfl rfl hdr (hrec _ _ _ _ _ _ hp10) rfl ?_
    refine zG_run hm 1 (cf' := (53, [some (zr 37 0), some (zi v1), none], [zr 37 0], p10)) rfl ?_
    by_cases c12 : 0 ≤ p10 37 0 1 ∧ p10 37 0 1 < 4
    · rw [if_pos c12] at h
      refine zG_gi hm rfl (pc2 := 56) rfl c12 rfl ?_
      refine zG_run hm 2 (cf' := (59, [some (zr 37 0), some (zi v1), none], [zi 0, zi 24, zr 2 (p10 37 0 1).toNat], p10)) rfl ?_
      obtain ⟨p11, hp11, h⟩ := Option.bind_eq_some_iff.mp h
      refine zG_V hm zmok_56 rfl (as := [zi 24, zi 0]) (rest := []) (st2 := [zi p11.1]) (pc2 := 62) rfl rfl (by omega) (met_X7_add (d := 0) (Nat.le_refl _) hp11) rfl ?_
      refine zG_run hm 2 (cf' := (121, [some (zr 37 0), some (zi v1), none], [], p11.2)) rfl ?_
      cases h
      exact zG_rv hm rfl rfl
    · rw [if_neg c12] at h
      cases h
def f_X2_ask (rec : Nat → Int → Int → Int → zM → Option zM) (v1 : Int) (M : zM) : Option (zM) :=
  if ¬ zw (M 38 0 5) = 24 then
    f_X2_ask_j26 rec v1 M
  else
    if zw v1 < 8 then
      f_X2_ask_j26 rec v1 M
    else
      (f_X2_fail 3 M).bind fun p14 =>
        some p14
theorem g_X2_ask {rec : Nat → Int → Int → Int → zM → Option zM} {v1 : Int} {M : zM} {q : zM} {d : Nat} {dr : Nat} (hrec : ∀ (t : Nat) (a b c : Int) (M q : zM), rec t a b c M = some q → zRec t dr a b c M q) (hdr : dr + 1 ≤ d) (hd : 1 ≤ d) (h : f_X2_ask rec v1 M = some q) : zG 36 d (0, [some (zr 37 0), some (zi v1), none], [], M) none q := by
  have hm := zmok_36
  unfold f_X2_ask at h
  refine zG_run hm 4 (cf' := (9, [some (zr 37 0), some (zi v1), none], [zi 24, zi (M 38 0 5)], M)) rfl ?_
  by_cases c16 : ¬ zw (M 38 0 5) = 24
  · rw [if_pos c16] at h
    refine zG_br hm rfl (cf' := (26, [some (zr 37 0), some (zi v1), none], [], M)) (if_pos c16) ?_
    refine zG_sub (lv' := [some (zr 37 0), some (zi v1), none]) (zsb_s rfl (zsb_s rfl (zsb_n zsb_0))) ?_
    exact g_X2_ask_j26 hrec hdr hd h
  · rw [if_neg c16] at h
    refine zG_br hm rfl (cf' := (12, [some (zr 37 0), some (zi v1), none], [], M)) (if_neg c16) ?_
    refine zG_run hm 2 (cf' := (15, [some (zr 37 0), some (zi v1), none], [zi 8, zi v1], M)) rfl ?_
    by_cases c15 : zw v1 < 8
    · rw [if_pos c15] at h
      refine zG_br hm rfl (cf' := (26, [some (zr 37 0), some (zi v1), none], [], M)) (if_pos c15) ?_
      refine zG_sub (lv' := [some (zr 37 0), some (zi v1), none]) (zsb_s rfl (zsb_s rfl (zsb_n zsb_0))) ?_
      exact g_X2_ask_j26 hrec hdr hd h
    · rw [if_neg c15] at h
      refine zG_br hm rfl (cf' := (18, [some (zr 37 0), some (zi v1), none], [], M)) (if_neg c15) ?_
      refine zG_run hm 2 (cf' := (20, [some (zr 37 0), some (zi v1), none], [zi 3, zr 37 0], M)) rfl ?_
      obtain ⟨p14, hp14, h⟩ := Option.bind_eq_some_iff.mp h
      refine zG_V hm zmok_23 rfl (as := [zi 3]) (rest := []) (st2 := []) (pc2 := 23) rfl rfl (by omega) (met_X2_fail (d := 0) (Nat.le_refl _) hp14) rfl ?_
      refine zG_run hm 1 (cf' := (121, [some (zr 37 0), some (zi v1), none], [], p14)) rfl ?_
      cases h
      exact zG_rv hm rfl rfl
theorem met_X2_ask {rec : Nat → Int → Int → Int → zM → Option zM} {v1 : Int} {M : zM} {q : zM} {d : Nat} {dr : Nat} (hrec : ∀ (t : Nat) (a b c : Int) (M q : zM), rec t a b c M = some q → zRec t dr a b c M q) (hdr : dr + 1 ≤ d) (hd : 1 ≤ d) (h : f_X2_ask rec v1 M = some q) : zMet 36 d [zr 37 0, zi v1] M none q :=
  zMet_of (lv0 := [some (zr 37 0), some (zi v1), none]) zmok_36 rfl rfl (fun v hv => by cases hv) (g_X2_ask hrec hdr hd h)
/-- the methods that call one another, n deep -/
def zfixP : Nat → Nat → Int → Int → Int → zM → Option zM
  | 0, _, _, _, _, _ => none
  | n + 1, t, a, b, c, M => match t with
    | 0 => f_X2_sum (zfixP n) a M
    | 1 => f_X2_product (zfixP n) a M
    | 2 => f_X2_one (zfixP n) a M
    | 3 => f_X2_opened (zfixP n) a b M
    | 4 => f_X2_either (zfixP n) a M
    | 5 => f_X2_both (zfixP n) a M
    | 6 => f_X2_ask (zfixP n) a M
    | _ => none
theorem metn_zfixP : ∀ (n t : Nat) (a b c : Int) (M q : zM), zfixP n t a b c M = some q → zRec t (n + 2) a b c M q := by
  intro n
  induction n with
  | zero => intro t a b c M q h; cases h
  | succ n ih =>
    intro t a b c M q h
    unfold zfixP at h
    split at h
    · exact met_X2_sum ih (by omega) (by omega) h
    · exact met_X2_product ih (by omega) (by omega) h
    · exact met_X2_one ih (by omega) (by omega) h
    · exact met_X2_opened ih (by omega) (by omega) h
    · exact met_X2_either ih (by omega) (by omega) h
    · exact met_X2_both ih (by omega) (by omega) h
    · exact met_X2_ask ih (by omega) (by omega) h
    · cases h
theorem met_zfixP (t : Nat) (a b c : Int) (M q : zM) (h : zfixP zR t a b c M = some q) : zRec t 302 a b c M q := metn_zfixP zR t a b c M q h
def f_X2_clause_j160  (M : zM) : Option (zM) :=
  (f_X2_expect 38 M).bind fun p4 =>
    if 0 ≤ p4 37 0 1 ∧ p4 37 0 1 < 4 then
      zlet (zput p4 2 (p4 37 0 1).toNat 8 ((p4 2 (p4 37 0 1).toNat 8) + 1)) fun M5 =>
      some M5
    else
      none
theorem g_X2_clause_j160  {M : zM} {q : zM} {d : Nat} (hd : 303 ≤ d) (h : f_X2_clause_j160  M = some q) : zG 26 d (160, [some (zr 37 0), none], [], M) none q := by
  have hm := zmok_26
  unfold f_X2_clause_j160 at h
  refine zG_run hm 2 (cf' := (163, [some (zr 37 0), none], [zi 38, zr 37 0], M)) rfl ?_
  obtain ⟨p4, hp4, h⟩ := Option.bind_eq_some_iff.mp h
  refine zG_V hm zmok_24 rfl (as := [zi 38]) (rest := []) (st2 := []) (pc2 := 166) rfl rfl (by omega) (met_X2_expect (d := 1) (Nat.le_refl _) hp4) rfl ?_
  refine zG_run hm 1 (cf' := (167, [some (zr 37 0), none], [zr 37 0], p4)) rfl ?_
  by_cases c6 : 0 ≤ p4 37 0 1 ∧ p4 37 0 1 < 4
  · rw [if_pos c6] at h
    refine zG_gi hm rfl (pc2 := 170) rfl c6 rfl ?_
    refine zG_run hm 5 (cf' := (179, [some (zr 37 0), none], [], (zput p4 2 (p4 37 0 1).toNat 8 ((p4 2 (p4 37 0 1).toNat 8) + 1)))) rfl ?_
    obtain ⟨M5, eM5, h⟩ := zlet_of h
    rw [eM5]
    cases h
    exact zG_rv hm rfl rfl
  · rw [if_neg c6] at h
    cases h
def f_X2_clause_j54 (v1 : Int) (M : zM) : Option (zM) :=
  if 0 ≤ M 37 0 1 ∧ M 37 0 1 < 4 then
    if zw (M 2 (M 37 0 1).toNat 8) < 24 then
      if 0 ≤ M 37 0 1 ∧ M 37 0 1 < 4 then
        if 0 ≤ M 37 0 1 ∧ M 37 0 1 < 4 then
          if 0 ≤ zw (M 2 (M 37 0 1).toNat 8) ∧ zw (M 2 (M 37 0 1).toNat 8) < 24 then
            zlet (zput M 3 ((M 37 0 1).toNat) (zix (M 2 (M 37 0 1).toNat 8)) v1) fun M1 =>
            (f_X4_advance  M1).bind fun p2 =>
              if 4 ≤ zw v1 then
                if 0 ≤ p2 37 0 1 ∧ p2 37 0 1 < 4 then
                  (f_X2_readDeed v1 (p2 2 (p2 37 0 1).toNat 8) p2).bind fun p3 =>
                    f_X2_clause_j160  p3
                else
                  none
              else
                zlet (zput p2 37 0 2 v1) fun M8 =>
                if 0 ≤ M8 37 0 1 ∧ M8 37 0 1 < 4 then
                  if 0 ≤ M8 37 0 1 ∧ M8 37 0 1 < 4 then
                    if 0 ≤ zw v1 ∧ zw v1 < 4 then
                      zlet (zput M8 7 ((M8 37 0 1).toNat) (zix v1) (M8 2 (M8 37 0 1).toNat 9)) fun M9 =>
                      (zfixP zR 0 0 0 0 M9).bind fun p10 =>
                        if 0 ≤ p10 37 0 1 ∧ p10 37 0 1 < 4 then
                          if 0 ≤ p10 37 0 1 ∧ p10 37 0 1 < 4 then
                            if 0 ≤ zw v1 ∧ zw v1 < 4 then
                              zlet (zput p10 8 ((p10 37 0 1).toNat) (zix v1) (p10 2 (p10 37 0 1).toNat 9)) fun M11 =>
                              f_X2_clause_j160  M11
                            else
                              none
                          else
                            none
                        else
                          none
                    else
                      none
                  else
                    none
                else
                  none
          else
            none
        else
          none
      else
        none
    else
      (f_X2_fail 6 M).bind fun p22 =>
        some p22
  else
    none
theorem g_X2_clause_j54 {v1 : Int} {M : zM} {q : zM} {d : Nat} (hd : 303 ≤ d) (h : f_X2_clause_j54 v1 M = some q) : zG 26 d (54, [some (zr 37 0), some (zi v1)], [], M) none q := by
  have hm := zmok_26
  unfold f_X2_clause_j54 at h
  refine zG_run hm 1 (cf' := (55, [some (zr 37 0), some (zi v1)], [zr 37 0], M)) rfl ?_
  by_cases c24 : 0 ≤ M 37 0 1 ∧ M 37 0 1 < 4
  · rw [if_pos c24] at h
    refine zG_gi hm rfl (pc2 := 58) rfl c24 rfl ?_
    refine zG_run hm 2 (cf' := (63, [some (zr 37 0), some (zi v1)], [zi 24, zi (M 2 (M 37 0 1).toNat 8)], M)) rfl ?_
    by_cases c23 : zw (M 2 (M 37 0 1).toNat 8) < 24
    · rw [if_pos c23] at h
      refine zG_br hm rfl (cf' := (75, [some (zr 37 0), some (zi v1)], [], M)) (if_pos c23) ?_
      refine zG_run hm 1 (cf' := (76, [some (zr 37 0), some (zi v1)], [zr 37 0], M)) rfl ?_
      by_cases c21 : 0 ≤ M 37 0 1 ∧ M 37 0 1 < 4
      · rw [if_pos c21] at h
        refine zG_gi hm rfl (pc2 := 79) rfl c21 rfl ?_
        refine zG_run hm 2 (cf' := (83, [some (zr 37 0), some (zi v1)], [zr 37 0, zr 3 ((M 37 0 1).toNat)], M)) rfl ?_
        by_cases c20 : 0 ≤ M 37 0 1 ∧ M 37 0 1 < 4
        · rw [if_pos c20] at h
          refine zG_gi hm rfl (pc2 := 86) rfl c20 rfl ?_
          refine zG_run hm 2 (cf' := (90, [some (zr 37 0), some (zi v1)], [zi v1, zi (M 2 (M 37 0 1).toNat 8), zr 3 ((M 37 0 1).toNat)], M)) rfl ?_
          by_cases c19 : 0 ≤ zw (M 2 (M 37 0 1).toNat 8) ∧ zw (M 2 (M 37 0 1).toNat 8) < 24
          · rw [if_pos c19] at h
            refine zG_br hm rfl (cf' := (91, [some (zr 37 0), some (zi v1)], [], (zput M 3 ((M 37 0 1).toNat) (zix (M 2 (M 37 0 1).toNat 8)) v1))) (if_pos c19) ?_
            obtain ⟨M1, eM1, h⟩ := zlet_of h
            rw [eM1]
            refine zG_run hm 2 (cf' := (95, [some (zr 37 0), some (zi v1)], [zr 38 0], M1)) rfl ?_
            obtain ⟨p2, hp2, h⟩ := Option.bind_eq_some_iff.mp h
            refine zG_V hm zmok_42 rfl (as := []) (rest := []) (st2 := []) (pc2 := 98) rfl rfl (by omega) (met_X4_advance (d := 0) (Nat.le_refl _) hp2) rfl ?_
            refine zG_run hm 2 (cf' := (100, [some (zr 37 0), some (zi v1)], [zi 4, zi v1], p2)) rfl ?_
            by_cases c18 : 4 ≤ zw v1
            · rw [if_pos c18] at h
              refine zG_br hm rfl (cf' := (148, [some (zr 37 0), some (zi v1)], [], p2)) (if_pos c18) ?_
              refine zG_run hm 3 (cf' := (151, [some (zr 37 0), some (zi v1)], [zr 37 0, zi v1, zr 37 0], p2)) rfl ?_
              by_cases c7 : 0 ≤ p2 37 0 1 ∧ p2 37 0 1 < 4
              · rw [if_pos c7] at h
                refine zG_gi hm rfl (pc2 := 154) rfl c7 rfl ?_
                refine zG_run hm 1 (cf' := (157, [some (zr 37 0), some (zi v1)], [zi (p2 2 (p2 37 0 1).toNat 8), zi v1, zr 37 0], p2)) rfl ?_
                obtain ⟨p3, hp3, h⟩ := Option.bind_eq_some_iff.mp h
                refine zG_V hm zmok_27 rfl (as := [zi v1, zi (p2 2 (p2 37 0 1).toNat 8)]) (rest := []) (st2 := []) (pc2 := 160) rfl rfl (by omega) (met_X2_readDeed (d := 2) (Nat.le_refl _) hp3) rfl ?_
                refine zG_sub (lv' := [some (zr 37 0), none]) (zsb_s rfl (zsb_n zsb_0)) ?_
                exact g_X2_clause_j160 hd h
              · rw [if_neg c7] at h
                cases h
            · rw [if_neg c18] at h
              refine zG_br hm rfl (cf' := (103, [some (zr 37 0), some (zi v1)], [], p2)) (if_neg c18) ?_
              refine zG_run hm 3 (cf' := (108, [some (zr 37 0), some (zi v1)], [], (zput p2 37 0 2 v1))) rfl ?_
              obtain ⟨M8, eM8, h⟩ := zlet_of h
              rw [eM8]
              refine zG_run hm 1 (cf' := (109, [some (zr 37 0), some (zi v1)], [zr 37 0], M8)) rfl ?_
              by_cases c17 : 0 ≤ M8 37 0 1 ∧ M8 37 0 1 < 4
              · rw [if_pos c17] at h
                refine zG_gi hm rfl (pc2 := 112) rfl c17 rfl ?_
                refine zG_run hm 3 (cf' := (117, [some (zr 37 0), some (zi v1)], [zr 37 0, zi v1, zr 7 ((M8 37 0 1).toNat)], M8)) rfl ?_
                by_cases c16 : 0 ≤ M8 37 0 1 ∧ M8 37 0 1 < 4
                · rw [if_pos c16] at h
                  refine zG_gi hm rfl (pc2 := 120) rfl c16 rfl ?_
                  refine zG_run hm 1 (cf' := (123, [some (zr 37 0), some (zi v1)], [zi (M8 2 (M8 37 0 1).toNat 9), zi v1, zr 7 ((M8 37 0 1).toNat)], M8)) rfl ?_
                  by_cases c15 : 0 ≤ zw v1 ∧ zw v1 < 4
                  · rw [if_pos c15] at h
                    refine zG_br hm rfl (cf' := (124, [some (zr 37 0), some (zi v1)], [], (zput M8 7 ((M8 37 0 1).toNat) (zix v1) (M8 2 (M8 37 0 1).toNat 9)))) (if_pos c15) ?_
                    obtain ⟨M9, eM9, h⟩ := zlet_of h
                    rw [eM9]
                    refine zG_run hm 2 (cf' := (126, [some (zr 37 0), some (zi v1)], [zi 0, zr 37 0], M9)) rfl ?_
                    obtain ⟨p10, hp10, h⟩ := Option.bind_eq_some_iff.mp h
                    refine zG_V hm zmok_28 rfl (as := [zi 0]) (rest := []) (st2 := []) (pc2 := 129) rfl rfl (by omega) (met_zfixP _ _ _ _ _ _ hp10) rfl ?_
                    refine zG_run hm 1 (cf' := (130, [some (zr 37 0), some (zi v1)], [zr 37 0], p10)) rfl ?_
                    by_cases c14 : 0 ≤ p10 37 0 1 ∧ p10 37 0 1 < 4
                    · rw [if_pos c14] at h
                      refine zG_gi hm rfl (pc2 := 133) rfl c14 rfl ?_
                      refine zG_run hm 3 (cf' := (138, [some (zr 37 0), some (zi v1)], [zr 37 0, zi v1, zr 8 ((p10 37 0 1).toNat)], p10)) rfl ?_
                      by_cases c13 : 0 ≤ p10 37 0 1 ∧ p10 37 0 1 < 4
                      · rw [if_pos c13] at h
                        refine zG_gi hm rfl (pc2 := 141) rfl c13 rfl ?_
                        refine zG_run hm 1 (cf' := (144, [some (zr 37 0), some (zi v1)], [zi (p10 2 (p10 37 0 1).toNat 9), zi v1, zr 8 ((p10 37 0 1).toNat)], p10)) rfl ?_
                        by_cases c12 : 0 ≤ zw v1 ∧ zw v1 < 4
                        · rw [if_pos c12] at h
                          refine zG_br hm rfl (cf' := (145, [some (zr 37 0), some (zi v1)], [], (zput p10 8 ((p10 37 0 1).toNat) (zix v1) (p10 2 (p10 37 0 1).toNat 9)))) (if_pos c12) ?_
                          obtain ⟨M11, eM11, h⟩ := zlet_of h
                          rw [eM11]
                          refine zG_run hm 1 (cf' := (160, [some (zr 37 0), some (zi v1)], [], M11)) rfl ?_
                          refine zG_sub (lv' := [some (zr 37 0), none]) (zsb_s rfl (zsb_n zsb_0)) ?_
                          exact g_X2_clause_j160 hd h
                        · rw [if_neg c12] at h
                          cases h
                      · rw [if_neg c13] at h
                        cases h
                    · rw [if_neg c14] at h
                      cases h
                  · rw [if_neg c15] at h
                    cases h
                · rw [if_neg c16] at h
                  cases h
              · rw [if_neg c17] at h
                cases h
          · rw [if_neg c19] at h
            cases h
        · rw [if_neg c20] at h
          cases h
      · rw [if_neg c21] at h
        cases h
    · rw [if_neg c23] at h
      refine zG_br hm rfl (cf' := (66, [some (zr 37 0), some (zi v1)], [], M)) (if_neg c23) ?_
      refine zG_run hm 2 (cf' := (69, [some (zr 37 0), some (zi v1)], [zi 6, zr 37 0], M)) rfl ?_
      obtain ⟨p22, hp22, h⟩ := Option.bind_eq_some_iff.mp h
      refine zG_V hm zmok_23 rfl (as := [zi 6]) (rest := []) (st2 := []) (pc2 := 72) rfl rfl (by omega) (met_X2_fail (d := 0) (Nat.le_refl _) hp22) rfl ?_
      refine zG_run hm 1 (cf' := (179, [some (zr 37 0), some (zi v1)], [], p22)) rfl ?_
      cases h
      exact zG_rv hm rfl rfl
  · rw [if_neg c24] at h
    cases h
def f_X2_clause_j28 (v1 : Int) (M : zM) : Option (zM) :=
  if 4 ≤ zw v1 then
    f_X2_clause_j54 v1 M
  else
    if 0 ≤ M 37 0 1 ∧ M 37 0 1 < 4 then
      if 0 ≤ zw v1 ∧ zw v1 < 4 then
        if zw (M 7 ((M 37 0 1).toNat) (zix v1)) = (-1) then
          f_X2_clause_j54 v1 M
        else
          (f_X2_fail 4 M).bind fun p25 =>
            some p25
      else
        none
    else
      none
theorem g_X2_clause_j28 {v1 : Int} {M : zM} {q : zM} {d : Nat} (hd : 303 ≤ d) (h : f_X2_clause_j28 v1 M = some q) : zG 26 d (28, [some (zr 37 0), some (zi v1)], [], M) none q := by
  have hm := zmok_26
  unfold f_X2_clause_j28 at h
  refine zG_run hm 2 (cf' := (30, [some (zr 37 0), some (zi v1)], [zi 4, zi v1], M)) rfl ?_
  by_cases c29 : 4 ≤ zw v1
  · rw [if_pos c29] at h
    refine zG_br hm rfl (cf' := (54, [some (zr 37 0), some (zi v1)], [], M)) (if_pos c29) ?_
    refine zG_sub (lv' := [some (zr 37 0), some (zi v1)]) (zsb_s rfl (zsb_s rfl zsb_0)) ?_
    exact g_X2_clause_j54 hd h
  · rw [if_neg c29] at h
    refine zG_br hm rfl (cf' := (33, [some (zr 37 0), some (zi v1)], [], M)) (if_neg c29) ?_
    refine zG_run hm 1 (cf' := (34, [some (zr 37 0), some (zi v1)], [zr 37 0], M)) rfl ?_
    by_cases c28 : 0 ≤ M 37 0 1 ∧ M 37 0 1 < 4
    · rw [if_pos c28] at h
      refine zG_gi hm rfl (pc2 := 37) rfl c28 rfl ?_
      refine zG_run hm 2 (cf' := (41, [some (zr 37 0), some (zi v1)], [zi v1, zr 7 ((M 37 0 1).toNat)], M)) rfl ?_
      by_cases c27 : 0 ≤ zw v1 ∧ zw v1 < 4
      · rw [if_pos c27] at h
        refine zG_br hm rfl (cf' := (42, [some (zr 37 0), some (zi v1)], [zi (M 7 ((M 37 0 1).toNat) (zix v1))], M)) (if_pos c27) ?_
        refine zG_run hm 1 (cf' := (43, [some (zr 37 0), some (zi v1)], [zi (-1), zi (M 7 ((M 37 0 1).toNat) (zix v1))], M)) rfl ?_
        by_cases c26 : zw (M 7 ((M 37 0 1).toNat) (zix v1)) = (-1)
        · rw [if_pos c26] at h
          refine zG_br hm rfl (cf' := (54, [some (zr 37 0), some (zi v1)], [], M)) (if_pos c26) ?_
          refine zG_sub (lv' := [some (zr 37 0), some (zi v1)]) (zsb_s rfl (zsb_s rfl zsb_0)) ?_
          exact g_X2_clause_j54 hd h
        · rw [if_neg c26] at h
          refine zG_br hm rfl (cf' := (46, [some (zr 37 0), some (zi v1)], [], M)) (if_neg c26) ?_
          refine zG_run hm 2 (cf' := (48, [some (zr 37 0), some (zi v1)], [zi 4, zr 37 0], M)) rfl ?_
          obtain ⟨p25, hp25, h⟩ := Option.bind_eq_some_iff.mp h
          refine zG_V hm zmok_23 rfl (as := [zi 4]) (rest := []) (st2 := []) (pc2 := 51) rfl rfl (by omega) (met_X2_fail (d := 0) (Nat.le_refl _) hp25) rfl ?_
          refine zG_run hm 1 (cf' := (179, [some (zr 37 0), some (zi v1)], [], p25)) rfl ?_
          cases h
          exact zG_rv hm rfl rfl
      · rw [if_neg c27] at h
        cases h
    · rw [if_neg c28] at h
      cases h
def f_X2_clause  (M : zM) : Option (zM) :=
  if zw (M 38 0 5) ≤ 9 then
    f_X2_clause_j28 (M 38 0 5) M
  else
    if zw (M 38 0 5) = 10 then
      f_X2_clause_j28 (M 38 0 5) M
    else
      (f_X2_fail 1 M).bind fun p30 =>
        some p30
theorem g_X2_clause  {M : zM} {q : zM} {d : Nat} (hd : 303 ≤ d) (h : f_X2_clause  M = some q) : zG 26 d (0, [some (zr 37 0), none], [], M) none q := by
  have hm := zmok_26
  unfold f_X2_clause at h
  refine zG_run hm 6 (cf' := (11, [some (zr 37 0), some (zi (M 38 0 5))], [zi 9, zi (M 38 0 5)], M)) rfl ?_
  by_cases c32 : zw (M 38 0 5) ≤ 9
  · rw [if_pos c32] at h
    refine zG_br hm rfl (cf' := (28, [some (zr 37 0), some (zi (M 38 0 5))], [], M)) (if_pos c32) ?_
    refine zG_sub (lv' := [some (zr 37 0), some (zi (M 38 0 5))]) (zsb_s rfl (zsb_s rfl zsb_0)) ?_
    exact g_X2_clause_j28 hd h
  · rw [if_neg c32] at h
    refine zG_br hm rfl (cf' := (14, [some (zr 37 0), some (zi (M 38 0 5))], [], M)) (if_neg c32) ?_
    refine zG_run hm 2 (cf' := (17, [some (zr 37 0), some (zi (M 38 0 5))], [zi 10, zi (M 38 0 5)], M)) rfl ?_
    by_cases c31 : zw (M 38 0 5) = 10
    · rw [if_pos c31] at h
      refine zG_br hm rfl (cf' := (28, [some (zr 37 0), some (zi (M 38 0 5))], [], M)) (if_pos c31) ?_
      refine zG_sub (lv' := [some (zr 37 0), some (zi (M 38 0 5))]) (zsb_s rfl (zsb_s rfl zsb_0)) ?_
      exact g_X2_clause_j28 hd h
    · rw [if_neg c31] at h
      refine zG_br hm rfl (cf' := (20, [some (zr 37 0), some (zi (M 38 0 5))], [], M)) (if_neg c31) ?_
      refine zG_run hm 2 (cf' := (22, [some (zr 37 0), some (zi (M 38 0 5))], [zi 1, zr 37 0], M)) rfl ?_
      obtain ⟨p30, hp30, h⟩ := Option.bind_eq_some_iff.mp h
      refine zG_V hm zmok_23 rfl (as := [zi 1]) (rest := []) (st2 := []) (pc2 := 25) rfl rfl (by omega) (met_X2_fail (d := 0) (Nat.le_refl _) hp30) rfl ?_
      refine zG_run hm 1 (cf' := (179, [some (zr 37 0), some (zi (M 38 0 5))], [], p30)) rfl ?_
      cases h
      exact zG_rv hm rfl rfl
theorem met_X2_clause  {M : zM} {q : zM} {d : Nat} (hd : 303 ≤ d) (h : f_X2_clause  M = some q) : zMet 26 d [zr 37 0] M none q :=
  zMet_of (lv0 := [some (zr 37 0), none]) zmok_26 rfl rfl (fun v hv => by cases hv) (g_X2_clause hd h)
def f_X2_readInto_L36 (v2 : Int) (M : zM) : Option ((Int × zM) ⊕ (zM)) :=
  if 24 < zw v2 then
    some (.inr M)
  else
    if ¬ zw (M 37 0 4) = 0 then
      some (.inr M)
    else
      if zw (M 38 0 5) = 40 then
        some (.inr M)
      else
        (f_X2_clause  M).bind fun p7 =>
          some (.inl ((v2 + 1), p7))
theorem g_X2_readInto_L36 {v2 : Int} {M : zM} {x : (Int × zM) ⊕ (zM)} {r : Option zV} {Mf : zM} {d : Nat} (hd : 304 ≤ d) (h : f_X2_readInto_L36 v2 M = some x)
    (kc : ∀ s, x = .inl s → zG 22 d (36, [some (zr 37 0), none, some (zi s.1)], [], s.2) r Mf)
    (kb : ∀ t, x = .inr t → zG 22 d (71, [some (zr 37 0), none, none], [], t) r Mf) (kr : True) : zG 22 d (36, [some (zr 37 0), none, some (zi v2)], [], M) r Mf := by
  have hm := zmok_22
  unfold f_X2_readInto_L36 at h
  refine zG_run hm 2 (cf' := (39, [some (zr 37 0), none, some (zi v2)], [zi 24, zi v2], M)) rfl ?_
  by_cases c10 : 24 < zw v2
  · rw [if_pos c10] at h
    refine zG_br hm rfl (cf' := (71, [some (zr 37 0), none, some (zi v2)], [], M)) (if_pos c10) ?_
    refine zG_sub (lv' := [some (zr 37 0), none, none]) (zsb_s rfl (zsb_n (zsb_n zsb_0))) ?_
    exact kb M (Option.some.inj h).symm
  · rw [if_neg c10] at h
    refine zG_br hm rfl (cf' := (42, [some (zr 37 0), none, some (zi v2)], [], M)) (if_neg c10) ?_
    refine zG_run hm 2 (cf' := (46, [some (zr 37 0), none, some (zi v2)], [zi (M 37 0 4)], M)) rfl ?_
    by_cases c9 : ¬ zw (M 37 0 4) = 0
    · rw [if_pos c9] at h
      refine zG_br hm rfl (cf' := (71, [some (zr 37 0), none, some (zi v2)], [], M)) (if_pos c9) ?_
      refine zG_sub (lv' := [some (zr 37 0), none, none]) (zsb_s rfl (zsb_n (zsb_n zsb_0))) ?_
      exact kb M (Option.some.inj h).symm
    · rw [if_neg c9] at h
      refine zG_br hm rfl (cf' := (49, [some (zr 37 0), none, some (zi v2)], [], M)) (if_neg c9) ?_
      refine zG_run hm 4 (cf' := (58, [some (zr 37 0), none, some (zi v2)], [zi 40, zi (M 38 0 5)], M)) rfl ?_
      by_cases c8 : zw (M 38 0 5) = 40
      · rw [if_pos c8] at h
        refine zG_br hm rfl (cf' := (71, [some (zr 37 0), none, some (zi v2)], [], M)) (if_pos c8) ?_
        refine zG_sub (lv' := [some (zr 37 0), none, none]) (zsb_s rfl (zsb_n (zsb_n zsb_0))) ?_
        exact kb M (Option.some.inj h).symm
      · rw [if_neg c8] at h
        refine zG_br hm rfl (cf' := (61, [some (zr 37 0), none, some (zi v2)], [], M)) (if_neg c8) ?_
        refine zG_run hm 1 (cf' := (62, [some (zr 37 0), none, some (zi v2)], [zr 37 0], M)) rfl ?_
        obtain ⟨p7, hp7, h⟩ := Option.bind_eq_some_iff.mp h
        refine zG_V hm zmok_26 rfl (as := []) (rest := []) (st2 := []) (pc2 := 65) rfl rfl (by omega) (met_X2_clause (d := 303) (Nat.le_refl _) hp7) rfl ?_
        refine zG_run hm 2 (cf' := (36, [some (zr 37 0), none, some (zi (v2 + 1))], [], p7)) rfl ?_
        refine zG_sub (lv' := [some (zr 37 0), none, some (zi (v2 + 1))]) (zsb_s rfl (zsb_n (zsb_s rfl zsb_0))) ?_
        exact kc ((v2 + 1), p7) (Option.some.inj h).symm
theorem gl_X2_readInto_L36  {y : zM} {r : Option zV} {Mf : zM} {d : Nat} (hd : 304 ≤ d)
    (kb : ∀ t, y = t → zG 22 d (71, [some (zr 37 0), none, none], [], t) r Mf) (kr : True) : ∀ (n : Nat) (s : Int × zM), zlp (fun s : Int × zM => f_X2_readInto_L36  s.1 s.2) n s = some y → zG 22 d (36, [some (zr 37 0), none, some (zi s.1)], [], s.2) r Mf := by
  intro n
  induction n with
  | zero => intro s h; cases h
  | succ n ih =>
    intro s h
    rcases zlp_cases h with ⟨s', h1, h2⟩ | h1
    · exact g_X2_readInto_L36 hd h1 (fun s2 e2 => by cases e2; exact ih _ h2) (fun t e2 => by cases e2) trivial
    · exact g_X2_readInto_L36 hd h1 (fun s2 e2 => by cases e2) (fun t e2 => kb t (Sum.inr.inj e2)) trivial
def f_X2_readInto_j71  (M : zM) : Option (Int × zM) :=
  if ¬ zw (M 37 0 4) = 0 then
    some (0, M)
  else
    some (1, M)
theorem g_X2_readInto_j71  {M : zM} {q : Int × zM} {d : Nat} (hd : 304 ≤ d) (h : f_X2_readInto_j71  M = some q) : zG 22 d (71, [some (zr 37 0), none, none], [], M) (some (zi q.1)) q.2 := by
  have hm := zmok_22
  unfold f_X2_readInto_j71 at h
  refine zG_run hm 2 (cf' := (75, [some (zr 37 0), none, none], [zi (M 37 0 4)], M)) rfl ?_
  by_cases c12 : ¬ zw (M 37 0 4) = 0
  · rw [if_pos c12] at h
    refine zG_br hm rfl (cf' := (82, [some (zr 37 0), none, none], [], M)) (if_pos c12) ?_
    refine zG_run hm 1 (cf' := (83, [some (zr 37 0), none, none], [zi 0], M)) rfl ?_
    cases h
    exact zG_rz hm rfl rfl (Or.inl rfl)
  · rw [if_neg c12] at h
    refine zG_br hm rfl (cf' := (78, [some (zr 37 0), none, none], [], M)) (if_neg c12) ?_
    refine zG_run hm 2 (cf' := (83, [some (zr 37 0), none, none], [zi 1], M)) rfl ?_
    cases h
    exact zG_rz hm rfl rfl (Or.inr rfl)
def f_X2_readInto (n1 : Nat) (M : zM) : Option (Int × zM) :=
  zlet (zput M 37 0 3 1) fun M1 =>
  zlet (zput M1 37 0 4 0) fun M2 =>
  zlet (zput M2 37 0 5 (-1)) fun M3 =>
  zlet (zput M3 37 0 1 (n1 : Int)) fun M4 =>
  if 0 ≤ M4 37 0 1 ∧ M4 37 0 1 < 4 then
    (f_X7_empty ((M4 37 0 1).toNat) M4).bind fun p5 =>
      (f_X4_find  p5).bind fun p6 =>
        (zlp (fun s : Int × zM => f_X2_readInto_L36  s.1 s.2) zF (0, p6)).bind fun y11 =>
          f_X2_readInto_j71  y11
  else
    none
theorem g_X2_readInto {n1 : Nat} {M : zM} {q : Int × zM} {d : Nat} (hd : 304 ≤ d) (h : f_X2_readInto n1 M = some q) : zG 22 d (0, [some (zr 37 0), some (zr 2 n1), none], [], M) (some (zi q.1)) q.2 := by
  have hm := zmok_22
  unfold f_X2_readInto at h
  refine zG_run hm 3 (cf' := (5, [some (zr 37 0), some (zr 2 n1), none], [], (zput M 37 0 3 1))) rfl ?_
  obtain ⟨M1, eM1, h⟩ := zlet_of h
  rw [eM1]
  refine zG_run hm 3 (cf' := (10, [some (zr 37 0), some (zr 2 n1), none], [], (zput M1 37 0 4 0))) rfl ?_
  obtain ⟨M2, eM2, h⟩ := zlet_of h
  rw [eM2]
  refine zG_run hm 3 (cf' := (15, [some (zr 37 0), some (zr 2 n1), none], [], (zput M2 37 0 5 (-1)))) rfl ?_
  obtain ⟨M3, eM3, h⟩ := zlet_of h
  rw [eM3]
  refine zG_run hm 3 (cf' := (20, [some (zr 37 0), some (zr 2 n1), none], [], (zput M3 37 0 1 (n1 : Int)))) rfl ?_
  obtain ⟨M4, eM4, h⟩ := zlet_of h
  rw [eM4]
  refine zG_run hm 1 (cf' := (21, [some (zr 37 0), some (zr 2 n1), none], [zr 37 0], M4)) rfl ?_
  by_cases c13 : 0 ≤ M4 37 0 1 ∧ M4 37 0 1 < 4
  · rw [if_pos c13] at h
    refine zG_gi hm rfl (pc2 := 24) rfl c13 rfl ?_
    obtain ⟨p5, hp5, h⟩ := Option.bind_eq_some_iff.mp h
    refine zG_V hm zmok_55 rfl (as := []) (rest := []) (st2 := []) (pc2 := 27) rfl rfl (by omega) (met_X7_empty (d := 1) (Nat.le_refl _) hp5) rfl ?_
    refine zG_run hm 2 (cf' := (31, [some (zr 37 0), some (zr 2 n1), none], [zr 38 0], p5)) rfl ?_
    obtain ⟨p6, hp6, h⟩ := Option.bind_eq_some_iff.mp h
    refine zG_V hm zmok_40 rfl (as := []) (rest := []) (st2 := []) (pc2 := 34) rfl rfl (by omega) (met_X4_find (d := 7) (Nat.le_refl _) hp6) rfl ?_
    refine zG_run hm 2 (cf' := (36, [some (zr 37 0), some (zr 2 n1), some (zi 0)], [], p6)) rfl ?_
    refine zG_sub (lv' := [some (zr 37 0), none, some (zi 0)]) (zsb_s rfl (zsb_n (zsb_s rfl zsb_0))) ?_
    obtain ⟨y11, hy11, h⟩ := Option.bind_eq_some_iff.mp h
    refine gl_X2_readInto_L36 hd (fun t e2 => ?_) trivial zF (0, p6) hy11
    cases e2
    refine zG_sub (lv' := [some (zr 37 0), none, none]) (zsb_s rfl (zsb_n (zsb_n zsb_0))) ?_
    exact g_X2_readInto_j71 hd h
  · rw [if_neg c13] at h
    cases h
theorem met_X2_readInto {n1 : Nat} {M : zM} {q : Int × zM} {d : Nat} (hd : 304 ≤ d) (h : f_X2_readInto n1 M = some q) : zMet 22 d [zr 37 0, zr 2 n1] M (some (zi q.1)) q.2 :=
  zMet_of (lv0 := [some (zr 37 0), some (zr 2 n1), none]) zmok_22 rfl rfl (fun v hv => by cases hv; trivial) (g_X2_readInto hd h)
def f_X10_text  (M : zM) : Option (Int × zM) :=
  if zw (M 11 0 12) < 4 then
    if 0 ≤ zw (M 11 0 12) ∧ zw (M 11 0 12) < 4 then
      (f_X2_readInto (zix (M 11 0 12)) M).bind fun p1 =>
        zlet (zput p1.2 35 0 1 0) fun M2 =>
        if ¬ zw p1.1 = 0 then
          zlet (zput M2 11 0 12 ((M2 11 0 12) + 1)) fun M3 =>
          some (((M3 11 0 12) - 1), M3)
        else
          some ((-1), M2)
    else
      none
  else
    some ((-1), M)
theorem g_X10_text  {M : zM} {q : Int × zM} {d : Nat} (hd : 305 ≤ d) (h : f_X10_text  M = some q) : zG 77 d (0, [some (zr 0 0), none], [], M) (some (zi q.1)) q.2 := by
  have hm := zmok_77
  unfold f_X10_text at h
  refine zG_run hm 4 (cf' := (8, [some (zr 0 0), none], [zi 4, zi (M 11 0 12)], M)) rfl ?_
  by_cases c6 : zw (M 11 0 12) < 4
  · rw [if_pos c6] at h
    refine zG_br hm rfl (cf' := (13, [some (zr 0 0), none], [], M)) (if_pos c6) ?_
    refine zG_run hm 7 (cf' := (28, [some (zr 0 0), none], [zi (M 11 0 12), zr 1 0, zr 37 0], M)) rfl ?_
    by_cases c5 : 0 ≤ zw (M 11 0 12) ∧ zw (M 11 0 12) < 4
    · rw [if_pos c5] at h
      refine zG_br hm rfl (cf' := (29, [some (zr 0 0), none], [zr 2 (zix (M 11 0 12)), zr 37 0], M)) (if_pos c5) ?_
      obtain ⟨p1, hp1, h⟩ := Option.bind_eq_some_iff.mp h
      refine zG_V hm zmok_22 rfl (as := [zr 2 (zix (M 11 0 12))]) (rest := []) (st2 := [zi p1.1]) (pc2 := 32) rfl rfl (by omega) (met_X2_readInto (d := 304) (Nat.le_refl _) hp1) rfl ?_
      refine zG_run hm 5 (cf' := (41, [some (zr 0 0), some (zi p1.1)], [], (zput p1.2 35 0 1 0))) rfl ?_
      obtain ⟨M2, eM2, h⟩ := zlet_of h
      rw [eM2]
      refine zG_run hm 1 (cf' := (42, [some (zr 0 0), some (zi p1.1)], [zi p1.1], M2)) rfl ?_
      by_cases c4 : ¬ zw p1.1 = 0
      · rw [if_pos c4] at h
        refine zG_br hm rfl (cf' := (47, [some (zr 0 0), some (zi p1.1)], [], M2)) (if_pos c4) ?_
        refine zG_run hm 7 (cf' := (60, [some (zr 0 0), some (zi p1.1)], [], (zput M2 11 0 12 ((M2 11 0 12) + 1)))) rfl ?_
        obtain ⟨M3, eM3, h⟩ := zlet_of h
        rw [eM3]
        refine zG_run hm 5 (cf' := (69, [some (zr 0 0), some (zi p1.1)], [zi ((M3 11 0 12) - 1)], M3)) rfl ?_
        cases h
        exact zG_ri hm rfl rfl
      · rw [if_neg c4] at h
        refine zG_br hm rfl (cf' := (45, [some (zr 0 0), some (zi p1.1)], [], M2)) (if_neg c4) ?_
        refine zG_run hm 1 (cf' := (46, [some (zr 0 0), some (zi p1.1)], [zi (-1)], M2)) rfl ?_
        cases h
        exact zG_ri hm rfl rfl
    · rw [if_neg c5] at h
      cases h
  · rw [if_neg c6] at h
    refine zG_br hm rfl (cf' := (11, [some (zr 0 0), none], [], M)) (if_neg c6) ?_
    refine zG_run hm 1 (cf' := (12, [some (zr 0 0), none], [zi (-1)], M)) rfl ?_
    cases h
    exact zG_ri hm rfl rfl
theorem met_X10_text  {M : zM} {q : Int × zM} {d : Nat} (hd : 305 ≤ d) (h : f_X10_text  M = some q) : zMet 77 d [zr 0 0] M (some (zi q.1)) q.2 :=
  zMet_of (lv0 := [some (zr 0 0), none]) zmok_77 rfl rfl (fun v hv => by cases hv; trivial) (g_X10_text hd h)
def f_X11_isLetter (v0 : Int) (M : zM) : Option (Int × zM) :=
  (f_X11_in v0 97 122 M).bind fun p1 =>
    if ¬ zw p1.1 = 0 then
      some (1, p1.2)
    else
      (f_X11_in v0 65 90 p1.2).bind fun p2 =>
        if zw p2.1 = 0 then
          some (0, p2.2)
        else
          some (1, p2.2)
theorem g_X11_isLetter {v0 : Int} {M : zM} {q : Int × zM} {d : Nat} (hd : 1 ≤ d) (h : f_X11_isLetter v0 M = some q) : zG 133 d (0, [some (zi v0)], [], M) (some (zi q.1)) q.2 := by
  have hm := zmok_133
  unfold f_X11_isLetter at h
  refine zG_run hm 3 (cf' := (5, [some (zi v0)], [zi 122, zi 97, zi v0], M)) rfl ?_
  obtain ⟨p1, hp1, h⟩ := Option.bind_eq_some_iff.mp h
  refine zG_S hm zmok_117 rfl (as := [zi v0, zi 97, zi 122]) (rest := []) (st2 := [zi p1.1]) (pc2 := 8) rfl rfl (by omega) (met_X11_in (d := 0) (Nat.le_refl _) hp1) rfl ?_
  by_cases c4 : ¬ zw p1.1 = 0
  · rw [if_pos c4] at h
    refine zG_br hm rfl (cf' := (22, [some (zi v0)], [], p1.2)) (if_pos c4) ?_
    refine zG_run hm 2 (cf' := (27, [some (zi v0)], [zi 1], p1.2)) rfl ?_
    cases h
    exact zG_rz hm rfl rfl (Or.inr rfl)
  · rw [if_neg c4] at h
    refine zG_br hm rfl (cf' := (11, [some (zi v0)], [], p1.2)) (if_neg c4) ?_
    refine zG_run hm 3 (cf' := (16, [some (zi v0)], [zi 90, zi 65, zi v0], p1.2)) rfl ?_
    obtain ⟨p2, hp2, h⟩ := Option.bind_eq_some_iff.mp h
    refine zG_S hm zmok_117 rfl (as := [zi v0, zi 65, zi 90]) (rest := []) (st2 := [zi p2.1]) (pc2 := 19) rfl rfl (by omega) (met_X11_in (d := 0) (Nat.le_refl _) hp2) rfl ?_
    by_cases c3 : zw p2.1 = 0
    · rw [if_pos c3] at h
      refine zG_br hm rfl (cf' := (26, [some (zi v0)], [], p2.2)) (if_pos c3) ?_
      refine zG_run hm 1 (cf' := (27, [some (zi v0)], [zi 0], p2.2)) rfl ?_
      cases h
      exact zG_rz hm rfl rfl (Or.inl rfl)
    · rw [if_neg c3] at h
      refine zG_br hm rfl (cf' := (22, [some (zi v0)], [], p2.2)) (if_neg c3) ?_
      refine zG_run hm 2 (cf' := (27, [some (zi v0)], [zi 1], p2.2)) rfl ?_
      cases h
      exact zG_rz hm rfl rfl (Or.inr rfl)
theorem met_X11_isLetter {v0 : Int} {M : zM} {q : Int × zM} {d : Nat} (hd : 1 ≤ d) (h : f_X11_isLetter v0 M = some q) : zMet 133 d [zi v0] M (some (zi q.1)) q.2 :=
  zMet_of (lv0 := [some (zi v0)]) zmok_133 rfl rfl (fun v hv => by cases hv; trivial) (g_X11_isLetter hd h)
def f_X11_wordOf (v0 : Int) (M : zM) : Option (Int × zM) :=
  if ¬ zw (zlcmp (zwl v0) (613817523)) = 0 then
    if ¬ zw (zlcmp (zwl v0) (563825010)) = 0 then
      if ¬ zw (zlcmp (zwl v0) (3375)) = 0 then
        if ¬ zw (zlcmp (zwl v0) (37357021683)) = 0 then
          if ¬ zw (zlcmp (zwl v0) (803137906)) = 0 then
            if ¬ zw (zlcmp (zwl v0) (883071911)) = 0 then
              if ¬ zw (zlcmp (zwl v0) (13302765)) = 0 then
                if ¬ zw (zlcmp (zwl v0) (869423212)) = 0 then
                  if ¬ zw (zlcmp (zwl v0) (13523876)) = 0 then
                    if ¬ zw (zlcmp (zwl v0) (10395045)) = 0 then
                      if ¬ zw (zlcmp (zwl v0) (149625)) = 0 then
                        if ¬ zw (zlcmp (zwl v0) (3046)) = 0 then
                          if ¬ zw (zlcmp (zwl v0) (9132843)) = 0 then
                            if ¬ zw (zlcmp (zwl v0) (11688372)) = 0 then
                              if ¬ zw (zlcmp (zwl v0) (2662)) = 0 then
                                if ¬ zw (zlcmp (zwl v0) (13797742)) = 0 then
                                  if ¬ zw (zlcmp (zwl v0) (9882853)) = 0 then
                                    if ¬ zw (zlcmp (zwl v0) (154532)) = 0 then
                                      if ¬ zw (zlcmp (zwl v0) (3058)) = 0 then
                                        if ¬ zw (zlcmp (zwl v0) (138148)) = 0 then
                                          if ¬ zw (zlcmp (zwl v0) (191476)) = 0 then
                                            if ¬ zw (zlcmp (zwl v0) (11426868)) = 0 then
                                              if ¬ zw (zlcmp (zwl v0) (9590898)) = 0 then
                                                if ¬ zw (zlcmp (zwl v0) (10169325)) = 0 then
                                                  if ¬ zw (zlcmp (zwl v0) (815196389)) = 0 then
                                                    some ((-1), M)
                                                  else
                                                    some (24, M)
                                                else
                                                  some (23, M)
                                              else
                                                some (22, M)
                                            else
                                              some (21, M)
                                          else
                                            some (20, M)
                                        else
                                          some (19, M)
                                      else
                                        some (18, M)
                                    else
                                      some (17, M)
                                  else
                                    some (16, M)
                                else
                                  some (15, M)
                              else
                                some (14, M)
                            else
                              some (13, M)
                          else
                            some (12, M)
                        else
                          some (11, M)
                      else
                        some (10, M)
                    else
                      some (9, M)
                  else
                    some (8, M)
                else
                  some (7, M)
              else
                some (6, M)
            else
              some (5, M)
          else
            some (4, M)
        else
          some (3, M)
      else
        some (2, M)
    else
      some (1, M)
  else
    some (0, M)
theorem g_X11_wordOf {v0 : Int} {M : zM} {q : Int × zM} {d : Nat} (hd : 0 ≤ d) (h : f_X11_wordOf v0 M = some q) : zG 134 d (0, [some (zl v0), none], [], M) (some (zi q.1)) q.2 := by
  have hm := zmok_134
  unfold f_X11_wordOf at h
  refine zG_run hm 3 (cf' := (5, [some (zl v0), none], [zi (zlcmp (zwl v0) (613817523))], M)) rfl ?_
  by_cases c25 : ¬ zw (zlcmp (zwl v0) (613817523)) = 0
  · rw [if_pos c25] at h
    refine zG_br hm rfl (cf' := (12, [some (zl v0), none], [], M)) (if_pos c25) ?_
    refine zG_run hm 3 (cf' := (17, [some (zl v0), none], [zi (zlcmp (zwl v0) (563825010))], M)) rfl ?_
    by_cases c24 : ¬ zw (zlcmp (zwl v0) (563825010)) = 0
    · rw [if_pos c24] at h
      refine zG_br hm rfl (cf' := (24, [some (zl v0), none], [], M)) (if_pos c24) ?_
      refine zG_run hm 3 (cf' := (29, [some (zl v0), none], [zi (zlcmp (zwl v0) (3375))], M)) rfl ?_
      by_cases c23 : ¬ zw (zlcmp (zwl v0) (3375)) = 0
      · rw [if_pos c23] at h
        refine zG_br hm rfl (cf' := (36, [some (zl v0), none], [], M)) (if_pos c23) ?_
        refine zG_run hm 3 (cf' := (41, [some (zl v0), none], [zi (zlcmp (zwl v0) (37357021683))], M)) rfl ?_
        by_cases c22 : ¬ zw (zlcmp (zwl v0) (37357021683)) = 0
        · rw [if_pos c22] at h
          refine zG_br hm rfl (cf' := (48, [some (zl v0), none], [], M)) (if_pos c22) ?_
          refine zG_run hm 3 (cf' := (53, [some (zl v0), none], [zi (zlcmp (zwl v0) (803137906))], M)) rfl ?_
          by_cases c21 : ¬ zw (zlcmp (zwl v0) (803137906)) = 0
          · rw [if_pos c21] at h
            refine zG_br hm rfl (cf' := (60, [some (zl v0), none], [], M)) (if_pos c21) ?_
            refine zG_run hm 3 (cf' := (65, [some (zl v0), none], [zi (zlcmp (zwl v0) (883071911))], M)) rfl ?_
            by_cases c20 : ¬ zw (zlcmp (zwl v0) (883071911)) = 0
            · rw [if_pos c20] at h
              refine zG_br hm rfl (cf' := (72, [some (zl v0), none], [], M)) (if_pos c20) ?_
              refine zG_run hm 3 (cf' := (77, [some (zl v0), none], [zi (zlcmp (zwl v0) (13302765))], M)) rfl ?_
              by_cases c19 : ¬ zw (zlcmp (zwl v0) (13302765)) = 0
              · rw [if_pos c19] at h
                refine zG_br hm rfl (cf' := (85, [some (zl v0), none], [], M)) (if_pos c19) ?_
                refine zG_run hm 3 (cf' := (90, [some (zl v0), none], [zi (zlcmp (zwl v0) (869423212))], M)) rfl ?_
                by_cases c18 : ¬ zw (zlcmp (zwl v0) (869423212)) = 0
                · rw [if_pos c18] at h
                  refine zG_br hm rfl (cf' := (98, [some (zl v0), none], [], M)) (if_pos c18) ?_
                  refine zG_run hm 3 (cf' := (103, [some (zl v0), none], [zi (zlcmp (zwl v0) (13523876))], M)) rfl ?_
                  by_cases c17 : ¬ zw (zlcmp (zwl v0) (13523876)) = 0
                  · rw [if_pos c17] at h
                    refine zG_br hm rfl (cf' := (111, [some (zl v0), none], [], M)) (if_pos c17) ?_
                    refine zG_run hm 3 (cf' := (116, [some (zl v0), none], [zi (zlcmp (zwl v0) (10395045))], M)) rfl ?_
                    by_cases c16 : ¬ zw (zlcmp (zwl v0) (10395045)) = 0
                    · rw [if_pos c16] at h
                      refine zG_br hm rfl (cf' := (124, [some (zl v0), none], [], M)) (if_pos c16) ?_
                      refine zG_run hm 3 (cf' := (129, [some (zl v0), none], [zi (zlcmp (zwl v0) (149625))], M)) rfl ?_
                      by_cases c15 : ¬ zw (zlcmp (zwl v0) (149625)) = 0
                      · rw [if_pos c15] at h
                        refine zG_br hm rfl (cf' := (137, [some (zl v0), none], [], M)) (if_pos c15) ?_
                        refine zG_run hm 3 (cf' := (142, [some (zl v0), none], [zi (zlcmp (zwl v0) (3046))], M)) rfl ?_
                        by_cases c14 : ¬ zw (zlcmp (zwl v0) (3046)) = 0
                        · rw [if_pos c14] at h
                          refine zG_br hm rfl (cf' := (150, [some (zl v0), none], [], M)) (if_pos c14) ?_
                          refine zG_run hm 3 (cf' := (155, [some (zl v0), none], [zi (zlcmp (zwl v0) (9132843))], M)) rfl ?_
                          by_cases c13 : ¬ zw (zlcmp (zwl v0) (9132843)) = 0
                          · rw [if_pos c13] at h
                            refine zG_br hm rfl (cf' := (163, [some (zl v0), none], [], M)) (if_pos c13) ?_
                            refine zG_run hm 3 (cf' := (168, [some (zl v0), none], [zi (zlcmp (zwl v0) (11688372))], M)) rfl ?_
                            by_cases c12 : ¬ zw (zlcmp (zwl v0) (11688372)) = 0
                            · rw [if_pos c12] at h
                              refine zG_br hm rfl (cf' := (176, [some (zl v0), none], [], M)) (if_pos c12) ?_
                              refine zG_run hm 3 (cf' := (181, [some (zl v0), none], [zi (zlcmp (zwl v0) (2662))], M)) rfl ?_
                              by_cases c11 : ¬ zw (zlcmp (zwl v0) (2662)) = 0
                              · rw [if_pos c11] at h
                                refine zG_br hm rfl (cf' := (189, [some (zl v0), none], [], M)) (if_pos c11) ?_
                                refine zG_run hm 3 (cf' := (194, [some (zl v0), none], [zi (zlcmp (zwl v0) (13797742))], M)) rfl ?_
                                by_cases c10 : ¬ zw (zlcmp (zwl v0) (13797742)) = 0
                                · rw [if_pos c10] at h
                                  refine zG_br hm rfl (cf' := (202, [some (zl v0), none], [], M)) (if_pos c10) ?_
                                  refine zG_run hm 3 (cf' := (207, [some (zl v0), none], [zi (zlcmp (zwl v0) (9882853))], M)) rfl ?_
                                  by_cases c9 : ¬ zw (zlcmp (zwl v0) (9882853)) = 0
                                  · rw [if_pos c9] at h
                                    refine zG_br hm rfl (cf' := (215, [some (zl v0), none], [], M)) (if_pos c9) ?_
                                    refine zG_run hm 3 (cf' := (220, [some (zl v0), none], [zi (zlcmp (zwl v0) (154532))], M)) rfl ?_
                                    by_cases c8 : ¬ zw (zlcmp (zwl v0) (154532)) = 0
                                    · rw [if_pos c8] at h
                                      refine zG_br hm rfl (cf' := (228, [some (zl v0), none], [], M)) (if_pos c8) ?_
                                      refine zG_run hm 3 (cf' := (233, [some (zl v0), none], [zi (zlcmp (zwl v0) (3058))], M)) rfl ?_
                                      by_cases c7 : ¬ zw (zlcmp (zwl v0) (3058)) = 0
                                      · rw [if_pos c7] at h
                                        refine zG_br hm rfl (cf' := (241, [some (zl v0), none], [], M)) (if_pos c7) ?_
                                        refine zG_run hm 3 (cf' := (246, [some (zl v0), none], [zi (zlcmp (zwl v0) (138148))], M)) rfl ?_
                                        by_cases c6 : ¬ zw (zlcmp (zwl v0) (138148)) = 0
                                        · rw [if_pos c6] at h
                                          refine zG_br hm rfl (cf' := (254, [some (zl v0), none], [], M)) (if_pos c6) ?_
                                          refine zG_run hm 3 (cf' := (259, [some (zl v0), none], [zi (zlcmp (zwl v0) (191476))], M)) rfl ?_
                                          by_cases c5 : ¬ zw (zlcmp (zwl v0) (191476)) = 0
                                          · rw [if_pos c5] at h
                                            refine zG_br hm rfl (cf' := (267, [some (zl v0), none], [], M)) (if_pos c5) ?_
                                            refine zG_run hm 3 (cf' := (272, [some (zl v0), none], [zi (zlcmp (zwl v0) (11426868))], M)) rfl ?_
                                            by_cases c4 : ¬ zw (zlcmp (zwl v0) (11426868)) = 0
                                            · rw [if_pos c4] at h
                                              refine zG_br hm rfl (cf' := (280, [some (zl v0), none], [], M)) (if_pos c4) ?_
                                              refine zG_run hm 3 (cf' := (285, [some (zl v0), none], [zi (zlcmp (zwl v0) (9590898))], M)) rfl ?_
                                              by_cases c3 : ¬ zw (zlcmp (zwl v0) (9590898)) = 0
                                              · rw [if_pos c3] at h
                                                refine zG_br hm rfl (cf' := (293, [some (zl v0), none], [], M)) (if_pos c3) ?_
                                                refine zG_run hm 3 (cf' := (298, [some (zl v0), none], [zi (zlcmp (zwl v0) (10169325))], M)) rfl ?_
                                                by_cases c2 : ¬ zw (zlcmp (zwl v0) (10169325)) = 0
                                                · rw [if_pos c2] at h
                                                  refine zG_br hm rfl (cf' := (306, [some (zl v0), none], [], M)) (if_pos c2) ?_
                                                  refine zG_run hm 3 (cf' := (311, [some (zl v0), none], [zi (zlcmp (zwl v0) (815196389))], M)) rfl ?_
                                                  by_cases c1 : ¬ zw (zlcmp (zwl v0) (815196389)) = 0
                                                  · rw [if_pos c1] at h
                                                    refine zG_br hm rfl (cf' := (319, [some (zl v0), none], [], M)) (if_pos c1) ?_
                                                    refine zG_run hm 1 (cf' := (320, [some (zl v0), none], [zi (-1)], M)) rfl ?_
                                                    cases h
                                                    exact zG_ri hm rfl rfl
                                                  · rw [if_neg c1] at h
                                                    refine zG_br hm rfl (cf' := (314, [some (zl v0), none], [], M)) (if_neg c1) ?_
                                                    refine zG_run hm 2 (cf' := (320, [some (zl v0), none], [zi 24], M)) rfl ?_
                                                    cases h
                                                    exact zG_ri hm rfl rfl
                                                · rw [if_neg c2] at h
                                                  refine zG_br hm rfl (cf' := (301, [some (zl v0), none], [], M)) (if_neg c2) ?_
                                                  refine zG_run hm 2 (cf' := (320, [some (zl v0), none], [zi 23], M)) rfl ?_
                                                  cases h
                                                  exact zG_ri hm rfl rfl
                                              · rw [if_neg c3] at h
                                                refine zG_br hm rfl (cf' := (288, [some (zl v0), none], [], M)) (if_neg c3) ?_
                                                refine zG_run hm 2 (cf' := (320, [some (zl v0), none], [zi 22], M)) rfl ?_
                                                cases h
                                                exact zG_ri hm rfl rfl
                                            · rw [if_neg c4] at h
                                              refine zG_br hm rfl (cf' := (275, [some (zl v0), none], [], M)) (if_neg c4) ?_
                                              refine zG_run hm 2 (cf' := (320, [some (zl v0), none], [zi 21], M)) rfl ?_
                                              cases h
                                              exact zG_ri hm rfl rfl
                                          · rw [if_neg c5] at h
                                            refine zG_br hm rfl (cf' := (262, [some (zl v0), none], [], M)) (if_neg c5) ?_
                                            refine zG_run hm 2 (cf' := (320, [some (zl v0), none], [zi 20], M)) rfl ?_
                                            cases h
                                            exact zG_ri hm rfl rfl
                                        · rw [if_neg c6] at h
                                          refine zG_br hm rfl (cf' := (249, [some (zl v0), none], [], M)) (if_neg c6) ?_
                                          refine zG_run hm 2 (cf' := (320, [some (zl v0), none], [zi 19], M)) rfl ?_
                                          cases h
                                          exact zG_ri hm rfl rfl
                                      · rw [if_neg c7] at h
                                        refine zG_br hm rfl (cf' := (236, [some (zl v0), none], [], M)) (if_neg c7) ?_
                                        refine zG_run hm 2 (cf' := (320, [some (zl v0), none], [zi 18], M)) rfl ?_
                                        cases h
                                        exact zG_ri hm rfl rfl
                                    · rw [if_neg c8] at h
                                      refine zG_br hm rfl (cf' := (223, [some (zl v0), none], [], M)) (if_neg c8) ?_
                                      refine zG_run hm 2 (cf' := (320, [some (zl v0), none], [zi 17], M)) rfl ?_
                                      cases h
                                      exact zG_ri hm rfl rfl
                                  · rw [if_neg c9] at h
                                    refine zG_br hm rfl (cf' := (210, [some (zl v0), none], [], M)) (if_neg c9) ?_
                                    refine zG_run hm 2 (cf' := (320, [some (zl v0), none], [zi 16], M)) rfl ?_
                                    cases h
                                    exact zG_ri hm rfl rfl
                                · rw [if_neg c10] at h
                                  refine zG_br hm rfl (cf' := (197, [some (zl v0), none], [], M)) (if_neg c10) ?_
                                  refine zG_run hm 2 (cf' := (320, [some (zl v0), none], [zi 15], M)) rfl ?_
                                  cases h
                                  exact zG_ri hm rfl rfl
                              · rw [if_neg c11] at h
                                refine zG_br hm rfl (cf' := (184, [some (zl v0), none], [], M)) (if_neg c11) ?_
                                refine zG_run hm 2 (cf' := (320, [some (zl v0), none], [zi 14], M)) rfl ?_
                                cases h
                                exact zG_ri hm rfl rfl
                            · rw [if_neg c12] at h
                              refine zG_br hm rfl (cf' := (171, [some (zl v0), none], [], M)) (if_neg c12) ?_
                              refine zG_run hm 2 (cf' := (320, [some (zl v0), none], [zi 13], M)) rfl ?_
                              cases h
                              exact zG_ri hm rfl rfl
                          · rw [if_neg c13] at h
                            refine zG_br hm rfl (cf' := (158, [some (zl v0), none], [], M)) (if_neg c13) ?_
                            refine zG_run hm 2 (cf' := (320, [some (zl v0), none], [zi 12], M)) rfl ?_
                            cases h
                            exact zG_ri hm rfl rfl
                        · rw [if_neg c14] at h
                          refine zG_br hm rfl (cf' := (145, [some (zl v0), none], [], M)) (if_neg c14) ?_
                          refine zG_run hm 2 (cf' := (320, [some (zl v0), none], [zi 11], M)) rfl ?_
                          cases h
                          exact zG_ri hm rfl rfl
                      · rw [if_neg c15] at h
                        refine zG_br hm rfl (cf' := (132, [some (zl v0), none], [], M)) (if_neg c15) ?_
                        refine zG_run hm 2 (cf' := (320, [some (zl v0), none], [zi 10], M)) rfl ?_
                        cases h
                        exact zG_ri hm rfl rfl
                    · rw [if_neg c16] at h
                      refine zG_br hm rfl (cf' := (119, [some (zl v0), none], [], M)) (if_neg c16) ?_
                      refine zG_run hm 2 (cf' := (320, [some (zl v0), none], [zi 9], M)) rfl ?_
                      cases h
                      exact zG_ri hm rfl rfl
                  · rw [if_neg c17] at h
                    refine zG_br hm rfl (cf' := (106, [some (zl v0), none], [], M)) (if_neg c17) ?_
                    refine zG_run hm 2 (cf' := (320, [some (zl v0), none], [zi 8], M)) rfl ?_
                    cases h
                    exact zG_ri hm rfl rfl
                · rw [if_neg c18] at h
                  refine zG_br hm rfl (cf' := (93, [some (zl v0), none], [], M)) (if_neg c18) ?_
                  refine zG_run hm 2 (cf' := (320, [some (zl v0), none], [zi 7], M)) rfl ?_
                  cases h
                  exact zG_ri hm rfl rfl
              · rw [if_neg c19] at h
                refine zG_br hm rfl (cf' := (80, [some (zl v0), none], [], M)) (if_neg c19) ?_
                refine zG_run hm 2 (cf' := (320, [some (zl v0), none], [zi 6], M)) rfl ?_
                cases h
                exact zG_ri hm rfl rfl
            · rw [if_neg c20] at h
              refine zG_br hm rfl (cf' := (68, [some (zl v0), none], [], M)) (if_neg c20) ?_
              refine zG_run hm 2 (cf' := (320, [some (zl v0), none], [zi 5], M)) rfl ?_
              cases h
              exact zG_ri hm rfl rfl
          · rw [if_neg c21] at h
            refine zG_br hm rfl (cf' := (56, [some (zl v0), none], [], M)) (if_neg c21) ?_
            refine zG_run hm 2 (cf' := (320, [some (zl v0), none], [zi 4], M)) rfl ?_
            cases h
            exact zG_ri hm rfl rfl
        · rw [if_neg c22] at h
          refine zG_br hm rfl (cf' := (44, [some (zl v0), none], [], M)) (if_neg c22) ?_
          refine zG_run hm 2 (cf' := (320, [some (zl v0), none], [zi 3], M)) rfl ?_
          cases h
          exact zG_ri hm rfl rfl
      · rw [if_neg c23] at h
        refine zG_br hm rfl (cf' := (32, [some (zl v0), none], [], M)) (if_neg c23) ?_
        refine zG_run hm 2 (cf' := (320, [some (zl v0), none], [zi 2], M)) rfl ?_
        cases h
        exact zG_ri hm rfl rfl
    · rw [if_neg c24] at h
      refine zG_br hm rfl (cf' := (20, [some (zl v0), none], [], M)) (if_neg c24) ?_
      refine zG_run hm 2 (cf' := (320, [some (zl v0), none], [zi 1], M)) rfl ?_
      cases h
      exact zG_ri hm rfl rfl
  · rw [if_neg c25] at h
    refine zG_br hm rfl (cf' := (8, [some (zl v0), none], [], M)) (if_neg c25) ?_
    refine zG_run hm 2 (cf' := (320, [some (zl v0), none], [zi 0], M)) rfl ?_
    cases h
    exact zG_ri hm rfl rfl
theorem met_X11_wordOf {v0 : Int} {M : zM} {q : Int × zM} {d : Nat} (hd : 0 ≤ d) (h : f_X11_wordOf v0 M = some q) : zMet 134 d [zl v0] M (some (zi q.1)) q.2 :=
  zMet_of (lv0 := [some (zl v0), none]) zmok_134 rfl rfl (fun v hv => by cases hv; trivial) (g_X11_wordOf hd h)
