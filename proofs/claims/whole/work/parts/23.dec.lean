/-! methods, decompiled: 3 -/
def f_X11_next_j39  (M : zM) : Option ((zM) ⊕ (zM)) :=
  zlet (zput M 42 0 15 ((M 42 0 15) + 1)) fun M1 =>
  some (.inl M1)
theorem g_X11_next_j39  {M : zM} {x : (zM) ⊕ (zM)} {r : Option zV} {Mf : zM} {d : Nat} (hd : 2 ≤ d) (h : f_X11_next_j39  M = some x)
    (kc : ∀ s, x = .inl s → zG 135 d (0, [some (zr 42 0), none, none, none, none], [], s) r Mf)
    (kb : ∀ t, x = .inr t → zG 135 d (52, [some (zr 42 0), none, none, none, none], [], t) r Mf) (kr : True) : zG 135 d (39, [some (zr 42 0), none, none, none, none], [], M) r Mf := by
  have hm := zmok_135
  unfold f_X11_next_j39 at h
  refine zG_run hm 6 (cf' := (49, [some (zr 42 0), none, none, none, none], [], (zput M 42 0 15 ((M 42 0 15) + 1)))) rfl ?_
  obtain ⟨M1, eM1, h⟩ := zlet_of h
  rw [eM1]
  refine zG_run hm 1 (cf' := (0, [some (zr 42 0), none, none, none, none], [], M1)) rfl ?_
  refine zG_sub (lv' := [some (zr 42 0), none, none, none, none]) (zsb_s rfl (zsb_n (zsb_n (zsb_n (zsb_n zsb_0))))) ?_
  exact kc M1 (Option.some.inj h).symm
def f_X11_next_L0  (M : zM) : Option ((zM) ⊕ (zM)) :=
  if zw (M 42 0 14) ≤ zw (M 42 0 15) then
    some (.inr M)
  else
    if 0 ≤ zw (M 42 0 15) ∧ zw (M 42 0 15) < 300 then
      if zw (Int.bmod (M 45 0 (zix (M 42 0 15))) 256) = 32 then
        f_X11_next_j39  M
      else
        if 0 ≤ zw (M 42 0 15) ∧ zw (M 42 0 15) < 300 then
          if ¬ zw (Int.bmod (M 45 0 (zix (M 42 0 15))) 256) = 10 then
            some (.inr M)
          else
            f_X11_next_j39  M
        else
          none
    else
      none
theorem g_X11_next_L0  {M : zM} {x : (zM) ⊕ (zM)} {r : Option zV} {Mf : zM} {d : Nat} (hd : 2 ≤ d) (h : f_X11_next_L0  M = some x)
    (kc : ∀ s, x = .inl s → zG 135 d (0, [some (zr 42 0), none, none, none, none], [], s) r Mf)
    (kb : ∀ t, x = .inr t → zG 135 d (52, [some (zr 42 0), none, none, none, none], [], t) r Mf) (kr : True) : zG 135 d (0, [some (zr 42 0), none, none, none, none], [], M) r Mf := by
  have hm := zmok_135
  unfold f_X11_next_L0 at h
  refine zG_run hm 4 (cf' := (8, [some (zr 42 0), none, none, none, none], [zi (M 42 0 14), zi (M 42 0 15)], M)) rfl ?_
  by_cases c6 : zw (M 42 0 14) ≤ zw (M 42 0 15)
  · rw [if_pos c6] at h
    refine zG_br hm rfl (cf' := (52, [some (zr 42 0), none, none, none, none], [], M)) (if_pos c6) ?_
    refine zG_sub (lv' := [some (zr 42 0), none, none, none, none]) (zsb_s rfl (zsb_n (zsb_n (zsb_n (zsb_n zsb_0))))) ?_
    exact kb M (Option.some.inj h).symm
  · rw [if_neg c6] at h
    refine zG_br hm rfl (cf' := (11, [some (zr 42 0), none, none, none, none], [], M)) (if_neg c6) ?_
    refine zG_run hm 4 (cf' := (19, [some (zr 42 0), none, none, none, none], [zi (M 42 0 15), zr 45 0], M)) rfl ?_
    by_cases c5 : 0 ≤ zw (M 42 0 15) ∧ zw (M 42 0 15) < 300
    · rw [if_pos c5] at h
      refine zG_br hm rfl (cf' := (20, [some (zr 42 0), none, none, none, none], [zi (Int.bmod (M 45 0 (zix (M 42 0 15))) 256)], M)) (if_pos c5) ?_
      refine zG_run hm 1 (cf' := (22, [some (zr 42 0), none, none, none, none], [zi 32, zi (Int.bmod (M 45 0 (zix (M 42 0 15))) 256)], M)) rfl ?_
      by_cases c4 : zw (Int.bmod (M 45 0 (zix (M 42 0 15))) 256) = 32
      · rw [if_pos c4] at h
        refine zG_br hm rfl (cf' := (39, [some (zr 42 0), none, none, none, none], [], M)) (if_pos c4) ?_
        refine zG_sub (lv' := [some (zr 42 0), none, none, none, none]) (zsb_s rfl (zsb_n (zsb_n (zsb_n (zsb_n zsb_0))))) ?_
        exact g_X11_next_j39 hd h kc kb kr
      · rw [if_neg c4] at h
        refine zG_br hm rfl (cf' := (25, [some (zr 42 0), none, none, none, none], [], M)) (if_neg c4) ?_
        refine zG_run hm 4 (cf' := (33, [some (zr 42 0), none, none, none, none], [zi (M 42 0 15), zr 45 0], M)) rfl ?_
        by_cases c3 : 0 ≤ zw (M 42 0 15) ∧ zw (M 42 0 15) < 300
        · rw [if_pos c3] at h
          refine zG_br hm rfl (cf' := (34, [some (zr 42 0), none, none, none, none], [zi (Int.bmod (M 45 0 (zix (M 42 0 15))) 256)], M)) (if_pos c3) ?_
          refine zG_run hm 1 (cf' := (36, [some (zr 42 0), none, none, none, none], [zi 10, zi (Int.bmod (M 45 0 (zix (M 42 0 15))) 256)], M)) rfl ?_
          by_cases c2 : ¬ zw (Int.bmod (M 45 0 (zix (M 42 0 15))) 256) = 10
          · rw [if_pos c2] at h
            refine zG_br hm rfl (cf' := (52, [some (zr 42 0), none, none, none, none], [], M)) (if_pos c2) ?_
            refine zG_sub (lv' := [some (zr 42 0), none, none, none, none]) (zsb_s rfl (zsb_n (zsb_n (zsb_n (zsb_n zsb_0))))) ?_
            exact kb M (Option.some.inj h).symm
          · rw [if_neg c2] at h
            refine zG_br hm rfl (cf' := (39, [some (zr 42 0), none, none, none, none], [], M)) (if_neg c2) ?_
            refine zG_sub (lv' := [some (zr 42 0), none, none, none, none]) (zsb_s rfl (zsb_n (zsb_n (zsb_n (zsb_n zsb_0))))) ?_
            exact g_X11_next_j39 hd h kc kb kr
        · rw [if_neg c3] at h
          cases h
    · rw [if_neg c5] at h
      cases h
theorem gl_X11_next_L0  {y : zM} {r : Option zV} {Mf : zM} {d : Nat} (hd : 2 ≤ d)
    (kb : ∀ t, y = t → zG 135 d (52, [some (zr 42 0), none, none, none, none], [], t) r Mf) (kr : True) : ∀ (n : Nat) (s : zM), zlp (fun s : zM => f_X11_next_L0   s) n s = some y → zG 135 d (0, [some (zr 42 0), none, none, none, none], [], s) r Mf := by
  intro n
  induction n with
  | zero => intro s h; cases h
  | succ n ih =>
    intro s h
    rcases zlp_cases h with ⟨s', h1, h2⟩ | h1
    · exact g_X11_next_L0 hd h1 (fun s2 e2 => by cases e2; exact ih _ h2) (fun t e2 => by cases e2) trivial
    · exact g_X11_next_L0 hd h1 (fun s2 e2 => by cases e2) (fun t e2 => kb t (Sum.inr.inj e2)) trivial
def f_X11_next_j426 (vs0 : Int) (M : zM) : Option (zM) :=
  zlet (zput M 42 0 18 vs0) fun M15 =>
  zlet (zput M15 42 0 15 ((M15 42 0 15) + 1)) fun M16 =>
  some M16
theorem g_X11_next_j426 {vs0 : Int} {M : zM} {q : zM} {d : Nat} (hd : 2 ≤ d) (h : f_X11_next_j426 vs0 M = some q) : zG 135 d (426, [some (zr 42 0), none, none, none, none], [zi vs0, zr 42 0], M) none q := by
  have hm := zmok_135
  unfold f_X11_next_j426 at h
  refine zG_run hm 1 (cf' := (429, [some (zr 42 0), none, none, none, none], [], (zput M 42 0 18 vs0))) rfl ?_
  obtain ⟨M15, eM15, h⟩ := zlet_of h
  rw [eM15]
  refine zG_run hm 6 (cf' := (439, [some (zr 42 0), none, none, none, none], [], (zput M15 42 0 15 ((M15 42 0 15) + 1)))) rfl ?_
  obtain ⟨M16, eM16, h⟩ := zlet_of h
  rw [eM16]
  cases h
  exact zG_rv hm rfl rfl
def f_X11_next_j385 (v1 : Int) (M : zM) : Option (zM) :=
  if zw (M 42 0 14) ≤ zw (M 42 0 15) then
    some M
  else
    if 0 ≤ zw (M 42 0 15) ∧ zw (M 42 0 15) < 300 then
      if ¬ zw (Int.bmod (M 45 0 (zix (M 42 0 15))) 256) = 61 then
        some M
      else
        if ¬ zw v1 = 60 then
          f_X11_next_j426 301 M
        else
          f_X11_next_j426 300 M
    else
      none
theorem g_X11_next_j385 {v1 : Int} {M : zM} {q : zM} {d : Nat} (hd : 2 ≤ d) (h : f_X11_next_j385 v1 M = some q) : zG 135 d (385, [some (zr 42 0), some (zi v1), none, none, none], [], M) none q := by
  have hm := zmok_135
  unfold f_X11_next_j385 at h
  refine zG_run hm 4 (cf' := (393, [some (zr 42 0), some (zi v1), none, none, none], [zi (M 42 0 14), zi (M 42 0 15)], M)) rfl ?_
  by_cases c20 : zw (M 42 0 14) ≤ zw (M 42 0 15)
  · rw [if_pos c20] at h
    refine zG_br hm rfl (cf' := (439, [some (zr 42 0), some (zi v1), none, none, none], [], M)) (if_pos c20) ?_
    cases h
    exact zG_rv hm rfl rfl
  · rw [if_neg c20] at h
    refine zG_br hm rfl (cf' := (396, [some (zr 42 0), some (zi v1), none, none, none], [], M)) (if_neg c20) ?_
    refine zG_run hm 4 (cf' := (404, [some (zr 42 0), some (zi v1), none, none, none], [zi (M 42 0 15), zr 45 0], M)) rfl ?_
    by_cases c19 : 0 ≤ zw (M 42 0 15) ∧ zw (M 42 0 15) < 300
    · rw [if_pos c19] at h
      refine zG_br hm rfl (cf' := (405, [some (zr 42 0), some (zi v1), none, none, none], [zi (Int.bmod (M 45 0 (zix (M 42 0 15))) 256)], M)) (if_pos c19) ?_
      refine zG_run hm 1 (cf' := (407, [some (zr 42 0), some (zi v1), none, none, none], [zi 61, zi (Int.bmod (M 45 0 (zix (M 42 0 15))) 256)], M)) rfl ?_
      by_cases c18 : ¬ zw (Int.bmod (M 45 0 (zix (M 42 0 15))) 256) = 61
      · rw [if_pos c18] at h
        refine zG_br hm rfl (cf' := (439, [some (zr 42 0), some (zi v1), none, none, none], [], M)) (if_pos c18) ?_
        cases h
        exact zG_rv hm rfl rfl
      · rw [if_neg c18] at h
        refine zG_br hm rfl (cf' := (410, [some (zr 42 0), some (zi v1), none, none, none], [], M)) (if_neg c18) ?_
        refine zG_run hm 3 (cf' := (414, [some (zr 42 0), some (zi v1), none, none, none], [zi 60, zi v1, zr 42 0], M)) rfl ?_
        by_cases c17 : ¬ zw v1 = 60
        · rw [if_pos c17] at h
          refine zG_br hm rfl (cf' := (423, [some (zr 42 0), some (zi v1), none, none, none], [zr 42 0], M)) (if_pos c17) ?_
          refine zG_run hm 1 (cf' := (426, [some (zr 42 0), some (zi v1), none, none, none], [zi 301, zr 42 0], M)) rfl ?_
          refine zG_sub (lv' := [some (zr 42 0), none, none, none, none]) (zsb_s rfl (zsb_n (zsb_n (zsb_n (zsb_n zsb_0))))) ?_
          exact g_X11_next_j426 hd h
        · rw [if_neg c17] at h
          refine zG_br hm rfl (cf' := (417, [some (zr 42 0), some (zi v1), none, none, none], [zr 42 0], M)) (if_neg c17) ?_
          refine zG_run hm 2 (cf' := (426, [some (zr 42 0), some (zi v1), none, none, none], [zi 300, zr 42 0], M)) rfl ?_
          refine zG_sub (lv' := [some (zr 42 0), none, none, none, none]) (zsb_s rfl (zsb_n (zsb_n (zsb_n (zsb_n zsb_0))))) ?_
          exact g_X11_next_j426 hd h
    · rw [if_neg c19] at h
      cases h
def f_X11_next_j370 (v1 : Int) (vs0 : Int) (M : zM) : Option (zM) :=
  zlet (zput M 42 0 17 vs0) fun M14 =>
  if zw v1 = 60 then
    f_X11_next_j385 v1 M14
  else
    if ¬ zw v1 = 62 then
      some M14
    else
      f_X11_next_j385 v1 M14
theorem g_X11_next_j370 {v1 : Int} {vs0 : Int} {M : zM} {q : zM} {d : Nat} (hd : 2 ≤ d) (h : f_X11_next_j370 v1 vs0 M = some q) : zG 135 d (370, [some (zr 42 0), some (zi v1), none, none, none], [zi vs0, zr 42 0], M) none q := by
  have hm := zmok_135
  unfold f_X11_next_j370 at h
  refine zG_run hm 1 (cf' := (373, [some (zr 42 0), some (zi v1), none, none, none], [], (zput M 42 0 17 vs0))) rfl ?_
  obtain ⟨M14, eM14, h⟩ := zlet_of h
  rw [eM14]
  refine zG_run hm 2 (cf' := (376, [some (zr 42 0), some (zi v1), none, none, none], [zi 60, zi v1], M14)) rfl ?_
  by_cases c22 : zw v1 = 60
  · rw [if_pos c22] at h
    refine zG_br hm rfl (cf' := (385, [some (zr 42 0), some (zi v1), none, none, none], [], M14)) (if_pos c22) ?_
    refine zG_sub (lv' := [some (zr 42 0), some (zi v1), none, none, none]) (zsb_s rfl (zsb_s rfl (zsb_n (zsb_n (zsb_n zsb_0))))) ?_
    exact g_X11_next_j385 hd h
  · rw [if_neg c22] at h
    refine zG_br hm rfl (cf' := (379, [some (zr 42 0), some (zi v1), none, none, none], [], M14)) (if_neg c22) ?_
    refine zG_run hm 2 (cf' := (382, [some (zr 42 0), some (zi v1), none, none, none], [zi 62, zi v1], M14)) rfl ?_
    by_cases c21 : ¬ zw v1 = 62
    · rw [if_pos c21] at h
      refine zG_br hm rfl (cf' := (439, [some (zr 42 0), some (zi v1), none, none, none], [], M14)) (if_pos c21) ?_
      cases h
      exact zG_rv hm rfl rfl
    · rw [if_neg c21] at h
      refine zG_br hm rfl (cf' := (385, [some (zr 42 0), some (zi v1), none, none, none], [], M14)) (if_neg c21) ?_
      refine zG_sub (lv' := [some (zr 42 0), some (zi v1), none, none, none]) (zsb_s rfl (zsb_s rfl (zsb_n (zsb_n (zsb_n zsb_0))))) ?_
      exact g_X11_next_j385 hd h
def f_X11_next_j365 (v1 : Int) (M : zM) : Option (zM) :=
  f_X11_next_j370 v1 3 M
theorem g_X11_next_j365 {v1 : Int} {M : zM} {q : zM} {d : Nat} (hd : 2 ≤ d) (h : f_X11_next_j365 v1 M = some q) : zG 135 d (365, [some (zr 42 0), some (zi v1), none, none, none], [zr 42 0], M) none q := by
  have hm := zmok_135
  unfold f_X11_next_j365 at h
  refine zG_run hm 2 (cf' := (370, [some (zr 42 0), some (zi v1), none, none, none], [zi 3, zr 42 0], M)) rfl ?_
  refine zG_sub (lv' := [some (zr 42 0), some (zi v1), none, none, none]) (zsb_s rfl (zsb_s rfl (zsb_n (zsb_n (zsb_n zsb_0))))) ?_
  exact g_X11_next_j370 hd h
def f_X11_next_j299 (vs0 : Int) (M : zM) : Option ((zM) ⊕ (zM)) :=
  zlet (zput M 42 0 18 vs0) fun M31 =>
  zlet (zput M31 42 0 15 ((M31 42 0 15) + 1)) fun M32 =>
  some (.inl M32)
theorem g_X11_next_j299 {vs0 : Int} {M : zM} {x : (zM) ⊕ (zM)} {r : Option zV} {Mf : zM} {d : Nat} (hd : 2 ≤ d) (h : f_X11_next_j299 vs0 M = some x)
    (kc : ∀ s, x = .inl s → zG 135 d (232, [some (zr 42 0), none, none, none, none], [], s) r Mf)
    (kb : ∀ t, x = .inr t → zG 135 d (439, [none, none, none, none, none], [], t) r Mf) (kr : True) : zG 135 d (299, [some (zr 42 0), none, none, none, none], [zi vs0, zr 42 0], M) r Mf := by
  have hm := zmok_135
  unfold f_X11_next_j299 at h
  refine zG_run hm 1 (cf' := (302, [some (zr 42 0), none, none, none, none], [], (zput M 42 0 18 vs0))) rfl ?_
  obtain ⟨M31, eM31, h⟩ := zlet_of h
  rw [eM31]
  refine zG_run hm 6 (cf' := (312, [some (zr 42 0), none, none, none, none], [], (zput M31 42 0 15 ((M31 42 0 15) + 1)))) rfl ?_
  obtain ⟨M32, eM32, h⟩ := zlet_of h
  rw [eM32]
  refine zG_run hm 1 (cf' := (232, [some (zr 42 0), none, none, none, none], [], M32)) rfl ?_
  refine zG_sub (lv' := [some (zr 42 0), none, none, none, none]) (zsb_s rfl (zsb_n (zsb_n (zsb_n (zsb_n zsb_0))))) ?_
  exact kc M32 (Option.some.inj h).symm
def f_X11_next_L232  (M : zM) : Option ((zM) ⊕ (zM)) :=
  if zw (M 42 0 14) ≤ zw (M 42 0 15) then
    some (.inr M)
  else
    if 0 ≤ zw (M 42 0 15) ∧ zw (M 42 0 15) < 300 then
      (f_X11_in (Int.bmod (M 45 0 (zix (M 42 0 15))) 256) 48 57 M).bind fun p30 =>
        if zw p30.1 = 0 then
          some (.inr p30.2)
        else
          if zw (p30.2 42 0 18) ≤ 99999 then
            if 0 ≤ zw (p30.2 42 0 15) ∧ zw (p30.2 42 0 15) < 300 then
              f_X11_next_j299 (((10 * (p30.2 42 0 18)) + (Int.bmod (p30.2 45 0 (zix (p30.2 42 0 15))) 256)) - 48) p30.2
            else
              none
          else
            f_X11_next_j299 (p30.2 42 0 18) p30.2
    else
      none
theorem g_X11_next_L232  {M : zM} {x : (zM) ⊕ (zM)} {r : Option zV} {Mf : zM} {d : Nat} (hd : 2 ≤ d) (h : f_X11_next_L232  M = some x)
    (kc : ∀ s, x = .inl s → zG 135 d (232, [some (zr 42 0), none, none, none, none], [], s) r Mf)
    (kb : ∀ t, x = .inr t → zG 135 d (439, [none, none, none, none, none], [], t) r Mf) (kr : True) : zG 135 d (232, [some (zr 42 0), none, none, none, none], [], M) r Mf := by
  have hm := zmok_135
  unfold f_X11_next_L232 at h
  refine zG_run hm 4 (cf' := (240, [some (zr 42 0), none, none, none, none], [zi (M 42 0 14), zi (M 42 0 15)], M)) rfl ?_
  by_cases c37 : zw (M 42 0 14) ≤ zw (M 42 0 15)
  · rw [if_pos c37] at h
    refine zG_br hm rfl (cf' := (439, [some (zr 42 0), none, none, none, none], [], M)) (if_pos c37) ?_
    refine zG_sub (lv' := [none, none, none, none, none]) (zsb_n (zsb_n (zsb_n (zsb_n (zsb_n zsb_0))))) ?_
    exact kb M (Option.some.inj h).symm
  · rw [if_neg c37] at h
    refine zG_br hm rfl (cf' := (243, [some (zr 42 0), none, none, none, none], [], M)) (if_neg c37) ?_
    refine zG_run hm 4 (cf' := (251, [some (zr 42 0), none, none, none, none], [zi (M 42 0 15), zr 45 0], M)) rfl ?_
    by_cases c36 : 0 ≤ zw (M 42 0 15) ∧ zw (M 42 0 15) < 300
    · rw [if_pos c36] at h
      refine zG_br hm rfl (cf' := (252, [some (zr 42 0), none, none, none, none], [zi (Int.bmod (M 45 0 (zix (M 42 0 15))) 256)], M)) (if_pos c36) ?_
      refine zG_run hm 2 (cf' := (256, [some (zr 42 0), none, none, none, none], [zi 57, zi 48, zi (Int.bmod (M 45 0 (zix (M 42 0 15))) 256)], M)) rfl ?_
      obtain ⟨p30, hp30, h⟩ := Option.bind_eq_some_iff.mp h
      refine zG_S hm zmok_117 rfl (as := [zi (Int.bmod (M 45 0 (zix (M 42 0 15))) 256), zi 48, zi 57]) (rest := []) (st2 := [zi p30.1]) (pc2 := 259) rfl rfl (by omega) (met_X11_in (d := 0) (Nat.le_refl _) hp30) rfl ?_
      by_cases c35 : zw p30.1 = 0
      · rw [if_pos c35] at h
        refine zG_br hm rfl (cf' := (439, [some (zr 42 0), none, none, none, none], [], p30.2)) (if_pos c35) ?_
        refine zG_sub (lv' := [none, none, none, none, none]) (zsb_n (zsb_n (zsb_n (zsb_n (zsb_n zsb_0))))) ?_
        exact kb p30.2 (Option.some.inj h).symm
      · rw [if_neg c35] at h
        refine zG_br hm rfl (cf' := (262, [some (zr 42 0), none, none, none, none], [], p30.2)) (if_neg c35) ?_
        refine zG_run hm 4 (cf' := (269, [some (zr 42 0), none, none, none, none], [zi 99999, zi (p30.2 42 0 18), zr 42 0], p30.2)) rfl ?_
        by_cases c34 : zw (p30.2 42 0 18) ≤ 99999
        · rw [if_pos c34] at h
          refine zG_br hm rfl (cf' := (279, [some (zr 42 0), none, none, none, none], [zr 42 0], p30.2)) (if_pos c34) ?_
          refine zG_run hm 8 (cf' := (294, [some (zr 42 0), none, none, none, none], [zi (p30.2 42 0 15), zr 45 0, zi (10 * (p30.2 42 0 18)), zr 42 0], p30.2)) rfl ?_
          by_cases c33 : 0 ≤ zw (p30.2 42 0 15) ∧ zw (p30.2 42 0 15) < 300
          · rw [if_pos c33] at h
            refine zG_br hm rfl (cf' := (295, [some (zr 42 0), none, none, none, none], [zi (Int.bmod (p30.2 45 0 (zix (p30.2 42 0 15))) 256), zi (10 * (p30.2 42 0 18)), zr 42 0], p30.2)) (if_pos c33) ?_
            refine zG_run hm 3 (cf' := (299, [some (zr 42 0), none, none, none, none], [zi (((10 * (p30.2 42 0 18)) + (Int.bmod (p30.2 45 0 (zix (p30.2 42 0 15))) 256)) - 48), zr 42 0], p30.2)) rfl ?_
            refine zG_sub (lv' := [some (zr 42 0), none, none, none, none]) (zsb_s rfl (zsb_n (zsb_n (zsb_n (zsb_n zsb_0))))) ?_
            exact g_X11_next_j299 hd h kc kb kr
          · rw [if_neg c33] at h
            cases h
        · rw [if_neg c34] at h
          refine zG_br hm rfl (cf' := (272, [some (zr 42 0), none, none, none, none], [zr 42 0], p30.2)) (if_neg c34) ?_
          refine zG_run hm 3 (cf' := (299, [some (zr 42 0), none, none, none, none], [zi (p30.2 42 0 18), zr 42 0], p30.2)) rfl ?_
          refine zG_sub (lv' := [some (zr 42 0), none, none, none, none]) (zsb_s rfl (zsb_n (zsb_n (zsb_n (zsb_n zsb_0))))) ?_
          exact g_X11_next_j299 hd h kc kb kr
    · rw [if_neg c36] at h
      cases h
theorem gl_X11_next_L232  {y : zM} {r : Option zV} {Mf : zM} {d : Nat} (hd : 2 ≤ d)
    (kb : ∀ t, y = t → zG 135 d (439, [none, none, none, none, none], [], t) r Mf) (kr : True) : ∀ (n : Nat) (s : zM), zlp (fun s : zM => f_X11_next_L232   s) n s = some y → zG 135 d (232, [some (zr 42 0), none, none, none, none], [], s) r Mf := by
  intro n
  induction n with
  | zero => intro s h; cases h
  | succ n ih =>
    intro s h
    rcases zlp_cases h with ⟨s', h1, h2⟩ | h1
    · exact g_X11_next_L232 hd h1 (fun s2 e2 => by cases e2; exact ih _ h2) (fun t e2 => by cases e2) trivial
    · exact g_X11_next_L232 hd h1 (fun s2 e2 => by cases e2) (fun t e2 => kb t (Sum.inr.inj e2)) trivial
def f_X11_next_j156 (v4 : Int) (vs0 : Int) (M : zM) : Option ((Int × Int × zM) ⊕ (Int × Int × zM)) :=
  zlet (zput M 42 0 15 ((M 42 0 15) + 1)) fun M41 =>
  some (.inl (vs0, (v4 + 1), M41))
theorem g_X11_next_j156 {v4 : Int} {vs0 : Int} {M : zM} {x : (Int × Int × zM) ⊕ (Int × Int × zM)} {r : Option zV} {Mf : zM} {d : Nat} (hd : 2 ≤ d) (h : f_X11_next_j156 v4 vs0 M = some x)
    (kc : ∀ s, x = .inl s → zG 135 d (99, [some (zr 42 0), none, some (zl s.1), none, some (zi s.2.1)], [], s.2.2) r Mf)
    (kb : ∀ t, x = .inr t → zG 135 d (173, [some (zr 42 0), none, some (zl t.1), none, some (zi t.2.1)], [], t.2.2) r Mf) (kr : True) : zG 135 d (156, [some (zr 42 0), none, none, none, some (zi v4)], [zl vs0], M) r Mf := by
  have hm := zmok_135
  unfold f_X11_next_j156 at h
  refine zG_run hm 8 (cf' := (170, [some (zr 42 0), none, some (zl vs0), none, some (zi (v4 + 1))], [], (zput M 42 0 15 ((M 42 0 15) + 1)))) rfl ?_
  obtain ⟨M41, eM41, h⟩ := zlet_of h
  rw [eM41]
  refine zG_run hm 1 (cf' := (99, [some (zr 42 0), none, some (zl vs0), none, some (zi (v4 + 1))], [], M41)) rfl ?_
  refine zG_sub (lv' := [some (zr 42 0), none, some (zl vs0), none, some (zi (v4 + 1))]) (zsb_s rfl (zsb_n (zsb_s rfl (zsb_n (zsb_s rfl zsb_0))))) ?_
  exact kc (vs0, (v4 + 1), M41) (Option.some.inj h).symm
def f_X11_next_L99 (v2 : Int) (v4 : Int) (M : zM) : Option ((Int × Int × zM) ⊕ (Int × Int × zM)) :=
  if zw (M 42 0 14) ≤ zw (M 42 0 15) then
    some (.inr (v2, v4, M))
  else
    if 0 ≤ zw (M 42 0 15) ∧ zw (M 42 0 15) < 300 then
      (f_X11_isLetter (Int.bmod (M 45 0 (zix (M 42 0 15))) 256) M).bind fun p40 =>
        if zw p40.1 = 0 then
          some (.inr (v2, v4, p40.2))
        else
          if 8 ≤ zw v4 then
            f_X11_next_j156 v4 v2 p40.2
          else
            if 0 ≤ zw (p40.2 42 0 15) ∧ zw (p40.2 42 0 15) < 300 then
              f_X11_next_j156 v4 (((64 * v2) + (zw (Int.bmod (p40.2 45 0 (zix (p40.2 42 0 15))) 256))) - 64) p40.2
            else
              none
    else
      none
theorem g_X11_next_L99 {v2 : Int} {v4 : Int} {M : zM} {x : (Int × Int × zM) ⊕ (Int × Int × zM)} {r : Option zV} {Mf : zM} {d : Nat} (hd : 2 ≤ d) (h : f_X11_next_L99 v2 v4 M = some x)
    (kc : ∀ s, x = .inl s → zG 135 d (99, [some (zr 42 0), none, some (zl s.1), none, some (zi s.2.1)], [], s.2.2) r Mf)
    (kb : ∀ t, x = .inr t → zG 135 d (173, [some (zr 42 0), none, some (zl t.1), none, some (zi t.2.1)], [], t.2.2) r Mf) (kr : True) : zG 135 d (99, [some (zr 42 0), none, some (zl v2), none, some (zi v4)], [], M) r Mf := by
  have hm := zmok_135
  unfold f_X11_next_L99 at h
  refine zG_run hm 4 (cf' := (107, [some (zr 42 0), none, some (zl v2), none, some (zi v4)], [zi (M 42 0 14), zi (M 42 0 15)], M)) rfl ?_
  by_cases c46 : zw (M 42 0 14) ≤ zw (M 42 0 15)
  · rw [if_pos c46] at h
    refine zG_br hm rfl (cf' := (173, [some (zr 42 0), none, some (zl v2), none, some (zi v4)], [], M)) (if_pos c46) ?_
    refine zG_sub (lv' := [some (zr 42 0), none, some (zl v2), none, some (zi v4)]) (zsb_s rfl (zsb_n (zsb_s rfl (zsb_n (zsb_s rfl zsb_0))))) ?_
    exact kb (v2, v4, M) (Option.some.inj h).symm
  · rw [if_neg c46] at h
    refine zG_br hm rfl (cf' := (110, [some (zr 42 0), none, some (zl v2), none, some (zi v4)], [], M)) (if_neg c46) ?_
    refine zG_run hm 4 (cf' := (118, [some (zr 42 0), none, some (zl v2), none, some (zi v4)], [zi (M 42 0 15), zr 45 0], M)) rfl ?_
    by_cases c45 : 0 ≤ zw (M 42 0 15) ∧ zw (M 42 0 15) < 300
    · rw [if_pos c45] at h
      refine zG_br hm rfl (cf' := (119, [some (zr 42 0), none, some (zl v2), none, some (zi v4)], [zi (Int.bmod (M 45 0 (zix (M 42 0 15))) 256)], M)) (if_pos c45) ?_
      obtain ⟨p40, hp40, h⟩ := Option.bind_eq_some_iff.mp h
      refine zG_S hm zmok_133 rfl (as := [zi (Int.bmod (M 45 0 (zix (M 42 0 15))) 256)]) (rest := []) (st2 := [zi p40.1]) (pc2 := 122) rfl rfl (by omega) (met_X11_isLetter (d := 1) (Nat.le_refl _) hp40) rfl ?_
      by_cases c44 : zw p40.1 = 0
      · rw [if_pos c44] at h
        refine zG_br hm rfl (cf' := (173, [some (zr 42 0), none, some (zl v2), none, some (zi v4)], [], p40.2)) (if_pos c44) ?_
        refine zG_sub (lv' := [some (zr 42 0), none, some (zl v2), none, some (zi v4)]) (zsb_s rfl (zsb_n (zsb_s rfl (zsb_n (zsb_s rfl zsb_0))))) ?_
        exact kb (v2, v4, p40.2) (Option.some.inj h).symm
      · rw [if_neg c44] at h
        refine zG_br hm rfl (cf' := (125, [some (zr 42 0), none, some (zl v2), none, some (zi v4)], [], p40.2)) (if_neg c44) ?_
        refine zG_run hm 2 (cf' := (129, [some (zr 42 0), none, some (zl v2), none, some (zi v4)], [zi 8, zi v4], p40.2)) rfl ?_
        by_cases c43 : 8 ≤ zw v4
        · rw [if_pos c43] at h
          refine zG_br hm rfl (cf' := (155, [some (zr 42 0), none, some (zl v2), none, some (zi v4)], [], p40.2)) (if_pos c43) ?_
          refine zG_run hm 1 (cf' := (156, [some (zr 42 0), none, some (zl v2), none, some (zi v4)], [zl v2], p40.2)) rfl ?_
          refine zG_sub (lv' := [some (zr 42 0), none, none, none, some (zi v4)]) (zsb_s rfl (zsb_n (zsb_n (zsb_n (zsb_s rfl zsb_0))))) ?_
          exact g_X11_next_j156 hd h kc kb kr
        · rw [if_neg c43] at h
          refine zG_br hm rfl (cf' := (132, [some (zr 42 0), none, some (zl v2), none, some (zi v4)], [], p40.2)) (if_neg c43) ?_
          refine zG_run hm 7 (cf' := (145, [some (zr 42 0), none, some (zl v2), none, some (zi v4)], [zi (p40.2 42 0 15), zr 45 0, zl (64 * v2)], p40.2)) rfl ?_
          by_cases c42 : 0 ≤ zw (p40.2 42 0 15) ∧ zw (p40.2 42 0 15) < 300
          · rw [if_pos c42] at h
            refine zG_br hm rfl (cf' := (146, [some (zr 42 0), none, some (zl v2), none, some (zi v4)], [zi (Int.bmod (p40.2 45 0 (zix (p40.2 42 0 15))) 256), zl (64 * v2)], p40.2)) (if_pos c42) ?_
            refine zG_run hm 5 (cf' := (156, [some (zr 42 0), none, some (zl v2), none, some (zi v4)], [zl (((64 * v2) + (zw (Int.bmod (p40.2 45 0 (zix (p40.2 42 0 15))) 256))) - 64)], p40.2)) rfl ?_
            refine zG_sub (lv' := [some (zr 42 0), none, none, none, some (zi v4)]) (zsb_s rfl (zsb_n (zsb_n (zsb_n (zsb_s rfl zsb_0))))) ?_
            exact g_X11_next_j156 hd h kc kb kr
          · rw [if_neg c42] at h
            cases h
    · rw [if_neg c45] at h
      cases h
theorem gl_X11_next_L99  {y : Int × Int × zM} {r : Option zV} {Mf : zM} {d : Nat} (hd : 2 ≤ d)
    (kb : ∀ t, y = t → zG 135 d (173, [some (zr 42 0), none, some (zl t.1), none, some (zi t.2.1)], [], t.2.2) r Mf) (kr : True) : ∀ (n : Nat) (s : Int × Int × zM), zlp (fun s : Int × Int × zM => f_X11_next_L99  s.1 s.2.1 s.2.2) n s = some y → zG 135 d (99, [some (zr 42 0), none, some (zl s.1), none, some (zi s.2.1)], [], s.2.2) r Mf := by
  intro n
  induction n with
  | zero => intro s h; cases h
  | succ n ih =>
    intro s h
    rcases zlp_cases h with ⟨s', h1, h2⟩ | h1
    · exact g_X11_next_L99 hd h1 (fun s2 e2 => by cases e2; exact ih _ h2) (fun t e2 => by cases e2) trivial
    · exact g_X11_next_L99 hd h1 (fun s2 e2 => by cases e2) (fun t e2 => kb t (Sum.inr.inj e2)) trivial
def f_X11_next_j205 (vs0 : Int) (M : zM) : Option (zM) :=
  zlet (zput M 42 0 17 vs0) fun M50 =>
  some M50
theorem g_X11_next_j205 {vs0 : Int} {M : zM} {q : zM} {d : Nat} (hd : 2 ≤ d) (h : f_X11_next_j205 vs0 M = some q) : zG 135 d (205, [none, none, none, none, none], [zi vs0, zr 42 0], M) none q := by
  have hm := zmok_135
  unfold f_X11_next_j205 at h
  refine zG_run hm 1 (cf' := (208, [none, none, none, none, none], [], (zput M 42 0 17 vs0))) rfl ?_
  obtain ⟨M50, eM50, h⟩ := zlet_of h
  rw [eM50]
  refine zG_run hm 1 (cf' := (439, [none, none, none, none, none], [], M50)) rfl ?_
  cases h
  exact zG_rv hm rfl rfl
def f_X11_next_j189 (vs0 : Int) (M : zM) : Option (zM) :=
  zlet (zput M 42 0 18 vs0) fun M49 =>
  if 0 ≤ zw (M49 42 0 18) then
    f_X11_next_j205 1 M49
  else
    f_X11_next_j205 4 M49
theorem g_X11_next_j189 {vs0 : Int} {M : zM} {q : zM} {d : Nat} (hd : 2 ≤ d) (h : f_X11_next_j189 vs0 M = some q) : zG 135 d (189, [some (zr 42 0), none, none, none, none], [zi vs0, zr 42 0], M) none q := by
  have hm := zmok_135
  unfold f_X11_next_j189 at h
  refine zG_run hm 1 (cf' := (192, [some (zr 42 0), none, none, none, none], [], (zput M 42 0 18 vs0))) rfl ?_
  obtain ⟨M49, eM49, h⟩ := zlet_of h
  rw [eM49]
  refine zG_run hm 3 (cf' := (197, [some (zr 42 0), none, none, none, none], [zi (M49 42 0 18), zr 42 0], M49)) rfl ?_
  by_cases c51 : 0 ≤ zw (M49 42 0 18)
  · rw [if_pos c51] at h
    refine zG_br hm rfl (cf' := (204, [some (zr 42 0), none, none, none, none], [zr 42 0], M49)) (if_pos c51) ?_
    refine zG_run hm 1 (cf' := (205, [some (zr 42 0), none, none, none, none], [zi 1, zr 42 0], M49)) rfl ?_
    refine zG_sub (lv' := [none, none, none, none, none]) (zsb_n (zsb_n (zsb_n (zsb_n (zsb_n zsb_0))))) ?_
    exact g_X11_next_j205 hd h
  · rw [if_neg c51] at h
    refine zG_br hm rfl (cf' := (200, [some (zr 42 0), none, none, none, none], [zr 42 0], M49)) (if_neg c51) ?_
    refine zG_run hm 2 (cf' := (205, [some (zr 42 0), none, none, none, none], [zi 4, zr 42 0], M49)) rfl ?_
    refine zG_sub (lv' := [none, none, none, none, none]) (zsb_n (zsb_n (zsb_n (zsb_n (zsb_n zsb_0))))) ?_
    exact g_X11_next_j205 hd h
def f_X11_next_j173 (v2 : Int) (v4 : Int) (M : zM) : Option (zM) :=
  if zw v4 ≤ 7 then
    (f_X11_wordOf v2 M).bind fun p48 =>
      f_X11_next_j189 p48.1 p48.2
  else
    f_X11_next_j189 (-1) M
theorem g_X11_next_j173 {v2 : Int} {v4 : Int} {M : zM} {q : zM} {d : Nat} (hd : 2 ≤ d) (h : f_X11_next_j173 v2 v4 M = some q) : zG 135 d (173, [some (zr 42 0), none, some (zl v2), none, some (zi v4)], [], M) none q := by
  have hm := zmok_135
  unfold f_X11_next_j173 at h
  refine zG_run hm 3 (cf' := (178, [some (zr 42 0), none, some (zl v2), none, some (zi v4)], [zi 7, zi v4, zr 42 0], M)) rfl ?_
  by_cases c52 : zw v4 ≤ 7
  · rw [if_pos c52] at h
    refine zG_br hm rfl (cf' := (185, [some (zr 42 0), none, some (zl v2), none, some (zi v4)], [zr 42 0], M)) (if_pos c52) ?_
    refine zG_run hm 1 (cf' := (186, [some (zr 42 0), none, some (zl v2), none, some (zi v4)], [zl v2, zr 42 0], M)) rfl ?_
    obtain ⟨p48, hp48, h⟩ := Option.bind_eq_some_iff.mp h
    refine zG_S hm zmok_134 rfl (as := [zl v2]) (rest := [zr 42 0]) (st2 := [zi p48.1, zr 42 0]) (pc2 := 189) rfl rfl (by omega) (met_X11_wordOf (d := 0) (Nat.le_refl _) hp48) rfl ?_
    refine zG_sub (lv' := [some (zr 42 0), none, none, none, none]) (zsb_s rfl (zsb_n (zsb_n (zsb_n (zsb_n zsb_0))))) ?_
    exact g_X11_next_j189 hd h
  · rw [if_neg c52] at h
    refine zG_br hm rfl (cf' := (181, [some (zr 42 0), none, some (zl v2), none, some (zi v4)], [zr 42 0], M)) (if_neg c52) ?_
    refine zG_run hm 2 (cf' := (189, [some (zr 42 0), none, some (zl v2), none, some (zi v4)], [zi (-1), zr 42 0], M)) rfl ?_
    refine zG_sub (lv' := [some (zr 42 0), none, none, none, none]) (zsb_s rfl (zsb_n (zsb_n (zsb_n (zsb_n zsb_0))))) ?_
    exact g_X11_next_j189 hd h
def f_X11_next_j52  (M : zM) : Option (zM) :=
  zlet (zput M 42 0 16 (M 42 0 15)) fun M8 =>
  if ¬ zw (M8 42 0 15) = zw (M8 42 0 14) then
    if 0 ≤ zw (M8 42 0 15) ∧ zw (M8 42 0 15) < 300 then
      (f_X11_isLetter (Int.bmod (M8 45 0 (zix (M8 42 0 15))) 256) M8).bind fun p9 =>
        if zw p9.1 = 0 then
          (f_X11_in (Int.bmod (M8 45 0 (zix (M8 42 0 15))) 256) 48 57 p9.2).bind fun p10 =>
            if zw p10.1 = 0 then
              zlet (zput p10.2 42 0 15 ((p10.2 42 0 15) + 1)) fun M11 =>
              zlet (zput M11 42 0 18 (Int.bmod (M8 45 0 (zix (M8 42 0 15))) 256)) fun M12 =>
              (f_X11_in (Int.bmod (M8 45 0 (zix (M8 42 0 15))) 256) 59 62 M12).bind fun p13 =>
                if ¬ zw p13.1 = 0 then
                  f_X11_next_j365 (Int.bmod (M8 45 0 (zix (M8 42 0 15))) 256) p13.2
                else
                  (f_X11_in (Int.bmod (M8 45 0 (zix (M8 42 0 15))) 256) 40 45 p13.2).bind fun p23 =>
                    if ¬ zw p23.1 = 0 then
                      f_X11_next_j365 (Int.bmod (M8 45 0 (zix (M8 42 0 15))) 256) p23.2
                    else
                      if zw (Int.bmod (M8 45 0 (zix (M8 42 0 15))) 256) = 47 then
                        f_X11_next_j365 (Int.bmod (M8 45 0 (zix (M8 42 0 15))) 256) p23.2
                      else
                        if ¬ zw (Int.bmod (M8 45 0 (zix (M8 42 0 15))) 256) = 35 then
                          f_X11_next_j370 (Int.bmod (M8 45 0 (zix (M8 42 0 15))) 256) 4 p23.2
                        else
                          f_X11_next_j365 (Int.bmod (M8 45 0 (zix (M8 42 0 15))) 256) p23.2
            else
              zlet (zput p10.2 42 0 17 2) fun M28 =>
              zlet (zput M28 42 0 18 0) fun M29 =>
              (zlp (fun s : zM => f_X11_next_L232   s) zF M29).bind fun y38 =>
                some y38
        else
          (zlp (fun s : Int × Int × zM => f_X11_next_L99  s.1 s.2.1 s.2.2) zF (0, 0, p9.2)).bind fun y47 =>
            f_X11_next_j173 y47.1 y47.2.1 y47.2.2
    else
      none
  else
    zlet (zput M8 42 0 17 0) fun M55 =>
    some M55
theorem g_X11_next_j52  {M : zM} {q : zM} {d : Nat} (hd : 2 ≤ d) (h : f_X11_next_j52  M = some q) : zG 135 d (52, [some (zr 42 0), none, none, none, none], [], M) none q := by
  have hm := zmok_135
  unfold f_X11_next_j52 at h
  refine zG_run hm 4 (cf' := (60, [some (zr 42 0), none, none, none, none], [], (zput M 42 0 16 (M 42 0 15)))) rfl ?_
  obtain ⟨M8, eM8, h⟩ := zlet_of h
  rw [eM8]
  refine zG_run hm 4 (cf' := (68, [some (zr 42 0), none, none, none, none], [zi (M8 42 0 14), zi (M8 42 0 15)], M8)) rfl ?_
  by_cases c56 : ¬ zw (M8 42 0 15) = zw (M8 42 0 14)
  · rw [if_pos c56] at h
    refine zG_br hm rfl (cf' := (77, [some (zr 42 0), none, none, none, none], [], M8)) (if_pos c56) ?_
    refine zG_run hm 4 (cf' := (85, [some (zr 42 0), none, none, none, none], [zi (M8 42 0 15), zr 45 0], M8)) rfl ?_
    by_cases c54 : 0 ≤ zw (M8 42 0 15) ∧ zw (M8 42 0 15) < 300
    · rw [if_pos c54] at h
      refine zG_br hm rfl (cf' := (86, [some (zr 42 0), none, none, none, none], [zi (Int.bmod (M8 45 0 (zix (M8 42 0 15))) 256)], M8)) (if_pos c54) ?_
      refine zG_run hm 2 (cf' := (88, [some (zr 42 0), some (zi (Int.bmod (M8 45 0 (zix (M8 42 0 15))) 256)), none, none, none], [zi (Int.bmod (M8 45 0 (zix (M8 42 0 15))) 256)], M8)) rfl ?_
      obtain ⟨p9, hp9, h⟩ := Option.bind_eq_some_iff.mp h
      refine zG_S hm zmok_133 rfl (as := [zi (Int.bmod (M8 45 0 (zix (M8 42 0 15))) 256)]) (rest := []) (st2 := [zi p9.1]) (pc2 := 91) rfl rfl (by omega) (met_X11_isLetter (d := 1) (Nat.le_refl _) hp9) rfl ?_
      by_cases c53 : zw p9.1 = 0
      · rw [if_pos c53] at h
        refine zG_br hm rfl (cf' := (211, [some (zr 42 0), some (zi (Int.bmod (M8 45 0 (zix (M8 42 0 15))) 256)), none, none, none], [], p9.2)) (if_pos c53) ?_
        refine zG_run hm 3 (cf' := (216, [some (zr 42 0), some (zi (Int.bmod (M8 45 0 (zix (M8 42 0 15))) 256)), none, none, none], [zi 57, zi 48, zi (Int.bmod (M8 45 0 (zix (M8 42 0 15))) 256)], p9.2)) rfl ?_
        obtain ⟨p10, hp10, h⟩ := Option.bind_eq_some_iff.mp h
        refine zG_S hm zmok_117 rfl (as := [zi (Int.bmod (M8 45 0 (zix (M8 42 0 15))) 256), zi 48, zi 57]) (rest := []) (st2 := [zi p10.1]) (pc2 := 219) rfl rfl (by omega) (met_X11_in (d := 0) (Nat.le_refl _) hp10) rfl ?_
        by_cases c39 : zw p10.1 = 0
        · rw [if_pos c39] at h
          refine zG_br hm rfl (cf' := (315, [some (zr 42 0), some (zi (Int.bmod (M8 45 0 (zix (M8 42 0 15))) 256)), none, none, none], [], p10.2)) (if_pos c39) ?_
          refine zG_run hm 6 (cf' := (325, [some (zr 42 0), some (zi (Int.bmod (M8 45 0 (zix (M8 42 0 15))) 256)), none, none, none], [], (zput p10.2 42 0 15 ((p10.2 42 0 15) + 1)))) rfl ?_
          obtain ⟨M11, eM11, h⟩ := zlet_of h
          rw [eM11]
          refine zG_run hm 3 (cf' := (330, [some (zr 42 0), some (zi (Int.bmod (M8 45 0 (zix (M8 42 0 15))) 256)), none, none, none], [], (zput M11 42 0 18 (Int.bmod (M8 45 0 (zix (M8 42 0 15))) 256)))) rfl ?_
          obtain ⟨M12, eM12, h⟩ := zlet_of h
          rw [eM12]
          refine zG_run hm 4 (cf' := (336, [some (zr 42 0), some (zi (Int.bmod (M8 45 0 (zix (M8 42 0 15))) 256)), none, none, none], [zi 62, zi 59, zi (Int.bmod (M8 45 0 (zix (M8 42 0 15))) 256), zr 42 0], M12)) rfl ?_
          obtain ⟨p13, hp13, h⟩ := Option.bind_eq_some_iff.mp h
          refine zG_S hm zmok_117 rfl (as := [zi (Int.bmod (M8 45 0 (zix (M8 42 0 15))) 256), zi 59, zi 62]) (rest := [zr 42 0]) (st2 := [zi p13.1, zr 42 0]) (pc2 := 339) rfl rfl (by omega) (met_X11_in (d := 0) (Nat.le_refl _) hp13) rfl ?_
          by_cases c27 : ¬ zw p13.1 = 0
          · rw [if_pos c27] at h
            refine zG_br hm rfl (cf' := (365, [some (zr 42 0), some (zi (Int.bmod (M8 45 0 (zix (M8 42 0 15))) 256)), none, none, none], [zr 42 0], p13.2)) (if_pos c27) ?_
            refine zG_sub (lv' := [some (zr 42 0), some (zi (Int.bmod (M8 45 0 (zix (M8 42 0 15))) 256)), none, none, none]) (zsb_s rfl (zsb_s rfl (zsb_n (zsb_n (zsb_n zsb_0))))) ?_
            exact g_X11_next_j365 hd h
          · rw [if_neg c27] at h
            refine zG_br hm rfl (cf' := (342, [some (zr 42 0), some (zi (Int.bmod (M8 45 0 (zix (M8 42 0 15))) 256)), none, none, none], [zr 42 0], p13.2)) (if_neg c27) ?_
            refine zG_run hm 3 (cf' := (347, [some (zr 42 0), some (zi (Int.bmod (M8 45 0 (zix (M8 42 0 15))) 256)), none, none, none], [zi 45, zi 40, zi (Int.bmod (M8 45 0 (zix (M8 42 0 15))) 256), zr 42 0], p13.2)) rfl ?_
            obtain ⟨p23, hp23, h⟩ := Option.bind_eq_some_iff.mp h
            refine zG_S hm zmok_117 rfl (as := [zi (Int.bmod (M8 45 0 (zix (M8 42 0 15))) 256), zi 40, zi 45]) (rest := [zr 42 0]) (st2 := [zi p23.1, zr 42 0]) (pc2 := 350) rfl rfl (by omega) (met_X11_in (d := 0) (Nat.le_refl _) hp23) rfl ?_
            by_cases c26 : ¬ zw p23.1 = 0
            · rw [if_pos c26] at h
              refine zG_br hm rfl (cf' := (365, [some (zr 42 0), some (zi (Int.bmod (M8 45 0 (zix (M8 42 0 15))) 256)), none, none, none], [zr 42 0], p23.2)) (if_pos c26) ?_
              refine zG_sub (lv' := [some (zr 42 0), some (zi (Int.bmod (M8 45 0 (zix (M8 42 0 15))) 256)), none, none, none]) (zsb_s rfl (zsb_s rfl (zsb_n (zsb_n (zsb_n zsb_0))))) ?_
              exact g_X11_next_j365 hd h
            · rw [if_neg c26] at h
              refine zG_br hm rfl (cf' := (353, [some (zr 42 0), some (zi (Int.bmod (M8 45 0 (zix (M8 42 0 15))) 256)), none, none, none], [zr 42 0], p23.2)) (if_neg c26) ?_
              refine zG_run hm 2 (cf' := (356, [some (zr 42 0), some (zi (Int.bmod (M8 45 0 (zix (M8 42 0 15))) 256)), none, none, none], [zi 47, zi (Int.bmod (M8 45 0 (zix (M8 42 0 15))) 256), zr 42 0], p23.2)) rfl ?_
              by_cases c25 : zw (Int.bmod (M8 45 0 (zix (M8 42 0 15))) 256) = 47
              · rw [if_pos c25] at h
                refine zG_br hm rfl (cf' := (365, [some (zr 42 0), some (zi (Int.bmod (M8 45 0 (zix (M8 42 0 15))) 256)), none, none, none], [zr 42 0], p23.2)) (if_pos c25) ?_
                refine zG_sub (lv' := [some (zr 42 0), some (zi (Int.bmod (M8 45 0 (zix (M8 42 0 15))) 256)), none, none, none]) (zsb_s rfl (zsb_s rfl (zsb_n (zsb_n (zsb_n zsb_0))))) ?_
                exact g_X11_next_j365 hd h
              · rw [if_neg c25] at h
                refine zG_br hm rfl (cf' := (359, [some (zr 42 0), some (zi (Int.bmod (M8 45 0 (zix (M8 42 0 15))) 256)), none, none, none], [zr 42 0], p23.2)) (if_neg c25) ?_
                refine zG_run hm 2 (cf' := (362, [some (zr 42 0), some (zi (Int.bmod (M8 45 0 (zix (M8 42 0 15))) 256)), none, none, none], [zi 35, zi (Int.bmod (M8 45 0 (zix (M8 42 0 15))) 256), zr 42 0], p23.2)) rfl ?_
                by_cases c24 : ¬ zw (Int.bmod (M8 45 0 (zix (M8 42 0 15))) 256) = 35
                · rw [if_pos c24] at h
                  refine zG_br hm rfl (cf' := (369, [some (zr 42 0), some (zi (Int.bmod (M8 45 0 (zix (M8 42 0 15))) 256)), none, none, none], [zr 42 0], p23.2)) (if_pos c24) ?_
                  refine zG_run hm 1 (cf' := (370, [some (zr 42 0), some (zi (Int.bmod (M8 45 0 (zix (M8 42 0 15))) 256)), none, none, none], [zi 4, zr 42 0], p23.2)) rfl ?_
                  refine zG_sub (lv' := [some (zr 42 0), some (zi (Int.bmod (M8 45 0 (zix (M8 42 0 15))) 256)), none, none, none]) (zsb_s rfl (zsb_s rfl (zsb_n (zsb_n (zsb_n zsb_0))))) ?_
                  exact g_X11_next_j370 hd h
                · rw [if_neg c24] at h
                  refine zG_br hm rfl (cf' := (365, [some (zr 42 0), some (zi (Int.bmod (M8 45 0 (zix (M8 42 0 15))) 256)), none, none, none], [zr 42 0], p23.2)) (if_neg c24) ?_
                  refine zG_sub (lv' := [some (zr 42 0), some (zi (Int.bmod (M8 45 0 (zix (M8 42 0 15))) 256)), none, none, none]) (zsb_s rfl (zsb_s rfl (zsb_n (zsb_n (zsb_n zsb_0))))) ?_
                  exact g_X11_next_j365 hd h
        · rw [if_neg c39] at h
          refine zG_br hm rfl (cf' := (222, [some (zr 42 0), some (zi (Int.bmod (M8 45 0 (zix (M8 42 0 15))) 256)), none, none, none], [], p10.2)) (if_neg c39) ?_
          refine zG_run hm 3 (cf' := (227, [some (zr 42 0), some (zi (Int.bmod (M8 45 0 (zix (M8 42 0 15))) 256)), none, none, none], [], (zput p10.2 42 0 17 2))) rfl ?_
          obtain ⟨M28, eM28, h⟩ := zlet_of h
          rw [eM28]
          refine zG_run hm 3 (cf' := (232, [some (zr 42 0), some (zi (Int.bmod (M8 45 0 (zix (M8 42 0 15))) 256)), none, none, none], [], (zput M28 42 0 18 0))) rfl ?_
          obtain ⟨M29, eM29, h⟩ := zlet_of h
          rw [eM29]
          refine zG_sub (lv' := [some (zr 42 0), none, none, none, none]) (zsb_s rfl (zsb_n (zsb_n (zsb_n (zsb_n zsb_0))))) ?_
          obtain ⟨y38, hy38, h⟩ := Option.bind_eq_some_iff.mp h
          refine gl_X11_next_L232 hd (fun t e2 => ?_) trivial zF M29 hy38
          cases e2
          cases h
          exact zG_rv hm rfl rfl
      · rw [if_neg c53] at h
        refine zG_br hm rfl (cf' := (94, [some (zr 42 0), some (zi (Int.bmod (M8 45 0 (zix (M8 42 0 15))) 256)), none, none, none], [], p9.2)) (if_neg c53) ?_
        refine zG_run hm 4 (cf' := (99, [some (zr 42 0), some (zi (Int.bmod (M8 45 0 (zix (M8 42 0 15))) 256)), some (zl 0), none, some (zi 0)], [], p9.2)) rfl ?_
        refine zG_sub (lv' := [some (zr 42 0), none, some (zl 0), none, some (zi 0)]) (zsb_s rfl (zsb_n (zsb_s rfl (zsb_n (zsb_s rfl zsb_0))))) ?_
        obtain ⟨y47, hy47, h⟩ := Option.bind_eq_some_iff.mp h
        refine gl_X11_next_L99 hd (fun t e2 => ?_) trivial zF (0, 0, p9.2) hy47
        cases e2
        refine zG_sub (lv' := [some (zr 42 0), none, some (zl y47.1), none, some (zi y47.2.1)]) (zsb_s rfl (zsb_n (zsb_s rfl (zsb_n (zsb_s rfl zsb_0))))) ?_
        exact g_X11_next_j173 hd h
    · rw [if_neg c54] at h
      cases h
  · rw [if_neg c56] at h
    refine zG_br hm rfl (cf' := (71, [some (zr 42 0), none, none, none, none], [], M8)) (if_neg c56) ?_
    refine zG_run hm 3 (cf' := (76, [some (zr 42 0), none, none, none, none], [], (zput M8 42 0 17 0))) rfl ?_
    obtain ⟨M55, eM55, h⟩ := zlet_of h
    rw [eM55]
    cases h
    exact zG_rv hm rfl rfl
def f_X11_next  (M : zM) : Option (zM) :=
  (zlp (fun s : zM => f_X11_next_L0   s) zF M).bind fun y7 =>
    f_X11_next_j52  y7
theorem g_X11_next  {M : zM} {q : zM} {d : Nat} (hd : 2 ≤ d) (h : f_X11_next  M = some q) : zG 135 d (0, [some (zr 42 0), none, none, none, none], [], M) none q := by
  have hm := zmok_135
  unfold f_X11_next at h
  refine zG_sub (lv' := [some (zr 42 0), none, none, none, none]) (zsb_s rfl (zsb_n (zsb_n (zsb_n (zsb_n zsb_0))))) ?_
  obtain ⟨y7, hy7, h⟩ := Option.bind_eq_some_iff.mp h
  refine gl_X11_next_L0 hd (fun t e2 => ?_) trivial zF M hy7
  cases e2
  refine zG_sub (lv' := [some (zr 42 0), none, none, none, none]) (zsb_s rfl (zsb_n (zsb_n (zsb_n (zsb_n zsb_0))))) ?_
  exact g_X11_next_j52 hd h
theorem met_X11_next  {M : zM} {q : zM} {d : Nat} (hd : 2 ≤ d) (h : f_X11_next  M = some q) : zMet 135 d [zr 42 0] M none q :=
  zMet_of (lv0 := [some (zr 42 0), none, none, none, none]) zmok_135 rfl rfl (fun v hv => by cases hv) (g_X11_next hd h)
def f_X11_isWord (v1 : Int) (M : zM) : Option (Int × zM) :=
  if ¬ zw (M 42 0 17) = 1 then
    some (0, M)
  else
    if ¬ zw (M 42 0 18) = zw v1 then
      some (0, M)
    else
      some (1, M)
theorem g_X11_isWord {v1 : Int} {M : zM} {q : Int × zM} {d : Nat} (hd : 0 ≤ d) (h : f_X11_isWord v1 M = some q) : zG 137 d (0, [some (zr 42 0), some (zi v1)], [], M) (some (zi q.1)) q.2 := by
  have hm := zmok_137
  unfold f_X11_isWord at h
  refine zG_run hm 3 (cf' := (5, [some (zr 42 0), some (zi v1)], [zi 1, zi (M 42 0 17)], M)) rfl ?_
  by_cases c2 : ¬ zw (M 42 0 17) = 1
  · rw [if_pos c2] at h
    refine zG_br hm rfl (cf' := (20, [some (zr 42 0), some (zi v1)], [], M)) (if_pos c2) ?_
    refine zG_run hm 1 (cf' := (21, [some (zr 42 0), some (zi v1)], [zi 0], M)) rfl ?_
    cases h
    exact zG_rz hm rfl rfl (Or.inl rfl)
  · rw [if_neg c2] at h
    refine zG_br hm rfl (cf' := (8, [some (zr 42 0), some (zi v1)], [], M)) (if_neg c2) ?_
    refine zG_run hm 3 (cf' := (13, [some (zr 42 0), some (zi v1)], [zi v1, zi (M 42 0 18)], M)) rfl ?_
    by_cases c1 : ¬ zw (M 42 0 18) = zw v1
    · rw [if_pos c1] at h
      refine zG_br hm rfl (cf' := (20, [some (zr 42 0), some (zi v1)], [], M)) (if_pos c1) ?_
      refine zG_run hm 1 (cf' := (21, [some (zr 42 0), some (zi v1)], [zi 0], M)) rfl ?_
      cases h
      exact zG_rz hm rfl rfl (Or.inl rfl)
    · rw [if_neg c1] at h
      refine zG_br hm rfl (cf' := (16, [some (zr 42 0), some (zi v1)], [], M)) (if_neg c1) ?_
      refine zG_run hm 2 (cf' := (21, [some (zr 42 0), some (zi v1)], [zi 1], M)) rfl ?_
      cases h
      exact zG_rz hm rfl rfl (Or.inr rfl)
theorem met_X11_isWord {v1 : Int} {M : zM} {q : Int × zM} {d : Nat} (hd : 0 ≤ d) (h : f_X11_isWord v1 M = some q) : zMet 137 d [zr 42 0, zi v1] M (some (zi q.1)) q.2 :=
  zMet_of (lv0 := [some (zr 42 0), some (zi v1)]) zmok_137 rfl rfl (fun v hv => by cases hv; trivial) (g_X11_isWord hd h)
def f_X11_opensFrame (v1 : Int) (M : zM) : Option (zM) :=
  if 0 ≤ zw (M 42 0 22) ∧ zw (M 42 0 22) < 40 then
    zlet (zput M 54 0 (zix (M 42 0 22)) v1) fun M1 =>
    zlet (zput M1 42 0 22 ((M1 42 0 22) + 1)) fun M2 =>
    some M2
  else
    none
theorem g_X11_opensFrame {v1 : Int} {M : zM} {q : zM} {d : Nat} (hd : 0 ≤ d) (h : f_X11_opensFrame v1 M = some q) : zG 140 d (0, [some (zr 42 0), some (zi v1)], [], M) none q := by
  have hm := zmok_140
  unfold f_X11_opensFrame at h
  refine zG_run hm 5 (cf' := (9, [some (zr 42 0), some (zi v1)], [zi v1, zi (M 42 0 22), zr 54 0], M)) rfl ?_
  by_cases c3 : 0 ≤ zw (M 42 0 22) ∧ zw (M 42 0 22) < 40
  · rw [if_pos c3] at h
    refine zG_br hm rfl (cf' := (10, [some (zr 42 0), some (zi v1)], [], (zput M 54 0 (zix (M 42 0 22)) v1))) (if_pos c3) ?_
    obtain ⟨M1, eM1, h⟩ := zlet_of h
    rw [eM1]
    refine zG_run hm 6 (cf' := (20, [some (zr 42 0), some (zi v1)], [], (zput M1 42 0 22 ((M1 42 0 22) + 1)))) rfl ?_
    obtain ⟨M2, eM2, h⟩ := zlet_of h
    rw [eM2]
    cases h
    exact zG_rv hm rfl rfl
  · rw [if_neg c3] at h
    cases h
theorem met_X11_opensFrame {v1 : Int} {M : zM} {q : zM} {d : Nat} (hd : 0 ≤ d) (h : f_X11_opensFrame v1 M = some q) : zMet 140 d [zr 42 0, zi v1] M none q :=
  zMet_of (lv0 := [some (zr 42 0), some (zi v1)]) zmok_140 rfl rfl (fun v hv => by cases hv) (g_X11_opensFrame hd h)
def f_X11_errs (v1 : Int) (M : zM) : Option (zM) :=
  if ¬ zw (M 42 0 19) = 0 then
    some M
  else
    zlet (zput M 42 0 19 v1) fun M1 =>
    zlet (zput M1 42 0 20 (M1 42 0 16)) fun M2 =>
    some M2
theorem g_X11_errs {v1 : Int} {M : zM} {q : zM} {d : Nat} (hd : 0 ≤ d) (h : f_X11_errs v1 M = some q) : zG 138 d (0, [some (zr 42 0), some (zi v1)], [], M) none q := by
  have hm := zmok_138
  unfold f_X11_errs at h
  refine zG_run hm 2 (cf' := (4, [some (zr 42 0), some (zi v1)], [zi (M 42 0 19)], M)) rfl ?_
  by_cases c3 : ¬ zw (M 42 0 19) = 0
  · rw [if_pos c3] at h
    refine zG_br hm rfl (cf' := (20, [some (zr 42 0), some (zi v1)], [], M)) (if_pos c3) ?_
    cases h
    exact zG_rv hm rfl rfl
  · rw [if_neg c3] at h
    refine zG_br hm rfl (cf' := (7, [some (zr 42 0), some (zi v1)], [], M)) (if_neg c3) ?_
    refine zG_run hm 3 (cf' := (12, [some (zr 42 0), some (zi v1)], [], (zput M 42 0 19 v1))) rfl ?_
    obtain ⟨M1, eM1, h⟩ := zlet_of h
    rw [eM1]
    refine zG_run hm 4 (cf' := (20, [some (zr 42 0), some (zi v1)], [], (zput M1 42 0 20 (M1 42 0 16)))) rfl ?_
    obtain ⟨M2, eM2, h⟩ := zlet_of h
    rw [eM2]
    cases h
    exact zG_rv hm rfl rfl
theorem met_X11_errs {v1 : Int} {M : zM} {q : zM} {d : Nat} (hd : 0 ≤ d) (h : f_X11_errs v1 M = some q) : zMet 138 d [zr 42 0, zi v1] M none q :=
  zMet_of (lv0 := [some (zr 42 0), some (zi v1)]) zmok_138 rfl rfl (fun v hv => by cases hv) (g_X11_errs hd h)
def f_X11_opensSign (v1 : Int) (M : zM) : Option (Int × zM) :=
  if ¬ zw (M 42 0 21) = 8 then
    zlet (zput M 42 0 21 ((M 42 0 21) + 1)) fun M1 =>
    (f_X11_opensFrame v1 M1).bind fun p2 =>
      (f_X11_next  p2).bind fun p3 =>
        some (1, p3)
  else
    (f_X11_errs 3 M).bind fun p4 =>
      some (0, p4)
theorem g_X11_opensSign {v1 : Int} {M : zM} {q : Int × zM} {d : Nat} (hd : 3 ≤ d) (h : f_X11_opensSign v1 M = some q) : zG 142 d (0, [some (zr 42 0), some (zi v1)], [], M) (some (zi q.1)) q.2 := by
  have hm := zmok_142
  unfold f_X11_opensSign at h
  refine zG_run hm 3 (cf' := (6, [some (zr 42 0), some (zi v1)], [zi 8, zi (M 42 0 21)], M)) rfl ?_
  by_cases c5 : ¬ zw (M 42 0 21) = 8
  · rw [if_pos c5] at h
    refine zG_br hm rfl (cf' := (16, [some (zr 42 0), some (zi v1)], [], M)) (if_pos c5) ?_
    refine zG_run hm 6 (cf' := (26, [some (zr 42 0), some (zi v1)], [], (zput M 42 0 21 ((M 42 0 21) + 1)))) rfl ?_
    obtain ⟨M1, eM1, h⟩ := zlet_of h
    rw [eM1]
    refine zG_run hm 2 (cf' := (28, [some (zr 42 0), some (zi v1)], [zi v1, zr 42 0], M1)) rfl ?_
    obtain ⟨p2, hp2, h⟩ := Option.bind_eq_some_iff.mp h
    refine zG_V hm zmok_140 rfl (as := [zi v1]) (rest := []) (st2 := []) (pc2 := 31) rfl rfl (by omega) (met_X11_opensFrame (d := 0) (Nat.le_refl _) hp2) rfl ?_
    refine zG_run hm 1 (cf' := (32, [some (zr 42 0), some (zi v1)], [zr 42 0], p2)) rfl ?_
    obtain ⟨p3, hp3, h⟩ := Option.bind_eq_some_iff.mp h
    refine zG_V hm zmok_135 rfl (as := []) (rest := []) (st2 := []) (pc2 := 35) rfl rfl (by omega) (met_X11_next (d := 2) (Nat.le_refl _) hp3) rfl ?_
    refine zG_run hm 1 (cf' := (36, [some (zr 42 0), some (zi v1)], [zi 1], p3)) rfl ?_
    cases h
    exact zG_rz hm rfl rfl (Or.inr rfl)
  · rw [if_neg c5] at h
    refine zG_br hm rfl (cf' := (9, [some (zr 42 0), some (zi v1)], [], M)) (if_neg c5) ?_
    refine zG_run hm 2 (cf' := (11, [some (zr 42 0), some (zi v1)], [zi 3, zr 42 0], M)) rfl ?_
    obtain ⟨p4, hp4, h⟩ := Option.bind_eq_some_iff.mp h
    refine zG_V hm zmok_138 rfl (as := [zi 3]) (rest := []) (st2 := []) (pc2 := 14) rfl rfl (by omega) (met_X11_errs (d := 0) (Nat.le_refl _) hp4) rfl ?_
    refine zG_run hm 1 (cf' := (15, [some (zr 42 0), some (zi v1)], [zi 0], p4)) rfl ?_
    cases h
    exact zG_rz hm rfl rfl (Or.inl rfl)
theorem met_X11_opensSign {v1 : Int} {M : zM} {q : Int × zM} {d : Nat} (hd : 3 ≤ d) (h : f_X11_opensSign v1 M = some q) : zMet 142 d [zr 42 0, zi v1] M (some (zi q.1)) q.2 :=
  zMet_of (lv0 := [some (zr 42 0), some (zi v1)]) zmok_142 rfl rfl (fun v hv => by cases hv; trivial) (g_X11_opensSign hd h)
def f_X11_asks  (M : zM) : Option (zM) :=
  (f_X11_isWord 20 M).bind fun p1 =>
    if zw p1.1 = 0 then
      (f_X11_opensFrame 4 p1.2).bind fun p2 =>
        zlet (zput p2 42 0 28 1) fun M3 =>
        some M3
    else
      (f_X11_opensSign 3 p1.2).bind fun p4 =>
        some p4.2
theorem g_X11_asks  {M : zM} {q : zM} {d : Nat} (hd : 4 ≤ d) (h : f_X11_asks  M = some q) : zG 146 d (0, [some (zr 42 0), none], [], M) none q := by
  have hm := zmok_146
  unfold f_X11_asks at h
  refine zG_run hm 2 (cf' := (3, [some (zr 42 0), none], [zi 20, zr 42 0], M)) rfl ?_
  obtain ⟨p1, hp1, h⟩ := Option.bind_eq_some_iff.mp h
  refine zG_V hm zmok_137 rfl (as := [zi 20]) (rest := []) (st2 := [zi p1.1]) (pc2 := 6) rfl rfl (by omega) (met_X11_isWord (d := 0) (Nat.le_refl _) hp1) rfl ?_
  by_cases c5 : zw p1.1 = 0
  · rw [if_pos c5] at h
    refine zG_br hm rfl (cf' := (18, [some (zr 42 0), none], [], p1.2)) (if_pos c5) ?_
    refine zG_run hm 2 (cf' := (20, [some (zr 42 0), none], [zi 4, zr 42 0], p1.2)) rfl ?_
    obtain ⟨p2, hp2, h⟩ := Option.bind_eq_some_iff.mp h
    refine zG_V hm zmok_140 rfl (as := [zi 4]) (rest := []) (st2 := []) (pc2 := 23) rfl rfl (by omega) (met_X11_opensFrame (d := 0) (Nat.le_refl _) hp2) rfl ?_
    refine zG_run hm 3 (cf' := (28, [some (zr 42 0), none], [], (zput p2 42 0 28 1))) rfl ?_
    obtain ⟨M3, eM3, h⟩ := zlet_of h
    rw [eM3]
    cases h
    exact zG_rv hm rfl rfl
  · rw [if_neg c5] at h
    refine zG_br hm rfl (cf' := (9, [some (zr 42 0), none], [], p1.2)) (if_neg c5) ?_
    refine zG_run hm 2 (cf' := (11, [some (zr 42 0), none], [zi 3, zr 42 0], p1.2)) rfl ?_
    obtain ⟨p4, hp4, h⟩ := Option.bind_eq_some_iff.mp h
    refine zG_V hm zmok_142 rfl (as := [zi 3]) (rest := []) (st2 := [zi p4.1]) (pc2 := 14) rfl rfl (by omega) (met_X11_opensSign (d := 3) (Nat.le_refl _) hp4) rfl ?_
    refine zG_run hm 2 (cf' := (28, [some (zr 42 0), some (zi p4.1)], [], p4.2)) rfl ?_
    cases h
    exact zG_rv hm rfl rfl
theorem met_X11_asks  {M : zM} {q : zM} {d : Nat} (hd : 4 ≤ d) (h : f_X11_asks  M = some q) : zMet 146 d [zr 42 0] M none q :=
  zMet_of (lv0 := [some (zr 42 0), none]) zmok_146 rfl rfl (fun v hv => by cases hv) (g_X11_asks hd h)
def f_X11_nameNow  (M : zM) : Option (Int × zM) :=
  if zw (M 42 0 17) = 1 then
    if zw (M 42 0 18) = 4 then
      some (4, M)
    else
      if zw (M 42 0 18) = 5 then
        some (6, M)
      else
        if zw (M 42 0 18) = 6 then
          some ((-1), M)
        else
          if zw (M 42 0 18) = 7 then
            some ((-1), M)
          else
            if zw (M 42 0 18) = 8 then
              some ((-1), M)
            else
              if zw (M 42 0 18) = 9 then
                some ((-1), M)
              else
                if zw (M 42 0 18) = 10 then
                  some (0, M)
                else
                  if zw (M 42 0 18) = 11 then
                    some ((-1), M)
                  else
                    if zw (M 42 0 18) = 12 then
                      some (3, M)
                    else
                      if zw (M 42 0 18) = 13 then
                        some ((-1), M)
                      else
                        if zw (M 42 0 18) = 14 then
                          some ((-1), M)
                        else
                          if zw (M 42 0 18) = 15 then
                            some ((-1), M)
                          else
                            if zw (M 42 0 18) = 16 then
                              some ((-1), M)
                            else
                              if zw (M 42 0 18) = 17 then
                                some ((-1), M)
                              else
                                if zw (M 42 0 18) = 18 then
                                  some ((-1), M)
                                else
                                  if zw (M 42 0 18) = 19 then
                                    some ((-1), M)
                                  else
                                    if zw (M 42 0 18) = 20 then
                                      some ((-1), M)
                                    else
                                      if zw (M 42 0 18) = 21 then
                                        some (1, M)
                                      else
                                        if zw (M 42 0 18) = 22 then
                                          some (2, M)
                                        else
                                          if zw (M 42 0 18) = 23 then
                                            some (5, M)
                                          else
                                            if zw (M 42 0 18) = 24 then
                                              some (7, M)
                                            else
                                              some ((-1), M)
  else
    some ((-1), M)
theorem g_X11_nameNow  {M : zM} {q : Int × zM} {d : Nat} (hd : 0 ≤ d) (h : f_X11_nameNow  M = some q) : zG 148 d (0, [some (zr 42 0)], [], M) (some (zi q.1)) q.2 := by
  have hm := zmok_148
  unfold f_X11_nameNow at h
  refine zG_run hm 3 (cf' := (5, [some (zr 42 0)], [zi 1, zi (M 42 0 17)], M)) rfl ?_
  by_cases c22 : zw (M 42 0 17) = 1
  · rw [if_pos c22] at h
    refine zG_br hm rfl (cf' := (10, [some (zr 42 0)], [], M)) (if_pos c22) ?_
    refine zG_run hm 2 (cf' := (14, [some (zr 42 0)], [zi (M 42 0 18)], M)) rfl ?_
    by_cases c1 : zw (M 42 0 18) = 4
    · rw [if_pos c1] at h
      refine zG_tIn hm rfl (tgt := 120) (off := 106) c1 (by decide) rfl (by decide) ?_
      refine zG_run hm 1 (cf' := (121, [some (zr 42 0)], [zi 4], M)) rfl ?_
      cases h
      exact zG_ri hm rfl rfl
    · rw [if_neg c1] at h
      by_cases c2 : zw (M 42 0 18) = 5
      · rw [if_pos c2] at h
        refine zG_tIn hm rfl (tgt := 124) (off := 110) c2 (by decide) rfl (by decide) ?_
        refine zG_run hm 1 (cf' := (126, [some (zr 42 0)], [zi 6], M)) rfl ?_
        cases h
        exact zG_ri hm rfl rfl
      · rw [if_neg c2] at h
        by_cases c3 : zw (M 42 0 18) = 6
        · rw [if_pos c3] at h
          refine zG_tIn hm rfl (tgt := 130) (off := 116) c3 (by decide) rfl (by decide) ?_
          refine zG_run hm 1 (cf' := (131, [some (zr 42 0)], [zi (-1)], M)) rfl ?_
          cases h
          exact zG_ri hm rfl rfl
        · rw [if_neg c3] at h
          by_cases c4 : zw (M 42 0 18) = 7
          · rw [if_pos c4] at h
            refine zG_tIn hm rfl (tgt := 130) (off := 116) c4 (by decide) rfl (by decide) ?_
            refine zG_run hm 1 (cf' := (131, [some (zr 42 0)], [zi (-1)], M)) rfl ?_
            cases h
            exact zG_ri hm rfl rfl
          · rw [if_neg c4] at h
            by_cases c5 : zw (M 42 0 18) = 8
            · rw [if_pos c5] at h
              refine zG_tIn hm rfl (tgt := 130) (off := 116) c5 (by decide) rfl (by decide) ?_
              refine zG_run hm 1 (cf' := (131, [some (zr 42 0)], [zi (-1)], M)) rfl ?_
              cases h
              exact zG_ri hm rfl rfl
            · rw [if_neg c5] at h
              by_cases c6 : zw (M 42 0 18) = 9
              · rw [if_pos c6] at h
                refine zG_tIn hm rfl (tgt := 130) (off := 116) c6 (by decide) rfl (by decide) ?_
                refine zG_run hm 1 (cf' := (131, [some (zr 42 0)], [zi (-1)], M)) rfl ?_
                cases h
                exact zG_ri hm rfl rfl
              · rw [if_neg c6] at h
                by_cases c7 : zw (M 42 0 18) = 10
                · rw [if_pos c7] at h
                  refine zG_tIn hm rfl (tgt := 112) (off := 98) c7 (by decide) rfl (by decide) ?_
                  refine zG_run hm 1 (cf' := (113, [some (zr 42 0)], [zi 0], M)) rfl ?_
                  cases h
                  exact zG_ri hm rfl rfl
                · rw [if_neg c7] at h
                  by_cases c8 : zw (M 42 0 18) = 11
                  · rw [if_pos c8] at h
                    refine zG_tIn hm rfl (tgt := 130) (off := 116) c8 (by decide) rfl (by decide) ?_
                    refine zG_run hm 1 (cf' := (131, [some (zr 42 0)], [zi (-1)], M)) rfl ?_
                    cases h
                    exact zG_ri hm rfl rfl
                  · rw [if_neg c8] at h
                    by_cases c9 : zw (M 42 0 18) = 12
                    · rw [if_pos c9] at h
                      refine zG_tIn hm rfl (tgt := 118) (off := 104) c9 (by decide) rfl (by decide) ?_
                      refine zG_run hm 1 (cf' := (119, [some (zr 42 0)], [zi 3], M)) rfl ?_
                      cases h
                      exact zG_ri hm rfl rfl
                    · rw [if_neg c9] at h
                      by_cases c10 : zw (M 42 0 18) = 13
                      · rw [if_pos c10] at h
                        refine zG_tIn hm rfl (tgt := 130) (off := 116) c10 (by decide) rfl (by decide) ?_
                        refine zG_run hm 1 (cf' := (131, [some (zr 42 0)], [zi (-1)], M)) rfl ?_
                        cases h
                        exact zG_ri hm rfl rfl
                      · rw [if_neg c10] at h
                        by_cases c11 : zw (M 42 0 18) = 14
                        · rw [if_pos c11] at h
                          refine zG_tIn hm rfl (tgt := 130) (off := 116) c11 (by decide) rfl (by decide) ?_
                          refine zG_run hm 1 (cf' := (131, [some (zr 42 0)], [zi (-1)], M)) rfl ?_
                          cases h
                          exact zG_ri hm rfl rfl
                        · rw [if_neg c11] at h
                          by_cases c12 : zw (M 42 0 18) = 15
                          · rw [if_pos c12] at h
                            refine zG_tIn hm rfl (tgt := 130) (off := 116) c12 (by decide) rfl (by decide) ?_
                            refine zG_run hm 1 (cf' := (131, [some (zr 42 0)], [zi (-1)], M)) rfl ?_
                            cases h
                            exact zG_ri hm rfl rfl
                          · rw [if_neg c12] at h
                            by_cases c13 : zw (M 42 0 18) = 16
                            · rw [if_pos c13] at h
                              refine zG_tIn hm rfl (tgt := 130) (off := 116) c13 (by decide) rfl (by decide) ?_
                              refine zG_run hm 1 (cf' := (131, [some (zr 42 0)], [zi (-1)], M)) rfl ?_
                              cases h
                              exact zG_ri hm rfl rfl
                            · rw [if_neg c13] at h
                              by_cases c14 : zw (M 42 0 18) = 17
                              · rw [if_pos c14] at h
                                refine zG_tIn hm rfl (tgt := 130) (off := 116) c14 (by decide) rfl (by decide) ?_
                                refine zG_run hm 1 (cf' := (131, [some (zr 42 0)], [zi (-1)], M)) rfl ?_
                                cases h
                                exact zG_ri hm rfl rfl
                              · rw [if_neg c14] at h
                                by_cases c15 : zw (M 42 0 18) = 18
                                · rw [if_pos c15] at h
                                  refine zG_tIn hm rfl (tgt := 130) (off := 116) c15 (by decide) rfl (by decide) ?_
                                  refine zG_run hm 1 (cf' := (131, [some (zr 42 0)], [zi (-1)], M)) rfl ?_
                                  cases h
                                  exact zG_ri hm rfl rfl
                                · rw [if_neg c15] at h
                                  by_cases c16 : zw (M 42 0 18) = 19
                                  · rw [if_pos c16] at h
                                    refine zG_tIn hm rfl (tgt := 130) (off := 116) c16 (by decide) rfl (by decide) ?_
                                    refine zG_run hm 1 (cf' := (131, [some (zr 42 0)], [zi (-1)], M)) rfl ?_
                                    cases h
                                    exact zG_ri hm rfl rfl
                                  · rw [if_neg c16] at h
                                    by_cases c17 : zw (M 42 0 18) = 20
                                    · rw [if_pos c17] at h
                                      refine zG_tIn hm rfl (tgt := 130) (off := 116) c17 (by decide) rfl (by decide) ?_
                                      refine zG_run hm 1 (cf' := (131, [some (zr 42 0)], [zi (-1)], M)) rfl ?_
                                      cases h
                                      exact zG_ri hm rfl rfl
                                    · rw [if_neg c17] at h
                                      by_cases c18 : zw (M 42 0 18) = 21
                                      · rw [if_pos c18] at h
                                        refine zG_tIn hm rfl (tgt := 114) (off := 100) c18 (by decide) rfl (by decide) ?_
                                        refine zG_run hm 1 (cf' := (115, [some (zr 42 0)], [zi 1], M)) rfl ?_
                                        cases h
                                        exact zG_ri hm rfl rfl
                                      · rw [if_neg c18] at h
                                        by_cases c19 : zw (M 42 0 18) = 22
                                        · rw [if_pos c19] at h
                                          refine zG_tIn hm rfl (tgt := 116) (off := 102) c19 (by decide) rfl (by decide) ?_
                                          refine zG_run hm 1 (cf' := (117, [some (zr 42 0)], [zi 2], M)) rfl ?_
                                          cases h
                                          exact zG_ri hm rfl rfl
                                        · rw [if_neg c19] at h
                                          by_cases c20 : zw (M 42 0 18) = 23
                                          · rw [if_pos c20] at h
                                            refine zG_tIn hm rfl (tgt := 122) (off := 108) c20 (by decide) rfl (by decide) ?_
                                            refine zG_run hm 1 (cf' := (123, [some (zr 42 0)], [zi 5], M)) rfl ?_
                                            cases h
                                            exact zG_ri hm rfl rfl
                                          · rw [if_neg c20] at h
                                            by_cases c21 : zw (M 42 0 18) = 24
                                            · rw [if_pos c21] at h
                                              refine zG_tIn hm rfl (tgt := 127) (off := 113) c21 (by decide) rfl (by decide) ?_
                                              refine zG_run hm 1 (cf' := (129, [some (zr 42 0)], [zi 7], M)) rfl ?_
                                              cases h
                                              exact zG_ri hm rfl rfl
                                            · rw [if_neg c21] at h
                                              refine zG_tOut hm rfl (tgt := 130) (by omega) (by decide) ?_
                                              refine zG_run hm 1 (cf' := (131, [some (zr 42 0)], [zi (-1)], M)) rfl ?_
                                              cases h
                                              exact zG_ri hm rfl rfl
  · rw [if_neg c22] at h
    refine zG_br hm rfl (cf' := (8, [some (zr 42 0)], [], M)) (if_neg c22) ?_
    refine zG_run hm 1 (cf' := (9, [some (zr 42 0)], [zi (-1)], M)) rfl ?_
    cases h
    exact zG_ri hm rfl rfl
theorem met_X11_nameNow  {M : zM} {q : Int × zM} {d : Nat} (hd : 0 ≤ d) (h : f_X11_nameNow  M = some q) : zMet 148 d [zr 42 0] M (some (zi q.1)) q.2 :=
  zMet_of (lv0 := [some (zr 42 0)]) zmok_148 rfl rfl (fun v hv => by cases hv; trivial) (g_X11_nameNow hd h)
def f_X11_isSign (v1 : Int) (M : zM) : Option (Int × zM) :=
  if ¬ zw (M 42 0 17) = 3 then
    some (0, M)
  else
    if ¬ zw (M 42 0 18) = zw v1 then
      some (0, M)
    else
      some (1, M)
theorem g_X11_isSign {v1 : Int} {M : zM} {q : Int × zM} {d : Nat} (hd : 0 ≤ d) (h : f_X11_isSign v1 M = some q) : zG 136 d (0, [some (zr 42 0), some (zi v1)], [], M) (some (zi q.1)) q.2 := by
  have hm := zmok_136
  unfold f_X11_isSign at h
  refine zG_run hm 3 (cf' := (5, [some (zr 42 0), some (zi v1)], [zi 3, zi (M 42 0 17)], M)) rfl ?_
  by_cases c2 : ¬ zw (M 42 0 17) = 3
  · rw [if_pos c2] at h
    refine zG_br hm rfl (cf' := (20, [some (zr 42 0), some (zi v1)], [], M)) (if_pos c2) ?_
    refine zG_run hm 1 (cf' := (21, [some (zr 42 0), some (zi v1)], [zi 0], M)) rfl ?_
    cases h
    exact zG_rz hm rfl rfl (Or.inl rfl)
  · rw [if_neg c2] at h
    refine zG_br hm rfl (cf' := (8, [some (zr 42 0), some (zi v1)], [], M)) (if_neg c2) ?_
    refine zG_run hm 3 (cf' := (13, [some (zr 42 0), some (zi v1)], [zi v1, zi (M 42 0 18)], M)) rfl ?_
    by_cases c1 : ¬ zw (M 42 0 18) = zw v1
    · rw [if_pos c1] at h
      refine zG_br hm rfl (cf' := (20, [some (zr 42 0), some (zi v1)], [], M)) (if_pos c1) ?_
      refine zG_run hm 1 (cf' := (21, [some (zr 42 0), some (zi v1)], [zi 0], M)) rfl ?_
      cases h
      exact zG_rz hm rfl rfl (Or.inl rfl)
    · rw [if_neg c1] at h
      refine zG_br hm rfl (cf' := (16, [some (zr 42 0), some (zi v1)], [], M)) (if_neg c1) ?_
      refine zG_run hm 2 (cf' := (21, [some (zr 42 0), some (zi v1)], [zi 1], M)) rfl ?_
      cases h
      exact zG_rz hm rfl rfl (Or.inr rfl)
theorem met_X11_isSign {v1 : Int} {M : zM} {q : Int × zM} {d : Nat} (hd : 0 ≤ d) (h : f_X11_isSign v1 M = some q) : zMet 136 d [zr 42 0, zi v1] M (some (zi q.1)) q.2 :=
  zMet_of (lv0 := [some (zr 42 0), some (zi v1)]) zmok_136 rfl rfl (fun v hv => by cases hv; trivial) (g_X11_isSign hd h)
def f_X11_mayName (v0 : Int) (v1 : Int) (M : zM) : Option (Int × zM) :=
  if zw v0 < 6 then
    some (1, M)
  else
    if zw v1 = 3 then
      some (1, M)
    else
      if ¬ zw v0 = 6 then
        some (0, M)
      else
        if ¬ zw v1 = 2 then
          some (0, M)
        else
          some (1, M)
theorem g_X11_mayName {v0 : Int} {v1 : Int} {M : zM} {q : Int × zM} {d : Nat} (hd : 0 ≤ d) (h : f_X11_mayName v0 v1 M = some q) : zG 147 d (0, [some (zi v0), some (zi v1)], [], M) (some (zi q.1)) q.2 := by
  have hm := zmok_147
  unfold f_X11_mayName at h
  refine zG_run hm 2 (cf' := (3, [some (zi v0), some (zi v1)], [zi 6, zi v0], M)) rfl ?_
  by_cases c4 : zw v0 < 6
  · rw [if_pos c4] at h
    refine zG_br hm rfl (cf' := (22, [some (zi v0), some (zi v1)], [], M)) (if_pos c4) ?_
    refine zG_run hm 2 (cf' := (27, [some (zi v0), some (zi v1)], [zi 1], M)) rfl ?_
    cases h
    exact zG_rz hm rfl rfl (Or.inr rfl)
  · rw [if_neg c4] at h
    refine zG_br hm rfl (cf' := (6, [some (zi v0), some (zi v1)], [], M)) (if_neg c4) ?_
    refine zG_run hm 2 (cf' := (8, [some (zi v0), some (zi v1)], [zi 3, zi v1], M)) rfl ?_
    by_cases c3 : zw v1 = 3
    · rw [if_pos c3] at h
      refine zG_br hm rfl (cf' := (22, [some (zi v0), some (zi v1)], [], M)) (if_pos c3) ?_
      refine zG_run hm 2 (cf' := (27, [some (zi v0), some (zi v1)], [zi 1], M)) rfl ?_
      cases h
      exact zG_rz hm rfl rfl (Or.inr rfl)
    · rw [if_neg c3] at h
      refine zG_br hm rfl (cf' := (11, [some (zi v0), some (zi v1)], [], M)) (if_neg c3) ?_
      refine zG_run hm 2 (cf' := (14, [some (zi v0), some (zi v1)], [zi 6, zi v0], M)) rfl ?_
      by_cases c2 : ¬ zw v0 = 6
      · rw [if_pos c2] at h
        refine zG_br hm rfl (cf' := (26, [some (zi v0), some (zi v1)], [], M)) (if_pos c2) ?_
        refine zG_run hm 1 (cf' := (27, [some (zi v0), some (zi v1)], [zi 0], M)) rfl ?_
        cases h
        exact zG_rz hm rfl rfl (Or.inl rfl)
      · rw [if_neg c2] at h
        refine zG_br hm rfl (cf' := (17, [some (zi v0), some (zi v1)], [], M)) (if_neg c2) ?_
        refine zG_run hm 2 (cf' := (19, [some (zi v0), some (zi v1)], [zi 2, zi v1], M)) rfl ?_
        by_cases c1 : ¬ zw v1 = 2
        · rw [if_pos c1] at h
          refine zG_br hm rfl (cf' := (26, [some (zi v0), some (zi v1)], [], M)) (if_pos c1) ?_
          refine zG_run hm 1 (cf' := (27, [some (zi v0), some (zi v1)], [zi 0], M)) rfl ?_
          cases h
          exact zG_rz hm rfl rfl (Or.inl rfl)
        · rw [if_neg c1] at h
          refine zG_br hm rfl (cf' := (22, [some (zi v0), some (zi v1)], [], M)) (if_neg c1) ?_
          refine zG_run hm 2 (cf' := (27, [some (zi v0), some (zi v1)], [zi 1], M)) rfl ?_
          cases h
          exact zG_rz hm rfl rfl (Or.inr rfl)
theorem met_X11_mayName {v0 : Int} {v1 : Int} {M : zM} {q : Int × zM} {d : Nat} (hd : 0 ≤ d) (h : f_X11_mayName v0 v1 M = some q) : zMet 147 d [zi v0, zi v1] M (some (zi q.1)) q.2 :=
  zMet_of (lv0 := [some (zi v0), some (zi v1)]) zmok_147 rfl rfl (fun v hv => by cases hv; trivial) (g_X11_mayName hd h)
def f_X11_emits (v1 : Int) (v2 : Int) (M : zM) : Option (zM) :=
  if 0 ≤ zw (M 42 0 37) ∧ zw (M 42 0 37) < 400 then
    zlet (zput M 64 0 (zix (M 42 0 37)) v1) fun M1 =>
    if 0 ≤ zw (M1 42 0 37) ∧ zw (M1 42 0 37) < 400 then
      zlet (zput M1 65 0 (zix (M1 42 0 37)) v2) fun M2 =>
      zlet (zput M2 42 0 37 ((M2 42 0 37) + 1)) fun M3 =>
      some M3
    else
      none
  else
    none
theorem g_X11_emits {v1 : Int} {v2 : Int} {M : zM} {q : zM} {d : Nat} (hd : 0 ≤ d) (h : f_X11_emits v1 v2 M = some q) : zG 139 d (0, [some (zr 42 0), some (zi v1), some (zi v2)], [], M) none q := by
  have hm := zmok_139
  unfold f_X11_emits at h
  refine zG_run hm 5 (cf' := (9, [some (zr 42 0), some (zi v1), some (zi v2)], [zi v1, zi (M 42 0 37), zr 64 0], M)) rfl ?_
  by_cases c5 : 0 ≤ zw (M 42 0 37) ∧ zw (M 42 0 37) < 400
  · rw [if_pos c5] at h
    refine zG_br hm rfl (cf' := (10, [some (zr 42 0), some (zi v1), some (zi v2)], [], (zput M 64 0 (zix (M 42 0 37)) v1))) (if_pos c5) ?_
    obtain ⟨M1, eM1, h⟩ := zlet_of h
    rw [eM1]
    refine zG_run hm 5 (cf' := (19, [some (zr 42 0), some (zi v1), some (zi v2)], [zi v2, zi (M1 42 0 37), zr 65 0], M1)) rfl ?_
    by_cases c4 : 0 ≤ zw (M1 42 0 37) ∧ zw (M1 42 0 37) < 400
    · rw [if_pos c4] at h
      refine zG_br hm rfl (cf' := (20, [some (zr 42 0), some (zi v1), some (zi v2)], [], (zput M1 65 0 (zix (M1 42 0 37)) v2))) (if_pos c4) ?_
      obtain ⟨M2, eM2, h⟩ := zlet_of h
      rw [eM2]
      refine zG_run hm 6 (cf' := (30, [some (zr 42 0), some (zi v1), some (zi v2)], [], (zput M2 42 0 37 ((M2 42 0 37) + 1)))) rfl ?_
      obtain ⟨M3, eM3, h⟩ := zlet_of h
      rw [eM3]
      cases h
      exact zG_rv hm rfl rfl
    · rw [if_neg c4] at h
      cases h
  · rw [if_neg c5] at h
    cases h
theorem met_X11_emits {v1 : Int} {v2 : Int} {M : zM} {q : zM} {d : Nat} (hd : 0 ≤ d) (h : f_X11_emits v1 v2 M = some q) : zMet 139 d [zr 42 0, zi v1, zi v2] M none q :=
  zMet_of (lv0 := [some (zr 42 0), some (zi v1), some (zi v2)]) zmok_139 rfl rfl (fun v hv => by cases hv) (g_X11_emits hd h)
def f_X11_top  (M : zM) : Option (Int × zM) :=
  if 0 ≤ zw ((M 42 0 22) - 1) ∧ zw ((M 42 0 22) - 1) < 40 then
    some ((M 54 0 (zix ((M 42 0 22) - 1))), M)
  else
    none
theorem g_X11_top  {M : zM} {q : Int × zM} {d : Nat} (hd : 0 ≤ d) (h : f_X11_top  M = some q) : zG 141 d (0, [some (zr 42 0)], [], M) (some (zi q.1)) q.2 := by
  have hm := zmok_141
  unfold f_X11_top at h
  refine zG_run hm 6 (cf' := (10, [some (zr 42 0)], [zi ((M 42 0 22) - 1), zr 54 0], M)) rfl ?_
  by_cases c1 : 0 ≤ zw ((M 42 0 22) - 1) ∧ zw ((M 42 0 22) - 1) < 40
  · rw [if_pos c1] at h
    refine zG_br hm rfl (cf' := (11, [some (zr 42 0)], [zi (M 54 0 (zix ((M 42 0 22) - 1)))], M)) (if_pos c1) ?_
    cases h
    exact zG_ri hm rfl rfl
  · rw [if_neg c1] at h
    cases h
theorem met_X11_top  {M : zM} {q : Int × zM} {d : Nat} (hd : 0 ≤ d) (h : f_X11_top  M = some q) : zMet 141 d [zr 42 0] M (some (zi q.1)) q.2 :=
  zMet_of (lv0 := [some (zr 42 0)]) zmok_141 rfl rfl (fun v hv => by cases hv; trivial) (g_X11_top hd h)
def f_X11_bySecond  (M : zM) : Option (zM) :=
  (f_X11_isWord 11 M).bind fun p1 =>
    if ¬ zw p1.1 = 0 then
      if 0 ≤ zw ((p1.2 42 0 22) - 1) ∧ zw ((p1.2 42 0 22) - 1) < 40 then
        zlet (zput p1.2 54 0 (zix ((p1.2 42 0 22) - 1)) 11) fun M2 =>
        (f_X11_next  M2).bind fun p3 =>
          zlet (zput p3 42 0 28 1) fun M4 =>
          some M4
      else
        none
    else
      (f_X11_errs 1 p1.2).bind fun p6 =>
        some p6
theorem g_X11_bySecond  {M : zM} {q : zM} {d : Nat} (hd : 3 ≤ d) (h : f_X11_bySecond  M = some q) : zG 151 d (0, [some (zr 42 0)], [], M) none q := by
  have hm := zmok_151
  unfold f_X11_bySecond at h
  refine zG_run hm 2 (cf' := (3, [some (zr 42 0)], [zi 11, zr 42 0], M)) rfl ?_
  obtain ⟨p1, hp1, h⟩ := Option.bind_eq_some_iff.mp h
  refine zG_V hm zmok_137 rfl (as := [zi 11]) (rest := []) (st2 := [zi p1.1]) (pc2 := 6) rfl rfl (by omega) (met_X11_isWord (d := 0) (Nat.le_refl _) hp1) rfl ?_
  by_cases c7 : ¬ zw p1.1 = 0
  · rw [if_pos c7] at h
    refine zG_br hm rfl (cf' := (15, [some (zr 42 0)], [], p1.2)) (if_pos c7) ?_
    refine zG_run hm 7 (cf' := (27, [some (zr 42 0)], [zi 11, zi ((p1.2 42 0 22) - 1), zr 54 0], p1.2)) rfl ?_
    by_cases c5 : 0 ≤ zw ((p1.2 42 0 22) - 1) ∧ zw ((p1.2 42 0 22) - 1) < 40
    · rw [if_pos c5] at h
      refine zG_br hm rfl (cf' := (28, [some (zr 42 0)], [], (zput p1.2 54 0 (zix ((p1.2 42 0 22) - 1)) 11))) (if_pos c5) ?_
      obtain ⟨M2, eM2, h⟩ := zlet_of h
      rw [eM2]
      refine zG_run hm 1 (cf' := (29, [some (zr 42 0)], [zr 42 0], M2)) rfl ?_
      obtain ⟨p3, hp3, h⟩ := Option.bind_eq_some_iff.mp h
      refine zG_V hm zmok_135 rfl (as := []) (rest := []) (st2 := []) (pc2 := 32) rfl rfl (by omega) (met_X11_next (d := 2) (Nat.le_refl _) hp3) rfl ?_
      refine zG_run hm 3 (cf' := (37, [some (zr 42 0)], [], (zput p3 42 0 28 1))) rfl ?_
      obtain ⟨M4, eM4, h⟩ := zlet_of h
      rw [eM4]
      cases h
      exact zG_rv hm rfl rfl
    · rw [if_neg c5] at h
      cases h
  · rw [if_neg c7] at h
    refine zG_br hm rfl (cf' := (9, [some (zr 42 0)], [], p1.2)) (if_neg c7) ?_
    refine zG_run hm 2 (cf' := (11, [some (zr 42 0)], [zi 1, zr 42 0], p1.2)) rfl ?_
    obtain ⟨p6, hp6, h⟩ := Option.bind_eq_some_iff.mp h
    refine zG_V hm zmok_138 rfl (as := [zi 1]) (rest := []) (st2 := []) (pc2 := 14) rfl rfl (by omega) (met_X11_errs (d := 0) (Nat.le_refl _) hp6) rfl ?_
    cases h
    exact zG_rv hm rfl rfl
theorem met_X11_bySecond  {M : zM} {q : zM} {d : Nat} (hd : 3 ≤ d) (h : f_X11_bySecond  M = some q) : zMet 151 d [zr 42 0] M none q :=
  zMet_of (lv0 := [some (zr 42 0)]) zmok_151 rfl rfl (fun v hv => by cases hv) (g_X11_bySecond hd h)
def f_X11_oneIsOver_j37 (vs0 : Int) (M : zM) : Option ((zM) ⊕ (zM)) :=
  (f_X11_emits vs0 0 M).bind fun p3 =>
    zlet (zput p3 42 0 22 ((p3 42 0 22) - 1)) fun M4 =>
    zlet (zput M4 42 0 21 ((M4 42 0 21) - 1)) fun M5 =>
    some (.inl M5)
theorem g_X11_oneIsOver_j37 {vs0 : Int} {M : zM} {x : (zM) ⊕ (zM)} {r : Option zV} {Mf : zM} {d : Nat} (hd : 4 ≤ d) (h : f_X11_oneIsOver_j37 vs0 M = some x)
    (kc : ∀ s, x = .inl s → zG 150 d (0, [some (zr 42 0)], [], s) r Mf)
    (kb : ∀ t, x = .inr t → zG 150 d (64, [some (zr 42 0)], [], t) r Mf) (kr : True) : zG 150 d (37, [some (zr 42 0)], [zi vs0, zr 42 0], M) r Mf := by
  have hm := zmok_150
  unfold f_X11_oneIsOver_j37 at h
  refine zG_run hm 1 (cf' := (38, [some (zr 42 0)], [zi 0, zi vs0, zr 42 0], M)) rfl ?_
  obtain ⟨p3, hp3, h⟩ := Option.bind_eq_some_iff.mp h
  refine zG_V hm zmok_139 rfl (as := [zi vs0, zi 0]) (rest := []) (st2 := []) (pc2 := 41) rfl rfl (by omega) (met_X11_emits (d := 0) (Nat.le_refl _) hp3) rfl ?_
  refine zG_run hm 6 (cf' := (51, [some (zr 42 0)], [], (zput p3 42 0 22 ((p3 42 0 22) - 1)))) rfl ?_
  obtain ⟨M4, eM4, h⟩ := zlet_of h
  rw [eM4]
  refine zG_run hm 6 (cf' := (61, [some (zr 42 0)], [], (zput M4 42 0 21 ((M4 42 0 21) - 1)))) rfl ?_
  obtain ⟨M5, eM5, h⟩ := zlet_of h
  rw [eM5]
  refine zG_run hm 1 (cf' := (0, [some (zr 42 0)], [], M5)) rfl ?_
  refine zG_sub (lv' := [some (zr 42 0)]) (zsb_s rfl zsb_0) ?_
  exact kc M5 (Option.some.inj h).symm
def f_X11_oneIsOver_j18  (M : zM) : Option ((zM) ⊕ (zM)) :=
  (f_X11_top  M).bind fun p2 =>
    if ¬ zw p2.1 = 7 then
      f_X11_oneIsOver_j37 403 p2.2
    else
      f_X11_oneIsOver_j37 402 p2.2
theorem g_X11_oneIsOver_j18  {M : zM} {x : (zM) ⊕ (zM)} {r : Option zV} {Mf : zM} {d : Nat} (hd : 4 ≤ d) (h : f_X11_oneIsOver_j18  M = some x)
    (kc : ∀ s, x = .inl s → zG 150 d (0, [some (zr 42 0)], [], s) r Mf)
    (kb : ∀ t, x = .inr t → zG 150 d (64, [some (zr 42 0)], [], t) r Mf) (kr : True) : zG 150 d (18, [some (zr 42 0)], [], M) r Mf := by
  have hm := zmok_150
  unfold f_X11_oneIsOver_j18 at h
  refine zG_run hm 2 (cf' := (20, [some (zr 42 0)], [zr 42 0, zr 42 0], M)) rfl ?_
  obtain ⟨p2, hp2, h⟩ := Option.bind_eq_some_iff.mp h
  refine zG_V hm zmok_141 rfl (as := []) (rest := [zr 42 0]) (st2 := [zi p2.1, zr 42 0]) (pc2 := 23) rfl rfl (by omega) (met_X11_top (d := 0) (Nat.le_refl _) hp2) rfl ?_
  refine zG_run hm 1 (cf' := (25, [some (zr 42 0)], [zi 7, zi p2.1, zr 42 0], p2.2)) rfl ?_
  by_cases c6 : ¬ zw p2.1 = 7
  · rw [if_pos c6] at h
    refine zG_br hm rfl (cf' := (34, [some (zr 42 0)], [zr 42 0], p2.2)) (if_pos c6) ?_
    refine zG_run hm 1 (cf' := (37, [some (zr 42 0)], [zi 403, zr 42 0], p2.2)) rfl ?_
    refine zG_sub (lv' := [some (zr 42 0)]) (zsb_s rfl zsb_0) ?_
    exact g_X11_oneIsOver_j37 hd h kc kb kr
  · rw [if_neg c6] at h
    refine zG_br hm rfl (cf' := (28, [some (zr 42 0)], [zr 42 0], p2.2)) (if_neg c6) ?_
    refine zG_run hm 2 (cf' := (37, [some (zr 42 0)], [zi 402, zr 42 0], p2.2)) rfl ?_
    refine zG_sub (lv' := [some (zr 42 0)]) (zsb_s rfl zsb_0) ?_
    exact g_X11_oneIsOver_j37 hd h kc kb kr
def f_X11_oneIsOver_L0  (M : zM) : Option ((zM) ⊕ (zM)) :=
  (f_X11_top  M).bind fun p1 =>
    if zw p1.1 = 7 then
      f_X11_oneIsOver_j18  p1.2
    else
      (f_X11_top  p1.2).bind fun p7 =>
        if ¬ zw p7.1 = 11 then
          some (.inr p7.2)
        else
          f_X11_oneIsOver_j18  p7.2
theorem g_X11_oneIsOver_L0  {M : zM} {x : (zM) ⊕ (zM)} {r : Option zV} {Mf : zM} {d : Nat} (hd : 4 ≤ d) (h : f_X11_oneIsOver_L0  M = some x)
    (kc : ∀ s, x = .inl s → zG 150 d (0, [some (zr 42 0)], [], s) r Mf)
    (kb : ∀ t, x = .inr t → zG 150 d (64, [some (zr 42 0)], [], t) r Mf) (kr : True) : zG 150 d (0, [some (zr 42 0)], [], M) r Mf := by
  have hm := zmok_150
  unfold f_X11_oneIsOver_L0 at h
  refine zG_run hm 1 (cf' := (1, [some (zr 42 0)], [zr 42 0], M)) rfl ?_
  obtain ⟨p1, hp1, h⟩ := Option.bind_eq_some_iff.mp h
  refine zG_V hm zmok_141 rfl (as := []) (rest := []) (st2 := [zi p1.1]) (pc2 := 4) rfl rfl (by omega) (met_X11_top (d := 0) (Nat.le_refl _) hp1) rfl ?_
  refine zG_run hm 1 (cf' := (6, [some (zr 42 0)], [zi 7, zi p1.1], p1.2)) rfl ?_
  by_cases c9 : zw p1.1 = 7
  · rw [if_pos c9] at h
    refine zG_br hm rfl (cf' := (18, [some (zr 42 0)], [], p1.2)) (if_pos c9) ?_
    refine zG_sub (lv' := [some (zr 42 0)]) (zsb_s rfl zsb_0) ?_
    exact g_X11_oneIsOver_j18 hd h kc kb kr
  · rw [if_neg c9] at h
    refine zG_br hm rfl (cf' := (9, [some (zr 42 0)], [], p1.2)) (if_neg c9) ?_
    refine zG_run hm 1 (cf' := (10, [some (zr 42 0)], [zr 42 0], p1.2)) rfl ?_
    obtain ⟨p7, hp7, h⟩ := Option.bind_eq_some_iff.mp h
    refine zG_V hm zmok_141 rfl (as := []) (rest := []) (st2 := [zi p7.1]) (pc2 := 13) rfl rfl (by omega) (met_X11_top (d := 0) (Nat.le_refl _) hp7) rfl ?_
    refine zG_run hm 1 (cf' := (15, [some (zr 42 0)], [zi 11, zi p7.1], p7.2)) rfl ?_
    by_cases c8 : ¬ zw p7.1 = 11
    · rw [if_pos c8] at h
      refine zG_br hm rfl (cf' := (64, [some (zr 42 0)], [], p7.2)) (if_pos c8) ?_
      refine zG_sub (lv' := [some (zr 42 0)]) (zsb_s rfl zsb_0) ?_
      exact kb p7.2 (Option.some.inj h).symm
    · rw [if_neg c8] at h
      refine zG_br hm rfl (cf' := (18, [some (zr 42 0)], [], p7.2)) (if_neg c8) ?_
      refine zG_sub (lv' := [some (zr 42 0)]) (zsb_s rfl zsb_0) ?_
      exact g_X11_oneIsOver_j18 hd h kc kb kr
theorem gl_X11_oneIsOver_L0  {y : zM} {r : Option zV} {Mf : zM} {d : Nat} (hd : 4 ≤ d)
    (kb : ∀ t, y = t → zG 150 d (64, [some (zr 42 0)], [], t) r Mf) (kr : True) : ∀ (n : Nat) (s : zM), zlp (fun s : zM => f_X11_oneIsOver_L0   s) n s = some y → zG 150 d (0, [some (zr 42 0)], [], s) r Mf := by
  intro n
  induction n with
  | zero => intro s h; cases h
  | succ n ih =>
    intro s h
    rcases zlp_cases h with ⟨s', h1, h2⟩ | h1
    · exact g_X11_oneIsOver_L0 hd h1 (fun s2 e2 => by cases e2; exact ih _ h2) (fun t e2 => by cases e2) trivial
    · exact g_X11_oneIsOver_L0 hd h1 (fun s2 e2 => by cases e2) (fun t e2 => kb t (Sum.inr.inj e2)) trivial
def f_X11_oneIsOver  (M : zM) : Option (zM) :=
  (zlp (fun s : zM => f_X11_oneIsOver_L0   s) zF M).bind fun y10 =>
    zlet (zput y10 42 0 28 2) fun M11 =>
    (f_X11_top  M11).bind fun p12 =>
      if ¬ zw p12.1 = 10 then
        some p12.2
      else
        (f_X11_bySecond  p12.2).bind fun p13 =>
          some p13
theorem g_X11_oneIsOver  {M : zM} {q : zM} {d : Nat} (hd : 4 ≤ d) (h : f_X11_oneIsOver  M = some q) : zG 150 d (0, [some (zr 42 0)], [], M) none q := by
  have hm := zmok_150
  unfold f_X11_oneIsOver at h
  refine zG_sub (lv' := [some (zr 42 0)]) (zsb_s rfl zsb_0) ?_
  obtain ⟨y10, hy10, h⟩ := Option.bind_eq_some_iff.mp h
  refine gl_X11_oneIsOver_L0 hd (fun t e2 => ?_) trivial zF M hy10
  cases e2
  refine zG_run hm 3 (cf' := (69, [some (zr 42 0)], [], (zput y10 42 0 28 2))) rfl ?_
  obtain ⟨M11, eM11, h⟩ := zlet_of h
  rw [eM11]
  refine zG_run hm 1 (cf' := (70, [some (zr 42 0)], [zr 42 0], M11)) rfl ?_
  obtain ⟨p12, hp12, h⟩ := Option.bind_eq_some_iff.mp h
  refine zG_V hm zmok_141 rfl (as := []) (rest := []) (st2 := [zi p12.1]) (pc2 := 73) rfl rfl (by omega) (met_X11_top (d := 0) (Nat.le_refl _) hp12) rfl ?_
  refine zG_run hm 1 (cf' := (75, [some (zr 42 0)], [zi 10, zi p12.1], p12.2)) rfl ?_
  by_cases c14 : ¬ zw p12.1 = 10
  · rw [if_pos c14] at h
    refine zG_br hm rfl (cf' := (82, [some (zr 42 0)], [], p12.2)) (if_pos c14) ?_
    cases h
    exact zG_rv hm rfl rfl
  · rw [if_neg c14] at h
    refine zG_br hm rfl (cf' := (78, [some (zr 42 0)], [], p12.2)) (if_neg c14) ?_
    refine zG_run hm 1 (cf' := (79, [some (zr 42 0)], [zr 42 0], p12.2)) rfl ?_
    obtain ⟨p13, hp13, h⟩ := Option.bind_eq_some_iff.mp h
    refine zG_V hm zmok_151 rfl (as := []) (rest := []) (st2 := []) (pc2 := 82) rfl rfl (by omega) (met_X11_bySecond (d := 3) (Nat.le_refl _) hp13) rfl ?_
    cases h
    exact zG_rv hm rfl rfl
theorem met_X11_oneIsOver  {M : zM} {q : zM} {d : Nat} (hd : 4 ≤ d) (h : f_X11_oneIsOver  M = some q) : zMet 150 d [zr 42 0] M none q :=
  zMet_of (lv0 := [some (zr 42 0)]) zmok_150 rfl rfl (fun v hv => by cases hv) (g_X11_oneIsOver hd h)
def f_X11_begins_j175 (vs0 : Int) (M : zM) : Option (zM) :=
  (f_X11_opensSign vs0 M).bind fun p6 =>
    some p6.2
theorem g_X11_begins_j175 {vs0 : Int} {M : zM} {q : zM} {d : Nat} (hd : 5 ≤ d) (h : f_X11_begins_j175 vs0 M = some q) : zG 149 d (175, [none, none, none], [zi vs0, zr 42 0], M) none q := by
  have hm := zmok_149
  unfold f_X11_begins_j175 at h
  obtain ⟨p6, hp6, h⟩ := Option.bind_eq_some_iff.mp h
  refine zG_V hm zmok_142 rfl (as := [zi vs0]) (rest := []) (st2 := [zi p6.1]) (pc2 := 178) rfl rfl (by omega) (met_X11_opensSign (d := 3) (Nat.le_refl _) hp6) rfl ?_
  refine zG_run hm 2 (cf' := (187, [none, none, some (zi p6.1)], [], p6.2)) rfl ?_
  cases h
  exact zG_rv hm rfl rfl
def f_X11_begins_j144  (M : zM) : Option (zM) :=
  (f_X11_isSign 40 M).bind fun p4 =>
    if zw p4.1 = 0 then
      (f_X11_isSign 45 p4.2).bind fun p5 =>
        if zw p5.1 = 0 then
          f_X11_begins_j175 10 p5.2
        else
          f_X11_begins_j175 7 p5.2
    else
      f_X11_begins_j175 6 p4.2
theorem g_X11_begins_j144  {M : zM} {q : zM} {d : Nat} (hd : 5 ≤ d) (h : f_X11_begins_j144  M = some q) : zG 149 d (144, [some (zr 42 0), none, none], [], M) none q := by
  have hm := zmok_149
  unfold f_X11_begins_j144 at h
  refine zG_run hm 3 (cf' := (148, [some (zr 42 0), none, none], [zi 40, zr 42 0, zr 42 0], M)) rfl ?_
  obtain ⟨p4, hp4, h⟩ := Option.bind_eq_some_iff.mp h
  refine zG_V hm zmok_136 rfl (as := [zi 40]) (rest := [zr 42 0]) (st2 := [zi p4.1, zr 42 0]) (pc2 := 151) rfl rfl (by omega) (met_X11_isSign (d := 0) (Nat.le_refl _) hp4) rfl ?_
  by_cases c8 : zw p4.1 = 0
  · rw [if_pos c8] at h
    refine zG_br hm rfl (cf' := (159, [some (zr 42 0), none, none], [zr 42 0], p4.2)) (if_pos c8) ?_
    refine zG_run hm 2 (cf' := (162, [some (zr 42 0), none, none], [zi 45, zr 42 0, zr 42 0], p4.2)) rfl ?_
    obtain ⟨p5, hp5, h⟩ := Option.bind_eq_some_iff.mp h
    refine zG_V hm zmok_136 rfl (as := [zi 45]) (rest := [zr 42 0]) (st2 := [zi p5.1, zr 42 0]) (pc2 := 165) rfl rfl (by omega) (met_X11_isSign (d := 0) (Nat.le_refl _) hp5) rfl ?_
    by_cases c7 : zw p5.1 = 0
    · rw [if_pos c7] at h
      refine zG_br hm rfl (cf' := (173, [some (zr 42 0), none, none], [zr 42 0], p5.2)) (if_pos c7) ?_
      refine zG_run hm 1 (cf' := (175, [some (zr 42 0), none, none], [zi 10, zr 42 0], p5.2)) rfl ?_
      refine zG_sub (lv' := [none, none, none]) (zsb_n (zsb_n (zsb_n zsb_0))) ?_
      exact g_X11_begins_j175 hd h
    · rw [if_neg c7] at h
      refine zG_br hm rfl (cf' := (168, [some (zr 42 0), none, none], [zr 42 0], p5.2)) (if_neg c7) ?_
      refine zG_run hm 2 (cf' := (175, [some (zr 42 0), none, none], [zi 7, zr 42 0], p5.2)) rfl ?_
      refine zG_sub (lv' := [none, none, none]) (zsb_n (zsb_n (zsb_n zsb_0))) ?_
      exact g_X11_begins_j175 hd h
  · rw [if_neg c8] at h
    refine zG_br hm rfl (cf' := (154, [some (zr 42 0), none, none], [zr 42 0], p4.2)) (if_neg c8) ?_
    refine zG_run hm 2 (cf' := (175, [some (zr 42 0), none, none], [zi 6, zr 42 0], p4.2)) rfl ?_
    refine zG_sub (lv' := [none, none, none]) (zsb_n (zsb_n (zsb_n zsb_0))) ?_
    exact g_X11_begins_j175 hd h
def f_X11_begins  (M : zM) : Option (zM) :=
  (f_X11_nameNow  M).bind fun p1 =>
    if ¬ zw (p1.2 42 0 17) = 2 then
      if zw p1.1 = (-1) then
        (f_X11_isWord 14 p1.2).bind fun p2 =>
          if zw p2.1 = 0 then
            (f_X11_isSign 40 p2.2).bind fun p3 =>
              if ¬ zw p3.1 = 0 then
                f_X11_begins_j144  p3.2
              else
                (f_X11_isSign 45 p3.2).bind fun p9 =>
                  if ¬ zw p9.1 = 0 then
                    f_X11_begins_j144  p9.2
                  else
                    (f_X11_isWord 13 p9.2).bind fun p10 =>
                      if zw p10.1 = 0 then
                        (f_X11_errs 1 p10.2).bind fun p11 =>
                          some p11
                      else
                        f_X11_begins_j144  p10.2
          else
            (f_X11_opensSign 2 p2.2).bind fun p15 =>
              if zw p15.1 = 0 then
                some p15.2
              else
                zlet (zput p15.2 42 0 28 0) fun M16 =>
                some M16
      else
        (f_X11_mayName p1.1 (p1.2 42 0 31) p1.2).bind fun p19 =>
          if ¬ zw p19.1 = 0 then
            (f_X11_emits 401 p1.1 p19.2).bind fun p20 =>
              (f_X11_next  p20).bind fun p21 =>
                (f_X11_oneIsOver  p21).bind fun p22 =>
                  some p22
          else
            (f_X11_errs 5 p19.2).bind fun p23 =>
              some p23
    else
      if zw (p1.2 42 0 18) ≤ 9999 then
        (f_X11_emits 400 (p1.2 42 0 18) p1.2).bind fun p26 =>
          (f_X11_next  p26).bind fun p27 =>
            (f_X11_oneIsOver  p27).bind fun p28 =>
              some p28
      else
        (f_X11_errs 2 p1.2).bind fun p29 =>
          some p29
theorem g_X11_begins  {M : zM} {q : zM} {d : Nat} (hd : 5 ≤ d) (h : f_X11_begins  M = some q) : zG 149 d (0, [some (zr 42 0), none, none], [], M) none q := by
  have hm := zmok_149
  unfold f_X11_begins at h
  refine zG_run hm 1 (cf' := (1, [some (zr 42 0), none, none], [zr 42 0], M)) rfl ?_
  obtain ⟨p1, hp1, h⟩ := Option.bind_eq_some_iff.mp h
  refine zG_V hm zmok_148 rfl (as := []) (rest := []) (st2 := [zi p1.1]) (pc2 := 4) rfl rfl (by omega) (met_X11_nameNow (d := 0) (Nat.le_refl _) hp1) rfl ?_
  refine zG_run hm 4 (cf' := (10, [some (zr 42 0), some (zi p1.1), none], [zi 2, zi (p1.2 42 0 17)], p1.2)) rfl ?_
  by_cases c31 : ¬ zw (p1.2 42 0 17) = 2
  · rw [if_pos c31] at h
    refine zG_br hm rfl (cf' := (51, [some (zr 42 0), some (zi p1.1), none], [], p1.2)) (if_pos c31) ?_
    refine zG_run hm 2 (cf' := (53, [some (zr 42 0), some (zi p1.1), none], [zi (-1), zi p1.1], p1.2)) rfl ?_
    by_cases c25 : zw p1.1 = (-1)
    · rw [if_pos c25] at h
      refine zG_br hm rfl (cf' := (92, [some (zr 42 0), some (zi p1.1), none], [], p1.2)) (if_pos c25) ?_
      refine zG_run hm 2 (cf' := (95, [some (zr 42 0), some (zi p1.1), none], [zi 14, zr 42 0], p1.2)) rfl ?_
      obtain ⟨p2, hp2, h⟩ := Option.bind_eq_some_iff.mp h
      refine zG_V hm zmok_137 rfl (as := [zi 14]) (rest := []) (st2 := [zi p2.1]) (pc2 := 98) rfl rfl (by omega) (met_X11_isWord (d := 0) (Nat.le_refl _) hp2) rfl ?_
      by_cases c18 : zw p2.1 = 0
      · rw [if_pos c18] at h
        refine zG_br hm rfl (cf' := (117, [some (zr 42 0), some (zi p1.1), none], [], p2.2)) (if_pos c18) ?_
        refine zG_run hm 2 (cf' := (120, [some (zr 42 0), some (zi p1.1), none], [zi 40, zr 42 0], p2.2)) rfl ?_
        obtain ⟨p3, hp3, h⟩ := Option.bind_eq_some_iff.mp h
        refine zG_V hm zmok_136 rfl (as := [zi 40]) (rest := []) (st2 := [zi p3.1]) (pc2 := 123) rfl rfl (by omega) (met_X11_isSign (d := 0) (Nat.le_refl _) hp3) rfl ?_
        by_cases c14 : ¬ zw p3.1 = 0
        · rw [if_pos c14] at h
          refine zG_br hm rfl (cf' := (144, [some (zr 42 0), some (zi p1.1), none], [], p3.2)) (if_pos c14) ?_
          refine zG_sub (lv' := [some (zr 42 0), none, none]) (zsb_s rfl (zsb_n (zsb_n zsb_0))) ?_
          exact g_X11_begins_j144 hd h
        · rw [if_neg c14] at h
          refine zG_br hm rfl (cf' := (126, [some (zr 42 0), some (zi p1.1), none], [], p3.2)) (if_neg c14) ?_
          refine zG_run hm 2 (cf' := (129, [some (zr 42 0), some (zi p1.1), none], [zi 45, zr 42 0], p3.2)) rfl ?_
          obtain ⟨p9, hp9, h⟩ := Option.bind_eq_some_iff.mp h
          refine zG_V hm zmok_136 rfl (as := [zi 45]) (rest := []) (st2 := [zi p9.1]) (pc2 := 132) rfl rfl (by omega) (met_X11_isSign (d := 0) (Nat.le_refl _) hp9) rfl ?_
          by_cases c13 : ¬ zw p9.1 = 0
          · rw [if_pos c13] at h
            refine zG_br hm rfl (cf' := (144, [some (zr 42 0), some (zi p1.1), none], [], p9.2)) (if_pos c13) ?_
            refine zG_sub (lv' := [some (zr 42 0), none, none]) (zsb_s rfl (zsb_n (zsb_n zsb_0))) ?_
            exact g_X11_begins_j144 hd h
          · rw [if_neg c13] at h
            refine zG_br hm rfl (cf' := (135, [some (zr 42 0), some (zi p1.1), none], [], p9.2)) (if_neg c13) ?_
            refine zG_run hm 2 (cf' := (138, [some (zr 42 0), some (zi p1.1), none], [zi 13, zr 42 0], p9.2)) rfl ?_
            obtain ⟨p10, hp10, h⟩ := Option.bind_eq_some_iff.mp h
            refine zG_V hm zmok_137 rfl (as := [zi 13]) (rest := []) (st2 := [zi p10.1]) (pc2 := 141) rfl rfl (by omega) (met_X11_isWord (d := 0) (Nat.le_refl _) hp10) rfl ?_
            by_cases c12 : zw p10.1 = 0
            · rw [if_pos c12] at h
              refine zG_br hm rfl (cf' := (182, [some (zr 42 0), some (zi p1.1), none], [], p10.2)) (if_pos c12) ?_
              refine zG_run hm 2 (cf' := (184, [some (zr 42 0), some (zi p1.1), none], [zi 1, zr 42 0], p10.2)) rfl ?_
              obtain ⟨p11, hp11, h⟩ := Option.bind_eq_some_iff.mp h
              refine zG_V hm zmok_138 rfl (as := [zi 1]) (rest := []) (st2 := []) (pc2 := 187) rfl rfl (by omega) (met_X11_errs (d := 0) (Nat.le_refl _) hp11) rfl ?_
              cases h
              exact zG_rv hm rfl rfl
            · rw [if_neg c12] at h
              refine zG_br hm rfl (cf' := (144, [some (zr 42 0), some (zi p1.1), none], [], p10.2)) (if_neg c12) ?_
              refine zG_sub (lv' := [some (zr 42 0), none, none]) (zsb_s rfl (zsb_n (zsb_n zsb_0))) ?_
              exact g_X11_begins_j144 hd h
      · rw [if_neg c18] at h
        refine zG_br hm rfl (cf' := (101, [some (zr 42 0), some (zi p1.1), none], [], p2.2)) (if_neg c18) ?_
        refine zG_run hm 2 (cf' := (103, [some (zr 42 0), some (zi p1.1), none], [zi 2, zr 42 0], p2.2)) rfl ?_
        obtain ⟨p15, hp15, h⟩ := Option.bind_eq_some_iff.mp h
        refine zG_V hm zmok_142 rfl (as := [zi 2]) (rest := []) (st2 := [zi p15.1]) (pc2 := 106) rfl rfl (by omega) (met_X11_opensSign (d := 3) (Nat.le_refl _) hp15) rfl ?_
        by_cases c17 : zw p15.1 = 0
        · rw [if_pos c17] at h
          refine zG_br hm rfl (cf' := (187, [some (zr 42 0), some (zi p1.1), none], [], p15.2)) (if_pos c17) ?_
          cases h
          exact zG_rv hm rfl rfl
        · rw [if_neg c17] at h
          refine zG_br hm rfl (cf' := (109, [some (zr 42 0), some (zi p1.1), none], [], p15.2)) (if_neg c17) ?_
          refine zG_run hm 3 (cf' := (114, [some (zr 42 0), some (zi p1.1), none], [], (zput p15.2 42 0 28 0))) rfl ?_
          obtain ⟨M16, eM16, h⟩ := zlet_of h
          rw [eM16]
          refine zG_run hm 1 (cf' := (187, [some (zr 42 0), some (zi p1.1), none], [], M16)) rfl ?_
          cases h
          exact zG_rv hm rfl rfl
    · rw [if_neg c25] at h
      refine zG_br hm rfl (cf' := (56, [some (zr 42 0), some (zi p1.1), none], [], p1.2)) (if_neg c25) ?_
      refine zG_run hm 3 (cf' := (61, [some (zr 42 0), some (zi p1.1), none], [zi (p1.2 42 0 31), zi p1.1], p1.2)) rfl ?_
      obtain ⟨p19, hp19, h⟩ := Option.bind_eq_some_iff.mp h
      refine zG_S hm zmok_147 rfl (as := [zi p1.1, zi (p1.2 42 0 31)]) (rest := []) (st2 := [zi p19.1]) (pc2 := 64) rfl rfl (by omega) (met_X11_mayName (d := 0) (Nat.le_refl _) hp19) rfl ?_
      by_cases c24 : ¬ zw p19.1 = 0
      · rw [if_pos c24] at h
        refine zG_br hm rfl (cf' := (73, [some (zr 42 0), some (zi p1.1), none], [], p19.2)) (if_pos c24) ?_
        refine zG_run hm 3 (cf' := (78, [some (zr 42 0), some (zi p1.1), none], [zi p1.1, zi 401, zr 42 0], p19.2)) rfl ?_
        obtain ⟨p20, hp20, h⟩ := Option.bind_eq_some_iff.mp h
        refine zG_V hm zmok_139 rfl (as := [zi 401, zi p1.1]) (rest := []) (st2 := []) (pc2 := 81) rfl rfl (by omega) (met_X11_emits (d := 0) (Nat.le_refl _) hp20) rfl ?_
        refine zG_run hm 1 (cf' := (82, [some (zr 42 0), some (zi p1.1), none], [zr 42 0], p20)) rfl ?_
        obtain ⟨p21, hp21, h⟩ := Option.bind_eq_some_iff.mp h
        refine zG_V hm zmok_135 rfl (as := []) (rest := []) (st2 := []) (pc2 := 85) rfl rfl (by omega) (met_X11_next (d := 2) (Nat.le_refl _) hp21) rfl ?_
        refine zG_run hm 1 (cf' := (86, [some (zr 42 0), some (zi p1.1), none], [zr 42 0], p21)) rfl ?_
        obtain ⟨p22, hp22, h⟩ := Option.bind_eq_some_iff.mp h
        refine zG_V hm zmok_150 rfl (as := []) (rest := []) (st2 := []) (pc2 := 89) rfl rfl (by omega) (met_X11_oneIsOver (d := 4) (Nat.le_refl _) hp22) rfl ?_
        refine zG_run hm 1 (cf' := (187, [some (zr 42 0), some (zi p1.1), none], [], p22)) rfl ?_
        cases h
        exact zG_rv hm rfl rfl
      · rw [if_neg c24] at h
        refine zG_br hm rfl (cf' := (67, [some (zr 42 0), some (zi p1.1), none], [], p19.2)) (if_neg c24) ?_
        refine zG_run hm 2 (cf' := (69, [some (zr 42 0), some (zi p1.1), none], [zi 5, zr 42 0], p19.2)) rfl ?_
        obtain ⟨p23, hp23, h⟩ := Option.bind_eq_some_iff.mp h
        refine zG_V hm zmok_138 rfl (as := [zi 5]) (rest := []) (st2 := []) (pc2 := 72) rfl rfl (by omega) (met_X11_errs (d := 0) (Nat.le_refl _) hp23) rfl ?_
        cases h
        exact zG_rv hm rfl rfl
  · rw [if_neg c31] at h
    refine zG_br hm rfl (cf' := (13, [some (zr 42 0), some (zi p1.1), none], [], p1.2)) (if_neg c31) ?_
    refine zG_run hm 3 (cf' := (20, [some (zr 42 0), some (zi p1.1), none], [zi 9999, zi (p1.2 42 0 18)], p1.2)) rfl ?_
    by_cases c30 : zw (p1.2 42 0 18) ≤ 9999
    · rw [if_pos c30] at h
      refine zG_br hm rfl (cf' := (29, [some (zr 42 0), some (zi p1.1), none], [], p1.2)) (if_pos c30) ?_
      refine zG_run hm 4 (cf' := (37, [some (zr 42 0), some (zi p1.1), none], [zi (p1.2 42 0 18), zi 400, zr 42 0], p1.2)) rfl ?_
      obtain ⟨p26, hp26, h⟩ := Option.bind_eq_some_iff.mp h
      refine zG_V hm zmok_139 rfl (as := [zi 400, zi (p1.2 42 0 18)]) (rest := []) (st2 := []) (pc2 := 40) rfl rfl (by omega) (met_X11_emits (d := 0) (Nat.le_refl _) hp26) rfl ?_
      refine zG_run hm 1 (cf' := (41, [some (zr 42 0), some (zi p1.1), none], [zr 42 0], p26)) rfl ?_
      obtain ⟨p27, hp27, h⟩ := Option.bind_eq_some_iff.mp h
      refine zG_V hm zmok_135 rfl (as := []) (rest := []) (st2 := []) (pc2 := 44) rfl rfl (by omega) (met_X11_next (d := 2) (Nat.le_refl _) hp27) rfl ?_
      refine zG_run hm 1 (cf' := (45, [some (zr 42 0), some (zi p1.1), none], [zr 42 0], p27)) rfl ?_
      obtain ⟨p28, hp28, h⟩ := Option.bind_eq_some_iff.mp h
      refine zG_V hm zmok_150 rfl (as := []) (rest := []) (st2 := []) (pc2 := 48) rfl rfl (by omega) (met_X11_oneIsOver (d := 4) (Nat.le_refl _) hp28) rfl ?_
      refine zG_run hm 1 (cf' := (187, [some (zr 42 0), some (zi p1.1), none], [], p28)) rfl ?_
      cases h
      exact zG_rv hm rfl rfl
    · rw [if_neg c30] at h
      refine zG_br hm rfl (cf' := (23, [some (zr 42 0), some (zi p1.1), none], [], p1.2)) (if_neg c30) ?_
      refine zG_run hm 2 (cf' := (25, [some (zr 42 0), some (zi p1.1), none], [zi 2, zr 42 0], p1.2)) rfl ?_
      obtain ⟨p29, hp29, h⟩ := Option.bind_eq_some_iff.mp h
      refine zG_V hm zmok_138 rfl (as := [zi 2]) (rest := []) (st2 := []) (pc2 := 28) rfl rfl (by omega) (met_X11_errs (d := 0) (Nat.le_refl _) hp29) rfl ?_
      cases h
      exact zG_rv hm rfl rfl
theorem met_X11_begins  {M : zM} {q : zM} {d : Nat} (hd : 5 ≤ d) (h : f_X11_begins  M = some q) : zMet 149 d [zr 42 0] M none q :=
  zMet_of (lv0 := [some (zr 42 0), none, none]) zmok_149 rfl rfl (fun v hv => by cases hv) (g_X11_begins hd h)
def f_X11_rank (v0 : Int) (M : zM) : Option (Int × zM) :=
  if ¬ zw v0 = 407 then
    if ¬ zw v0 = 406 then
      if zw v0 = 43 then
        some (3, M)
      else
        if ¬ zw v0 = 45 then
          some (4, M)
        else
          some (3, M)
    else
      some (2, M)
  else
    some (1, M)
theorem g_X11_rank {v0 : Int} {M : zM} {q : Int × zM} {d : Nat} (hd : 0 ≤ d) (h : f_X11_rank v0 M = some q) : zG 143 d (0, [some (zi v0)], [], M) (some (zi q.1)) q.2 := by
  have hm := zmok_143
  unfold f_X11_rank at h
  refine zG_run hm 2 (cf' := (4, [some (zi v0)], [zi 407, zi v0], M)) rfl ?_
  by_cases c4 : ¬ zw v0 = 407
  · rw [if_pos c4] at h
    refine zG_br hm rfl (cf' := (11, [some (zi v0)], [], M)) (if_pos c4) ?_
    refine zG_run hm 2 (cf' := (15, [some (zi v0)], [zi 406, zi v0], M)) rfl ?_
    by_cases c3 : ¬ zw v0 = 406
    · rw [if_pos c3] at h
      refine zG_br hm rfl (cf' := (22, [some (zi v0)], [], M)) (if_pos c3) ?_
      refine zG_run hm 2 (cf' := (25, [some (zi v0)], [zi 43, zi v0], M)) rfl ?_
      by_cases c2 : zw v0 = 43
      · rw [if_pos c2] at h
        refine zG_br hm rfl (cf' := (34, [some (zi v0)], [], M)) (if_pos c2) ?_
        refine zG_run hm 2 (cf' := (39, [some (zi v0)], [zi 3], M)) rfl ?_
        cases h
        exact zG_ri hm rfl rfl
      · rw [if_neg c2] at h
        refine zG_br hm rfl (cf' := (28, [some (zi v0)], [], M)) (if_neg c2) ?_
        refine zG_run hm 2 (cf' := (31, [some (zi v0)], [zi 45, zi v0], M)) rfl ?_
        by_cases c1 : ¬ zw v0 = 45
        · rw [if_pos c1] at h
          refine zG_br hm rfl (cf' := (38, [some (zi v0)], [], M)) (if_pos c1) ?_
          refine zG_run hm 1 (cf' := (39, [some (zi v0)], [zi 4], M)) rfl ?_
          cases h
          exact zG_ri hm rfl rfl
        · rw [if_neg c1] at h
          refine zG_br hm rfl (cf' := (34, [some (zi v0)], [], M)) (if_neg c1) ?_
          refine zG_run hm 2 (cf' := (39, [some (zi v0)], [zi 3], M)) rfl ?_
          cases h
          exact zG_ri hm rfl rfl
    · rw [if_neg c3] at h
      refine zG_br hm rfl (cf' := (18, [some (zi v0)], [], M)) (if_neg c3) ?_
      refine zG_run hm 2 (cf' := (39, [some (zi v0)], [zi 2], M)) rfl ?_
      cases h
      exact zG_ri hm rfl rfl
  · rw [if_neg c4] at h
    refine zG_br hm rfl (cf' := (7, [some (zi v0)], [], M)) (if_neg c4) ?_
    refine zG_run hm 2 (cf' := (39, [some (zi v0)], [zi 1], M)) rfl ?_
    cases h
    exact zG_ri hm rfl rfl
theorem met_X11_rank {v0 : Int} {M : zM} {q : Int × zM} {d : Nat} (hd : 0 ≤ d) (h : f_X11_rank v0 M = some q) : zMet 143 d [zi v0] M (some (zi q.1)) q.2 :=
  zMet_of (lv0 := [some (zi v0)]) zmok_143 rfl rfl (fun v hv => by cases hv; trivial) (g_X11_rank hd h)
def f_X11_works_L0 (v1 : Int) (M : zM) : Option ((zM) ⊕ (zM)) :=
  if zw (M 42 0 25) ≤ 0 then
    some (.inr M)
  else
    if 0 ≤ zw ((M 42 0 25) - 1) ∧ zw ((M 42 0 25) - 1) < 80 then
      if ¬ zw (M 57 0 (zix ((M 42 0 25) - 1))) = zw (M 42 0 22) then
        some (.inr M)
      else
        if 0 ≤ zw ((M 42 0 25) - 1) ∧ zw ((M 42 0 25) - 1) < 80 then
          (f_X11_rank (M 56 0 (zix ((M 42 0 25) - 1))) M).bind fun p1 =>
            if zw p1.1 < zw v1 then
              some (.inr p1.2)
            else
              zlet (zput p1.2 42 0 25 ((p1.2 42 0 25) - 1)) fun M2 =>
              if 0 ≤ zw (M2 42 0 25) ∧ zw (M2 42 0 25) < 80 then
                (f_X11_emits (M2 56 0 (zix (M2 42 0 25))) 0 M2).bind fun p3 =>
                  some (.inl p3)
              else
                none
        else
          none
    else
      none
theorem g_X11_works_L0 {v1 : Int} {M : zM} {x : (zM) ⊕ (zM)} {r : Option zV} {Mf : zM} {d : Nat} (hd : 1 ≤ d) (h : f_X11_works_L0 v1 M = some x)
    (kc : ∀ s, x = .inl s → zG 144 d (0, [some (zr 42 0), some (zi v1)], [], s) r Mf)
    (kb : ∀ t, x = .inr t → zG 144 d (70, [none, none], [], t) r Mf) (kr : True) : zG 144 d (0, [some (zr 42 0), some (zi v1)], [], M) r Mf := by
  have hm := zmok_144
  unfold f_X11_works_L0 at h
  refine zG_run hm 2 (cf' := (4, [some (zr 42 0), some (zi v1)], [zi (M 42 0 25)], M)) rfl ?_
  by_cases c9 : zw (M 42 0 25) ≤ 0
  · rw [if_pos c9] at h
    refine zG_br hm rfl (cf' := (70, [some (zr 42 0), some (zi v1)], [], M)) (if_pos c9) ?_
    refine zG_sub (lv' := [none, none]) (zsb_n (zsb_n zsb_0)) ?_
    exact kb M (Option.some.inj h).symm
  · rw [if_neg c9] at h
    refine zG_br hm rfl (cf' := (7, [some (zr 42 0), some (zi v1)], [], M)) (if_neg c9) ?_
    refine zG_run hm 6 (cf' := (17, [some (zr 42 0), some (zi v1)], [zi ((M 42 0 25) - 1), zr 57 0], M)) rfl ?_
    by_cases c8 : 0 ≤ zw ((M 42 0 25) - 1) ∧ zw ((M 42 0 25) - 1) < 80
    · rw [if_pos c8] at h
      refine zG_br hm rfl (cf' := (18, [some (zr 42 0), some (zi v1)], [zi (M 57 0 (zix ((M 42 0 25) - 1)))], M)) (if_pos c8) ?_
      refine zG_run hm 2 (cf' := (22, [some (zr 42 0), some (zi v1)], [zi (M 42 0 22), zi (M 57 0 (zix ((M 42 0 25) - 1)))], M)) rfl ?_
      by_cases c7 : ¬ zw (M 57 0 (zix ((M 42 0 25) - 1))) = zw (M 42 0 22)
      · rw [if_pos c7] at h
        refine zG_br hm rfl (cf' := (70, [some (zr 42 0), some (zi v1)], [], M)) (if_pos c7) ?_
        refine zG_sub (lv' := [none, none]) (zsb_n (zsb_n zsb_0)) ?_
        exact kb M (Option.some.inj h).symm
      · rw [if_neg c7] at h
        refine zG_br hm rfl (cf' := (25, [some (zr 42 0), some (zi v1)], [], M)) (if_neg c7) ?_
        refine zG_run hm 6 (cf' := (35, [some (zr 42 0), some (zi v1)], [zi ((M 42 0 25) - 1), zr 56 0], M)) rfl ?_
        by_cases c6 : 0 ≤ zw ((M 42 0 25) - 1) ∧ zw ((M 42 0 25) - 1) < 80
        · rw [if_pos c6] at h
          refine zG_br hm rfl (cf' := (36, [some (zr 42 0), some (zi v1)], [zi (M 56 0 (zix ((M 42 0 25) - 1)))], M)) (if_pos c6) ?_
          obtain ⟨p1, hp1, h⟩ := Option.bind_eq_some_iff.mp h
          refine zG_S hm zmok_143 rfl (as := [zi (M 56 0 (zix ((M 42 0 25) - 1)))]) (rest := []) (st2 := [zi p1.1]) (pc2 := 39) rfl rfl (by omega) (met_X11_rank (d := 0) (Nat.le_refl _) hp1) rfl ?_
          refine zG_run hm 1 (cf' := (40, [some (zr 42 0), some (zi v1)], [zi v1, zi p1.1], p1.2)) rfl ?_
          by_cases c5 : zw p1.1 < zw v1
          · rw [if_pos c5] at h
            refine zG_br hm rfl (cf' := (70, [some (zr 42 0), some (zi v1)], [], p1.2)) (if_pos c5) ?_
            refine zG_sub (lv' := [none, none]) (zsb_n (zsb_n zsb_0)) ?_
            exact kb p1.2 (Option.some.inj h).symm
          · rw [if_neg c5] at h
            refine zG_br hm rfl (cf' := (43, [some (zr 42 0), some (zi v1)], [], p1.2)) (if_neg c5) ?_
            refine zG_run hm 6 (cf' := (53, [some (zr 42 0), some (zi v1)], [], (zput p1.2 42 0 25 ((p1.2 42 0 25) - 1)))) rfl ?_
            obtain ⟨M2, eM2, h⟩ := zlet_of h
            rw [eM2]
            refine zG_run hm 5 (cf' := (62, [some (zr 42 0), some (zi v1)], [zi (M2 42 0 25), zr 56 0, zr 42 0], M2)) rfl ?_
            by_cases c4 : 0 ≤ zw (M2 42 0 25) ∧ zw (M2 42 0 25) < 80
            · rw [if_pos c4] at h
              refine zG_br hm rfl (cf' := (63, [some (zr 42 0), some (zi v1)], [zi (M2 56 0 (zix (M2 42 0 25))), zr 42 0], M2)) (if_pos c4) ?_
              refine zG_run hm 1 (cf' := (64, [some (zr 42 0), some (zi v1)], [zi 0, zi (M2 56 0 (zix (M2 42 0 25))), zr 42 0], M2)) rfl ?_
              obtain ⟨p3, hp3, h⟩ := Option.bind_eq_some_iff.mp h
              refine zG_V hm zmok_139 rfl (as := [zi (M2 56 0 (zix (M2 42 0 25))), zi 0]) (rest := []) (st2 := []) (pc2 := 67) rfl rfl (by omega) (met_X11_emits (d := 0) (Nat.le_refl _) hp3) rfl ?_
              refine zG_run hm 1 (cf' := (0, [some (zr 42 0), some (zi v1)], [], p3)) rfl ?_
              refine zG_sub (lv' := [some (zr 42 0), some (zi v1)]) (zsb_s rfl (zsb_s rfl zsb_0)) ?_
              exact kc p3 (Option.some.inj h).symm
            · rw [if_neg c4] at h
              cases h
        · rw [if_neg c6] at h
          cases h
    · rw [if_neg c8] at h
      cases h
theorem gl_X11_works_L0 {v1 : Int} {y : zM} {r : Option zV} {Mf : zM} {d : Nat} (hd : 1 ≤ d)
    (kb : ∀ t, y = t → zG 144 d (70, [none, none], [], t) r Mf) (kr : True) : ∀ (n : Nat) (s : zM), zlp (fun s : zM => f_X11_works_L0 v1  s) n s = some y → zG 144 d (0, [some (zr 42 0), some (zi v1)], [], s) r Mf := by
  intro n
  induction n with
  | zero => intro s h; cases h
  | succ n ih =>
    intro s h
    rcases zlp_cases h with ⟨s', h1, h2⟩ | h1
    · exact g_X11_works_L0 hd h1 (fun s2 e2 => by cases e2; exact ih _ h2) (fun t e2 => by cases e2) trivial
    · exact g_X11_works_L0 hd h1 (fun s2 e2 => by cases e2) (fun t e2 => kb t (Sum.inr.inj e2)) trivial
def f_X11_works (v1 : Int) (M : zM) : Option (zM) :=
  (zlp (fun s : zM => f_X11_works_L0 v1  s) zF M).bind fun y10 =>
    some y10
theorem g_X11_works {v1 : Int} {M : zM} {q : zM} {d : Nat} (hd : 1 ≤ d) (h : f_X11_works v1 M = some q) : zG 144 d (0, [some (zr 42 0), some (zi v1)], [], M) none q := by
  have hm := zmok_144
  unfold f_X11_works at h
  refine zG_sub (lv' := [some (zr 42 0), some (zi v1)]) (zsb_s rfl (zsb_s rfl zsb_0)) ?_
  obtain ⟨y10, hy10, h⟩ := Option.bind_eq_some_iff.mp h
  refine gl_X11_works_L0 hd (fun t e2 => ?_) trivial zF M hy10
  cases e2
  cases h
  exact zG_rv hm rfl rfl
theorem met_X11_works {v1 : Int} {M : zM} {q : zM} {d : Nat} (hd : 1 ≤ d) (h : f_X11_works v1 M = some q) : zMet 144 d [zr 42 0, zi v1] M none q :=
  zMet_of (lv0 := [some (zr 42 0), some (zi v1)]) zmok_144 rfl rfl (fun v hv => by cases hv) (g_X11_works hd h)
def f_X11_clauseIsOver  (M : zM) : Option (zM) :=
  (f_X11_works 1 M).bind fun p1 =>
    zlet (zput p1 42 0 22 0) fun M2 =>
    (f_X11_emits 408 0 M2).bind fun p3 =>
      zlet (zput p3 42 0 30 ((p3 42 0 30) + 1)) fun M4 =>
      (f_X11_next  M4).bind fun p5 =>
        zlet (zput p5 42 0 28 4) fun M6 =>
        some M6
theorem g_X11_clauseIsOver  {M : zM} {q : zM} {d : Nat} (hd : 3 ≤ d) (h : f_X11_clauseIsOver  M = some q) : zG 157 d (0, [some (zr 42 0)], [], M) none q := by
  have hm := zmok_157
  unfold f_X11_clauseIsOver at h
  refine zG_run hm 2 (cf' := (2, [some (zr 42 0)], [zi 1, zr 42 0], M)) rfl ?_
  obtain ⟨p1, hp1, h⟩ := Option.bind_eq_some_iff.mp h
  refine zG_V hm zmok_144 rfl (as := [zi 1]) (rest := []) (st2 := []) (pc2 := 5) rfl rfl (by omega) (met_X11_works (d := 1) (Nat.le_refl _) hp1) rfl ?_
  refine zG_run hm 3 (cf' := (10, [some (zr 42 0)], [], (zput p1 42 0 22 0))) rfl ?_
  obtain ⟨M2, eM2, h⟩ := zlet_of h
  rw [eM2]
  refine zG_run hm 3 (cf' := (15, [some (zr 42 0)], [zi 0, zi 408, zr 42 0], M2)) rfl ?_
  obtain ⟨p3, hp3, h⟩ := Option.bind_eq_some_iff.mp h
  refine zG_V hm zmok_139 rfl (as := [zi 408, zi 0]) (rest := []) (st2 := []) (pc2 := 18) rfl rfl (by omega) (met_X11_emits (d := 0) (Nat.le_refl _) hp3) rfl ?_
  refine zG_run hm 6 (cf' := (28, [some (zr 42 0)], [], (zput p3 42 0 30 ((p3 42 0 30) + 1)))) rfl ?_
  obtain ⟨M4, eM4, h⟩ := zlet_of h
  rw [eM4]
  refine zG_run hm 1 (cf' := (29, [some (zr 42 0)], [zr 42 0], M4)) rfl ?_
  obtain ⟨p5, hp5, h⟩ := Option.bind_eq_some_iff.mp h
  refine zG_V hm zmok_135 rfl (as := []) (rest := []) (st2 := []) (pc2 := 32) rfl rfl (by omega) (met_X11_next (d := 2) (Nat.le_refl _) hp5) rfl ?_
  refine zG_run hm 3 (cf' := (37, [some (zr 42 0)], [], (zput p5 42 0 28 4))) rfl ?_
  obtain ⟨M6, eM6, h⟩ := zlet_of h
  rw [eM6]
  cases h
  exact zG_rv hm rfl rfl
theorem met_X11_clauseIsOver  {M : zM} {q : zM} {d : Nat} (hd : 3 ≤ d) (h : f_X11_clauseIsOver  M = some q) : zMet 157 d [zr 42 0] M none q :=
  zMet_of (lv0 := [some (zr 42 0)]) zmok_157 rfl rfl (fun v hv => by cases hv) (g_X11_clauseIsOver hd h)
def f_X11_askIsOver_L0  (M : zM) : Option ((zM) ⊕ (zM)) :=
  (f_X11_top  M).bind fun p1 =>
    if ¬ zw p1.1 = 3 then
      some (.inr p1.2)
    else
      zlet (zput p1.2 42 0 22 ((p1.2 42 0 22) - 1)) fun M2 =>
      zlet (zput M2 42 0 21 ((M2 42 0 21) - 1)) fun M3 =>
      (f_X11_emits 405 0 M3).bind fun p4 =>
        some (.inl p4)
theorem g_X11_askIsOver_L0  {M : zM} {x : (zM) ⊕ (zM)} {r : Option zV} {Mf : zM} {d : Nat} (hd : 1 ≤ d) (h : f_X11_askIsOver_L0  M = some x)
    (kc : ∀ s, x = .inl s → zG 152 d (0, [some (zr 42 0)], [], s) r Mf)
    (kb : ∀ t, x = .inr t → zG 152 d (39, [some (zr 42 0)], [], t) r Mf) (kr : True) : zG 152 d (0, [some (zr 42 0)], [], M) r Mf := by
  have hm := zmok_152
  unfold f_X11_askIsOver_L0 at h
  refine zG_run hm 1 (cf' := (1, [some (zr 42 0)], [zr 42 0], M)) rfl ?_
  obtain ⟨p1, hp1, h⟩ := Option.bind_eq_some_iff.mp h
  refine zG_V hm zmok_141 rfl (as := []) (rest := []) (st2 := [zi p1.1]) (pc2 := 4) rfl rfl (by omega) (met_X11_top (d := 0) (Nat.le_refl _) hp1) rfl ?_
  refine zG_run hm 1 (cf' := (5, [some (zr 42 0)], [zi 3, zi p1.1], p1.2)) rfl ?_
  by_cases c5 : ¬ zw p1.1 = 3
  · rw [if_pos c5] at h
    refine zG_br hm rfl (cf' := (39, [some (zr 42 0)], [], p1.2)) (if_pos c5) ?_
    refine zG_sub (lv' := [some (zr 42 0)]) (zsb_s rfl zsb_0) ?_
    exact kb p1.2 (Option.some.inj h).symm
  · rw [if_neg c5] at h
    refine zG_br hm rfl (cf' := (8, [some (zr 42 0)], [], p1.2)) (if_neg c5) ?_
    refine zG_run hm 6 (cf' := (18, [some (zr 42 0)], [], (zput p1.2 42 0 22 ((p1.2 42 0 22) - 1)))) rfl ?_
    obtain ⟨M2, eM2, h⟩ := zlet_of h
    rw [eM2]
    refine zG_run hm 6 (cf' := (28, [some (zr 42 0)], [], (zput M2 42 0 21 ((M2 42 0 21) - 1)))) rfl ?_
    obtain ⟨M3, eM3, h⟩ := zlet_of h
    rw [eM3]
    refine zG_run hm 3 (cf' := (33, [some (zr 42 0)], [zi 0, zi 405, zr 42 0], M3)) rfl ?_
    obtain ⟨p4, hp4, h⟩ := Option.bind_eq_some_iff.mp h
    refine zG_V hm zmok_139 rfl (as := [zi 405, zi 0]) (rest := []) (st2 := []) (pc2 := 36) rfl rfl (by omega) (met_X11_emits (d := 0) (Nat.le_refl _) hp4) rfl ?_
    refine zG_run hm 1 (cf' := (0, [some (zr 42 0)], [], p4)) rfl ?_
    refine zG_sub (lv' := [some (zr 42 0)]) (zsb_s rfl zsb_0) ?_
    exact kc p4 (Option.some.inj h).symm
theorem gl_X11_askIsOver_L0  {y : zM} {r : Option zV} {Mf : zM} {d : Nat} (hd : 1 ≤ d)
    (kb : ∀ t, y = t → zG 152 d (39, [some (zr 42 0)], [], t) r Mf) (kr : True) : ∀ (n : Nat) (s : zM), zlp (fun s : zM => f_X11_askIsOver_L0   s) n s = some y → zG 152 d (0, [some (zr 42 0)], [], s) r Mf := by
  intro n
  induction n with
  | zero => intro s h; cases h
  | succ n ih =>
    intro s h
    rcases zlp_cases h with ⟨s', h1, h2⟩ | h1
    · exact g_X11_askIsOver_L0 hd h1 (fun s2 e2 => by cases e2; exact ih _ h2) (fun t e2 => by cases e2) trivial
    · exact g_X11_askIsOver_L0 hd h1 (fun s2 e2 => by cases e2) (fun t e2 => kb t (Sum.inr.inj e2)) trivial
def f_X11_askIsOver  (M : zM) : Option (zM) :=
  (zlp (fun s : zM => f_X11_askIsOver_L0   s) zF M).bind fun y6 =>
    zlet (zput y6 42 0 28 3) fun M7 =>
    some M7
theorem g_X11_askIsOver  {M : zM} {q : zM} {d : Nat} (hd : 1 ≤ d) (h : f_X11_askIsOver  M = some q) : zG 152 d (0, [some (zr 42 0)], [], M) none q := by
  have hm := zmok_152
  unfold f_X11_askIsOver at h
  refine zG_sub (lv' := [some (zr 42 0)]) (zsb_s rfl zsb_0) ?_
  obtain ⟨y6, hy6, h⟩ := Option.bind_eq_some_iff.mp h
  refine gl_X11_askIsOver_L0 hd (fun t e2 => ?_) trivial zF M hy6
  cases e2
  refine zG_run hm 3 (cf' := (44, [some (zr 42 0)], [], (zput y6 42 0 28 3))) rfl ?_
  obtain ⟨M7, eM7, h⟩ := zlet_of h
  rw [eM7]
  cases h
  exact zG_rv hm rfl rfl
theorem met_X11_askIsOver  {M : zM} {q : zM} {d : Nat} (hd : 1 ≤ d) (h : f_X11_askIsOver  M = some q) : zMet 152 d [zr 42 0] M none q :=
  zMet_of (lv0 := [some (zr 42 0)]) zmok_152 rfl rfl (fun v hv => by cases hv) (g_X11_askIsOver hd h)
def f_X11_isAsking (v0 : Int) (M : zM) : Option (Int × zM) :=
  if zw v0 = 60 then
    some (1, M)
  else
    if zw v0 = 62 then
      some (1, M)
    else
      if zw v0 = 61 then
        some (1, M)
      else
        if zw v0 = 35 then
          some (1, M)
        else
          if zw v0 = 300 then
            some (1, M)
          else
            if ¬ zw v0 = 301 then
              some (0, M)
            else
              some (1, M)
theorem g_X11_isAsking {v0 : Int} {M : zM} {q : Int × zM} {d : Nat} (hd : 0 ≤ d) (h : f_X11_isAsking v0 M = some q) : zG 153 d (0, [some (zi v0)], [], M) (some (zi q.1)) q.2 := by
  have hm := zmok_153
  unfold f_X11_isAsking at h
  refine zG_run hm 2 (cf' := (3, [some (zi v0)], [zi 60, zi v0], M)) rfl ?_
  by_cases c6 : zw v0 = 60
  · rw [if_pos c6] at h
    refine zG_br hm rfl (cf' := (38, [some (zi v0)], [], M)) (if_pos c6) ?_
    refine zG_run hm 2 (cf' := (43, [some (zi v0)], [zi 1], M)) rfl ?_
    cases h
    exact zG_rz hm rfl rfl (Or.inr rfl)
  · rw [if_neg c6] at h
    refine zG_br hm rfl (cf' := (6, [some (zi v0)], [], M)) (if_neg c6) ?_
    refine zG_run hm 2 (cf' := (9, [some (zi v0)], [zi 62, zi v0], M)) rfl ?_
    by_cases c5 : zw v0 = 62
    · rw [if_pos c5] at h
      refine zG_br hm rfl (cf' := (38, [some (zi v0)], [], M)) (if_pos c5) ?_
      refine zG_run hm 2 (cf' := (43, [some (zi v0)], [zi 1], M)) rfl ?_
      cases h
      exact zG_rz hm rfl rfl (Or.inr rfl)
    · rw [if_neg c5] at h
      refine zG_br hm rfl (cf' := (12, [some (zi v0)], [], M)) (if_neg c5) ?_
      refine zG_run hm 2 (cf' := (15, [some (zi v0)], [zi 61, zi v0], M)) rfl ?_
      by_cases c4 : zw v0 = 61
      · rw [if_pos c4] at h
        refine zG_br hm rfl (cf' := (38, [some (zi v0)], [], M)) (if_pos c4) ?_
        refine zG_run hm 2 (cf' := (43, [some (zi v0)], [zi 1], M)) rfl ?_
        cases h
        exact zG_rz hm rfl rfl (Or.inr rfl)
      · rw [if_neg c4] at h
        refine zG_br hm rfl (cf' := (18, [some (zi v0)], [], M)) (if_neg c4) ?_
        refine zG_run hm 2 (cf' := (21, [some (zi v0)], [zi 35, zi v0], M)) rfl ?_
        by_cases c3 : zw v0 = 35
        · rw [if_pos c3] at h
          refine zG_br hm rfl (cf' := (38, [some (zi v0)], [], M)) (if_pos c3) ?_
          refine zG_run hm 2 (cf' := (43, [some (zi v0)], [zi 1], M)) rfl ?_
          cases h
          exact zG_rz hm rfl rfl (Or.inr rfl)
        · rw [if_neg c3] at h
          refine zG_br hm rfl (cf' := (24, [some (zi v0)], [], M)) (if_neg c3) ?_
          refine zG_run hm 2 (cf' := (28, [some (zi v0)], [zi 300, zi v0], M)) rfl ?_
          by_cases c2 : zw v0 = 300
          · rw [if_pos c2] at h
            refine zG_br hm rfl (cf' := (38, [some (zi v0)], [], M)) (if_pos c2) ?_
            refine zG_run hm 2 (cf' := (43, [some (zi v0)], [zi 1], M)) rfl ?_
            cases h
            exact zG_rz hm rfl rfl (Or.inr rfl)
          · rw [if_neg c2] at h
            refine zG_br hm rfl (cf' := (31, [some (zi v0)], [], M)) (if_neg c2) ?_
            refine zG_run hm 2 (cf' := (35, [some (zi v0)], [zi 301, zi v0], M)) rfl ?_
            by_cases c1 : ¬ zw v0 = 301
            · rw [if_pos c1] at h
              refine zG_br hm rfl (cf' := (42, [some (zi v0)], [], M)) (if_pos c1) ?_
              refine zG_run hm 1 (cf' := (43, [some (zi v0)], [zi 0], M)) rfl ?_
              cases h
              exact zG_rz hm rfl rfl (Or.inl rfl)
            · rw [if_neg c1] at h
              refine zG_br hm rfl (cf' := (38, [some (zi v0)], [], M)) (if_neg c1) ?_
              refine zG_run hm 2 (cf' := (43, [some (zi v0)], [zi 1], M)) rfl ?_
              cases h
              exact zG_rz hm rfl rfl (Or.inr rfl)
theorem met_X11_isAsking {v0 : Int} {M : zM} {q : Int × zM} {d : Nat} (hd : 0 ≤ d) (h : f_X11_isAsking v0 M = some q) : zMet 153 d [zi v0] M (some (zi q.1)) q.2 :=
  zMet_of (lv0 := [some (zi v0)]) zmok_153 rfl rfl (fun v hv => by cases hv; trivial) (g_X11_isAsking hd h)
def f_X11_turnsTo_j46 (v1 : Int) (M : zM) : Option (zM) :=
  if 0 ≤ zw ((M 42 0 22) - 1) ∧ zw ((M 42 0 22) - 1) < 40 then
    zlet (zput M 54 0 (zix ((M 42 0 22) - 1)) v1) fun M3 =>
    (f_X11_next  M3).bind fun p4 =>
      zlet (zput p4 42 0 28 1) fun M5 =>
      some M5
  else
    none
theorem g_X11_turnsTo_j46 {v1 : Int} {M : zM} {q : zM} {d : Nat} (hd : 3 ≤ d) (h : f_X11_turnsTo_j46 v1 M = some q) : zG 154 d (46, [some (zr 42 0), some (zi v1), none, none], [], M) none q := by
  have hm := zmok_154
  unfold f_X11_turnsTo_j46 at h
  refine zG_run hm 7 (cf' := (57, [some (zr 42 0), some (zi v1), none, none], [zi v1, zi ((M 42 0 22) - 1), zr 54 0], M)) rfl ?_
  by_cases c6 : 0 ≤ zw ((M 42 0 22) - 1) ∧ zw ((M 42 0 22) - 1) < 40
  · rw [if_pos c6] at h
    refine zG_br hm rfl (cf' := (58, [some (zr 42 0), some (zi v1), none, none], [], (zput M 54 0 (zix ((M 42 0 22) - 1)) v1))) (if_pos c6) ?_
    obtain ⟨M3, eM3, h⟩ := zlet_of h
    rw [eM3]
    refine zG_run hm 1 (cf' := (59, [some (zr 42 0), some (zi v1), none, none], [zr 42 0], M3)) rfl ?_
    obtain ⟨p4, hp4, h⟩ := Option.bind_eq_some_iff.mp h
    refine zG_V hm zmok_135 rfl (as := []) (rest := []) (st2 := []) (pc2 := 62) rfl rfl (by omega) (met_X11_next (d := 2) (Nat.le_refl _) hp4) rfl ?_
    refine zG_run hm 3 (cf' := (67, [some (zr 42 0), some (zi v1), none, none], [], (zput p4 42 0 28 1))) rfl ?_
    obtain ⟨M5, eM5, h⟩ := zlet_of h
    rw [eM5]
    cases h
    exact zG_rv hm rfl rfl
  · rw [if_neg c6] at h
    cases h
def f_X11_turnsTo (v1 : Int) (v2 : Int) (M : zM) : Option (zM) :=
  if 0 ≤ zw (M 42 0 22) ∧ zw (M 42 0 22) < 41 then
    if 0 ≤ zw (M 42 0 22) ∧ zw (M 42 0 22) < 41 then
      zlet (zput M 58 0 (zix (M 42 0 22)) (M 42 0 37)) fun M1 =>
      (f_X11_emits v2 0 M1).bind fun p2 =>
        if ¬ zw v2 = 409 then
          f_X11_turnsTo_j46 v1 p2
        else
          if 0 ≤ zw (M 58 0 (zix (M 42 0 22))) ∧ zw (M 58 0 (zix (M 42 0 22))) < 400 then
            zlet (zput p2 65 0 (zix (M 58 0 (zix (M 42 0 22)))) (p2 42 0 37)) fun M7 =>
            f_X11_turnsTo_j46 v1 M7
          else
            none
    else
      none
  else
    none
theorem g_X11_turnsTo {v1 : Int} {v2 : Int} {M : zM} {q : zM} {d : Nat} (hd : 3 ≤ d) (h : f_X11_turnsTo v1 v2 M = some q) : zG 154 d (0, [some (zr 42 0), some (zi v1), some (zi v2), none], [], M) none q := by
  have hm := zmok_154
  unfold f_X11_turnsTo at h
  refine zG_run hm 4 (cf' := (8, [some (zr 42 0), some (zi v1), some (zi v2), none], [zi (M 42 0 22), zr 58 0], M)) rfl ?_
  by_cases c11 : 0 ≤ zw (M 42 0 22) ∧ zw (M 42 0 22) < 41
  · rw [if_pos c11] at h
    refine zG_br hm rfl (cf' := (9, [some (zr 42 0), some (zi v1), some (zi v2), none], [zi (M 58 0 (zix (M 42 0 22)))], M)) (if_pos c11) ?_
    refine zG_run hm 7 (cf' := (22, [some (zr 42 0), some (zi v1), some (zi v2), some (zi (M 58 0 (zix (M 42 0 22))))], [zi (M 42 0 37), zi (M 42 0 22), zr 58 0], M)) rfl ?_
    by_cases c10 : 0 ≤ zw (M 42 0 22) ∧ zw (M 42 0 22) < 41
    · rw [if_pos c10] at h
      refine zG_br hm rfl (cf' := (23, [some (zr 42 0), some (zi v1), some (zi v2), some (zi (M 58 0 (zix (M 42 0 22))))], [], (zput M 58 0 (zix (M 42 0 22)) (M 42 0 37)))) (if_pos c10) ?_
      obtain ⟨M1, eM1, h⟩ := zlet_of h
      rw [eM1]
      refine zG_run hm 3 (cf' := (26, [some (zr 42 0), some (zi v1), some (zi v2), some (zi (M 58 0 (zix (M 42 0 22))))], [zi 0, zi v2, zr 42 0], M1)) rfl ?_
      obtain ⟨p2, hp2, h⟩ := Option.bind_eq_some_iff.mp h
      refine zG_V hm zmok_139 rfl (as := [zi v2, zi 0]) (rest := []) (st2 := []) (pc2 := 29) rfl rfl (by omega) (met_X11_emits (d := 0) (Nat.le_refl _) hp2) rfl ?_
      refine zG_run hm 2 (cf' := (33, [some (zr 42 0), some (zi v1), some (zi v2), some (zi (M 58 0 (zix (M 42 0 22))))], [zi 409, zi v2], p2)) rfl ?_
      by_cases c9 : ¬ zw v2 = 409
      · rw [if_pos c9] at h
        refine zG_br hm rfl (cf' := (46, [some (zr 42 0), some (zi v1), some (zi v2), some (zi (M 58 0 (zix (M 42 0 22))))], [], p2)) (if_pos c9) ?_
        refine zG_sub (lv' := [some (zr 42 0), some (zi v1), none, none]) (zsb_s rfl (zsb_s rfl (zsb_n (zsb_n zsb_0)))) ?_
        exact g_X11_turnsTo_j46 hd h
      · rw [if_neg c9] at h
        refine zG_br hm rfl (cf' := (36, [some (zr 42 0), some (zi v1), some (zi v2), some (zi (M 58 0 (zix (M 42 0 22))))], [], p2)) (if_neg c9) ?_
        refine zG_run hm 5 (cf' := (45, [some (zr 42 0), some (zi v1), some (zi v2), some (zi (M 58 0 (zix (M 42 0 22))))], [zi (p2 42 0 37), zi (M 58 0 (zix (M 42 0 22))), zr 65 0], p2)) rfl ?_
        by_cases c8 : 0 ≤ zw (M 58 0 (zix (M 42 0 22))) ∧ zw (M 58 0 (zix (M 42 0 22))) < 400
        · rw [if_pos c8] at h
          refine zG_br hm rfl (cf' := (46, [some (zr 42 0), some (zi v1), some (zi v2), some (zi (M 58 0 (zix (M 42 0 22))))], [], (zput p2 65 0 (zix (M 58 0 (zix (M 42 0 22)))) (p2 42 0 37)))) (if_pos c8) ?_
          obtain ⟨M7, eM7, h⟩ := zlet_of h
          rw [eM7]
          refine zG_sub (lv' := [some (zr 42 0), some (zi v1), none, none]) (zsb_s rfl (zsb_s rfl (zsb_n (zsb_n zsb_0)))) ?_
          exact g_X11_turnsTo_j46 hd h
        · rw [if_neg c8] at h
          cases h
    · rw [if_neg c10] at h
      cases h
  · rw [if_neg c11] at h
    cases h
theorem met_X11_turnsTo {v1 : Int} {v2 : Int} {M : zM} {q : zM} {d : Nat} (hd : 3 ≤ d) (h : f_X11_turnsTo v1 v2 M = some q) : zMet 154 d [zr 42 0, zi v1, zi v2] M none q :=
  zMet_of (lv0 := [some (zr 42 0), some (zi v1), some (zi v2), none]) zmok_154 rfl rfl (fun v hv => by cases hv) (g_X11_turnsTo hd h)
def f_X11_waitsFor (v1 : Int) (M : zM) : Option (zM) :=
  (f_X11_rank v1 M).bind fun p1 =>
    (f_X11_works p1.1 p1.2).bind fun p2 =>
      if 0 ≤ zw (p2 42 0 25) ∧ zw (p2 42 0 25) < 80 then
        zlet (zput p2 56 0 (zix (p2 42 0 25)) v1) fun M3 =>
        if 0 ≤ zw (M3 42 0 25) ∧ zw (M3 42 0 25) < 80 then
          zlet (zput M3 57 0 (zix (M3 42 0 25)) (M3 42 0 22)) fun M4 =>
          zlet (zput M4 42 0 25 ((M4 42 0 25) + 1)) fun M5 =>
          (f_X11_next  M5).bind fun p6 =>
            some p6
        else
          none
      else
        none
theorem g_X11_waitsFor {v1 : Int} {M : zM} {q : zM} {d : Nat} (hd : 3 ≤ d) (h : f_X11_waitsFor v1 M = some q) : zG 145 d (0, [some (zr 42 0), some (zi v1)], [], M) none q := by
  have hm := zmok_145
  unfold f_X11_waitsFor at h
  refine zG_run hm 2 (cf' := (2, [some (zr 42 0), some (zi v1)], [zi v1, zr 42 0], M)) rfl ?_
  obtain ⟨p1, hp1, h⟩ := Option.bind_eq_some_iff.mp h
  refine zG_S hm zmok_143 rfl (as := [zi v1]) (rest := [zr 42 0]) (st2 := [zi p1.1, zr 42 0]) (pc2 := 5) rfl rfl (by omega) (met_X11_rank (d := 0) (Nat.le_refl _) hp1) rfl ?_
  obtain ⟨p2, hp2, h⟩ := Option.bind_eq_some_iff.mp h
  refine zG_V hm zmok_144 rfl (as := [zi p1.1]) (rest := []) (st2 := []) (pc2 := 8) rfl rfl (by omega) (met_X11_works (d := 1) (Nat.le_refl _) hp2) rfl ?_
  refine zG_run hm 5 (cf' := (17, [some (zr 42 0), some (zi v1)], [zi v1, zi (p2 42 0 25), zr 56 0], p2)) rfl ?_
  by_cases c8 : 0 ≤ zw (p2 42 0 25) ∧ zw (p2 42 0 25) < 80
  · rw [if_pos c8] at h
    refine zG_br hm rfl (cf' := (18, [some (zr 42 0), some (zi v1)], [], (zput p2 56 0 (zix (p2 42 0 25)) v1))) (if_pos c8) ?_
    obtain ⟨M3, eM3, h⟩ := zlet_of h
    rw [eM3]
    refine zG_run hm 6 (cf' := (30, [some (zr 42 0), some (zi v1)], [zi (M3 42 0 22), zi (M3 42 0 25), zr 57 0], M3)) rfl ?_
    by_cases c7 : 0 ≤ zw (M3 42 0 25) ∧ zw (M3 42 0 25) < 80
    · rw [if_pos c7] at h
      refine zG_br hm rfl (cf' := (31, [some (zr 42 0), some (zi v1)], [], (zput M3 57 0 (zix (M3 42 0 25)) (M3 42 0 22)))) (if_pos c7) ?_
      obtain ⟨M4, eM4, h⟩ := zlet_of h
      rw [eM4]
      refine zG_run hm 6 (cf' := (41, [some (zr 42 0), some (zi v1)], [], (zput M4 42 0 25 ((M4 42 0 25) + 1)))) rfl ?_
      obtain ⟨M5, eM5, h⟩ := zlet_of h
      rw [eM5]
      refine zG_run hm 1 (cf' := (42, [some (zr 42 0), some (zi v1)], [zr 42 0], M5)) rfl ?_
      obtain ⟨p6, hp6, h⟩ := Option.bind_eq_some_iff.mp h
      refine zG_V hm zmok_135 rfl (as := []) (rest := []) (st2 := []) (pc2 := 45) rfl rfl (by omega) (met_X11_next (d := 2) (Nat.le_refl _) hp6) rfl ?_
      cases h
      exact zG_rv hm rfl rfl
    · rw [if_neg c7] at h
      cases h
  · rw [if_neg c8] at h
    cases h
theorem met_X11_waitsFor {v1 : Int} {M : zM} {q : zM} {d : Nat} (hd : 3 ≤ d) (h : f_X11_waitsFor v1 M = some q) : zMet 145 d [zr 42 0, zi v1] M none q :=
  zMet_of (lv0 := [some (zr 42 0), some (zi v1)]) zmok_145 rfl rfl (fun v hv => by cases hv) (g_X11_waitsFor hd h)
def f_X11_goesOn_j346  (M : zM) : Option (zM) :=
  (f_X11_errs 1 M).bind fun p2 =>
    some p2
theorem g_X11_goesOn_j346  {M : zM} {q : zM} {d : Nat} (hd : 5 ≤ d) (h : f_X11_goesOn_j346  M = some q) : zG 155 d (346, [some (zr 42 0), none, none], [], M) none q := by
  have hm := zmok_155
  unfold f_X11_goesOn_j346 at h
  refine zG_run hm 2 (cf' := (348, [some (zr 42 0), none, none], [zi 1, zr 42 0], M)) rfl ?_
  obtain ⟨p2, hp2, h⟩ := Option.bind_eq_some_iff.mp h
  refine zG_V hm zmok_138 rfl (as := [zi 1]) (rest := []) (st2 := []) (pc2 := 351) rfl rfl (by omega) (met_X11_errs (d := 0) (Nat.le_refl _) hp2) rfl ?_
  cases h
  exact zG_rv hm rfl rfl
def f_X11_goesOn_j282 (v1 : Int) (M : zM) : Option (zM) :=
  if ¬ zw v1 = 5 then
    if ¬ zw v1 = 1 then
      f_X11_goesOn_j346  M
    else
      (f_X11_isSign 59 M).bind fun p3 =>
        if zw p3.1 = 0 then
          f_X11_goesOn_j346  p3.2
        else
          (f_X11_clauseIsOver  p3.2).bind fun p4 =>
            some p4
  else
    (f_X11_works 3 M).bind fun p7 =>
      if 0 ≤ zw (p7 42 0 22) ∧ zw (p7 42 0 22) < 41 then
        zlet (zput p7 42 0 22 ((p7 42 0 22) - 1)) fun M8 =>
        (f_X11_emits (p7 55 0 (zix (p7 42 0 22))) 0 M8).bind fun p9 =>
          (f_X11_askIsOver  p9).bind fun p10 =>
            some p10
      else
        none
theorem g_X11_goesOn_j282 {v1 : Int} {M : zM} {q : zM} {d : Nat} (hd : 5 ≤ d) (h : f_X11_goesOn_j282 v1 M = some q) : zG 155 d (282, [some (zr 42 0), some (zi v1), none], [], M) none q := by
  have hm := zmok_155
  unfold f_X11_goesOn_j282 at h
  refine zG_run hm 2 (cf' := (284, [some (zr 42 0), some (zi v1), none], [zi 5, zi v1], M)) rfl ?_
  by_cases c12 : ¬ zw v1 = 5
  · rw [if_pos c12] at h
    refine zG_br hm rfl (cf' := (325, [some (zr 42 0), some (zi v1), none], [], M)) (if_pos c12) ?_
    refine zG_run hm 2 (cf' := (327, [some (zr 42 0), some (zi v1), none], [zi 1, zi v1], M)) rfl ?_
    by_cases c6 : ¬ zw v1 = 1
    · rw [if_pos c6] at h
      refine zG_br hm rfl (cf' := (346, [some (zr 42 0), some (zi v1), none], [], M)) (if_pos c6) ?_
      refine zG_sub (lv' := [some (zr 42 0), none, none]) (zsb_s rfl (zsb_n (zsb_n zsb_0))) ?_
      exact g_X11_goesOn_j346 hd h
    · rw [if_neg c6] at h
      refine zG_br hm rfl (cf' := (330, [some (zr 42 0), some (zi v1), none], [], M)) (if_neg c6) ?_
      refine zG_run hm 2 (cf' := (333, [some (zr 42 0), some (zi v1), none], [zi 59, zr 42 0], M)) rfl ?_
      obtain ⟨p3, hp3, h⟩ := Option.bind_eq_some_iff.mp h
      refine zG_V hm zmok_136 rfl (as := [zi 59]) (rest := []) (st2 := [zi p3.1]) (pc2 := 336) rfl rfl (by omega) (met_X11_isSign (d := 0) (Nat.le_refl _) hp3) rfl ?_
      by_cases c5 : zw p3.1 = 0
      · rw [if_pos c5] at h
        refine zG_br hm rfl (cf' := (346, [some (zr 42 0), some (zi v1), none], [], p3.2)) (if_pos c5) ?_
        refine zG_sub (lv' := [some (zr 42 0), none, none]) (zsb_s rfl (zsb_n (zsb_n zsb_0))) ?_
        exact g_X11_goesOn_j346 hd h
      · rw [if_neg c5] at h
        refine zG_br hm rfl (cf' := (339, [some (zr 42 0), some (zi v1), none], [], p3.2)) (if_neg c5) ?_
        refine zG_run hm 1 (cf' := (340, [some (zr 42 0), some (zi v1), none], [zr 42 0], p3.2)) rfl ?_
        obtain ⟨p4, hp4, h⟩ := Option.bind_eq_some_iff.mp h
        refine zG_V hm zmok_157 rfl (as := []) (rest := []) (st2 := []) (pc2 := 343) rfl rfl (by omega) (met_X11_clauseIsOver (d := 3) (Nat.le_refl _) hp4) rfl ?_
        refine zG_run hm 1 (cf' := (351, [some (zr 42 0), some (zi v1), none], [], p4)) rfl ?_
        cases h
        exact zG_rv hm rfl rfl
  · rw [if_neg c12] at h
    refine zG_br hm rfl (cf' := (287, [some (zr 42 0), some (zi v1), none], [], M)) (if_neg c12) ?_
    refine zG_run hm 2 (cf' := (289, [some (zr 42 0), some (zi v1), none], [zi 3, zr 42 0], M)) rfl ?_
    obtain ⟨p7, hp7, h⟩ := Option.bind_eq_some_iff.mp h
    refine zG_V hm zmok_144 rfl (as := [zi 3]) (rest := []) (st2 := []) (pc2 := 292) rfl rfl (by omega) (met_X11_works (d := 1) (Nat.le_refl _) hp7) rfl ?_
    refine zG_run hm 4 (cf' := (300, [some (zr 42 0), some (zi v1), none], [zi (p7 42 0 22), zr 55 0], p7)) rfl ?_
    by_cases c11 : 0 ≤ zw (p7 42 0 22) ∧ zw (p7 42 0 22) < 41
    · rw [if_pos c11] at h
      refine zG_br hm rfl (cf' := (301, [some (zr 42 0), some (zi v1), none], [zi (p7 55 0 (zix (p7 42 0 22)))], p7)) (if_pos c11) ?_
      refine zG_run hm 7 (cf' := (312, [some (zr 42 0), some (zi v1), some (zi (p7 55 0 (zix (p7 42 0 22))))], [], (zput p7 42 0 22 ((p7 42 0 22) - 1)))) rfl ?_
      obtain ⟨M8, eM8, h⟩ := zlet_of h
      rw [eM8]
      refine zG_run hm 3 (cf' := (315, [some (zr 42 0), some (zi v1), some (zi (p7 55 0 (zix (p7 42 0 22))))], [zi 0, zi (p7 55 0 (zix (p7 42 0 22))), zr 42 0], M8)) rfl ?_
      obtain ⟨p9, hp9, h⟩ := Option.bind_eq_some_iff.mp h
      refine zG_V hm zmok_139 rfl (as := [zi (p7 55 0 (zix (p7 42 0 22))), zi 0]) (rest := []) (st2 := []) (pc2 := 318) rfl rfl (by omega) (met_X11_emits (d := 0) (Nat.le_refl _) hp9) rfl ?_
      refine zG_run hm 1 (cf' := (319, [some (zr 42 0), some (zi v1), some (zi (p7 55 0 (zix (p7 42 0 22))))], [zr 42 0], p9)) rfl ?_
      obtain ⟨p10, hp10, h⟩ := Option.bind_eq_some_iff.mp h
      refine zG_V hm zmok_152 rfl (as := []) (rest := []) (st2 := []) (pc2 := 322) rfl rfl (by omega) (met_X11_askIsOver (d := 1) (Nat.le_refl _) hp10) rfl ?_
      refine zG_run hm 1 (cf' := (351, [some (zr 42 0), some (zi v1), some (zi (p7 55 0 (zix (p7 42 0 22))))], [], p10)) rfl ?_
      cases h
      exact zG_rv hm rfl rfl
    · rw [if_neg c11] at h
      cases h
def f_X11_goesOn_j217 (v1 : Int) (M : zM) : Option (zM) :=
  if ¬ zw v1 = 4 then
    f_X11_goesOn_j282 v1 M
  else
    if ¬ zw (M 42 0 17) = 3 then
      f_X11_goesOn_j282 v1 M
    else
      (f_X11_isAsking (M 42 0 18) M).bind fun p13 =>
        if zw p13.1 = 0 then
          f_X11_goesOn_j282 v1 p13.2
        else
          (f_X11_works 3 p13.2).bind fun p14 =>
            if 0 ≤ zw (p14 42 0 22) ∧ zw (p14 42 0 22) < 41 then
              zlet (zput p14 55 0 (zix (p14 42 0 22)) (p14 42 0 18)) fun M15 =>
              if 0 ≤ zw ((M15 42 0 22) - 1) ∧ zw ((M15 42 0 22) - 1) < 40 then
                zlet (zput M15 54 0 (zix ((M15 42 0 22) - 1)) 5) fun M16 =>
                (f_X11_next  M16).bind fun p17 =>
                  zlet (zput p17 42 0 28 1) fun M18 =>
                  some M18
              else
                none
            else
              none
theorem g_X11_goesOn_j217 {v1 : Int} {M : zM} {q : zM} {d : Nat} (hd : 5 ≤ d) (h : f_X11_goesOn_j217 v1 M = some q) : zG 155 d (217, [some (zr 42 0), some (zi v1), none], [], M) none q := by
  have hm := zmok_155
  unfold f_X11_goesOn_j217 at h
  refine zG_run hm 2 (cf' := (219, [some (zr 42 0), some (zi v1), none], [zi 4, zi v1], M)) rfl ?_
  by_cases c23 : ¬ zw v1 = 4
  · rw [if_pos c23] at h
    refine zG_br hm rfl (cf' := (282, [some (zr 42 0), some (zi v1), none], [], M)) (if_pos c23) ?_
    refine zG_sub (lv' := [some (zr 42 0), some (zi v1), none]) (zsb_s rfl (zsb_s rfl (zsb_n zsb_0))) ?_
    exact g_X11_goesOn_j282 hd h
  · rw [if_neg c23] at h
    refine zG_br hm rfl (cf' := (222, [some (zr 42 0), some (zi v1), none], [], M)) (if_neg c23) ?_
    refine zG_run hm 3 (cf' := (227, [some (zr 42 0), some (zi v1), none], [zi 3, zi (M 42 0 17)], M)) rfl ?_
    by_cases c22 : ¬ zw (M 42 0 17) = 3
    · rw [if_pos c22] at h
      refine zG_br hm rfl (cf' := (282, [some (zr 42 0), some (zi v1), none], [], M)) (if_pos c22) ?_
      refine zG_sub (lv' := [some (zr 42 0), some (zi v1), none]) (zsb_s rfl (zsb_s rfl (zsb_n zsb_0))) ?_
      exact g_X11_goesOn_j282 hd h
    · rw [if_neg c22] at h
      refine zG_br hm rfl (cf' := (230, [some (zr 42 0), some (zi v1), none], [], M)) (if_neg c22) ?_
      refine zG_run hm 2 (cf' := (234, [some (zr 42 0), some (zi v1), none], [zi (M 42 0 18)], M)) rfl ?_
      obtain ⟨p13, hp13, h⟩ := Option.bind_eq_some_iff.mp h
      refine zG_S hm zmok_153 rfl (as := [zi (M 42 0 18)]) (rest := []) (st2 := [zi p13.1]) (pc2 := 237) rfl rfl (by omega) (met_X11_isAsking (d := 0) (Nat.le_refl _) hp13) rfl ?_
      by_cases c21 : zw p13.1 = 0
      · rw [if_pos c21] at h
        refine zG_br hm rfl (cf' := (282, [some (zr 42 0), some (zi v1), none], [], p13.2)) (if_pos c21) ?_
        refine zG_sub (lv' := [some (zr 42 0), some (zi v1), none]) (zsb_s rfl (zsb_s rfl (zsb_n zsb_0))) ?_
        exact g_X11_goesOn_j282 hd h
      · rw [if_neg c21] at h
        refine zG_br hm rfl (cf' := (240, [some (zr 42 0), some (zi v1), none], [], p13.2)) (if_neg c21) ?_
        refine zG_run hm 2 (cf' := (242, [some (zr 42 0), some (zi v1), none], [zi 3, zr 42 0], p13.2)) rfl ?_
        obtain ⟨p14, hp14, h⟩ := Option.bind_eq_some_iff.mp h
        refine zG_V hm zmok_144 rfl (as := [zi 3]) (rest := []) (st2 := []) (pc2 := 245) rfl rfl (by omega) (met_X11_works (d := 1) (Nat.le_refl _) hp14) rfl ?_
        refine zG_run hm 6 (cf' := (257, [some (zr 42 0), some (zi v1), none], [zi (p14 42 0 18), zi (p14 42 0 22), zr 55 0], p14)) rfl ?_
        by_cases c20 : 0 ≤ zw (p14 42 0 22) ∧ zw (p14 42 0 22) < 41
        · rw [if_pos c20] at h
          refine zG_br hm rfl (cf' := (258, [some (zr 42 0), some (zi v1), none], [], (zput p14 55 0 (zix (p14 42 0 22)) (p14 42 0 18)))) (if_pos c20) ?_
          obtain ⟨M15, eM15, h⟩ := zlet_of h
          rw [eM15]
          refine zG_run hm 7 (cf' := (269, [some (zr 42 0), some (zi v1), none], [zi 5, zi ((M15 42 0 22) - 1), zr 54 0], M15)) rfl ?_
          by_cases c19 : 0 ≤ zw ((M15 42 0 22) - 1) ∧ zw ((M15 42 0 22) - 1) < 40
          · rw [if_pos c19] at h
            refine zG_br hm rfl (cf' := (270, [some (zr 42 0), some (zi v1), none], [], (zput M15 54 0 (zix ((M15 42 0 22) - 1)) 5))) (if_pos c19) ?_
            obtain ⟨M16, eM16, h⟩ := zlet_of h
            rw [eM16]
            refine zG_run hm 1 (cf' := (271, [some (zr 42 0), some (zi v1), none], [zr 42 0], M16)) rfl ?_
            obtain ⟨p17, hp17, h⟩ := Option.bind_eq_some_iff.mp h
            refine zG_V hm zmok_135 rfl (as := []) (rest := []) (st2 := []) (pc2 := 274) rfl rfl (by omega) (met_X11_next (d := 2) (Nat.le_refl _) hp17) rfl ?_
            refine zG_run hm 3 (cf' := (279, [some (zr 42 0), some (zi v1), none], [], (zput p17 42 0 28 1))) rfl ?_
            obtain ⟨M18, eM18, h⟩ := zlet_of h
            rw [eM18]
            refine zG_run hm 1 (cf' := (351, [some (zr 42 0), some (zi v1), none], [], M18)) rfl ?_
            cases h
            exact zG_rv hm rfl rfl
          · rw [if_neg c19] at h
            cases h
        · rw [if_neg c20] at h
          cases h
def f_X11_goesOn_j148 (v1 : Int) (M : zM) : Option (zM) :=
  if ¬ zw v1 = 9 then
    f_X11_goesOn_j217 v1 M
  else
    (f_X11_isWord 17 M).bind fun p24 =>
      if zw p24.1 = 0 then
        f_X11_goesOn_j217 v1 p24.2
      else
        (f_X11_works 3 p24.2).bind fun p25 =>
          if 0 ≤ zw (p25 42 0 22) ∧ zw (p25 42 0 22) < 41 then
            if 0 ≤ zw (p25 58 0 (zix (p25 42 0 22))) ∧ zw (p25 58 0 (zix (p25 42 0 22))) < 400 then
              zlet (zput p25 65 0 (zix (p25 58 0 (zix (p25 42 0 22)))) (p25 42 0 37)) fun M26 =>
              zlet (zput M26 42 0 22 ((M26 42 0 22) - 1)) fun M27 =>
              zlet (zput M27 42 0 21 ((M27 42 0 21) - 1)) fun M28 =>
              (f_X11_next  M28).bind fun p29 =>
                (f_X11_oneIsOver  p29).bind fun p30 =>
                  some p30
            else
              none
          else
            none
theorem g_X11_goesOn_j148 {v1 : Int} {M : zM} {q : zM} {d : Nat} (hd : 5 ≤ d) (h : f_X11_goesOn_j148 v1 M = some q) : zG 155 d (148, [some (zr 42 0), some (zi v1), none], [], M) none q := by
  have hm := zmok_155
  unfold f_X11_goesOn_j148 at h
  refine zG_run hm 2 (cf' := (151, [some (zr 42 0), some (zi v1), none], [zi 9, zi v1], M)) rfl ?_
  by_cases c34 : ¬ zw v1 = 9
  · rw [if_pos c34] at h
    refine zG_br hm rfl (cf' := (217, [some (zr 42 0), some (zi v1), none], [], M)) (if_pos c34) ?_
    refine zG_sub (lv' := [some (zr 42 0), some (zi v1), none]) (zsb_s rfl (zsb_s rfl (zsb_n zsb_0))) ?_
    exact g_X11_goesOn_j217 hd h
  · rw [if_neg c34] at h
    refine zG_br hm rfl (cf' := (154, [some (zr 42 0), some (zi v1), none], [], M)) (if_neg c34) ?_
    refine zG_run hm 2 (cf' := (157, [some (zr 42 0), some (zi v1), none], [zi 17, zr 42 0], M)) rfl ?_
    obtain ⟨p24, hp24, h⟩ := Option.bind_eq_some_iff.mp h
    refine zG_V hm zmok_137 rfl (as := [zi 17]) (rest := []) (st2 := [zi p24.1]) (pc2 := 160) rfl rfl (by omega) (met_X11_isWord (d := 0) (Nat.le_refl _) hp24) rfl ?_
    by_cases c33 : zw p24.1 = 0
    · rw [if_pos c33] at h
      refine zG_br hm rfl (cf' := (217, [some (zr 42 0), some (zi v1), none], [], p24.2)) (if_pos c33) ?_
      refine zG_sub (lv' := [some (zr 42 0), some (zi v1), none]) (zsb_s rfl (zsb_s rfl (zsb_n zsb_0))) ?_
      exact g_X11_goesOn_j217 hd h
    · rw [if_neg c33] at h
      refine zG_br hm rfl (cf' := (163, [some (zr 42 0), some (zi v1), none], [], p24.2)) (if_neg c33) ?_
      refine zG_run hm 2 (cf' := (165, [some (zr 42 0), some (zi v1), none], [zi 3, zr 42 0], p24.2)) rfl ?_
      obtain ⟨p25, hp25, h⟩ := Option.bind_eq_some_iff.mp h
      refine zG_V hm zmok_144 rfl (as := [zi 3]) (rest := []) (st2 := []) (pc2 := 168) rfl rfl (by omega) (met_X11_works (d := 1) (Nat.le_refl _) hp25) rfl ?_
      refine zG_run hm 6 (cf' := (180, [some (zr 42 0), some (zi v1), none], [zi (p25 42 0 22), zr 58 0, zr 65 0], p25)) rfl ?_
      by_cases c32 : 0 ≤ zw (p25 42 0 22) ∧ zw (p25 42 0 22) < 41
      · rw [if_pos c32] at h
        refine zG_br hm rfl (cf' := (181, [some (zr 42 0), some (zi v1), none], [zi (p25 58 0 (zix (p25 42 0 22))), zr 65 0], p25)) (if_pos c32) ?_
        refine zG_run hm 2 (cf' := (185, [some (zr 42 0), some (zi v1), none], [zi (p25 42 0 37), zi (p25 58 0 (zix (p25 42 0 22))), zr 65 0], p25)) rfl ?_
        by_cases c31 : 0 ≤ zw (p25 58 0 (zix (p25 42 0 22))) ∧ zw (p25 58 0 (zix (p25 42 0 22))) < 400
        · rw [if_pos c31] at h
          refine zG_br hm rfl (cf' := (186, [some (zr 42 0), some (zi v1), none], [], (zput p25 65 0 (zix (p25 58 0 (zix (p25 42 0 22)))) (p25 42 0 37)))) (if_pos c31) ?_
          obtain ⟨M26, eM26, h⟩ := zlet_of h
          rw [eM26]
          refine zG_run hm 6 (cf' := (196, [some (zr 42 0), some (zi v1), none], [], (zput M26 42 0 22 ((M26 42 0 22) - 1)))) rfl ?_
          obtain ⟨M27, eM27, h⟩ := zlet_of h
          rw [eM27]
          refine zG_run hm 6 (cf' := (206, [some (zr 42 0), some (zi v1), none], [], (zput M27 42 0 21 ((M27 42 0 21) - 1)))) rfl ?_
          obtain ⟨M28, eM28, h⟩ := zlet_of h
          rw [eM28]
          refine zG_run hm 1 (cf' := (207, [some (zr 42 0), some (zi v1), none], [zr 42 0], M28)) rfl ?_
          obtain ⟨p29, hp29, h⟩ := Option.bind_eq_some_iff.mp h
          refine zG_V hm zmok_135 rfl (as := []) (rest := []) (st2 := []) (pc2 := 210) rfl rfl (by omega) (met_X11_next (d := 2) (Nat.le_refl _) hp29) rfl ?_
          refine zG_run hm 1 (cf' := (211, [some (zr 42 0), some (zi v1), none], [zr 42 0], p29)) rfl ?_
          obtain ⟨p30, hp30, h⟩ := Option.bind_eq_some_iff.mp h
          refine zG_V hm zmok_150 rfl (as := []) (rest := []) (st2 := []) (pc2 := 214) rfl rfl (by omega) (met_X11_oneIsOver (d := 4) (Nat.le_refl _) hp30) rfl ?_
          refine zG_run hm 1 (cf' := (351, [some (zr 42 0), some (zi v1), none], [], p30)) rfl ?_
          cases h
          exact zG_rv hm rfl rfl
        · rw [if_neg c31] at h
          cases h
      · rw [if_neg c32] at h
        cases h
def f_X11_goesOn_j116 (v1 : Int) (M : zM) : Option (zM) :=
  if ¬ zw v1 = 8 then
    f_X11_goesOn_j148 v1 M
  else
    (f_X11_isWord 16 M).bind fun p35 =>
      if zw p35.1 = 0 then
        f_X11_goesOn_j148 v1 p35.2
      else
        (f_X11_works 3 p35.2).bind fun p36 =>
          (f_X11_turnsTo 9 409 p36).bind fun p37 =>
            some p37
theorem g_X11_goesOn_j116 {v1 : Int} {M : zM} {q : zM} {d : Nat} (hd : 5 ≤ d) (h : f_X11_goesOn_j116 v1 M = some q) : zG 155 d (116, [some (zr 42 0), some (zi v1), none], [], M) none q := by
  have hm := zmok_155
  unfold f_X11_goesOn_j116 at h
  refine zG_run hm 2 (cf' := (119, [some (zr 42 0), some (zi v1), none], [zi 8, zi v1], M)) rfl ?_
  by_cases c39 : ¬ zw v1 = 8
  · rw [if_pos c39] at h
    refine zG_br hm rfl (cf' := (148, [some (zr 42 0), some (zi v1), none], [], M)) (if_pos c39) ?_
    refine zG_sub (lv' := [some (zr 42 0), some (zi v1), none]) (zsb_s rfl (zsb_s rfl (zsb_n zsb_0))) ?_
    exact g_X11_goesOn_j148 hd h
  · rw [if_neg c39] at h
    refine zG_br hm rfl (cf' := (122, [some (zr 42 0), some (zi v1), none], [], M)) (if_neg c39) ?_
    refine zG_run hm 2 (cf' := (125, [some (zr 42 0), some (zi v1), none], [zi 16, zr 42 0], M)) rfl ?_
    obtain ⟨p35, hp35, h⟩ := Option.bind_eq_some_iff.mp h
    refine zG_V hm zmok_137 rfl (as := [zi 16]) (rest := []) (st2 := [zi p35.1]) (pc2 := 128) rfl rfl (by omega) (met_X11_isWord (d := 0) (Nat.le_refl _) hp35) rfl ?_
    by_cases c38 : zw p35.1 = 0
    · rw [if_pos c38] at h
      refine zG_br hm rfl (cf' := (148, [some (zr 42 0), some (zi v1), none], [], p35.2)) (if_pos c38) ?_
      refine zG_sub (lv' := [some (zr 42 0), some (zi v1), none]) (zsb_s rfl (zsb_s rfl (zsb_n zsb_0))) ?_
      exact g_X11_goesOn_j148 hd h
    · rw [if_neg c38] at h
      refine zG_br hm rfl (cf' := (131, [some (zr 42 0), some (zi v1), none], [], p35.2)) (if_neg c38) ?_
      refine zG_run hm 2 (cf' := (133, [some (zr 42 0), some (zi v1), none], [zi 3, zr 42 0], p35.2)) rfl ?_
      obtain ⟨p36, hp36, h⟩ := Option.bind_eq_some_iff.mp h
      refine zG_V hm zmok_144 rfl (as := [zi 3]) (rest := []) (st2 := []) (pc2 := 136) rfl rfl (by omega) (met_X11_works (d := 1) (Nat.le_refl _) hp36) rfl ?_
      refine zG_run hm 3 (cf' := (142, [some (zr 42 0), some (zi v1), none], [zi 409, zi 9, zr 42 0], p36)) rfl ?_
      obtain ⟨p37, hp37, h⟩ := Option.bind_eq_some_iff.mp h
      refine zG_V hm zmok_154 rfl (as := [zi 9, zi 409]) (rest := []) (st2 := []) (pc2 := 145) rfl rfl (by omega) (met_X11_turnsTo (d := 3) (Nat.le_refl _) hp37) rfl ?_
      refine zG_run hm 1 (cf' := (351, [some (zr 42 0), some (zi v1), none], [], p37)) rfl ?_
      cases h
      exact zG_rv hm rfl rfl
def f_X11_goesOn_j65 (v1 : Int) (M : zM) : Option (zM) :=
  if ¬ zw v1 = 6 then
    f_X11_goesOn_j116 v1 M
  else
    (f_X11_isSign 41 M).bind fun p40 =>
      if zw p40.1 = 0 then
        f_X11_goesOn_j116 v1 p40.2
      else
        (f_X11_works 3 p40.2).bind fun p41 =>
          zlet (zput p41 42 0 22 ((p41 42 0 22) - 1)) fun M42 =>
          zlet (zput M42 42 0 21 ((M42 42 0 21) - 1)) fun M43 =>
          (f_X11_next  M43).bind fun p44 =>
            (f_X11_oneIsOver  p44).bind fun p45 =>
              some p45
theorem g_X11_goesOn_j65 {v1 : Int} {M : zM} {q : zM} {d : Nat} (hd : 5 ≤ d) (h : f_X11_goesOn_j65 v1 M = some q) : zG 155 d (65, [some (zr 42 0), some (zi v1), none], [], M) none q := by
  have hm := zmok_155
  unfold f_X11_goesOn_j65 at h
  refine zG_run hm 2 (cf' := (68, [some (zr 42 0), some (zi v1), none], [zi 6, zi v1], M)) rfl ?_
  by_cases c47 : ¬ zw v1 = 6
  · rw [if_pos c47] at h
    refine zG_br hm rfl (cf' := (116, [some (zr 42 0), some (zi v1), none], [], M)) (if_pos c47) ?_
    refine zG_sub (lv' := [some (zr 42 0), some (zi v1), none]) (zsb_s rfl (zsb_s rfl (zsb_n zsb_0))) ?_
    exact g_X11_goesOn_j116 hd h
  · rw [if_neg c47] at h
    refine zG_br hm rfl (cf' := (71, [some (zr 42 0), some (zi v1), none], [], M)) (if_neg c47) ?_
    refine zG_run hm 2 (cf' := (74, [some (zr 42 0), some (zi v1), none], [zi 41, zr 42 0], M)) rfl ?_
    obtain ⟨p40, hp40, h⟩ := Option.bind_eq_some_iff.mp h
    refine zG_V hm zmok_136 rfl (as := [zi 41]) (rest := []) (st2 := [zi p40.1]) (pc2 := 77) rfl rfl (by omega) (met_X11_isSign (d := 0) (Nat.le_refl _) hp40) rfl ?_
    by_cases c46 : zw p40.1 = 0
    · rw [if_pos c46] at h
      refine zG_br hm rfl (cf' := (116, [some (zr 42 0), some (zi v1), none], [], p40.2)) (if_pos c46) ?_
      refine zG_sub (lv' := [some (zr 42 0), some (zi v1), none]) (zsb_s rfl (zsb_s rfl (zsb_n zsb_0))) ?_
      exact g_X11_goesOn_j116 hd h
    · rw [if_neg c46] at h
      refine zG_br hm rfl (cf' := (80, [some (zr 42 0), some (zi v1), none], [], p40.2)) (if_neg c46) ?_
      refine zG_run hm 2 (cf' := (82, [some (zr 42 0), some (zi v1), none], [zi 3, zr 42 0], p40.2)) rfl ?_
      obtain ⟨p41, hp41, h⟩ := Option.bind_eq_some_iff.mp h
      refine zG_V hm zmok_144 rfl (as := [zi 3]) (rest := []) (st2 := []) (pc2 := 85) rfl rfl (by omega) (met_X11_works (d := 1) (Nat.le_refl _) hp41) rfl ?_
      refine zG_run hm 6 (cf' := (95, [some (zr 42 0), some (zi v1), none], [], (zput p41 42 0 22 ((p41 42 0 22) - 1)))) rfl ?_
      obtain ⟨M42, eM42, h⟩ := zlet_of h
      rw [eM42]
      refine zG_run hm 6 (cf' := (105, [some (zr 42 0), some (zi v1), none], [], (zput M42 42 0 21 ((M42 42 0 21) - 1)))) rfl ?_
      obtain ⟨M43, eM43, h⟩ := zlet_of h
      rw [eM43]
      refine zG_run hm 1 (cf' := (106, [some (zr 42 0), some (zi v1), none], [zr 42 0], M43)) rfl ?_
      obtain ⟨p44, hp44, h⟩ := Option.bind_eq_some_iff.mp h
      refine zG_V hm zmok_135 rfl (as := []) (rest := []) (st2 := []) (pc2 := 109) rfl rfl (by omega) (met_X11_next (d := 2) (Nat.le_refl _) hp44) rfl ?_
      refine zG_run hm 1 (cf' := (110, [some (zr 42 0), some (zi v1), none], [zr 42 0], p44)) rfl ?_
      obtain ⟨p45, hp45, h⟩ := Option.bind_eq_some_iff.mp h
      refine zG_V hm zmok_150 rfl (as := []) (rest := []) (st2 := []) (pc2 := 113) rfl rfl (by omega) (met_X11_oneIsOver (d := 4) (Nat.le_refl _) hp45) rfl ?_
      refine zG_run hm 1 (cf' := (351, [some (zr 42 0), some (zi v1), none], [], p45)) rfl ?_
      cases h
      exact zG_rv hm rfl rfl
def f_X11_goesOn_j49  (M : zM) : Option (zM) :=
  (f_X11_waitsFor (M 42 0 18) M).bind fun p48 =>
    zlet (zput p48 42 0 28 1) fun M49 =>
    some M49
theorem g_X11_goesOn_j49  {M : zM} {q : zM} {d : Nat} (hd : 5 ≤ d) (h : f_X11_goesOn_j49  M = some q) : zG 155 d (49, [some (zr 42 0), none, none], [], M) none q := by
  have hm := zmok_155
  unfold f_X11_goesOn_j49 at h
  refine zG_run hm 3 (cf' := (54, [some (zr 42 0), none, none], [zi (M 42 0 18), zr 42 0], M)) rfl ?_
  obtain ⟨p48, hp48, h⟩ := Option.bind_eq_some_iff.mp h
  refine zG_V hm zmok_145 rfl (as := [zi (M 42 0 18)]) (rest := []) (st2 := []) (pc2 := 57) rfl rfl (by omega) (met_X11_waitsFor (d := 3) (Nat.le_refl _) hp48) rfl ?_
  refine zG_run hm 3 (cf' := (62, [some (zr 42 0), none, none], [], (zput p48 42 0 28 1))) rfl ?_
  obtain ⟨M49, eM49, h⟩ := zlet_of h
  rw [eM49]
  refine zG_run hm 1 (cf' := (351, [some (zr 42 0), none, none], [], M49)) rfl ?_
  cases h
  exact zG_rv hm rfl rfl
def f_X11_goesOn  (M : zM) : Option (zM) :=
  (f_X11_top  M).bind fun p1 =>
    if ¬ zw (p1.2 42 0 17) = 3 then
      f_X11_goesOn_j65 p1.1 p1.2
    else
      if zw (p1.2 42 0 18) = 43 then
        f_X11_goesOn_j49  p1.2
      else
        if zw (p1.2 42 0 18) = 45 then
          f_X11_goesOn_j49  p1.2
        else
          if zw (p1.2 42 0 18) = 42 then
            f_X11_goesOn_j49  p1.2
          else
            if ¬ zw (p1.2 42 0 18) = 47 then
              f_X11_goesOn_j65 p1.1 p1.2
            else
              f_X11_goesOn_j49  p1.2
theorem g_X11_goesOn  {M : zM} {q : zM} {d : Nat} (hd : 5 ≤ d) (h : f_X11_goesOn  M = some q) : zG 155 d (0, [some (zr 42 0), none, none], [], M) none q := by
  have hm := zmok_155
  unfold f_X11_goesOn at h
  refine zG_run hm 1 (cf' := (1, [some (zr 42 0), none, none], [zr 42 0], M)) rfl ?_
  obtain ⟨p1, hp1, h⟩ := Option.bind_eq_some_iff.mp h
  refine zG_V hm zmok_141 rfl (as := []) (rest := []) (st2 := [zi p1.1]) (pc2 := 4) rfl rfl (by omega) (met_X11_top (d := 0) (Nat.le_refl _) hp1) rfl ?_
  refine zG_run hm 4 (cf' := (10, [some (zr 42 0), some (zi p1.1), none], [zi 3, zi (p1.2 42 0 17)], p1.2)) rfl ?_
  by_cases c54 : ¬ zw (p1.2 42 0 17) = 3
  · rw [if_pos c54] at h
    refine zG_br hm rfl (cf' := (65, [some (zr 42 0), some (zi p1.1), none], [], p1.2)) (if_pos c54) ?_
    refine zG_sub (lv' := [some (zr 42 0), some (zi p1.1), none]) (zsb_s rfl (zsb_s rfl (zsb_n zsb_0))) ?_
    exact g_X11_goesOn_j65 hd h
  · rw [if_neg c54] at h
    refine zG_br hm rfl (cf' := (13, [some (zr 42 0), some (zi p1.1), none], [], p1.2)) (if_neg c54) ?_
    refine zG_run hm 3 (cf' := (19, [some (zr 42 0), some (zi p1.1), none], [zi 43, zi (p1.2 42 0 18)], p1.2)) rfl ?_
    by_cases c53 : zw (p1.2 42 0 18) = 43
    · rw [if_pos c53] at h
      refine zG_br hm rfl (cf' := (49, [some (zr 42 0), some (zi p1.1), none], [], p1.2)) (if_pos c53) ?_
      refine zG_sub (lv' := [some (zr 42 0), none, none]) (zsb_s rfl (zsb_n (zsb_n zsb_0))) ?_
      exact g_X11_goesOn_j49 hd h
    · rw [if_neg c53] at h
      refine zG_br hm rfl (cf' := (22, [some (zr 42 0), some (zi p1.1), none], [], p1.2)) (if_neg c53) ?_
      refine zG_run hm 3 (cf' := (28, [some (zr 42 0), some (zi p1.1), none], [zi 45, zi (p1.2 42 0 18)], p1.2)) rfl ?_
      by_cases c52 : zw (p1.2 42 0 18) = 45
      · rw [if_pos c52] at h
        refine zG_br hm rfl (cf' := (49, [some (zr 42 0), some (zi p1.1), none], [], p1.2)) (if_pos c52) ?_
        refine zG_sub (lv' := [some (zr 42 0), none, none]) (zsb_s rfl (zsb_n (zsb_n zsb_0))) ?_
        exact g_X11_goesOn_j49 hd h
      · rw [if_neg c52] at h
        refine zG_br hm rfl (cf' := (31, [some (zr 42 0), some (zi p1.1), none], [], p1.2)) (if_neg c52) ?_
        refine zG_run hm 3 (cf' := (37, [some (zr 42 0), some (zi p1.1), none], [zi 42, zi (p1.2 42 0 18)], p1.2)) rfl ?_
        by_cases c51 : zw (p1.2 42 0 18) = 42
        · rw [if_pos c51] at h
          refine zG_br hm rfl (cf' := (49, [some (zr 42 0), some (zi p1.1), none], [], p1.2)) (if_pos c51) ?_
          refine zG_sub (lv' := [some (zr 42 0), none, none]) (zsb_s rfl (zsb_n (zsb_n zsb_0))) ?_
          exact g_X11_goesOn_j49 hd h
        · rw [if_neg c51] at h
          refine zG_br hm rfl (cf' := (40, [some (zr 42 0), some (zi p1.1), none], [], p1.2)) (if_neg c51) ?_
          refine zG_run hm 3 (cf' := (46, [some (zr 42 0), some (zi p1.1), none], [zi 47, zi (p1.2 42 0 18)], p1.2)) rfl ?_
          by_cases c50 : ¬ zw (p1.2 42 0 18) = 47
          · rw [if_pos c50] at h
            refine zG_br hm rfl (cf' := (65, [some (zr 42 0), some (zi p1.1), none], [], p1.2)) (if_pos c50) ?_
            refine zG_sub (lv' := [some (zr 42 0), some (zi p1.1), none]) (zsb_s rfl (zsb_s rfl (zsb_n zsb_0))) ?_
            exact g_X11_goesOn_j65 hd h
          · rw [if_neg c50] at h
            refine zG_br hm rfl (cf' := (49, [some (zr 42 0), some (zi p1.1), none], [], p1.2)) (if_neg c50) ?_
            refine zG_sub (lv' := [some (zr 42 0), none, none]) (zsb_s rfl (zsb_n (zsb_n zsb_0))) ?_
            exact g_X11_goesOn_j49 hd h
theorem met_X11_goesOn  {M : zM} {q : zM} {d : Nat} (hd : 5 ≤ d) (h : f_X11_goesOn  M = some q) : zMet 155 d [zr 42 0] M none q :=
  zMet_of (lv0 := [some (zr 42 0), none, none]) zmok_155 rfl rfl (fun v hv => by cases hv) (g_X11_goesOn hd h)
def f_X11_asksOn_j37 (vs0 : Int) (M : zM) : Option (zM) :=
  (f_X11_waitsFor vs0 M).bind fun p3 =>
    zlet (zput p3 42 0 28 0) fun M4 =>
    some M4
theorem g_X11_asksOn_j37 {vs0 : Int} {M : zM} {q : zM} {d : Nat} (hd : 4 ≤ d) (h : f_X11_asksOn_j37 vs0 M = some q) : zG 156 d (37, [some (zr 42 0)], [zi vs0, zr 42 0], M) none q := by
  have hm := zmok_156
  unfold f_X11_asksOn_j37 at h
  obtain ⟨p3, hp3, h⟩ := Option.bind_eq_some_iff.mp h
  refine zG_V hm zmok_145 rfl (as := [zi vs0]) (rest := []) (st2 := []) (pc2 := 40) rfl rfl (by omega) (met_X11_waitsFor (d := 3) (Nat.le_refl _) hp3) rfl ?_
  refine zG_run hm 3 (cf' := (45, [some (zr 42 0)], [], (zput p3 42 0 28 0))) rfl ?_
  obtain ⟨M4, eM4, h⟩ := zlet_of h
  rw [eM4]
  refine zG_run hm 1 (cf' := (87, [some (zr 42 0)], [], M4)) rfl ?_
  cases h
  exact zG_rv hm rfl rfl
def f_X11_asksOn_j18  (M : zM) : Option (zM) :=
  (f_X11_isWord 18 M).bind fun p2 =>
    if zw p2.1 = 0 then
      f_X11_asksOn_j37 406 p2.2
    else
      f_X11_asksOn_j37 407 p2.2
theorem g_X11_asksOn_j18  {M : zM} {q : zM} {d : Nat} (hd : 4 ≤ d) (h : f_X11_asksOn_j18  M = some q) : zG 156 d (18, [some (zr 42 0)], [], M) none q := by
  have hm := zmok_156
  unfold f_X11_asksOn_j18 at h
  refine zG_run hm 3 (cf' := (22, [some (zr 42 0)], [zi 18, zr 42 0, zr 42 0], M)) rfl ?_
  obtain ⟨p2, hp2, h⟩ := Option.bind_eq_some_iff.mp h
  refine zG_V hm zmok_137 rfl (as := [zi 18]) (rest := [zr 42 0]) (st2 := [zi p2.1, zr 42 0]) (pc2 := 25) rfl rfl (by omega) (met_X11_isWord (d := 0) (Nat.le_refl _) hp2) rfl ?_
  by_cases c5 : zw p2.1 = 0
  · rw [if_pos c5] at h
    refine zG_br hm rfl (cf' := (34, [some (zr 42 0)], [zr 42 0], p2.2)) (if_pos c5) ?_
    refine zG_run hm 1 (cf' := (37, [some (zr 42 0)], [zi 406, zr 42 0], p2.2)) rfl ?_
    refine zG_sub (lv' := [some (zr 42 0)]) (zsb_s rfl zsb_0) ?_
    exact g_X11_asksOn_j37 hd h
  · rw [if_neg c5] at h
    refine zG_br hm rfl (cf' := (28, [some (zr 42 0)], [zr 42 0], p2.2)) (if_neg c5) ?_
    refine zG_run hm 2 (cf' := (37, [some (zr 42 0)], [zi 407, zr 42 0], p2.2)) rfl ?_
    refine zG_sub (lv' := [some (zr 42 0)]) (zsb_s rfl zsb_0) ?_
    exact g_X11_asksOn_j37 hd h
def f_X11_asksOn_j82  (M : zM) : Option (zM) :=
  (f_X11_errs 1 M).bind fun p8 =>
    some p8
theorem g_X11_asksOn_j82  {M : zM} {q : zM} {d : Nat} (hd : 4 ≤ d) (h : f_X11_asksOn_j82  M = some q) : zG 156 d (82, [some (zr 42 0)], [], M) none q := by
  have hm := zmok_156
  unfold f_X11_asksOn_j82 at h
  refine zG_run hm 2 (cf' := (84, [some (zr 42 0)], [zi 1, zr 42 0], M)) rfl ?_
  obtain ⟨p8, hp8, h⟩ := Option.bind_eq_some_iff.mp h
  refine zG_V hm zmok_138 rfl (as := [zi 1]) (rest := []) (st2 := []) (pc2 := 87) rfl rfl (by omega) (met_X11_errs (d := 0) (Nat.le_refl _) hp8) rfl ?_
  cases h
  exact zG_rv hm rfl rfl
def f_X11_asksOn  (M : zM) : Option (zM) :=
  (f_X11_isWord 18 M).bind fun p1 =>
    if ¬ zw p1.1 = 0 then
      f_X11_asksOn_j18  p1.2
    else
      (f_X11_isWord 19 p1.2).bind fun p6 =>
        if zw p6.1 = 0 then
          (f_X11_top  p6.2).bind fun p7 =>
            if ¬ zw p7.1 = 2 then
              f_X11_asksOn_j82  p7.2
            else
              (f_X11_isWord 15 p7.2).bind fun p9 =>
                if zw p9.1 = 0 then
                  f_X11_asksOn_j82  p9.2
                else
                  (f_X11_works 1 p9.2).bind fun p10 =>
                    (f_X11_turnsTo 8 404 p10).bind fun p11 =>
                      some p11
        else
          f_X11_asksOn_j18  p6.2
theorem g_X11_asksOn  {M : zM} {q : zM} {d : Nat} (hd : 4 ≤ d) (h : f_X11_asksOn  M = some q) : zG 156 d (0, [some (zr 42 0)], [], M) none q := by
  have hm := zmok_156
  unfold f_X11_asksOn at h
  refine zG_run hm 2 (cf' := (3, [some (zr 42 0)], [zi 18, zr 42 0], M)) rfl ?_
  obtain ⟨p1, hp1, h⟩ := Option.bind_eq_some_iff.mp h
  refine zG_V hm zmok_137 rfl (as := [zi 18]) (rest := []) (st2 := [zi p1.1]) (pc2 := 6) rfl rfl (by omega) (met_X11_isWord (d := 0) (Nat.le_refl _) hp1) rfl ?_
  by_cases c15 : ¬ zw p1.1 = 0
  · rw [if_pos c15] at h
    refine zG_br hm rfl (cf' := (18, [some (zr 42 0)], [], p1.2)) (if_pos c15) ?_
    refine zG_sub (lv' := [some (zr 42 0)]) (zsb_s rfl zsb_0) ?_
    exact g_X11_asksOn_j18 hd h
  · rw [if_neg c15] at h
    refine zG_br hm rfl (cf' := (9, [some (zr 42 0)], [], p1.2)) (if_neg c15) ?_
    refine zG_run hm 2 (cf' := (12, [some (zr 42 0)], [zi 19, zr 42 0], p1.2)) rfl ?_
    obtain ⟨p6, hp6, h⟩ := Option.bind_eq_some_iff.mp h
    refine zG_V hm zmok_137 rfl (as := [zi 19]) (rest := []) (st2 := [zi p6.1]) (pc2 := 15) rfl rfl (by omega) (met_X11_isWord (d := 0) (Nat.le_refl _) hp6) rfl ?_
    by_cases c14 : zw p6.1 = 0
    · rw [if_pos c14] at h
      refine zG_br hm rfl (cf' := (48, [some (zr 42 0)], [], p6.2)) (if_pos c14) ?_
      refine zG_run hm 1 (cf' := (49, [some (zr 42 0)], [zr 42 0], p6.2)) rfl ?_
      obtain ⟨p7, hp7, h⟩ := Option.bind_eq_some_iff.mp h
      refine zG_V hm zmok_141 rfl (as := []) (rest := []) (st2 := [zi p7.1]) (pc2 := 52) rfl rfl (by omega) (met_X11_top (d := 0) (Nat.le_refl _) hp7) rfl ?_
      refine zG_run hm 1 (cf' := (53, [some (zr 42 0)], [zi 2, zi p7.1], p7.2)) rfl ?_
      by_cases c13 : ¬ zw p7.1 = 2
      · rw [if_pos c13] at h
        refine zG_br hm rfl (cf' := (82, [some (zr 42 0)], [], p7.2)) (if_pos c13) ?_
        refine zG_sub (lv' := [some (zr 42 0)]) (zsb_s rfl zsb_0) ?_
        exact g_X11_asksOn_j82 hd h
      · rw [if_neg c13] at h
        refine zG_br hm rfl (cf' := (56, [some (zr 42 0)], [], p7.2)) (if_neg c13) ?_
        refine zG_run hm 2 (cf' := (59, [some (zr 42 0)], [zi 15, zr 42 0], p7.2)) rfl ?_
        obtain ⟨p9, hp9, h⟩ := Option.bind_eq_some_iff.mp h
        refine zG_V hm zmok_137 rfl (as := [zi 15]) (rest := []) (st2 := [zi p9.1]) (pc2 := 62) rfl rfl (by omega) (met_X11_isWord (d := 0) (Nat.le_refl _) hp9) rfl ?_
        by_cases c12 : zw p9.1 = 0
        · rw [if_pos c12] at h
          refine zG_br hm rfl (cf' := (82, [some (zr 42 0)], [], p9.2)) (if_pos c12) ?_
          refine zG_sub (lv' := [some (zr 42 0)]) (zsb_s rfl zsb_0) ?_
          exact g_X11_asksOn_j82 hd h
        · rw [if_neg c12] at h
          refine zG_br hm rfl (cf' := (65, [some (zr 42 0)], [], p9.2)) (if_neg c12) ?_
          refine zG_run hm 2 (cf' := (67, [some (zr 42 0)], [zi 1, zr 42 0], p9.2)) rfl ?_
          obtain ⟨p10, hp10, h⟩ := Option.bind_eq_some_iff.mp h
          refine zG_V hm zmok_144 rfl (as := [zi 1]) (rest := []) (st2 := []) (pc2 := 70) rfl rfl (by omega) (met_X11_works (d := 1) (Nat.le_refl _) hp10) rfl ?_
          refine zG_run hm 3 (cf' := (76, [some (zr 42 0)], [zi 404, zi 8, zr 42 0], p10)) rfl ?_
          obtain ⟨p11, hp11, h⟩ := Option.bind_eq_some_iff.mp h
          refine zG_V hm zmok_154 rfl (as := [zi 8, zi 404]) (rest := []) (st2 := []) (pc2 := 79) rfl rfl (by omega) (met_X11_turnsTo (d := 3) (Nat.le_refl _) hp11) rfl ?_
          refine zG_run hm 1 (cf' := (87, [some (zr 42 0)], [], p11)) rfl ?_
          cases h
          exact zG_rv hm rfl rfl
    · rw [if_neg c14] at h
      refine zG_br hm rfl (cf' := (18, [some (zr 42 0)], [], p6.2)) (if_neg c14) ?_
      refine zG_sub (lv' := [some (zr 42 0)]) (zsb_s rfl zsb_0) ?_
      exact g_X11_asksOn_j18 hd h
theorem met_X11_asksOn  {M : zM} {q : zM} {d : Nat} (hd : 4 ≤ d) (h : f_X11_asksOn  M = some q) : zMet 156 d [zr 42 0] M none q :=
  zMet_of (lv0 := [some (zr 42 0)]) zmok_156 rfl rfl (fun v hv => by cases hv) (g_X11_asksOn hd h)
def f_X11_number_j15 (v1 : Int) (M : zM) : Option (Int × zM) :=
  (f_X11_errs 1 M).bind fun p1 =>
    some (v1, p1)
theorem g_X11_number_j15 {v1 : Int} {M : zM} {q : Int × zM} {d : Nat} (hd : 3 ≤ d) (h : f_X11_number_j15 v1 M = some q) : zG 158 d (15, [some (zr 42 0), some (zi v1), none, none], [], M) (some (zi q.1)) q.2 := by
  have hm := zmok_158
  unfold f_X11_number_j15 at h
  refine zG_run hm 2 (cf' := (17, [some (zr 42 0), some (zi v1), none, none], [zi 1, zr 42 0], M)) rfl ?_
  obtain ⟨p1, hp1, h⟩ := Option.bind_eq_some_iff.mp h
  refine zG_V hm zmok_138 rfl (as := [zi 1]) (rest := []) (st2 := []) (pc2 := 20) rfl rfl (by omega) (met_X11_errs (d := 0) (Nat.le_refl _) hp1) rfl ?_
  refine zG_run hm 1 (cf' := (21, [some (zr 42 0), some (zi v1), none, none], [zi v1], p1)) rfl ?_
  cases h
  exact zG_ri hm rfl rfl
def f_X11_number (v1 : Int) (v2 : Int) (M : zM) : Option (Int × zM) :=
  if 0 < zw (M 42 0 19) then
    f_X11_number_j15 v1 M
  else
    if zw (M 42 0 17) = 2 then
      (f_X11_in (M 42 0 18) v1 v2 M).bind fun p2 =>
        if ¬ zw p2.1 = 0 then
          (f_X11_next  p2.2).bind fun p3 =>
            some ((p2.2 42 0 18), p3)
        else
          (f_X11_errs 2 p2.2).bind fun p4 =>
            some (v1, p4)
    else
      f_X11_number_j15 v1 M
theorem g_X11_number {v1 : Int} {v2 : Int} {M : zM} {q : Int × zM} {d : Nat} (hd : 3 ≤ d) (h : f_X11_number v1 v2 M = some q) : zG 158 d (0, [some (zr 42 0), some (zi v1), some (zi v2), none], [], M) (some (zi q.1)) q.2 := by
  have hm := zmok_158
  unfold f_X11_number at h
  refine zG_run hm 2 (cf' := (4, [some (zr 42 0), some (zi v1), some (zi v2), none], [zi (M 42 0 19)], M)) rfl ?_
  by_cases c7 : 0 < zw (M 42 0 19)
  · rw [if_pos c7] at h
    refine zG_br hm rfl (cf' := (15, [some (zr 42 0), some (zi v1), some (zi v2), none], [], M)) (if_pos c7) ?_
    refine zG_sub (lv' := [some (zr 42 0), some (zi v1), none, none]) (zsb_s rfl (zsb_s rfl (zsb_n (zsb_n zsb_0)))) ?_
    exact g_X11_number_j15 hd h
  · rw [if_neg c7] at h
    refine zG_br hm rfl (cf' := (7, [some (zr 42 0), some (zi v1), some (zi v2), none], [], M)) (if_neg c7) ?_
    refine zG_run hm 3 (cf' := (12, [some (zr 42 0), some (zi v1), some (zi v2), none], [zi 2, zi (M 42 0 17)], M)) rfl ?_
    by_cases c6 : zw (M 42 0 17) = 2
    · rw [if_pos c6] at h
      refine zG_br hm rfl (cf' := (22, [some (zr 42 0), some (zi v1), some (zi v2), none], [], M)) (if_pos c6) ?_
      refine zG_run hm 4 (cf' := (28, [some (zr 42 0), some (zi v1), some (zi v2), none], [zi v2, zi v1, zi (M 42 0 18)], M)) rfl ?_
      obtain ⟨p2, hp2, h⟩ := Option.bind_eq_some_iff.mp h
      refine zG_S hm zmok_117 rfl (as := [zi (M 42 0 18), zi v1, zi v2]) (rest := []) (st2 := [zi p2.1]) (pc2 := 31) rfl rfl (by omega) (met_X11_in (d := 0) (Nat.le_refl _) hp2) rfl ?_
      by_cases c5 : ¬ zw p2.1 = 0
      · rw [if_pos c5] at h
        refine zG_br hm rfl (cf' := (41, [some (zr 42 0), some (zi v1), some (zi v2), none], [], p2.2)) (if_pos c5) ?_
        refine zG_run hm 4 (cf' := (47, [some (zr 42 0), some (zi v1), some (zi v2), some (zi (p2.2 42 0 18))], [zr 42 0], p2.2)) rfl ?_
        obtain ⟨p3, hp3, h⟩ := Option.bind_eq_some_iff.mp h
        refine zG_V hm zmok_135 rfl (as := []) (rest := []) (st2 := []) (pc2 := 50) rfl rfl (by omega) (met_X11_next (d := 2) (Nat.le_refl _) hp3) rfl ?_
        refine zG_run hm 1 (cf' := (51, [some (zr 42 0), some (zi v1), some (zi v2), some (zi (p2.2 42 0 18))], [zi (p2.2 42 0 18)], p3)) rfl ?_
        cases h
        exact zG_ri hm rfl rfl
      · rw [if_neg c5] at h
        refine zG_br hm rfl (cf' := (34, [some (zr 42 0), some (zi v1), some (zi v2), none], [], p2.2)) (if_neg c5) ?_
        refine zG_run hm 2 (cf' := (36, [some (zr 42 0), some (zi v1), some (zi v2), none], [zi 2, zr 42 0], p2.2)) rfl ?_
        obtain ⟨p4, hp4, h⟩ := Option.bind_eq_some_iff.mp h
        refine zG_V hm zmok_138 rfl (as := [zi 2]) (rest := []) (st2 := []) (pc2 := 39) rfl rfl (by omega) (met_X11_errs (d := 0) (Nat.le_refl _) hp4) rfl ?_
        refine zG_run hm 1 (cf' := (40, [some (zr 42 0), some (zi v1), some (zi v2), none], [zi v1], p4)) rfl ?_
        cases h
        exact zG_ri hm rfl rfl
    · rw [if_neg c6] at h
      refine zG_br hm rfl (cf' := (15, [some (zr 42 0), some (zi v1), some (zi v2), none], [], M)) (if_neg c6) ?_
      refine zG_sub (lv' := [some (zr 42 0), some (zi v1), none, none]) (zsb_s rfl (zsb_s rfl (zsb_n (zsb_n zsb_0)))) ?_
      exact g_X11_number_j15 hd h
theorem met_X11_number {v1 : Int} {v2 : Int} {M : zM} {q : Int × zM} {d : Nat} (hd : 3 ≤ d) (h : f_X11_number v1 v2 M = some q) : zMet 158 d [zr 42 0, zi v1, zi v2] M (some (zi q.1)) q.2 :=
  zMet_of (lv0 := [some (zr 42 0), some (zi v1), some (zi v2), none]) zmok_158 rfl rfl (fun v hv => by cases hv; trivial) (g_X11_number hd h)
def f_X11_numberBehind_j31 (v2 : Int) (v3 : Int) (M : zM) : Option (Int × zM) :=
  (f_X11_number v2 v3 M).bind fun p1 =>
    some (p1.1, p1.2)
theorem g_X11_numberBehind_j31 {v2 : Int} {v3 : Int} {M : zM} {q : Int × zM} {d : Nat} (hd : 4 ≤ d) (h : f_X11_numberBehind_j31 v2 v3 M = some q) : zG 160 d (31, [some (zr 42 0), none, some (zi v2), some (zi v3)], [], M) (some (zi q.1)) q.2 := by
  have hm := zmok_160
  unfold f_X11_numberBehind_j31 at h
  refine zG_run hm 3 (cf' := (34, [some (zr 42 0), none, some (zi v2), some (zi v3)], [zi v3, zi v2, zr 42 0], M)) rfl ?_
  obtain ⟨p1, hp1, h⟩ := Option.bind_eq_some_iff.mp h
  refine zG_V hm zmok_158 rfl (as := [zi v2, zi v3]) (rest := []) (st2 := [zi p1.1]) (pc2 := 37) rfl rfl (by omega) (met_X11_number (d := 3) (Nat.le_refl _) hp1) rfl ?_
  cases h
  exact zG_ri hm rfl rfl
def f_X11_numberBehind_j20 (v2 : Int) (v3 : Int) (M : zM) : Option (Int × zM) :=
  if ¬ zw (M 42 0 19) = 0 then
    f_X11_numberBehind_j31 v2 v3 M
  else
    (f_X11_next  M).bind fun p2 =>
      f_X11_numberBehind_j31 v2 v3 p2
theorem g_X11_numberBehind_j20 {v2 : Int} {v3 : Int} {M : zM} {q : Int × zM} {d : Nat} (hd : 4 ≤ d) (h : f_X11_numberBehind_j20 v2 v3 M = some q) : zG 160 d (20, [some (zr 42 0), none, some (zi v2), some (zi v3)], [], M) (some (zi q.1)) q.2 := by
  have hm := zmok_160
  unfold f_X11_numberBehind_j20 at h
  refine zG_run hm 2 (cf' := (24, [some (zr 42 0), none, some (zi v2), some (zi v3)], [zi (M 42 0 19)], M)) rfl ?_
  by_cases c3 : ¬ zw (M 42 0 19) = 0
  · rw [if_pos c3] at h
    refine zG_br hm rfl (cf' := (31, [some (zr 42 0), none, some (zi v2), some (zi v3)], [], M)) (if_pos c3) ?_
    refine zG_sub (lv' := [some (zr 42 0), none, some (zi v2), some (zi v3)]) (zsb_s rfl (zsb_n (zsb_s rfl (zsb_s rfl zsb_0)))) ?_
    exact g_X11_numberBehind_j31 hd h
  · rw [if_neg c3] at h
    refine zG_br hm rfl (cf' := (27, [some (zr 42 0), none, some (zi v2), some (zi v3)], [], M)) (if_neg c3) ?_
    refine zG_run hm 1 (cf' := (28, [some (zr 42 0), none, some (zi v2), some (zi v3)], [zr 42 0], M)) rfl ?_
    obtain ⟨p2, hp2, h⟩ := Option.bind_eq_some_iff.mp h
    refine zG_V hm zmok_135 rfl (as := []) (rest := []) (st2 := []) (pc2 := 31) rfl rfl (by omega) (met_X11_next (d := 2) (Nat.le_refl _) hp2) rfl ?_
    refine zG_sub (lv' := [some (zr 42 0), none, some (zi v2), some (zi v3)]) (zsb_s rfl (zsb_n (zsb_s rfl (zsb_s rfl zsb_0)))) ?_
    exact g_X11_numberBehind_j31 hd h
def f_X11_numberBehind (v1 : Int) (v2 : Int) (v3 : Int) (M : zM) : Option (Int × zM) :=
  if ¬ zw (M 42 0 19) = 0 then
    f_X11_numberBehind_j20 v2 v3 M
  else
    (f_X11_isWord v1 M).bind fun p4 =>
      if ¬ zw p4.1 = 0 then
        f_X11_numberBehind_j20 v2 v3 p4.2
      else
        (f_X11_errs 1 p4.2).bind fun p5 =>
          f_X11_numberBehind_j20 v2 v3 p5
theorem g_X11_numberBehind {v1 : Int} {v2 : Int} {v3 : Int} {M : zM} {q : Int × zM} {d : Nat} (hd : 4 ≤ d) (h : f_X11_numberBehind v1 v2 v3 M = some q) : zG 160 d (0, [some (zr 42 0), some (zi v1), some (zi v2), some (zi v3)], [], M) (some (zi q.1)) q.2 := by
  have hm := zmok_160
  unfold f_X11_numberBehind at h
  refine zG_run hm 2 (cf' := (4, [some (zr 42 0), some (zi v1), some (zi v2), some (zi v3)], [zi (M 42 0 19)], M)) rfl ?_
  by_cases c7 : ¬ zw (M 42 0 19) = 0
  · rw [if_pos c7] at h
    refine zG_br hm rfl (cf' := (20, [some (zr 42 0), some (zi v1), some (zi v2), some (zi v3)], [], M)) (if_pos c7) ?_
    refine zG_sub (lv' := [some (zr 42 0), none, some (zi v2), some (zi v3)]) (zsb_s rfl (zsb_n (zsb_s rfl (zsb_s rfl zsb_0)))) ?_
    exact g_X11_numberBehind_j20 hd h
  · rw [if_neg c7] at h
    refine zG_br hm rfl (cf' := (7, [some (zr 42 0), some (zi v1), some (zi v2), some (zi v3)], [], M)) (if_neg c7) ?_
    refine zG_run hm 2 (cf' := (9, [some (zr 42 0), some (zi v1), some (zi v2), some (zi v3)], [zi v1, zr 42 0], M)) rfl ?_
    obtain ⟨p4, hp4, h⟩ := Option.bind_eq_some_iff.mp h
    refine zG_V hm zmok_137 rfl (as := [zi v1]) (rest := []) (st2 := [zi p4.1]) (pc2 := 12) rfl rfl (by omega) (met_X11_isWord (d := 0) (Nat.le_refl _) hp4) rfl ?_
    by_cases c6 : ¬ zw p4.1 = 0
    · rw [if_pos c6] at h
      refine zG_br hm rfl (cf' := (20, [some (zr 42 0), some (zi v1), some (zi v2), some (zi v3)], [], p4.2)) (if_pos c6) ?_
      refine zG_sub (lv' := [some (zr 42 0), none, some (zi v2), some (zi v3)]) (zsb_s rfl (zsb_n (zsb_s rfl (zsb_s rfl zsb_0)))) ?_
      exact g_X11_numberBehind_j20 hd h
    · rw [if_neg c6] at h
      refine zG_br hm rfl (cf' := (15, [some (zr 42 0), some (zi v1), some (zi v2), some (zi v3)], [], p4.2)) (if_neg c6) ?_
      refine zG_run hm 2 (cf' := (17, [some (zr 42 0), some (zi v1), some (zi v2), some (zi v3)], [zi 1, zr 42 0], p4.2)) rfl ?_
      obtain ⟨p5, hp5, h⟩ := Option.bind_eq_some_iff.mp h
      refine zG_V hm zmok_138 rfl (as := [zi 1]) (rest := []) (st2 := []) (pc2 := 20) rfl rfl (by omega) (met_X11_errs (d := 0) (Nat.le_refl _) hp5) rfl ?_
      refine zG_sub (lv' := [some (zr 42 0), none, some (zi v2), some (zi v3)]) (zsb_s rfl (zsb_n (zsb_s rfl (zsb_s rfl zsb_0)))) ?_
      exact g_X11_numberBehind_j20 hd h
theorem met_X11_numberBehind {v1 : Int} {v2 : Int} {v3 : Int} {M : zM} {q : Int × zM} {d : Nat} (hd : 4 ≤ d) (h : f_X11_numberBehind v1 v2 v3 M = some q) : zMet 160 d [zr 42 0, zi v1, zi v2, zi v3] M (some (zi q.1)) q.2 :=
  zMet_of (lv0 := [some (zr 42 0), some (zi v1), some (zi v2), some (zi v3)]) zmok_160 rfl rfl (fun v hv => by cases hv; trivial) (g_X11_numberBehind hd h)
def f_X11_doing_j142 (v1 : Int) (v2 : Int) (v3 : Int) (M : zM) : Option (zM) :=
  if 0 ≤ zw (M 42 0 30) ∧ zw (M 42 0 30) < 24 then
    zlet (zput M 61 0 (zix (M 42 0 30)) v1) fun M3 =>
    if 0 ≤ zw (M3 42 0 30) ∧ zw (M3 42 0 30) < 24 then
      zlet (zput M3 62 0 (zix (M3 42 0 30)) v2) fun M4 =>
      if 0 ≤ zw (M4 42 0 30) ∧ zw (M4 42 0 30) < 24 then
        zlet (zput M4 63 0 (zix (M4 42 0 30)) v3) fun M5 =>
        some M5
      else
        none
    else
      none
  else
    none
theorem g_X11_doing_j142 {v1 : Int} {v2 : Int} {v3 : Int} {M : zM} {q : zM} {d : Nat} (hd : 5 ≤ d) (h : f_X11_doing_j142 v1 v2 v3 M = some q) : zG 161 d (142, [some (zr 42 0), some (zi v1), some (zi v2), some (zi v3)], [], M) none q := by
  have hm := zmok_161
  unfold f_X11_doing_j142 at h
  refine zG_run hm 5 (cf' := (151, [some (zr 42 0), some (zi v1), some (zi v2), some (zi v3)], [zi v1, zi (M 42 0 30), zr 61 0], M)) rfl ?_
  by_cases c8 : 0 ≤ zw (M 42 0 30) ∧ zw (M 42 0 30) < 24
  · rw [if_pos c8] at h
    refine zG_br hm rfl (cf' := (152, [some (zr 42 0), some (zi v1), some (zi v2), some (zi v3)], [], (zput M 61 0 (zix (M 42 0 30)) v1))) (if_pos c8) ?_
    obtain ⟨M3, eM3, h⟩ := zlet_of h
    rw [eM3]
    refine zG_run hm 5 (cf' := (161, [some (zr 42 0), some (zi v1), some (zi v2), some (zi v3)], [zi v2, zi (M3 42 0 30), zr 62 0], M3)) rfl ?_
    by_cases c7 : 0 ≤ zw (M3 42 0 30) ∧ zw (M3 42 0 30) < 24
    · rw [if_pos c7] at h
      refine zG_br hm rfl (cf' := (162, [some (zr 42 0), some (zi v1), some (zi v2), some (zi v3)], [], (zput M3 62 0 (zix (M3 42 0 30)) v2))) (if_pos c7) ?_
      obtain ⟨M4, eM4, h⟩ := zlet_of h
      rw [eM4]
      refine zG_run hm 5 (cf' := (171, [some (zr 42 0), some (zi v1), some (zi v2), some (zi v3)], [zi v3, zi (M4 42 0 30), zr 63 0], M4)) rfl ?_
      by_cases c6 : 0 ≤ zw (M4 42 0 30) ∧ zw (M4 42 0 30) < 24
      · rw [if_pos c6] at h
        refine zG_br hm rfl (cf' := (172, [some (zr 42 0), some (zi v1), some (zi v2), some (zi v3)], [], (zput M4 63 0 (zix (M4 42 0 30)) v3))) (if_pos c6) ?_
        obtain ⟨M5, eM5, h⟩ := zlet_of h
        rw [eM5]
        cases h
        exact zG_rv hm rfl rfl
      · rw [if_neg c6] at h
        cases h
    · rw [if_neg c7] at h
      cases h
  · rw [if_neg c8] at h
    cases h
def f_X11_doing  (M : zM) : Option (zM) :=
  if zw (M 42 0 31) = 4 then
    (f_X11_number 0 10 M).bind fun p2 =>
      f_X11_doing_j142 p2.1 (-1) (-1) p2.2
  else
    if zw (M 42 0 31) = 5 then
      (f_X11_number 0 99 M).bind fun p10 =>
        (f_X11_numberBehind 11 0 5 p10.2).bind fun p11 =>
          (f_X11_numberBehind 12 1 9 p11.2).bind fun p12 =>
            f_X11_doing_j142 p10.1 p11.1 p12.1 p12.2
    else
      if zw (M 42 0 31) = 6 then
        (f_X11_number 0 99 M).bind fun p14 =>
          f_X11_doing_j142 p14.1 (-1) (-1) p14.2
      else
        if zw (M 42 0 31) = 7 then
          (f_X11_number 0 7 M).bind fun p16 =>
            f_X11_doing_j142 p16.1 (-1) (-1) p16.2
        else
          if zw (M 42 0 31) = 8 then
            (f_X11_number 0 7 M).bind fun p18 =>
              f_X11_doing_j142 p18.1 (-1) (-1) p18.2
          else
            if zw (M 42 0 31) = 9 then
              (f_X11_number 0 7 M).bind fun p20 =>
                (f_X11_numberBehind 2 0 5 p20.2).bind fun p21 =>
                  f_X11_doing_j142 p20.1 p21.1 (-1) p21.2
            else
              if zw (M 42 0 31) = 10 then
                (f_X11_number 1 60 M).bind fun p23 =>
                  f_X11_doing_j142 p23.1 (-1) (-1) p23.2
              else
                (f_X11_number 0 7 M).bind fun p24 =>
                  f_X11_doing_j142 p24.1 (-1) (-1) p24.2
theorem g_X11_doing  {M : zM} {q : zM} {d : Nat} (hd : 5 ≤ d) (h : f_X11_doing  M = some q) : zG 161 d (0, [some (zr 42 0), none, none, none], [], M) none q := by
  have hm := zmok_161
  unfold f_X11_doing at h
  refine zG_run hm 8 (cf' := (10, [some (zr 42 0), some (zi 0), some (zi (-1)), some (zi (-1))], [zi (M 42 0 31)], M)) rfl ?_
  by_cases c1 : zw (M 42 0 31) = 4
  · rw [if_pos c1] at h
    refine zG_tIn hm rfl (tgt := 52) (off := 42) c1 (by decide) rfl (by decide) ?_
    refine zG_run hm 3 (cf' := (56, [some (zr 42 0), some (zi 0), some (zi (-1)), some (zi (-1))], [zi 10, zi 0, zr 42 0], M)) rfl ?_
    obtain ⟨p2, hp2, h⟩ := Option.bind_eq_some_iff.mp h
    refine zG_V hm zmok_158 rfl (as := [zi 0, zi 10]) (rest := []) (st2 := [zi p2.1]) (pc2 := 59) rfl rfl (by omega) (met_X11_number (d := 3) (Nat.le_refl _) hp2) rfl ?_
    refine zG_run hm 2 (cf' := (142, [some (zr 42 0), some (zi p2.1), some (zi (-1)), some (zi (-1))], [], p2.2)) rfl ?_
    refine zG_sub (lv' := [some (zr 42 0), some (zi p2.1), some (zi (-1)), some (zi (-1))]) (zsb_s rfl (zsb_s rfl (zsb_s rfl (zsb_s rfl zsb_0)))) ?_
    exact g_X11_doing_j142 hd h
  · rw [if_neg c1] at h
    by_cases c9 : zw (M 42 0 31) = 5
    · rw [if_pos c9] at h
      refine zG_tIn hm rfl (tgt := 63) (off := 53) c9 (by decide) rfl (by decide) ?_
      refine zG_run hm 3 (cf' := (67, [some (zr 42 0), some (zi 0), some (zi (-1)), some (zi (-1))], [zi 99, zi 0, zr 42 0], M)) rfl ?_
      obtain ⟨p10, hp10, h⟩ := Option.bind_eq_some_iff.mp h
      refine zG_V hm zmok_158 rfl (as := [zi 0, zi 99]) (rest := []) (st2 := [zi p10.1]) (pc2 := 70) rfl rfl (by omega) (met_X11_number (d := 3) (Nat.le_refl _) hp10) rfl ?_
      refine zG_run hm 5 (cf' := (76, [some (zr 42 0), some (zi p10.1), some (zi (-1)), some (zi (-1))], [zi 5, zi 0, zi 11, zr 42 0], p10.2)) rfl ?_
      obtain ⟨p11, hp11, h⟩ := Option.bind_eq_some_iff.mp h
      refine zG_V hm zmok_160 rfl (as := [zi 11, zi 0, zi 5]) (rest := []) (st2 := [zi p11.1]) (pc2 := 79) rfl rfl (by omega) (met_X11_numberBehind (d := 4) (Nat.le_refl _) hp11) rfl ?_
      refine zG_run hm 5 (cf' := (86, [some (zr 42 0), some (zi p10.1), some (zi p11.1), some (zi (-1))], [zi 9, zi 1, zi 12, zr 42 0], p11.2)) rfl ?_
      obtain ⟨p12, hp12, h⟩ := Option.bind_eq_some_iff.mp h
      refine zG_V hm zmok_160 rfl (as := [zi 12, zi 1, zi 9]) (rest := []) (st2 := [zi p12.1]) (pc2 := 89) rfl rfl (by omega) (met_X11_numberBehind (d := 4) (Nat.le_refl _) hp12) rfl ?_
      refine zG_run hm 2 (cf' := (142, [some (zr 42 0), some (zi p10.1), some (zi p11.1), some (zi p12.1)], [], p12.2)) rfl ?_
      refine zG_sub (lv' := [some (zr 42 0), some (zi p10.1), some (zi p11.1), some (zi p12.1)]) (zsb_s rfl (zsb_s rfl (zsb_s rfl (zsb_s rfl zsb_0)))) ?_
      exact g_X11_doing_j142 hd h
    · rw [if_neg c9] at h
      by_cases c13 : zw (M 42 0 31) = 6
      · rw [if_pos c13] at h
        refine zG_tIn hm rfl (tgt := 93) (off := 83) c13 (by decide) rfl (by decide) ?_
        refine zG_run hm 3 (cf' := (97, [some (zr 42 0), some (zi 0), some (zi (-1)), some (zi (-1))], [zi 99, zi 0, zr 42 0], M)) rfl ?_
        obtain ⟨p14, hp14, h⟩ := Option.bind_eq_some_iff.mp h
        refine zG_V hm zmok_158 rfl (as := [zi 0, zi 99]) (rest := []) (st2 := [zi p14.1]) (pc2 := 100) rfl rfl (by omega) (met_X11_number (d := 3) (Nat.le_refl _) hp14) rfl ?_
        refine zG_run hm 2 (cf' := (142, [some (zr 42 0), some (zi p14.1), some (zi (-1)), some (zi (-1))], [], p14.2)) rfl ?_
        refine zG_sub (lv' := [some (zr 42 0), some (zi p14.1), some (zi (-1)), some (zi (-1))]) (zsb_s rfl (zsb_s rfl (zsb_s rfl (zsb_s rfl zsb_0)))) ?_
        exact g_X11_doing_j142 hd h
      · rw [if_neg c13] at h
        by_cases c15 : zw (M 42 0 31) = 7
        · rw [if_pos c15] at h
          refine zG_tIn hm rfl (tgt := 134) (off := 124) c15 (by decide) rfl (by decide) ?_
          refine zG_run hm 3 (cf' := (138, [some (zr 42 0), some (zi 0), some (zi (-1)), some (zi (-1))], [zi 7, zi 0, zr 42 0], M)) rfl ?_
          obtain ⟨p16, hp16, h⟩ := Option.bind_eq_some_iff.mp h
          refine zG_V hm zmok_158 rfl (as := [zi 0, zi 7]) (rest := []) (st2 := [zi p16.1]) (pc2 := 141) rfl rfl (by omega) (met_X11_number (d := 3) (Nat.le_refl _) hp16) rfl ?_
          refine zG_run hm 1 (cf' := (142, [some (zr 42 0), some (zi p16.1), some (zi (-1)), some (zi (-1))], [], p16.2)) rfl ?_
          refine zG_sub (lv' := [some (zr 42 0), some (zi p16.1), some (zi (-1)), some (zi (-1))]) (zsb_s rfl (zsb_s rfl (zsb_s rfl (zsb_s rfl zsb_0)))) ?_
          exact g_X11_doing_j142 hd h
        · rw [if_neg c15] at h
          by_cases c17 : zw (M 42 0 31) = 8
          · rw [if_pos c17] at h
            refine zG_tIn hm rfl (tgt := 134) (off := 124) c17 (by decide) rfl (by decide) ?_
            refine zG_run hm 3 (cf' := (138, [some (zr 42 0), some (zi 0), some (zi (-1)), some (zi (-1))], [zi 7, zi 0, zr 42 0], M)) rfl ?_
            obtain ⟨p18, hp18, h⟩ := Option.bind_eq_some_iff.mp h
            refine zG_V hm zmok_158 rfl (as := [zi 0, zi 7]) (rest := []) (st2 := [zi p18.1]) (pc2 := 141) rfl rfl (by omega) (met_X11_number (d := 3) (Nat.le_refl _) hp18) rfl ?_
            refine zG_run hm 1 (cf' := (142, [some (zr 42 0), some (zi p18.1), some (zi (-1)), some (zi (-1))], [], p18.2)) rfl ?_
            refine zG_sub (lv' := [some (zr 42 0), some (zi p18.1), some (zi (-1)), some (zi (-1))]) (zsb_s rfl (zsb_s rfl (zsb_s rfl (zsb_s rfl zsb_0)))) ?_
            exact g_X11_doing_j142 hd h
          · rw [if_neg c17] at h
            by_cases c19 : zw (M 42 0 31) = 9
            · rw [if_pos c19] at h
              refine zG_tIn hm rfl (tgt := 104) (off := 94) c19 (by decide) rfl (by decide) ?_
              refine zG_run hm 3 (cf' := (108, [some (zr 42 0), some (zi 0), some (zi (-1)), some (zi (-1))], [zi 7, zi 0, zr 42 0], M)) rfl ?_
              obtain ⟨p20, hp20, h⟩ := Option.bind_eq_some_iff.mp h
              refine zG_V hm zmok_158 rfl (as := [zi 0, zi 7]) (rest := []) (st2 := [zi p20.1]) (pc2 := 111) rfl rfl (by omega) (met_X11_number (d := 3) (Nat.le_refl _) hp20) rfl ?_
              refine zG_run hm 5 (cf' := (116, [some (zr 42 0), some (zi p20.1), some (zi (-1)), some (zi (-1))], [zi 5, zi 0, zi 2, zr 42 0], p20.2)) rfl ?_
              obtain ⟨p21, hp21, h⟩ := Option.bind_eq_some_iff.mp h
              refine zG_V hm zmok_160 rfl (as := [zi 2, zi 0, zi 5]) (rest := []) (st2 := [zi p21.1]) (pc2 := 119) rfl rfl (by omega) (met_X11_numberBehind (d := 4) (Nat.le_refl _) hp21) rfl ?_
              refine zG_run hm 2 (cf' := (142, [some (zr 42 0), some (zi p20.1), some (zi p21.1), some (zi (-1))], [], p21.2)) rfl ?_
              refine zG_sub (lv' := [some (zr 42 0), some (zi p20.1), some (zi p21.1), some (zi (-1))]) (zsb_s rfl (zsb_s rfl (zsb_s rfl (zsb_s rfl zsb_0)))) ?_
              exact g_X11_doing_j142 hd h
            · rw [if_neg c19] at h
              by_cases c22 : zw (M 42 0 31) = 10
              · rw [if_pos c22] at h
                refine zG_tIn hm rfl (tgt := 123) (off := 113) c22 (by decide) rfl (by decide) ?_
                refine zG_run hm 3 (cf' := (127, [some (zr 42 0), some (zi 0), some (zi (-1)), some (zi (-1))], [zi 60, zi 1, zr 42 0], M)) rfl ?_
                obtain ⟨p23, hp23, h⟩ := Option.bind_eq_some_iff.mp h
                refine zG_V hm zmok_158 rfl (as := [zi 1, zi 60]) (rest := []) (st2 := [zi p23.1]) (pc2 := 130) rfl rfl (by omega) (met_X11_number (d := 3) (Nat.le_refl _) hp23) rfl ?_
                refine zG_run hm 2 (cf' := (142, [some (zr 42 0), some (zi p23.1), some (zi (-1)), some (zi (-1))], [], p23.2)) rfl ?_
                refine zG_sub (lv' := [some (zr 42 0), some (zi p23.1), some (zi (-1)), some (zi (-1))]) (zsb_s rfl (zsb_s rfl (zsb_s rfl (zsb_s rfl zsb_0)))) ?_
                exact g_X11_doing_j142 hd h
              · rw [if_neg c22] at h
                refine zG_tOut hm rfl (tgt := 134) (by omega) (by decide) ?_
                refine zG_run hm 3 (cf' := (138, [some (zr 42 0), some (zi 0), some (zi (-1)), some (zi (-1))], [zi 7, zi 0, zr 42 0], M)) rfl ?_
                obtain ⟨p24, hp24, h⟩ := Option.bind_eq_some_iff.mp h
                refine zG_V hm zmok_158 rfl (as := [zi 0, zi 7]) (rest := []) (st2 := [zi p24.1]) (pc2 := 141) rfl rfl (by omega) (met_X11_number (d := 3) (Nat.le_refl _) hp24) rfl ?_
                refine zG_run hm 1 (cf' := (142, [some (zr 42 0), some (zi p24.1), some (zi (-1)), some (zi (-1))], [], p24.2)) rfl ?_
                refine zG_sub (lv' := [some (zr 42 0), some (zi p24.1), some (zi (-1)), some (zi (-1))]) (zsb_s rfl (zsb_s rfl (zsb_s rfl (zsb_s rfl zsb_0)))) ?_
                exact g_X11_doing_j142 hd h
theorem met_X11_doing  {M : zM} {q : zM} {d : Nat} (hd : 5 ≤ d) (h : f_X11_doing  M = some q) : zMet 161 d [zr 42 0] M none q :=
  zMet_of (lv0 := [some (zr 42 0), none, none, none]) zmok_161 rfl rfl (fun v hv => by cases hv) (g_X11_doing hd h)
def f_X11_wasTold_j31 (v1 : Int) (v3 : Int) (vs0 : Int) (M : zM) : Option ((Int × Int) ⊕ (Int)) :=
  some (.inl (vs0, (v3 + 1)))
theorem g_X11_wasTold_j31 {v1 : Int} {v3 : Int} {vs0 : Int} {M : zM} {x : (Int × Int) ⊕ (Int)} {r : Option zV} {Mf : zM} {d : Nat} (hd : 0 ≤ d) (h : f_X11_wasTold_j31 v1 v3 vs0 M = some x)
    (kc : ∀ s, x = .inl s → zG 159 d (4, [some (zr 42 0), some (zi v1), some (zi s.1), some (zi s.2)], [], M) r Mf)
    (kb : ∀ t, x = .inr t → zG 159 d (38, [none, none, some (zi t), none], [], M) r Mf) (kr : True) : zG 159 d (31, [some (zr 42 0), some (zi v1), none, some (zi v3)], [zi vs0], M) r Mf := by
  have hm := zmok_159
  unfold f_X11_wasTold_j31 at h
  refine zG_run hm 3 (cf' := (4, [some (zr 42 0), some (zi v1), some (zi vs0), some (zi (v3 + 1))], [], M)) rfl ?_
  refine zG_sub (lv' := [some (zr 42 0), some (zi v1), some (zi vs0), some (zi (v3 + 1))]) (zsb_s rfl (zsb_s rfl (zsb_s rfl (zsb_s rfl zsb_0)))) ?_
  exact kc (vs0, (v3 + 1)) (Option.some.inj h).symm
def f_X11_wasTold_j26 (v1 : Int) (v3 : Int) (M : zM) : Option ((Int × Int) ⊕ (Int)) :=
  f_X11_wasTold_j31 v1 v3 1 M
theorem g_X11_wasTold_j26 {v1 : Int} {v3 : Int} {M : zM} {x : (Int × Int) ⊕ (Int)} {r : Option zV} {Mf : zM} {d : Nat} (hd : 0 ≤ d) (h : f_X11_wasTold_j26 v1 v3 M = some x)
    (kc : ∀ s, x = .inl s → zG 159 d (4, [some (zr 42 0), some (zi v1), some (zi s.1), some (zi s.2)], [], M) r Mf)
    (kb : ∀ t, x = .inr t → zG 159 d (38, [none, none, some (zi t), none], [], M) r Mf) (kr : True) : zG 159 d (26, [some (zr 42 0), some (zi v1), none, some (zi v3)], [], M) r Mf := by
  have hm := zmok_159
  unfold f_X11_wasTold_j26 at h
  refine zG_run hm 2 (cf' := (31, [some (zr 42 0), some (zi v1), none, some (zi v3)], [zi 1], M)) rfl ?_
  refine zG_sub (lv' := [some (zr 42 0), some (zi v1), none, some (zi v3)]) (zsb_s rfl (zsb_s rfl (zsb_n (zsb_s rfl zsb_0)))) ?_
  exact g_X11_wasTold_j31 hd h kc kb kr
def f_X11_wasTold_L4 (v1 : Int) (v2 : Int) (v3 : Int) (M : zM) : Option ((Int × Int) ⊕ (Int)) :=
  if zw (M 42 0 30) ≤ zw v3 then
    some (.inr v2)
  else
    if ¬ zw v2 = 0 then
      f_X11_wasTold_j26 v1 v3 M
    else
      if 0 ≤ zw v3 ∧ zw v3 < 24 then
        if ¬ zw (M 59 0 (zix v3)) = zw v1 then
          f_X11_wasTold_j31 v1 v3 0 M
        else
          f_X11_wasTold_j26 v1 v3 M
      else
        none
theorem g_X11_wasTold_L4 {v1 : Int} {v2 : Int} {v3 : Int} {M : zM} {x : (Int × Int) ⊕ (Int)} {r : Option zV} {Mf : zM} {d : Nat} (hd : 0 ≤ d) (h : f_X11_wasTold_L4 v1 v2 v3 M = some x)
    (kc : ∀ s, x = .inl s → zG 159 d (4, [some (zr 42 0), some (zi v1), some (zi s.1), some (zi s.2)], [], M) r Mf)
    (kb : ∀ t, x = .inr t → zG 159 d (38, [none, none, some (zi t), none], [], M) r Mf) (kr : True) : zG 159 d (4, [some (zr 42 0), some (zi v1), some (zi v2), some (zi v3)], [], M) r Mf := by
  have hm := zmok_159
  unfold f_X11_wasTold_L4 at h
  refine zG_run hm 3 (cf' := (9, [some (zr 42 0), some (zi v1), some (zi v2), some (zi v3)], [zi (M 42 0 30), zi v3], M)) rfl ?_
  by_cases c4 : zw (M 42 0 30) ≤ zw v3
  · rw [if_pos c4] at h
    refine zG_br hm rfl (cf' := (38, [some (zr 42 0), some (zi v1), some (zi v2), some (zi v3)], [], M)) (if_pos c4) ?_
    refine zG_sub (lv' := [none, none, some (zi v2), none]) (zsb_n (zsb_n (zsb_s rfl (zsb_n zsb_0)))) ?_
    exact kb v2 (Option.some.inj h).symm
  · rw [if_neg c4] at h
    refine zG_br hm rfl (cf' := (12, [some (zr 42 0), some (zi v1), some (zi v2), some (zi v3)], [], M)) (if_neg c4) ?_
    refine zG_run hm 1 (cf' := (13, [some (zr 42 0), some (zi v1), some (zi v2), some (zi v3)], [zi v2], M)) rfl ?_
    by_cases c3 : ¬ zw v2 = 0
    · rw [if_pos c3] at h
      refine zG_br hm rfl (cf' := (26, [some (zr 42 0), some (zi v1), some (zi v2), some (zi v3)], [], M)) (if_pos c3) ?_
      refine zG_sub (lv' := [some (zr 42 0), some (zi v1), none, some (zi v3)]) (zsb_s rfl (zsb_s rfl (zsb_n (zsb_s rfl zsb_0)))) ?_
      exact g_X11_wasTold_j26 hd h kc kb kr
    · rw [if_neg c3] at h
      refine zG_br hm rfl (cf' := (16, [some (zr 42 0), some (zi v1), some (zi v2), some (zi v3)], [], M)) (if_neg c3) ?_
      refine zG_run hm 3 (cf' := (21, [some (zr 42 0), some (zi v1), some (zi v2), some (zi v3)], [zi v3, zr 59 0], M)) rfl ?_
      by_cases c2 : 0 ≤ zw v3 ∧ zw v3 < 24
      · rw [if_pos c2] at h
        refine zG_br hm rfl (cf' := (22, [some (zr 42 0), some (zi v1), some (zi v2), some (zi v3)], [zi (M 59 0 (zix v3))], M)) (if_pos c2) ?_
        refine zG_run hm 1 (cf' := (23, [some (zr 42 0), some (zi v1), some (zi v2), some (zi v3)], [zi v1, zi (M 59 0 (zix v3))], M)) rfl ?_
        by_cases c1 : ¬ zw (M 59 0 (zix v3)) = zw v1
        · rw [if_pos c1] at h
          refine zG_br hm rfl (cf' := (30, [some (zr 42 0), some (zi v1), some (zi v2), some (zi v3)], [], M)) (if_pos c1) ?_
          refine zG_run hm 1 (cf' := (31, [some (zr 42 0), some (zi v1), some (zi v2), some (zi v3)], [zi 0], M)) rfl ?_
          refine zG_sub (lv' := [some (zr 42 0), some (zi v1), none, some (zi v3)]) (zsb_s rfl (zsb_s rfl (zsb_n (zsb_s rfl zsb_0)))) ?_
          exact g_X11_wasTold_j31 hd h kc kb kr
        · rw [if_neg c1] at h
          refine zG_br hm rfl (cf' := (26, [some (zr 42 0), some (zi v1), some (zi v2), some (zi v3)], [], M)) (if_neg c1) ?_
          refine zG_sub (lv' := [some (zr 42 0), some (zi v1), none, some (zi v3)]) (zsb_s rfl (zsb_s rfl (zsb_n (zsb_s rfl zsb_0)))) ?_
          exact g_X11_wasTold_j26 hd h kc kb kr
      · rw [if_neg c2] at h
        cases h
theorem gl_X11_wasTold_L4 {v1 : Int} {M : zM} {y : Int} {r : Option zV} {Mf : zM} {d : Nat} (hd : 0 ≤ d)
    (kb : ∀ t, y = t → zG 159 d (38, [none, none, some (zi t), none], [], M) r Mf) (kr : True) : ∀ (n : Nat) (s : Int × Int), zlp (fun s : Int × Int => f_X11_wasTold_L4 v1 s.1 s.2 M) n s = some y → zG 159 d (4, [some (zr 42 0), some (zi v1), some (zi s.1), some (zi s.2)], [], M) r Mf := by
  intro n
  induction n with
  | zero => intro s h; cases h
  | succ n ih =>
    intro s h
    rcases zlp_cases h with ⟨s', h1, h2⟩ | h1
    · exact g_X11_wasTold_L4 hd h1 (fun s2 e2 => by cases e2; exact ih _ h2) (fun t e2 => by cases e2) trivial
    · exact g_X11_wasTold_L4 hd h1 (fun s2 e2 => by cases e2) (fun t e2 => kb t (Sum.inr.inj e2)) trivial
def f_X11_wasTold (v1 : Int) (M : zM) : Option (Int × zM) :=
  (zlp (fun s : Int × Int => f_X11_wasTold_L4 v1 s.1 s.2 M) zF (0, 0)).bind fun y5 =>
    if y5 = 0 ∨ y5 = 1 then
      some (y5, M)
    else
      none
theorem g_X11_wasTold {v1 : Int} {M : zM} {q : Int × zM} {d : Nat} (hd : 0 ≤ d) (h : f_X11_wasTold v1 M = some q) : zG 159 d (0, [some (zr 42 0), some (zi v1), none, none], [], M) (some (zi q.1)) q.2 := by
  have hm := zmok_159
  unfold f_X11_wasTold at h
  refine zG_run hm 4 (cf' := (4, [some (zr 42 0), some (zi v1), some (zi 0), some (zi 0)], [], M)) rfl ?_
  refine zG_sub (lv' := [some (zr 42 0), some (zi v1), some (zi 0), some (zi 0)]) (zsb_s rfl (zsb_s rfl (zsb_s rfl (zsb_s rfl zsb_0)))) ?_
  obtain ⟨y5, hy5, h⟩ := Option.bind_eq_some_iff.mp h
  refine gl_X11_wasTold_L4 hd (fun t e2 => ?_) trivial zF (0, 0) hy5
  cases e2
  refine zG_run hm 1 (cf' := (39, [none, none, some (zi y5), none], [zi y5], M)) rfl ?_
  by_cases hz : y5 = 0 ∨ y5 = 1
  · rw [if_pos hz] at h
    cases h
    exact zG_rz hm rfl rfl hz
  · rw [if_neg hz] at h
    cases h
theorem met_X11_wasTold {v1 : Int} {M : zM} {q : Int × zM} {d : Nat} (hd : 0 ≤ d) (h : f_X11_wasTold v1 M = some q) : zMet 159 d [zr 42 0, zi v1] M (some (zi q.1)) q.2 :=
  zMet_of (lv0 := [some (zr 42 0), some (zi v1), none, none]) zmok_159 rfl rfl (fun v hv => by cases hv; trivial) (g_X11_wasTold hd h)
def f_X11_clause_j17  (M : zM) : Option (zM) :=
  (f_X11_errs 1 M).bind fun p1 =>
    some p1
theorem g_X11_clause_j17  {M : zM} {q : zM} {d : Nat} (hd : 6 ≤ d) (h : f_X11_clause_j17  M = some q) : zG 162 d (17, [some (zr 42 0)], [], M) none q := by
  have hm := zmok_162
  unfold f_X11_clause_j17 at h
  refine zG_run hm 2 (cf' := (19, [some (zr 42 0)], [zi 1, zr 42 0], M)) rfl ?_
  obtain ⟨p1, hp1, h⟩ := Option.bind_eq_some_iff.mp h
  refine zG_V hm zmok_138 rfl (as := [zi 1]) (rest := []) (st2 := []) (pc2 := 22) rfl rfl (by omega) (met_X11_errs (d := 0) (Nat.le_refl _) hp1) rfl ?_
  cases h
  exact zG_rv hm rfl rfl
def f_X11_clause_j155  (M : zM) : Option (zM) :=
  if ¬ zw (M 42 0 19) = 0 then
    some M
  else
    (f_X11_clauseIsOver  M).bind fun p7 =>
      some p7
theorem g_X11_clause_j155  {M : zM} {q : zM} {d : Nat} (hd : 6 ≤ d) (h : f_X11_clause_j155  M = some q) : zG 162 d (155, [some (zr 42 0)], [], M) none q := by
  have hm := zmok_162
  unfold f_X11_clause_j155 at h
  refine zG_run hm 2 (cf' := (159, [some (zr 42 0)], [zi (M 42 0 19)], M)) rfl ?_
  by_cases c8 : ¬ zw (M 42 0 19) = 0
  · rw [if_pos c8] at h
    refine zG_br hm rfl (cf' := (166, [some (zr 42 0)], [], M)) (if_pos c8) ?_
    cases h
    exact zG_rv hm rfl rfl
  · rw [if_neg c8] at h
    refine zG_br hm rfl (cf' := (162, [some (zr 42 0)], [], M)) (if_neg c8) ?_
    refine zG_run hm 1 (cf' := (163, [some (zr 42 0)], [zr 42 0], M)) rfl ?_
    obtain ⟨p7, hp7, h⟩ := Option.bind_eq_some_iff.mp h
    refine zG_V hm zmok_157 rfl (as := []) (rest := []) (st2 := []) (pc2 := 166) rfl rfl (by omega) (met_X11_clauseIsOver (d := 3) (Nat.le_refl _) hp7) rfl ?_
    cases h
    exact zG_rv hm rfl rfl
def f_X11_clause_j73  (M : zM) : Option (zM) :=
  if zw (M 42 0 19) ≤ 0 then
    if 0 ≤ zw (M 42 0 30) ∧ zw (M 42 0 30) < 24 then
      zlet (zput M 59 0 (zix (M 42 0 30)) (M 42 0 31)) fun M3 =>
      if 0 ≤ zw (M3 42 0 30) ∧ zw (M3 42 0 30) < 24 then
        zlet (zput M3 60 0 (zix (M3 42 0 30)) (M3 42 0 37)) fun M4 =>
        (f_X11_next  M4).bind fun p5 =>
          if 3 < zw (p5 42 0 31) then
            (f_X11_doing  p5).bind fun p6 =>
              if ¬ zw (p6 42 0 19) = 0 then
                f_X11_clause_j155  p6
              else
                (f_X11_isSign 59 p6).bind fun p9 =>
                  if ¬ zw p9.1 = 0 then
                    f_X11_clause_j155  p9.2
                  else
                    (f_X11_errs 1 p9.2).bind fun p10 =>
                      f_X11_clause_j155  p10
          else
            (f_X11_opensFrame 1 p5).bind fun p13 =>
              zlet (zput p13 42 0 28 1) fun M14 =>
              some M14
      else
        none
    else
      none
  else
    some M
theorem g_X11_clause_j73  {M : zM} {q : zM} {d : Nat} (hd : 6 ≤ d) (h : f_X11_clause_j73  M = some q) : zG 162 d (73, [some (zr 42 0)], [], M) none q := by
  have hm := zmok_162
  unfold f_X11_clause_j73 at h
  refine zG_run hm 2 (cf' := (77, [some (zr 42 0)], [zi (M 42 0 19)], M)) rfl ?_
  by_cases c18 : zw (M 42 0 19) ≤ 0
  · rw [if_pos c18] at h
    refine zG_br hm rfl (cf' := (81, [some (zr 42 0)], [], M)) (if_pos c18) ?_
    refine zG_run hm 6 (cf' := (93, [some (zr 42 0)], [zi (M 42 0 31), zi (M 42 0 30), zr 59 0], M)) rfl ?_
    by_cases c17 : 0 ≤ zw (M 42 0 30) ∧ zw (M 42 0 30) < 24
    · rw [if_pos c17] at h
      refine zG_br hm rfl (cf' := (94, [some (zr 42 0)], [], (zput M 59 0 (zix (M 42 0 30)) (M 42 0 31)))) (if_pos c17) ?_
      obtain ⟨M3, eM3, h⟩ := zlet_of h
      rw [eM3]
      refine zG_run hm 6 (cf' := (106, [some (zr 42 0)], [zi (M3 42 0 37), zi (M3 42 0 30), zr 60 0], M3)) rfl ?_
      by_cases c16 : 0 ≤ zw (M3 42 0 30) ∧ zw (M3 42 0 30) < 24
      · rw [if_pos c16] at h
        refine zG_br hm rfl (cf' := (107, [some (zr 42 0)], [], (zput M3 60 0 (zix (M3 42 0 30)) (M3 42 0 37)))) (if_pos c16) ?_
        obtain ⟨M4, eM4, h⟩ := zlet_of h
        rw [eM4]
        refine zG_run hm 1 (cf' := (108, [some (zr 42 0)], [zr 42 0], M4)) rfl ?_
        obtain ⟨p5, hp5, h⟩ := Option.bind_eq_some_iff.mp h
        refine zG_V hm zmok_135 rfl (as := []) (rest := []) (st2 := []) (pc2 := 111) rfl rfl (by omega) (met_X11_next (d := 2) (Nat.le_refl _) hp5) rfl ?_
        refine zG_run hm 3 (cf' := (116, [some (zr 42 0)], [zi 3, zi (p5 42 0 31)], p5)) rfl ?_
        by_cases c15 : 3 < zw (p5 42 0 31)
        · rw [if_pos c15] at h
          refine zG_br hm rfl (cf' := (130, [some (zr 42 0)], [], p5)) (if_pos c15) ?_
          refine zG_run hm 1 (cf' := (131, [some (zr 42 0)], [zr 42 0], p5)) rfl ?_
          obtain ⟨p6, hp6, h⟩ := Option.bind_eq_some_iff.mp h
          refine zG_V hm zmok_161 rfl (as := []) (rest := []) (st2 := []) (pc2 := 134) rfl rfl (by omega) (met_X11_doing (d := 5) (Nat.le_refl _) hp6) rfl ?_
          refine zG_run hm 2 (cf' := (138, [some (zr 42 0)], [zi (p6 42 0 19)], p6)) rfl ?_
          by_cases c12 : ¬ zw (p6 42 0 19) = 0
          · rw [if_pos c12] at h
            refine zG_br hm rfl (cf' := (155, [some (zr 42 0)], [], p6)) (if_pos c12) ?_
            refine zG_sub (lv' := [some (zr 42 0)]) (zsb_s rfl zsb_0) ?_
            exact g_X11_clause_j155 hd h
          · rw [if_neg c12] at h
            refine zG_br hm rfl (cf' := (141, [some (zr 42 0)], [], p6)) (if_neg c12) ?_
            refine zG_run hm 2 (cf' := (144, [some (zr 42 0)], [zi 59, zr 42 0], p6)) rfl ?_
            obtain ⟨p9, hp9, h⟩ := Option.bind_eq_some_iff.mp h
            refine zG_V hm zmok_136 rfl (as := [zi 59]) (rest := []) (st2 := [zi p9.1]) (pc2 := 147) rfl rfl (by omega) (met_X11_isSign (d := 0) (Nat.le_refl _) hp9) rfl ?_
            by_cases c11 : ¬ zw p9.1 = 0
            · rw [if_pos c11] at h
              refine zG_br hm rfl (cf' := (155, [some (zr 42 0)], [], p9.2)) (if_pos c11) ?_
              refine zG_sub (lv' := [some (zr 42 0)]) (zsb_s rfl zsb_0) ?_
              exact g_X11_clause_j155 hd h
            · rw [if_neg c11] at h
              refine zG_br hm rfl (cf' := (150, [some (zr 42 0)], [], p9.2)) (if_neg c11) ?_
              refine zG_run hm 2 (cf' := (152, [some (zr 42 0)], [zi 1, zr 42 0], p9.2)) rfl ?_
              obtain ⟨p10, hp10, h⟩ := Option.bind_eq_some_iff.mp h
              refine zG_V hm zmok_138 rfl (as := [zi 1]) (rest := []) (st2 := []) (pc2 := 155) rfl rfl (by omega) (met_X11_errs (d := 0) (Nat.le_refl _) hp10) rfl ?_
              refine zG_sub (lv' := [some (zr 42 0)]) (zsb_s rfl zsb_0) ?_
              exact g_X11_clause_j155 hd h
        · rw [if_neg c15] at h
          refine zG_br hm rfl (cf' := (119, [some (zr 42 0)], [], p5)) (if_neg c15) ?_
          refine zG_run hm 2 (cf' := (121, [some (zr 42 0)], [zi 1, zr 42 0], p5)) rfl ?_
          obtain ⟨p13, hp13, h⟩ := Option.bind_eq_some_iff.mp h
          refine zG_V hm zmok_140 rfl (as := [zi 1]) (rest := []) (st2 := []) (pc2 := 124) rfl rfl (by omega) (met_X11_opensFrame (d := 0) (Nat.le_refl _) hp13) rfl ?_
          refine zG_run hm 3 (cf' := (129, [some (zr 42 0)], [], (zput p13 42 0 28 1))) rfl ?_
          obtain ⟨M14, eM14, h⟩ := zlet_of h
          rw [eM14]
          cases h
          exact zG_rv hm rfl rfl
      · rw [if_neg c16] at h
        cases h
    · rw [if_neg c17] at h
      cases h
  · rw [if_neg c18] at h
    refine zG_br hm rfl (cf' := (80, [some (zr 42 0)], [], M)) (if_neg c18) ?_
    cases h
    exact zG_rv hm rfl rfl
def f_X11_clause_j58  (M : zM) : Option (zM) :=
  if ¬ zw (M 42 0 30) = 24 then
    f_X11_clause_j73  M
  else
    (f_X11_errs 6 M).bind fun p19 =>
      f_X11_clause_j73  p19
theorem g_X11_clause_j58  {M : zM} {q : zM} {d : Nat} (hd : 6 ≤ d) (h : f_X11_clause_j58  M = some q) : zG 162 d (58, [some (zr 42 0)], [], M) none q := by
  have hm := zmok_162
  unfold f_X11_clause_j58 at h
  refine zG_run hm 3 (cf' := (64, [some (zr 42 0)], [zi 24, zi (M 42 0 30)], M)) rfl ?_
  by_cases c20 : ¬ zw (M 42 0 30) = 24
  · rw [if_pos c20] at h
    refine zG_br hm rfl (cf' := (73, [some (zr 42 0)], [], M)) (if_pos c20) ?_
    refine zG_sub (lv' := [some (zr 42 0)]) (zsb_s rfl zsb_0) ?_
    exact g_X11_clause_j73 hd h
  · rw [if_neg c20] at h
    refine zG_br hm rfl (cf' := (67, [some (zr 42 0)], [], M)) (if_neg c20) ?_
    refine zG_run hm 2 (cf' := (70, [some (zr 42 0)], [zi 6, zr 42 0], M)) rfl ?_
    obtain ⟨p19, hp19, h⟩ := Option.bind_eq_some_iff.mp h
    refine zG_V hm zmok_138 rfl (as := [zi 6]) (rest := []) (st2 := []) (pc2 := 73) rfl rfl (by omega) (met_X11_errs (d := 0) (Nat.le_refl _) hp19) rfl ?_
    refine zG_sub (lv' := [some (zr 42 0)]) (zsb_s rfl zsb_0) ?_
    exact g_X11_clause_j73 hd h
def f_X11_clause  (M : zM) : Option (zM) :=
  if ¬ zw (M 42 0 17) = 1 then
    f_X11_clause_j17  M
  else
    if zw (M 42 0 18) ≤ 10 then
      zlet (zput M 42 0 31 (M 42 0 18)) fun M2 =>
      if 3 < zw (M2 42 0 31) then
        f_X11_clause_j58  M2
      else
        (f_X11_wasTold (M2 42 0 31) M2).bind fun p21 =>
          if zw p21.1 = 0 then
            f_X11_clause_j58  p21.2
          else
            (f_X11_errs 4 p21.2).bind fun p22 =>
              f_X11_clause_j73  p22
    else
      f_X11_clause_j17  M
theorem g_X11_clause  {M : zM} {q : zM} {d : Nat} (hd : 6 ≤ d) (h : f_X11_clause  M = some q) : zG 162 d (0, [some (zr 42 0)], [], M) none q := by
  have hm := zmok_162
  unfold f_X11_clause at h
  refine zG_run hm 3 (cf' := (5, [some (zr 42 0)], [zi 1, zi (M 42 0 17)], M)) rfl ?_
  by_cases c26 : ¬ zw (M 42 0 17) = 1
  · rw [if_pos c26] at h
    refine zG_br hm rfl (cf' := (17, [some (zr 42 0)], [], M)) (if_pos c26) ?_
    refine zG_sub (lv' := [some (zr 42 0)]) (zsb_s rfl zsb_0) ?_
    exact g_X11_clause_j17 hd h
  · rw [if_neg c26] at h
    refine zG_br hm rfl (cf' := (8, [some (zr 42 0)], [], M)) (if_neg c26) ?_
    refine zG_run hm 3 (cf' := (14, [some (zr 42 0)], [zi 10, zi (M 42 0 18)], M)) rfl ?_
    by_cases c25 : zw (M 42 0 18) ≤ 10
    · rw [if_pos c25] at h
      refine zG_br hm rfl (cf' := (23, [some (zr 42 0)], [], M)) (if_pos c25) ?_
      refine zG_run hm 4 (cf' := (31, [some (zr 42 0)], [], (zput M 42 0 31 (M 42 0 18)))) rfl ?_
      obtain ⟨M2, eM2, h⟩ := zlet_of h
      rw [eM2]
      refine zG_run hm 3 (cf' := (36, [some (zr 42 0)], [zi 3, zi (M2 42 0 31)], M2)) rfl ?_
      by_cases c24 : 3 < zw (M2 42 0 31)
      · rw [if_pos c24] at h
        refine zG_br hm rfl (cf' := (58, [some (zr 42 0)], [], M2)) (if_pos c24) ?_
        refine zG_sub (lv' := [some (zr 42 0)]) (zsb_s rfl zsb_0) ?_
        exact g_X11_clause_j58 hd h
      · rw [if_neg c24] at h
        refine zG_br hm rfl (cf' := (39, [some (zr 42 0)], [], M2)) (if_neg c24) ?_
        refine zG_run hm 3 (cf' := (44, [some (zr 42 0)], [zi (M2 42 0 31), zr 42 0], M2)) rfl ?_
        obtain ⟨p21, hp21, h⟩ := Option.bind_eq_some_iff.mp h
        refine zG_V hm zmok_159 rfl (as := [zi (M2 42 0 31)]) (rest := []) (st2 := [zi p21.1]) (pc2 := 47) rfl rfl (by omega) (met_X11_wasTold (d := 0) (Nat.le_refl _) hp21) rfl ?_
        by_cases c23 : zw p21.1 = 0
        · rw [if_pos c23] at h
          refine zG_br hm rfl (cf' := (58, [some (zr 42 0)], [], p21.2)) (if_pos c23) ?_
          refine zG_sub (lv' := [some (zr 42 0)]) (zsb_s rfl zsb_0) ?_
          exact g_X11_clause_j58 hd h
        · rw [if_neg c23] at h
          refine zG_br hm rfl (cf' := (50, [some (zr 42 0)], [], p21.2)) (if_neg c23) ?_
          refine zG_run hm 2 (cf' := (52, [some (zr 42 0)], [zi 4, zr 42 0], p21.2)) rfl ?_
          obtain ⟨p22, hp22, h⟩ := Option.bind_eq_some_iff.mp h
          refine zG_V hm zmok_138 rfl (as := [zi 4]) (rest := []) (st2 := []) (pc2 := 55) rfl rfl (by omega) (met_X11_errs (d := 0) (Nat.le_refl _) hp22) rfl ?_
          refine zG_run hm 1 (cf' := (73, [some (zr 42 0)], [], p22)) rfl ?_
          refine zG_sub (lv' := [some (zr 42 0)]) (zsb_s rfl zsb_0) ?_
          exact g_X11_clause_j73 hd h
    · rw [if_neg c25] at h
      refine zG_br hm rfl (cf' := (17, [some (zr 42 0)], [], M)) (if_neg c25) ?_
      refine zG_sub (lv' := [some (zr 42 0)]) (zsb_s rfl zsb_0) ?_
      exact g_X11_clause_j17 hd h
theorem met_X11_clause  {M : zM} {q : zM} {d : Nat} (hd : 6 ≤ d) (h : f_X11_clause  M = some q) : zMet 162 d [zr 42 0] M none q :=
  zMet_of (lv0 := [some (zr 42 0)]) zmok_162 rfl rfl (fun v hv => by cases hv) (g_X11_clause hd h)
def f_X11_text_j96  (M : zM) : Option ((zM) ⊕ (zM)) :=
  if zw (M 42 0 28) = 0 then
    (f_X11_asks  M).bind fun p14 =>
      some (.inl p14)
  else
    if zw (M 42 0 28) = 1 then
      (f_X11_begins  M).bind fun p16 =>
        some (.inl p16)
    else
      if zw (M 42 0 28) = 2 then
        (f_X11_goesOn  M).bind fun p18 =>
          some (.inl p18)
      else
        if zw (M 42 0 28) = 3 then
          (f_X11_asksOn  M).bind fun p20 =>
            some (.inl p20)
        else
          (f_X11_clause  M).bind fun p21 =>
            some (.inl p21)
theorem g_X11_text_j96  {M : zM} {x : (zM) ⊕ (zM)} {r : Option zV} {Mf : zM} {d : Nat} (hd : 7 ≤ d) (h : f_X11_text_j96  M = some x)
    (kc : ∀ s, x = .inl s → zG 163 d (74, [some (zr 42 0), none, none, none], [], s) r Mf)
    (kb : ∀ t, x = .inr t → zG 163 d (167, [some (zr 42 0), none, none, none], [], t) r Mf) (kr : True) : zG 163 d (96, [some (zr 42 0), none, none, none], [], M) r Mf := by
  have hm := zmok_163
  unfold f_X11_text_j96 at h
  refine zG_run hm 2 (cf' := (100, [some (zr 42 0), none, none, none], [zi (M 42 0 28)], M)) rfl ?_
  by_cases c13 : zw (M 42 0 28) = 0
  · rw [if_pos c13] at h
    refine zG_tIn hm rfl (tgt := 132) (off := 32) c13 (by decide) rfl (by decide) ?_
    refine zG_run hm 1 (cf' := (133, [some (zr 42 0), none, none, none], [zr 42 0], M)) rfl ?_
    obtain ⟨p14, hp14, h⟩ := Option.bind_eq_some_iff.mp h
    refine zG_V hm zmok_146 rfl (as := []) (rest := []) (st2 := []) (pc2 := 136) rfl rfl (by omega) (met_X11_asks (d := 4) (Nat.le_refl _) hp14) rfl ?_
    refine zG_run hm 1 (cf' := (74, [some (zr 42 0), none, none, none], [], p14)) rfl ?_
    refine zG_sub (lv' := [some (zr 42 0), none, none, none]) (zsb_s rfl (zsb_n (zsb_n (zsb_n zsb_0)))) ?_
    exact kc p14 (Option.some.inj h).symm
  · rw [if_neg c13] at h
    by_cases c15 : zw (M 42 0 28) = 1
    · rw [if_pos c15] at h
      refine zG_tIn hm rfl (tgt := 139) (off := 39) c15 (by decide) rfl (by decide) ?_
      refine zG_run hm 1 (cf' := (140, [some (zr 42 0), none, none, none], [zr 42 0], M)) rfl ?_
      obtain ⟨p16, hp16, h⟩ := Option.bind_eq_some_iff.mp h
      refine zG_V hm zmok_149 rfl (as := []) (rest := []) (st2 := []) (pc2 := 143) rfl rfl (by omega) (met_X11_begins (d := 5) (Nat.le_refl _) hp16) rfl ?_
      refine zG_run hm 1 (cf' := (74, [some (zr 42 0), none, none, none], [], p16)) rfl ?_
      refine zG_sub (lv' := [some (zr 42 0), none, none, none]) (zsb_s rfl (zsb_n (zsb_n (zsb_n zsb_0)))) ?_
      exact kc p16 (Option.some.inj h).symm
    · rw [if_neg c15] at h
      by_cases c17 : zw (M 42 0 28) = 2
      · rw [if_pos c17] at h
        refine zG_tIn hm rfl (tgt := 146) (off := 46) c17 (by decide) rfl (by decide) ?_
        refine zG_run hm 1 (cf' := (147, [some (zr 42 0), none, none, none], [zr 42 0], M)) rfl ?_
        obtain ⟨p18, hp18, h⟩ := Option.bind_eq_some_iff.mp h
        refine zG_V hm zmok_155 rfl (as := []) (rest := []) (st2 := []) (pc2 := 150) rfl rfl (by omega) (met_X11_goesOn (d := 5) (Nat.le_refl _) hp18) rfl ?_
        refine zG_run hm 1 (cf' := (74, [some (zr 42 0), none, none, none], [], p18)) rfl ?_
        refine zG_sub (lv' := [some (zr 42 0), none, none, none]) (zsb_s rfl (zsb_n (zsb_n (zsb_n zsb_0)))) ?_
        exact kc p18 (Option.some.inj h).symm
      · rw [if_neg c17] at h
        by_cases c19 : zw (M 42 0 28) = 3
        · rw [if_pos c19] at h
          refine zG_tIn hm rfl (tgt := 153) (off := 53) c19 (by decide) rfl (by decide) ?_
          refine zG_run hm 1 (cf' := (154, [some (zr 42 0), none, none, none], [zr 42 0], M)) rfl ?_
          obtain ⟨p20, hp20, h⟩ := Option.bind_eq_some_iff.mp h
          refine zG_V hm zmok_156 rfl (as := []) (rest := []) (st2 := []) (pc2 := 157) rfl rfl (by omega) (met_X11_asksOn (d := 4) (Nat.le_refl _) hp20) rfl ?_
          refine zG_run hm 1 (cf' := (74, [some (zr 42 0), none, none, none], [], p20)) rfl ?_
          refine zG_sub (lv' := [some (zr 42 0), none, none, none]) (zsb_s rfl (zsb_n (zsb_n (zsb_n zsb_0)))) ?_
          exact kc p20 (Option.some.inj h).symm
        · rw [if_neg c19] at h
          refine zG_tOut hm rfl (tgt := 160) (by omega) (by decide) ?_
          refine zG_run hm 1 (cf' := (161, [some (zr 42 0), none, none, none], [zr 42 0], M)) rfl ?_
          obtain ⟨p21, hp21, h⟩ := Option.bind_eq_some_iff.mp h
          refine zG_V hm zmok_162 rfl (as := []) (rest := []) (st2 := []) (pc2 := 164) rfl rfl (by omega) (met_X11_clause (d := 6) (Nat.le_refl _) hp21) rfl ?_
          refine zG_run hm 1 (cf' := (74, [some (zr 42 0), none, none, none], [], p21)) rfl ?_
          refine zG_sub (lv' := [some (zr 42 0), none, none, none]) (zsb_s rfl (zsb_n (zsb_n (zsb_n zsb_0)))) ?_
          exact kc p21 (Option.some.inj h).symm
def f_X11_text_L74  (M : zM) : Option ((zM) ⊕ (zM)) :=
  if ¬ zw (M 42 0 19) = 0 then
    some (.inr M)
  else
    if ¬ zw (M 42 0 28) = 4 then
      f_X11_text_j96  M
    else
      if zw (M 42 0 17) = 0 then
        some (.inr M)
      else
        f_X11_text_j96  M
theorem g_X11_text_L74  {M : zM} {x : (zM) ⊕ (zM)} {r : Option zV} {Mf : zM} {d : Nat} (hd : 7 ≤ d) (h : f_X11_text_L74  M = some x)
    (kc : ∀ s, x = .inl s → zG 163 d (74, [some (zr 42 0), none, none, none], [], s) r Mf)
    (kb : ∀ t, x = .inr t → zG 163 d (167, [some (zr 42 0), none, none, none], [], t) r Mf) (kr : True) : zG 163 d (74, [some (zr 42 0), none, none, none], [], M) r Mf := by
  have hm := zmok_163
  unfold f_X11_text_L74 at h
  refine zG_run hm 2 (cf' := (78, [some (zr 42 0), none, none, none], [zi (M 42 0 19)], M)) rfl ?_
  by_cases c24 : ¬ zw (M 42 0 19) = 0
  · rw [if_pos c24] at h
    refine zG_br hm rfl (cf' := (167, [some (zr 42 0), none, none, none], [], M)) (if_pos c24) ?_
    refine zG_sub (lv' := [some (zr 42 0), none, none, none]) (zsb_s rfl (zsb_n (zsb_n (zsb_n zsb_0)))) ?_
    exact kb M (Option.some.inj h).symm
  · rw [if_neg c24] at h
    refine zG_br hm rfl (cf' := (81, [some (zr 42 0), none, none, none], [], M)) (if_neg c24) ?_
    refine zG_run hm 3 (cf' := (86, [some (zr 42 0), none, none, none], [zi 4, zi (M 42 0 28)], M)) rfl ?_
    by_cases c23 : ¬ zw (M 42 0 28) = 4
    · rw [if_pos c23] at h
      refine zG_br hm rfl (cf' := (96, [some (zr 42 0), none, none, none], [], M)) (if_pos c23) ?_
      refine zG_sub (lv' := [some (zr 42 0), none, none, none]) (zsb_s rfl (zsb_n (zsb_n (zsb_n zsb_0)))) ?_
      exact g_X11_text_j96 hd h kc kb kr
    · rw [if_neg c23] at h
      refine zG_br hm rfl (cf' := (89, [some (zr 42 0), none, none, none], [], M)) (if_neg c23) ?_
      refine zG_run hm 2 (cf' := (93, [some (zr 42 0), none, none, none], [zi (M 42 0 17)], M)) rfl ?_
      by_cases c22 : zw (M 42 0 17) = 0
      · rw [if_pos c22] at h
        refine zG_br hm rfl (cf' := (167, [some (zr 42 0), none, none, none], [], M)) (if_pos c22) ?_
        refine zG_sub (lv' := [some (zr 42 0), none, none, none]) (zsb_s rfl (zsb_n (zsb_n (zsb_n zsb_0)))) ?_
        exact kb M (Option.some.inj h).symm
      · rw [if_neg c22] at h
        refine zG_br hm rfl (cf' := (96, [some (zr 42 0), none, none, none], [], M)) (if_neg c22) ?_
        refine zG_sub (lv' := [some (zr 42 0), none, none, none]) (zsb_s rfl (zsb_n (zsb_n (zsb_n zsb_0)))) ?_
        exact g_X11_text_j96 hd h kc kb kr
theorem gl_X11_text_L74  {y : zM} {r : Option zV} {Mf : zM} {d : Nat} (hd : 7 ≤ d)
    (kb : ∀ t, y = t → zG 163 d (167, [some (zr 42 0), none, none, none], [], t) r Mf) (kr : True) : ∀ (n : Nat) (s : zM), zlp (fun s : zM => f_X11_text_L74   s) n s = some y → zG 163 d (74, [some (zr 42 0), none, none, none], [], s) r Mf := by
  intro n
  induction n with
  | zero => intro s h; cases h
  | succ n ih =>
    intro s h
    rcases zlp_cases h with ⟨s', h1, h2⟩ | h1
    · exact g_X11_text_L74 hd h1 (fun s2 e2 => by cases e2; exact ih _ h2) (fun t e2 => by cases e2) trivial
    · exact g_X11_text_L74 hd h1 (fun s2 e2 => by cases e2) (fun t e2 => kb t (Sum.inr.inj e2)) trivial
def f_X11_text_L211 (v1 : Int) (v2 : Int) (M : zM) : Option ((Int × zM) ⊕ (zM)) :=
  if zw (M 42 0 30) ≤ zw v2 then
    some (.inr M)
  else
    if 0 ≤ zw v2 ∧ zw v2 < 24 then
      if 0 ≤ zw ((24 * v1) + v2) ∧ zw ((24 * v1) + v2) < 96 then
        zlet (zput M 47 0 (zix ((24 * v1) + v2)) (M 59 0 (zix v2))) fun M29 =>
        if 0 ≤ zw v2 ∧ zw v2 < 24 then
          if 0 ≤ zw ((24 * v1) + v2) ∧ zw ((24 * v1) + v2) < 96 then
            zlet (zput M29 48 0 (zix ((24 * v1) + v2)) ((400 * v1) + (M29 60 0 (zix v2)))) fun M30 =>
            if 0 ≤ zw v2 ∧ zw v2 < 24 then
              if 0 ≤ zw ((24 * v1) + v2) ∧ zw ((24 * v1) + v2) < 96 then
                zlet (zput M30 49 0 (zix ((24 * v1) + v2)) (M30 61 0 (zix v2))) fun M31 =>
                if 0 ≤ zw v2 ∧ zw v2 < 24 then
                  if 0 ≤ zw ((24 * v1) + v2) ∧ zw ((24 * v1) + v2) < 96 then
                    zlet (zput M31 50 0 (zix ((24 * v1) + v2)) (M31 62 0 (zix v2))) fun M32 =>
                    if 0 ≤ zw v2 ∧ zw v2 < 24 then
                      if 0 ≤ zw ((24 * v1) + v2) ∧ zw ((24 * v1) + v2) < 96 then
                        zlet (zput M32 51 0 (zix ((24 * v1) + v2)) (M32 63 0 (zix v2))) fun M33 =>
                        some (.inl ((v2 + 1), M33))
                      else
                        none
                    else
                      none
                  else
                    none
                else
                  none
              else
                none
            else
              none
          else
            none
        else
          none
      else
        none
    else
      none
theorem g_X11_text_L211 {v1 : Int} {v2 : Int} {M : zM} {x : (Int × zM) ⊕ (zM)} {r : Option zV} {Mf : zM} {d : Nat} (hd : 7 ≤ d) (h : f_X11_text_L211 v1 v2 M = some x)
    (kc : ∀ s, x = .inl s → zG 163 d (211, [some (zr 42 0), some (zi v1), some (zi s.1), none], [], s.2) r Mf)
    (kb : ∀ t, x = .inr t → zG 163 d (316, [some (zr 42 0), some (zi v1), none, none], [], t) r Mf) (kr : True) : zG 163 d (211, [some (zr 42 0), some (zi v1), some (zi v2), none], [], M) r Mf := by
  have hm := zmok_163
  unfold f_X11_text_L211 at h
  refine zG_run hm 3 (cf' := (216, [some (zr 42 0), some (zi v1), some (zi v2), none], [zi (M 42 0 30), zi v2], M)) rfl ?_
  by_cases c44 : zw (M 42 0 30) ≤ zw v2
  · rw [if_pos c44] at h
    refine zG_br hm rfl (cf' := (316, [some (zr 42 0), some (zi v1), some (zi v2), none], [], M)) (if_pos c44) ?_
    refine zG_sub (lv' := [some (zr 42 0), some (zi v1), none, none]) (zsb_s rfl (zsb_s rfl (zsb_n (zsb_n zsb_0)))) ?_
    exact kb M (Option.some.inj h).symm
  · rw [if_neg c44] at h
    refine zG_br hm rfl (cf' := (219, [some (zr 42 0), some (zi v1), some (zi v2), none], [], M)) (if_neg c44) ?_
    refine zG_run hm 10 (cf' := (234, [some (zr 42 0), some (zi v1), some (zi v2), none], [zi v2, zr 59 0, zi ((24 * v1) + v2), zr 47 0], M)) rfl ?_
    by_cases c43 : 0 ≤ zw v2 ∧ zw v2 < 24
    · rw [if_pos c43] at h
      refine zG_br hm rfl (cf' := (235, [some (zr 42 0), some (zi v1), some (zi v2), none], [zi (M 59 0 (zix v2)), zi ((24 * v1) + v2), zr 47 0], M)) (if_pos c43) ?_
      by_cases c42 : 0 ≤ zw ((24 * v1) + v2) ∧ zw ((24 * v1) + v2) < 96
      · rw [if_pos c42] at h
        refine zG_br hm rfl (cf' := (236, [some (zr 42 0), some (zi v1), some (zi v2), none], [], (zput M 47 0 (zix ((24 * v1) + v2)) (M 59 0 (zix v2))))) (if_pos c42) ?_
        obtain ⟨M29, eM29, h⟩ := zlet_of h
        rw [eM29]
        refine zG_run hm 13 (cf' := (256, [some (zr 42 0), some (zi v1), some (zi v2), none], [zi v2, zr 60 0, zi (400 * v1), zi ((24 * v1) + v2), zr 48 0], M29)) rfl ?_
        by_cases c41 : 0 ≤ zw v2 ∧ zw v2 < 24
        · rw [if_pos c41] at h
          refine zG_br hm rfl (cf' := (257, [some (zr 42 0), some (zi v1), some (zi v2), none], [zi (M29 60 0 (zix v2)), zi (400 * v1), zi ((24 * v1) + v2), zr 48 0], M29)) (if_pos c41) ?_
          refine zG_run hm 1 (cf' := (258, [some (zr 42 0), some (zi v1), some (zi v2), none], [zi ((400 * v1) + (M29 60 0 (zix v2))), zi ((24 * v1) + v2), zr 48 0], M29)) rfl ?_
          by_cases c40 : 0 ≤ zw ((24 * v1) + v2) ∧ zw ((24 * v1) + v2) < 96
          · rw [if_pos c40] at h
            refine zG_br hm rfl (cf' := (259, [some (zr 42 0), some (zi v1), some (zi v2), none], [], (zput M29 48 0 (zix ((24 * v1) + v2)) ((400 * v1) + (M29 60 0 (zix v2)))))) (if_pos c40) ?_
            obtain ⟨M30, eM30, h⟩ := zlet_of h
            rw [eM30]
            refine zG_run hm 10 (cf' := (274, [some (zr 42 0), some (zi v1), some (zi v2), none], [zi v2, zr 61 0, zi ((24 * v1) + v2), zr 49 0], M30)) rfl ?_
            by_cases c39 : 0 ≤ zw v2 ∧ zw v2 < 24
            · rw [if_pos c39] at h
              refine zG_br hm rfl (cf' := (275, [some (zr 42 0), some (zi v1), some (zi v2), none], [zi (M30 61 0 (zix v2)), zi ((24 * v1) + v2), zr 49 0], M30)) (if_pos c39) ?_
              by_cases c38 : 0 ≤ zw ((24 * v1) + v2) ∧ zw ((24 * v1) + v2) < 96
              · rw [if_pos c38] at h
                refine zG_br hm rfl (cf' := (276, [some (zr 42 0), some (zi v1), some (zi v2), none], [], (zput M30 49 0 (zix ((24 * v1) + v2)) (M30 61 0 (zix v2))))) (if_pos c38) ?_
                obtain ⟨M31, eM31, h⟩ := zlet_of h
                rw [eM31]
                refine zG_run hm 10 (cf' := (291, [some (zr 42 0), some (zi v1), some (zi v2), none], [zi v2, zr 62 0, zi ((24 * v1) + v2), zr 50 0], M31)) rfl ?_
                by_cases c37 : 0 ≤ zw v2 ∧ zw v2 < 24
                · rw [if_pos c37] at h
                  refine zG_br hm rfl (cf' := (292, [some (zr 42 0), some (zi v1), some (zi v2), none], [zi (M31 62 0 (zix v2)), zi ((24 * v1) + v2), zr 50 0], M31)) (if_pos c37) ?_
                  by_cases c36 : 0 ≤ zw ((24 * v1) + v2) ∧ zw ((24 * v1) + v2) < 96
                  · rw [if_pos c36] at h
                    refine zG_br hm rfl (cf' := (293, [some (zr 42 0), some (zi v1), some (zi v2), none], [], (zput M31 50 0 (zix ((24 * v1) + v2)) (M31 62 0 (zix v2))))) (if_pos c36) ?_
                    obtain ⟨M32, eM32, h⟩ := zlet_of h
                    rw [eM32]
                    refine zG_run hm 10 (cf' := (308, [some (zr 42 0), some (zi v1), some (zi v2), none], [zi v2, zr 63 0, zi ((24 * v1) + v2), zr 51 0], M32)) rfl ?_
                    by_cases c35 : 0 ≤ zw v2 ∧ zw v2 < 24
                    · rw [if_pos c35] at h
                      refine zG_br hm rfl (cf' := (309, [some (zr 42 0), some (zi v1), some (zi v2), none], [zi (M32 63 0 (zix v2)), zi ((24 * v1) + v2), zr 51 0], M32)) (if_pos c35) ?_
                      by_cases c34 : 0 ≤ zw ((24 * v1) + v2) ∧ zw ((24 * v1) + v2) < 96
                      · rw [if_pos c34] at h
                        refine zG_br hm rfl (cf' := (310, [some (zr 42 0), some (zi v1), some (zi v2), none], [], (zput M32 51 0 (zix ((24 * v1) + v2)) (M32 63 0 (zix v2))))) (if_pos c34) ?_
                        obtain ⟨M33, eM33, h⟩ := zlet_of h
                        rw [eM33]
                        refine zG_run hm 2 (cf' := (211, [some (zr 42 0), some (zi v1), some (zi (v2 + 1)), none], [], M33)) rfl ?_
                        refine zG_sub (lv' := [some (zr 42 0), some (zi v1), some (zi (v2 + 1)), none]) (zsb_s rfl (zsb_s rfl (zsb_s rfl (zsb_n zsb_0)))) ?_
                        exact kc ((v2 + 1), M33) (Option.some.inj h).symm
                      · rw [if_neg c34] at h
                        cases h
                    · rw [if_neg c35] at h
                      cases h
                  · rw [if_neg c36] at h
                    cases h
                · rw [if_neg c37] at h
                  cases h
              · rw [if_neg c38] at h
                cases h
            · rw [if_neg c39] at h
              cases h
          · rw [if_neg c40] at h
            cases h
        · rw [if_neg c41] at h
          cases h
      · rw [if_neg c42] at h
        cases h
    · rw [if_neg c43] at h
      cases h
theorem gl_X11_text_L211 {v1 : Int} {y : zM} {r : Option zV} {Mf : zM} {d : Nat} (hd : 7 ≤ d)
    (kb : ∀ t, y = t → zG 163 d (316, [some (zr 42 0), some (zi v1), none, none], [], t) r Mf) (kr : True) : ∀ (n : Nat) (s : Int × zM), zlp (fun s : Int × zM => f_X11_text_L211 v1 s.1 s.2) n s = some y → zG 163 d (211, [some (zr 42 0), some (zi v1), some (zi s.1), none], [], s.2) r Mf := by
  intro n
  induction n with
  | zero => intro s h; cases h
  | succ n ih =>
    intro s h
    rcases zlp_cases h with ⟨s', h1, h2⟩ | h1
    · exact g_X11_text_L211 hd h1 (fun s2 e2 => by cases e2; exact ih _ h2) (fun t e2 => by cases e2) trivial
    · exact g_X11_text_L211 hd h1 (fun s2 e2 => by cases e2) (fun t e2 => kb t (Sum.inr.inj e2)) trivial
def f_X11_text_j386 (v1 : Int) (v2 : Int) (vs0 : Int) (vs1 : Int) (vs2 : Int) (M : zM) : Option ((Int × zM) ⊕ (zM)) :=
  if 0 ≤ zw vs2 ∧ zw vs2 < 1600 then
    zlet (zput M 53 0 (zix vs2) (vs1 + vs0)) fun M47 =>
    some (.inl ((v2 + 1), M47))
  else
    none
theorem g_X11_text_j386 {v1 : Int} {v2 : Int} {vs0 : Int} {vs1 : Int} {vs2 : Int} {M : zM} {x : (Int × zM) ⊕ (zM)} {r : Option zV} {Mf : zM} {d : Nat} (hd : 7 ≤ d) (h : f_X11_text_j386 v1 v2 vs0 vs1 vs2 M = some x)
    (kc : ∀ s, x = .inl s → zG 163 d (318, [some (zr 42 0), some (zi v1), some (zi s.1), none], [], s.2) r Mf)
    (kb : ∀ t, x = .inr t → zG 163 d (394, [some (zr 42 0), some (zi v1), none, none], [], t) r Mf) (kr : True) : zG 163 d (386, [some (zr 42 0), some (zi v1), some (zi v2), none], [zi vs0, zi vs1, zi vs2, zr 53 0], M) r Mf := by
  have hm := zmok_163
  unfold f_X11_text_j386 at h
  refine zG_run hm 1 (cf' := (387, [some (zr 42 0), some (zi v1), some (zi v2), none], [zi (vs1 + vs0), zi vs2, zr 53 0], M)) rfl ?_
  by_cases c48 : 0 ≤ zw vs2 ∧ zw vs2 < 1600
  · rw [if_pos c48] at h
    refine zG_br hm rfl (cf' := (388, [some (zr 42 0), some (zi v1), some (zi v2), none], [], (zput M 53 0 (zix vs2) (vs1 + vs0)))) (if_pos c48) ?_
    obtain ⟨M47, eM47, h⟩ := zlet_of h
    rw [eM47]
    refine zG_run hm 2 (cf' := (318, [some (zr 42 0), some (zi v1), some (zi (v2 + 1)), none], [], M47)) rfl ?_
    refine zG_sub (lv' := [some (zr 42 0), some (zi v1), some (zi (v2 + 1)), none]) (zsb_s rfl (zsb_s rfl (zsb_s rfl (zsb_n zsb_0)))) ?_
    exact kc ((v2 + 1), M47) (Option.some.inj h).symm
  · rw [if_neg c48] at h
    cases h
def f_X11_text_j377 (v1 : Int) (v2 : Int) (vs0 : Int) (vs1 : Int) (M : zM) : Option ((Int × zM) ⊕ (zM)) :=
  f_X11_text_j386 v1 v2 (400 * v1) vs0 vs1 M
theorem g_X11_text_j377 {v1 : Int} {v2 : Int} {vs0 : Int} {vs1 : Int} {M : zM} {x : (Int × zM) ⊕ (zM)} {r : Option zV} {Mf : zM} {d : Nat} (hd : 7 ≤ d) (h : f_X11_text_j377 v1 v2 vs0 vs1 M = some x)
    (kc : ∀ s, x = .inl s → zG 163 d (318, [some (zr 42 0), some (zi v1), some (zi s.1), none], [], s.2) r Mf)
    (kb : ∀ t, x = .inr t → zG 163 d (394, [some (zr 42 0), some (zi v1), none, none], [], t) r Mf) (kr : True) : zG 163 d (377, [some (zr 42 0), some (zi v1), some (zi v2), none], [zi vs0, zi vs1, zr 53 0], M) r Mf := by
  have hm := zmok_163
  unfold f_X11_text_j377 at h
  refine zG_run hm 4 (cf' := (386, [some (zr 42 0), some (zi v1), some (zi v2), none], [zi (400 * v1), zi vs0, zi vs1, zr 53 0], M)) rfl ?_
  refine zG_sub (lv' := [some (zr 42 0), some (zi v1), some (zi v2), none]) (zsb_s rfl (zsb_s rfl (zsb_s rfl (zsb_n zsb_0)))) ?_
  exact g_X11_text_j386 hd h kc kb kr
def f_X11_text_L318 (v1 : Int) (v2 : Int) (M : zM) : Option ((Int × zM) ⊕ (zM)) :=
  if zw (M 42 0 37) ≤ zw v2 then
    some (.inr M)
  else
    if 0 ≤ zw v2 ∧ zw v2 < 400 then
      if 0 ≤ zw ((400 * v1) + v2) ∧ zw ((400 * v1) + v2) < 1600 then
        zlet (zput M 52 0 (zix ((400 * v1) + v2)) (M 64 0 (zix v2))) fun M46 =>
        if 0 ≤ zw v2 ∧ zw v2 < 400 then
          if zw (M 64 0 (zix v2)) = 404 then
            f_X11_text_j377 v1 v2 (M46 65 0 (zix v2)) ((400 * v1) + v2) M46
          else
            if ¬ zw (M 64 0 (zix v2)) = 409 then
              f_X11_text_j386 v1 v2 0 (M46 65 0 (zix v2)) ((400 * v1) + v2) M46
            else
              f_X11_text_j377 v1 v2 (M46 65 0 (zix v2)) ((400 * v1) + v2) M46
        else
          none
      else
        none
    else
      none
theorem g_X11_text_L318 {v1 : Int} {v2 : Int} {M : zM} {x : (Int × zM) ⊕ (zM)} {r : Option zV} {Mf : zM} {d : Nat} (hd : 7 ≤ d) (h : f_X11_text_L318 v1 v2 M = some x)
    (kc : ∀ s, x = .inl s → zG 163 d (318, [some (zr 42 0), some (zi v1), some (zi s.1), none], [], s.2) r Mf)
    (kb : ∀ t, x = .inr t → zG 163 d (394, [some (zr 42 0), some (zi v1), none, none], [], t) r Mf) (kr : True) : zG 163 d (318, [some (zr 42 0), some (zi v1), some (zi v2), none], [], M) r Mf := by
  have hm := zmok_163
  unfold f_X11_text_L318 at h
  refine zG_run hm 3 (cf' := (323, [some (zr 42 0), some (zi v1), some (zi v2), none], [zi (M 42 0 37), zi v2], M)) rfl ?_
  by_cases c54 : zw (M 42 0 37) ≤ zw v2
  · rw [if_pos c54] at h
    refine zG_br hm rfl (cf' := (394, [some (zr 42 0), some (zi v1), some (zi v2), none], [], M)) (if_pos c54) ?_
    refine zG_sub (lv' := [some (zr 42 0), some (zi v1), none, none]) (zsb_s rfl (zsb_s rfl (zsb_n (zsb_n zsb_0)))) ?_
    exact kb M (Option.some.inj h).symm
  · rw [if_neg c54] at h
    refine zG_br hm rfl (cf' := (326, [some (zr 42 0), some (zi v1), some (zi v2), none], [], M)) (if_neg c54) ?_
    refine zG_run hm 3 (cf' := (331, [some (zr 42 0), some (zi v1), some (zi v2), none], [zi v2, zr 64 0], M)) rfl ?_
    by_cases c53 : 0 ≤ zw v2 ∧ zw v2 < 400
    · rw [if_pos c53] at h
      refine zG_br hm rfl (cf' := (332, [some (zr 42 0), some (zi v1), some (zi v2), none], [zi (M 64 0 (zix v2))], M)) (if_pos c53) ?_
      refine zG_run hm 9 (cf' := (345, [some (zr 42 0), some (zi v1), some (zi v2), some (zi (M 64 0 (zix v2)))], [zi (M 64 0 (zix v2)), zi ((400 * v1) + v2), zr 52 0], M)) rfl ?_
      by_cases c52 : 0 ≤ zw ((400 * v1) + v2) ∧ zw ((400 * v1) + v2) < 1600
      · rw [if_pos c52] at h
        refine zG_br hm rfl (cf' := (346, [some (zr 42 0), some (zi v1), some (zi v2), some (zi (M 64 0 (zix v2)))], [], (zput M 52 0 (zix ((400 * v1) + v2)) (M 64 0 (zix v2))))) (if_pos c52) ?_
        obtain ⟨M46, eM46, h⟩ := zlet_of h
        rw [eM46]
        refine zG_run hm 10 (cf' := (362, [some (zr 42 0), some (zi v1), some (zi v2), some (zi (M 64 0 (zix v2)))], [zi v2, zr 65 0, zi ((400 * v1) + v2), zr 53 0], M46)) rfl ?_
        by_cases c51 : 0 ≤ zw v2 ∧ zw v2 < 400
        · rw [if_pos c51] at h
          refine zG_br hm rfl (cf' := (363, [some (zr 42 0), some (zi v1), some (zi v2), some (zi (M 64 0 (zix v2)))], [zi (M46 65 0 (zix v2)), zi ((400 * v1) + v2), zr 53 0], M46)) (if_pos c51) ?_
          refine zG_run hm 2 (cf' := (367, [some (zr 42 0), some (zi v1), some (zi v2), some (zi (M 64 0 (zix v2)))], [zi 404, zi (M 64 0 (zix v2)), zi (M46 65 0 (zix v2)), zi ((400 * v1) + v2), zr 53 0], M46)) rfl ?_
          by_cases c50 : zw (M 64 0 (zix v2)) = 404
          · rw [if_pos c50] at h
            refine zG_br hm rfl (cf' := (377, [some (zr 42 0), some (zi v1), some (zi v2), some (zi (M 64 0 (zix v2)))], [zi (M46 65 0 (zix v2)), zi ((400 * v1) + v2), zr 53 0], M46)) (if_pos c50) ?_
            refine zG_sub (lv' := [some (zr 42 0), some (zi v1), some (zi v2), none]) (zsb_s rfl (zsb_s rfl (zsb_s rfl (zsb_n zsb_0)))) ?_
            exact g_X11_text_j377 hd h kc kb kr
          · rw [if_neg c50] at h
            refine zG_br hm rfl (cf' := (370, [some (zr 42 0), some (zi v1), some (zi v2), some (zi (M 64 0 (zix v2)))], [zi (M46 65 0 (zix v2)), zi ((400 * v1) + v2), zr 53 0], M46)) (if_neg c50) ?_
            refine zG_run hm 2 (cf' := (374, [some (zr 42 0), some (zi v1), some (zi v2), some (zi (M 64 0 (zix v2)))], [zi 409, zi (M 64 0 (zix v2)), zi (M46 65 0 (zix v2)), zi ((400 * v1) + v2), zr 53 0], M46)) rfl ?_
            by_cases c49 : ¬ zw (M 64 0 (zix v2)) = 409
            · rw [if_pos c49] at h
              refine zG_br hm rfl (cf' := (385, [some (zr 42 0), some (zi v1), some (zi v2), some (zi (M 64 0 (zix v2)))], [zi (M46 65 0 (zix v2)), zi ((400 * v1) + v2), zr 53 0], M46)) (if_pos c49) ?_
              refine zG_run hm 1 (cf' := (386, [some (zr 42 0), some (zi v1), some (zi v2), some (zi (M 64 0 (zix v2)))], [zi 0, zi (M46 65 0 (zix v2)), zi ((400 * v1) + v2), zr 53 0], M46)) rfl ?_
              refine zG_sub (lv' := [some (zr 42 0), some (zi v1), some (zi v2), none]) (zsb_s rfl (zsb_s rfl (zsb_s rfl (zsb_n zsb_0)))) ?_
              exact g_X11_text_j386 hd h kc kb kr
            · rw [if_neg c49] at h
              refine zG_br hm rfl (cf' := (377, [some (zr 42 0), some (zi v1), some (zi v2), some (zi (M 64 0 (zix v2)))], [zi (M46 65 0 (zix v2)), zi ((400 * v1) + v2), zr 53 0], M46)) (if_neg c49) ?_
              refine zG_sub (lv' := [some (zr 42 0), some (zi v1), some (zi v2), none]) (zsb_s rfl (zsb_s rfl (zsb_s rfl (zsb_n zsb_0)))) ?_
              exact g_X11_text_j377 hd h kc kb kr
        · rw [if_neg c51] at h
          cases h
      · rw [if_neg c52] at h
        cases h
    · rw [if_neg c53] at h
      cases h
theorem gl_X11_text_L318 {v1 : Int} {y : zM} {r : Option zV} {Mf : zM} {d : Nat} (hd : 7 ≤ d)
    (kb : ∀ t, y = t → zG 163 d (394, [some (zr 42 0), some (zi v1), none, none], [], t) r Mf) (kr : True) : ∀ (n : Nat) (s : Int × zM), zlp (fun s : Int × zM => f_X11_text_L318 v1 s.1 s.2) n s = some y → zG 163 d (318, [some (zr 42 0), some (zi v1), some (zi s.1), none], [], s.2) r Mf := by
  intro n
  induction n with
  | zero => intro s h; cases h
  | succ n ih =>
    intro s h
    rcases zlp_cases h with ⟨s', h1, h2⟩ | h1
    · exact g_X11_text_L318 hd h1 (fun s2 e2 => by cases e2; exact ih _ h2) (fun t e2 => by cases e2) trivial
    · exact g_X11_text_L318 hd h1 (fun s2 e2 => by cases e2) (fun t e2 => kb t (Sum.inr.inj e2)) trivial
def f_X11_text_j167  (M : zM) : Option (Int × zM) :=
  zlet (zput M 42 0 4 (M 42 0 19)) fun M26 =>
  zlet (zput M26 42 0 5 (M26 42 0 20)) fun M27 =>
  if zw (M27 42 0 19) ≤ 0 then
    if 0 ≤ zw (M27 43 0 3) ∧ zw (M27 43 0 3) < 4 then
      zlet (zput M27 46 0 (zix (M27 43 0 3)) (M27 42 0 30)) fun M28 =>
      (zlp (fun s : Int × zM => f_X11_text_L211 (M27 43 0 3) s.1 s.2) zF (0, M28)).bind fun y45 =>
        (zlp (fun s : Int × zM => f_X11_text_L318 (M27 43 0 3) s.1 s.2) zF (0, y45)).bind fun y55 =>
          zlet (zput y55 43 0 3 ((y55 43 0 3) + 1)) fun M56 =>
          some ((M27 43 0 3), M56)
    else
      none
  else
    some ((-1), M27)
theorem g_X11_text_j167  {M : zM} {q : Int × zM} {d : Nat} (hd : 7 ≤ d) (h : f_X11_text_j167  M = some q) : zG 163 d (167, [some (zr 42 0), none, none, none], [], M) (some (zi q.1)) q.2 := by
  have hm := zmok_163
  unfold f_X11_text_j167 at h
  refine zG_run hm 4 (cf' := (175, [some (zr 42 0), none, none, none], [], (zput M 42 0 4 (M 42 0 19)))) rfl ?_
  obtain ⟨M26, eM26, h⟩ := zlet_of h
  rw [eM26]
  refine zG_run hm 4 (cf' := (183, [some (zr 42 0), none, none, none], [], (zput M26 42 0 5 (M26 42 0 20)))) rfl ?_
  obtain ⟨M27, eM27, h⟩ := zlet_of h
  rw [eM27]
  refine zG_run hm 2 (cf' := (187, [some (zr 42 0), none, none, none], [zi (M27 42 0 19)], M27)) rfl ?_
  by_cases c58 : zw (M27 42 0 19) ≤ 0
  · rw [if_pos c58] at h
    refine zG_br hm rfl (cf' := (192, [some (zr 42 0), none, none, none], [], M27)) (if_pos c58) ?_
    refine zG_run hm 10 (cf' := (208, [some (zr 42 0), some (zi (M27 43 0 3)), none, none], [zi (M27 42 0 30), zi (M27 43 0 3), zr 46 0], M27)) rfl ?_
    by_cases c57 : 0 ≤ zw (M27 43 0 3) ∧ zw (M27 43 0 3) < 4
    · rw [if_pos c57] at h
      refine zG_br hm rfl (cf' := (209, [some (zr 42 0), some (zi (M27 43 0 3)), none, none], [], (zput M27 46 0 (zix (M27 43 0 3)) (M27 42 0 30)))) (if_pos c57) ?_
      obtain ⟨M28, eM28, h⟩ := zlet_of h
      rw [eM28]
      refine zG_run hm 2 (cf' := (211, [some (zr 42 0), some (zi (M27 43 0 3)), some (zi 0), none], [], M28)) rfl ?_
      refine zG_sub (lv' := [some (zr 42 0), some (zi (M27 43 0 3)), some (zi 0), none]) (zsb_s rfl (zsb_s rfl (zsb_s rfl (zsb_n zsb_0)))) ?_
      obtain ⟨y45, hy45, h⟩ := Option.bind_eq_some_iff.mp h
      refine gl_X11_text_L211 hd (fun t e2 => ?_) trivial zF (0, M28) hy45
      cases e2
      refine zG_run hm 2 (cf' := (318, [some (zr 42 0), some (zi (M27 43 0 3)), some (zi 0), none], [], y45)) rfl ?_
      refine zG_sub (lv' := [some (zr 42 0), some (zi (M27 43 0 3)), some (zi 0), none]) (zsb_s rfl (zsb_s rfl (zsb_s rfl (zsb_n zsb_0)))) ?_
      obtain ⟨y55, hy55, h⟩ := Option.bind_eq_some_iff.mp h
      refine gl_X11_text_L318 hd (fun t e2 => ?_) trivial zF (0, y45) hy55
      cases e2
      refine zG_run hm 8 (cf' := (404, [some (zr 42 0), some (zi (M27 43 0 3)), none, none], [], (zput y55 43 0 3 ((y55 43 0 3) + 1)))) rfl ?_
      obtain ⟨M56, eM56, h⟩ := zlet_of h
      rw [eM56]
      refine zG_run hm 1 (cf' := (405, [some (zr 42 0), some (zi (M27 43 0 3)), none, none], [zi (M27 43 0 3)], M56)) rfl ?_
      cases h
      exact zG_ri hm rfl rfl
    · rw [if_neg c57] at h
      cases h
  · rw [if_neg c58] at h
    refine zG_br hm rfl (cf' := (190, [some (zr 42 0), none, none, none], [], M27)) (if_neg c58) ?_
    refine zG_run hm 1 (cf' := (191, [some (zr 42 0), none, none, none], [zi (-1)], M27)) rfl ?_
    cases h
    exact zG_ri hm rfl rfl
def f_X11_text  (M : zM) : Option (Int × zM) :=
  if ¬ zw (M 43 0 3) = 4 then
    zlet (zput M 42 0 14 (M 42 0 3)) fun M1 =>
    zlet (zput M1 42 0 3 0) fun M2 =>
    zlet (zput M2 42 0 15 0) fun M3 =>
    zlet (zput M3 42 0 19 0) fun M4 =>
    zlet (zput M4 42 0 20 (-1)) fun M5 =>
    zlet (zput M5 42 0 21 0) fun M6 =>
    zlet (zput M6 42 0 22 0) fun M7 =>
    zlet (zput M7 42 0 25 0) fun M8 =>
    zlet (zput M8 42 0 28 4) fun M9 =>
    zlet (zput M9 42 0 30 0) fun M10 =>
    zlet (zput M10 42 0 37 0) fun M11 =>
    (f_X11_next  M11).bind fun p12 =>
      (zlp (fun s : zM => f_X11_text_L74   s) zF p12).bind fun y25 =>
        f_X11_text_j167  y25
  else
    some ((-1), M)
theorem g_X11_text  {M : zM} {q : Int × zM} {d : Nat} (hd : 7 ≤ d) (h : f_X11_text  M = some q) : zG 163 d (0, [some (zr 42 0), none, none, none], [], M) (some (zi q.1)) q.2 := by
  have hm := zmok_163
  unfold f_X11_text at h
  refine zG_run hm 5 (cf' := (7, [some (zr 42 0), none, none, none], [zi 4, zi (M 43 0 3)], M)) rfl ?_
  by_cases c59 : ¬ zw (M 43 0 3) = 4
  · rw [if_pos c59] at h
    refine zG_br hm rfl (cf' := (12, [some (zr 42 0), none, none, none], [], M)) (if_pos c59) ?_
    refine zG_run hm 4 (cf' := (20, [some (zr 42 0), none, none, none], [], (zput M 42 0 14 (M 42 0 3)))) rfl ?_
    obtain ⟨M1, eM1, h⟩ := zlet_of h
    rw [eM1]
    refine zG_run hm 3 (cf' := (25, [some (zr 42 0), none, none, none], [], (zput M1 42 0 3 0))) rfl ?_
    obtain ⟨M2, eM2, h⟩ := zlet_of h
    rw [eM2]
    refine zG_run hm 3 (cf' := (30, [some (zr 42 0), none, none, none], [], (zput M2 42 0 15 0))) rfl ?_
    obtain ⟨M3, eM3, h⟩ := zlet_of h
    rw [eM3]
    refine zG_run hm 3 (cf' := (35, [some (zr 42 0), none, none, none], [], (zput M3 42 0 19 0))) rfl ?_
    obtain ⟨M4, eM4, h⟩ := zlet_of h
    rw [eM4]
    refine zG_run hm 3 (cf' := (40, [some (zr 42 0), none, none, none], [], (zput M4 42 0 20 (-1)))) rfl ?_
    obtain ⟨M5, eM5, h⟩ := zlet_of h
    rw [eM5]
    refine zG_run hm 3 (cf' := (45, [some (zr 42 0), none, none, none], [], (zput M5 42 0 21 0))) rfl ?_
    obtain ⟨M6, eM6, h⟩ := zlet_of h
    rw [eM6]
    refine zG_run hm 3 (cf' := (50, [some (zr 42 0), none, none, none], [], (zput M6 42 0 22 0))) rfl ?_
    obtain ⟨M7, eM7, h⟩ := zlet_of h
    rw [eM7]
    refine zG_run hm 3 (cf' := (55, [some (zr 42 0), none, none, none], [], (zput M7 42 0 25 0))) rfl ?_
    obtain ⟨M8, eM8, h⟩ := zlet_of h
    rw [eM8]
    refine zG_run hm 3 (cf' := (60, [some (zr 42 0), none, none, none], [], (zput M8 42 0 28 4))) rfl ?_
    obtain ⟨M9, eM9, h⟩ := zlet_of h
    rw [eM9]
    refine zG_run hm 3 (cf' := (65, [some (zr 42 0), none, none, none], [], (zput M9 42 0 30 0))) rfl ?_
    obtain ⟨M10, eM10, h⟩ := zlet_of h
    rw [eM10]
    refine zG_run hm 3 (cf' := (70, [some (zr 42 0), none, none, none], [], (zput M10 42 0 37 0))) rfl ?_
    obtain ⟨M11, eM11, h⟩ := zlet_of h
    rw [eM11]
    refine zG_run hm 1 (cf' := (71, [some (zr 42 0), none, none, none], [zr 42 0], M11)) rfl ?_
    obtain ⟨p12, hp12, h⟩ := Option.bind_eq_some_iff.mp h
    refine zG_V hm zmok_135 rfl (as := []) (rest := []) (st2 := []) (pc2 := 74) rfl rfl (by omega) (met_X11_next (d := 2) (Nat.le_refl _) hp12) rfl ?_
    refine zG_sub (lv' := [some (zr 42 0), none, none, none]) (zsb_s rfl (zsb_n (zsb_n (zsb_n zsb_0)))) ?_
    obtain ⟨y25, hy25, h⟩ := Option.bind_eq_some_iff.mp h
    refine gl_X11_text_L74 hd (fun t e2 => ?_) trivial zF p12 hy25
    cases e2
    refine zG_sub (lv' := [some (zr 42 0), none, none, none]) (zsb_s rfl (zsb_n (zsb_n (zsb_n zsb_0)))) ?_
    exact g_X11_text_j167 hd h
  · rw [if_neg c59] at h
    refine zG_br hm rfl (cf' := (10, [some (zr 42 0), none, none, none], [], M)) (if_neg c59) ?_
    refine zG_run hm 1 (cf' := (11, [some (zr 42 0), none, none, none], [zi (-1)], M)) rfl ?_
    cases h
    exact zG_ri hm rfl rfl
theorem met_X11_text  {M : zM} {q : Int × zM} {d : Nat} (hd : 7 ≤ d) (h : f_X11_text  M = some q) : zMet 163 d [zr 42 0] M (some (zi q.1)) q.2 :=
  zMet_of (lv0 := [some (zr 42 0), none, none, none]) zmok_163 rfl rfl (fun v hv => by cases hv; trivial) (g_X11_text hd h)
