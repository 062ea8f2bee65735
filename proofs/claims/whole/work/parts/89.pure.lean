/-! call: first, day by day -/
def sU (T : Nat → Nat → Option zLw) (A w : Nat → Int) (n : Nat) : Nat → (Nat → Int)
  | 0 => w
  | d + 1 => sPl A (d : Nat) (sDayW T A w n d) n
set_option maxRecDepth 8000 in
set_option maxHeartbeats 2000000 in
theorem call_first {M : zM} (h : zI M) : zCall (f_X10_first M) (fun N => f_X11_first N) := by
  obtain ⟨T, hI⟩ := h
  have w0 := hI.w0
  have hT := hI.txt
  generalize hAA : M 43 0 = A at w0 hT
  have hA := w0.head
  have h6 := hA.pln
  have hrd := w0.row.day
  have h128 : rw_ A 90 38 = A 128 := rfl
  have hcd := w0.city.day
  rw [h128] at hcd hrd
  have hday := w0.day
  generalize hWW : M 68 0 = W
  obtain ⟨l1, l2, l3⟩ := w0.lay (W := W)
  have l38 : sLay A W 38 = A 128 := sLay_lo (by omega)
  obtain ⟨n, hn⟩ := Int.eq_ofNat_of_zero_le h6.1
  obtain ⟨M1, e1, e2, e3, e4⟩ := X_trial (W := W) w0
  have e5 : M1 11 0 10 = A 128 := by rw [e4]; exact hcd
  obtain ⟨D, hD⟩ : ∃ D : Nat, (D : Int) = if 9999 - A 128 < 60 then 9999 - A 128 else 60 := by
    by_cases hc : 9999 - A 128 < 60
    · rw [if_pos hc]; exact ⟨(9999 - A 128).toNat, by omega⟩
    · rw [if_neg hc]; exact ⟨60, rfl⟩
  have hDb : D ≤ 60 ∧ A 128 + D ≤ 9999 ∧ (D = 60 ∨ A 128 + D = 9999) := by
    split at hD <;> omega
  have tl1 : toldR M1 0 A := w0.tld.head hA (fun k a b => e3 k 0 (by unfold sc2; omega)) (fun q _ => rfl)
  have hTM1 := e3.txt hT
  generalize hw : sLay A W = w at l1 l2 l3 l38 e2
  have sd1 : ∀ d, sDayW T A w n (d + 1) = sThru T A (sU T A w n (d + 1)) 1 := fun d => rfl
  have su1 : ∀ d, sU T A w n (d + 1) = sPl A (d : Nat) (sDayW T A w n d) n := fun d => rfl
  have th1 : ∀ u : Nat → Int, u 38 < 9999 → sThru T A u 1 = (sPass T A u).1 := fun u hu => if_pos hu
  have hthg := hA.thg
  -- the class
  have keyX := zT_cnt0 (body := fun s : Int × zM => f_X10_first_L30 (D : Int) s.1 s.2) (fun d N => cityR N 2 A (sU T A w n d) ∧ rowOK A (sU T A w n d) ∧ sU T A w n d 38 = A 128 + ((d - 1 : Nat) : Int) ∧ frX 2 M1 N ∧ ∀ e, e < d → ∀ j, j < n → ¬ failP A (e : Nat) (sDayW T A w n e) j) (D + 1) (Q := fun e => (∃ (r : Int) (N : zM), e = .inl (r, N) ∧ r ≠ -1 ∧ FirstR T A w n D r ∧ frX 2 M1 N) ∨ ∃ N, e = .inr N ∧ FirstR T A w n D (-1) ∧ frX 2 M1 N) ?_ ?_ (m := zF) (by unfold zF; omega) (N0 := M1) ⟨e2, l2, by show w 38 = A 128 + ((0 : Nat) : Int); omega, frX.rfl_, fun e he => by omega⟩
  · obtain ⟨ex, k1, k2⟩ := keyX
    obtain ⟨r, Mx, hX, hF, hfr⟩ : ∃ (r : Int) (Mx : zM), f_X10_first M = some (r, Mx) ∧ FirstR T A w n D r ∧ frX 2 M1 Mx := by
      have start : f_X10_first M = (zlp (fun s : Int × zM => f_X10_first_L30 (D : Int) s.1 s.2) zF (0, M1)).bind fun y7 => match y7 with | .inl q9 => some q9 | .inr t8 => some ((-1), t8) := by
        unfold f_X10_first
        rw [e1]
        simp only [zbs]
        rw [e5, zw_id (z := 9999 - A 128) (by omega) (by omega), ← hD]
        refine congrArg (Option.bind _) (funext fun y7 => ?_)
        cases y7 <;> rfl
      rw [start, k1]
      rcases k2 with ⟨r, N, rfl, a1, a2, a3⟩ | ⟨N, rfl, a2, a3⟩
      · exact ⟨r, N, rfl, a2, a3⟩
      · exact ⟨-1, N, rfl, a2, a3⟩
    have f1 : fr2 M Mx := e3.trans hfr.two
    have hA1 : Mx 43 0 = A := by rw [f1 43 0 (by unfold sc2; omega)]; exact hAA
    have hW1 : Mx 68 0 = W := by rw [f1 68 0 (by unfold sc2; omega)]; exact hWW
    obtain ⟨N0, p1, p2, p3⟩ := R_lay hA1
    rw [hW1, hw] at p3
    have hN0 : N0 43 0 = A := by rw [p2 43 0 (by omega)]; exact hA1
    have hTN : textsOK N0 (A 3) T := (f1.txt hT).frame (fun k i hk => p2 k i (by unfold txK at hk; omega))
    have keyR := zT_for (body := fun s : Int × Int × zM => f_X11_first_L8 s.1 s.2.1 s.2.2) (fun d s => s.1 = (if A 128 + d ≤ 9999 then 1 else 0) ∧ s.2.1 = (d : Int) ∧ s.2.2 68 0 = sDayW T A w n d ∧ rowOK A (sDayW T A w n d) ∧ (A 128 + d ≤ 9999 → sDayW T A w n d 38 = A 128 + d) ∧ frR N0 s.2.2 ∧ ∀ e, e < d → ∀ j, j < n → ¬ failP A (e : Nat) (sDayW T A w n e) j) 61 (Q := fun e => (∃ (r : Int) (N : zM), e = .inl (r, N) ∧ FirstR T A w n D r ∧ frR N0 N) ∨ ∃ N, e = .inr N ∧ FirstR T A w n D (-1) ∧ frR N0 N) ?_ (m := zF) (by unfold zF; omega) (s := (1, 0, N0)) ⟨by show (1 : Int) = if A 128 + ((0 : Nat) : Int) ≤ 9999 then 1 else 0; rw [if_pos (by omega)], rfl, p3, l2, fun _ => by show w 38 = A 128 + ((0 : Nat) : Int); omega, frR.rfl_, fun e he => by omega⟩
    · obtain ⟨ey, y1, y2⟩ := keyR
      have startR : f_X11_first Mx = (zlp (fun s : Int × Int × zM => f_X11_first_L8 s.1 s.2.1 s.2.2) zF (1, 0, N0)).bind fun y16 => match y16 with | .inl q18 => some q18 | .inr t17 => some ((-1), t17) := by
        unfold f_X11_first
        rw [p1]
        simp only [zbs]
        refine congrArg (Option.bind _) (funext fun y16 => ?_)
        cases y16 <;> rfl
      have fin : ∀ (r' : Int) (N : zM), f_X11_first Mx = some (r', N) → FirstR T A w n D r' → frR N0 N → zCall (f_X10_first M) (fun N => f_X11_first N) := fun r' N g1 g2 g3 => by
        have := hF.uniq g2
        subst this
        exact zCall.mk hX g1 ⟨T, hI.try_ f1 ((frV.of68 p2).trans g3.v) (by rw [g3 43 0 (by omega) (by omega) (by omega), hN0, hAA])⟩
      rcases y2 with ⟨r', N, rfl, a2, a3⟩ | ⟨N, rfl, a2, a3⟩
      · exact fin r' N (by rw [startR, y1]; rfl) a2 a3
      · exact fin (-1) N (by rw [startR, y1]; rfl) a2 a3
    · rintro d ⟨g, x, N⟩ hd ⟨q1, q2, q3, q4, q5, q6, q7⟩
      dsimp only at q1 q2 q3 q4 q5 q6 q7 ⊢
      subst q1 q2
      unfold f_X11_first_L8
      rw [zw_nat (by omega)]
      by_cases h61 : d = 61
      · subst h61
        rw [if_pos (by omega)]
        exact zT_some (Or.inr ⟨_, rfl, Or.inr ⟨N, rfl, Or.inl ⟨rfl, fun e he j hj => q7 e (by omega) j hj⟩, q6⟩⟩)
      · rw [if_neg (by omega)]
        by_cases hg : A 128 + d ≤ 9999
        · have hN : N 43 0 = A := by rw [q6 43 0 (by omega) (by omega) (by omega)]; exact hN0
          have hdD : d ≤ D := by omega
          rw [if_pos hg, if_neg (by rw [zw01.2.1]; omega)]
          obtain ⟨ez, z1, z2⟩ := R_planned hN q3 hA q4 hn (d := (d : Int)) (by omega)
          rw [z1]
          rcases z2 with ⟨i, N2, b1, rfl, b2, b3, b4⟩ | ⟨N2, rfl, b2, b3, b4, b5⟩
          · simp only [zbs]
            exact zT_some (Or.inr ⟨_, rfl, Or.inl ⟨i, N2, rfl, Or.inr ⟨d, i, hdD, b1, rfl, b2, b3, fun e he j hj => q7 e he j hj⟩, q6.trans b4⟩⟩)
          · have h38 : sPl A (d : Int) (sDayW T A w n d) n 38 = A 128 + d := by rw [sPl_38 hA n (by omega)]; exact q5 hg
            have hN2 : N2 43 0 = A := by rw [b5 43 0 (by omega) (by omega) (by omega)]; exact hN
            obtain ⟨N3, c1, c2, c3⟩ := R_thru (T := T) (n := 1) hN2 b3 hA b4 (by omega) ((q6.trans b5).txt hTN) (by omega)
            have c1 : f_X11_passesThrough 1 N2 = some N3 := c1
            obtain ⟨o1, o2, o3⟩ := sThru_ok (T := T) hA b4 (by omega) 1
            simp only [zbs]
            have hfin : ∀ g : Int, g = (if A 128 + ((d + 1 : Nat) : Int) ≤ 9999 then 1 else 0) → zT ((f_X11_passesThrough 1 N2).bind fun p12 => some (Sum.inl (g, (d : Int) + 1, p12)) : Option ((Int × Int × zM) ⊕ ((Int × zM) ⊕ zM))) (fun r => (∃ s', r = .inl s' ∧ d < 61 ∧ s'.1 = (if A 128 + ((d + 1 : Nat) : Int) ≤ 9999 then 1 else 0) ∧ s'.2.1 = ((d + 1 : Nat) : Int) ∧ s'.2.2 68 0 = sDayW T A w n (d + 1) ∧ rowOK A (sDayW T A w n (d + 1)) ∧ (A 128 + ((d + 1 : Nat) : Int) ≤ 9999 → sDayW T A w n (d + 1) 38 = A 128 + ((d + 1 : Nat) : Int)) ∧ frR N0 s'.2.2 ∧ ∀ e, e < d + 1 → ∀ j, j < n → ¬ failP A (e : Nat) (sDayW T A w n e) j) ∨ ∃ e, r = .inr e ∧ ((∃ (r : Int) (N : zM), e = .inl (r, N) ∧ FirstR T A w n D r ∧ frR N0 N) ∨ ∃ N, e = .inr N ∧ FirstR T A w n D (-1) ∧ frR N0 N)) := fun g hg2 => by
              rw [c1]
              simp only [zbs]
              refine zT_some (Or.inl ⟨_, rfl, by omega, hg2, by dsimp only; omega, c2, o1, fun hle => ?_, q6.trans (b5.trans c3), fun e he j hj => ?_⟩)
              · rw [sd1, su1, o3, h38]
                split <;> omega
              · by_cases hed : e = d
                · subst hed; exact b2 j hj
                · exact q7 e (by omega) j hj
            by_cases hp : sPl A (d : Int) (sDayW T A w n d) n 38 < 9999
            · rw [(R_canPass b3 b4).1 hp]
              simp only [zbs]
              exact hfin 1 (by rw [if_pos (by omega)])
            · rw [(R_canPass b3 b4).2 hp]
              simp only [zbs]
              exact hfin 0 (by rw [if_neg (by omega)])
        · rw [if_neg hg, if_pos zw_0]
          exact zT_some (Or.inr ⟨_, rfl, Or.inr ⟨N, rfl, Or.inl ⟨rfl, fun e he j hj => q7 e (by omega) j hj⟩, q6⟩⟩)
  · rintro d N hd ⟨g1, g2, g3, g4, g5⟩
    dsimp only
    have hdD : d ≤ D := by omega
    have tlN : toldR N 0 A := tl1.head hA (fun k a b => g4.1 k 0 (by omega) (by omega) (by omega) (by omega) (by omega) (by omega)) (fun q _ => rfl)
    -- behind the day's passing
    have go : ∀ N2 : zM, cityR N2 2 A (sDayW T A w n d) → rowOK A (sDayW T A w n d) → sDayW T A w n d 38 = A 128 + d → frX 2 M1 N2 → zT (f_X10_first_j47 (D : Int) (d : Int) N2) (fun r => (∃ N', r = .inl ((d : Int) + 1, N') ∧ cityR N' 2 A (sU T A w n (d + 1)) ∧ rowOK A (sU T A w n (d + 1)) ∧ sU T A w n (d + 1) 38 = A 128 + ((d + 1 - 1 : Nat) : Int) ∧ frX 2 M1 N' ∧ ∀ e, e < d + 1 → ∀ j, j < n → ¬ failP A (e : Nat) (sDayW T A w n e) j) ∨ ∃ e, r = .inr e ∧ ((∃ (r : Int) (N : zM), e = .inl (r, N) ∧ r ≠ -1 ∧ FirstR T A w n D r ∧ frX 2 M1 N) ∨ ∃ N, e = .inr N ∧ FirstR T A w n D (-1) ∧ frX 2 M1 N)) := fun N2 c1 c2 c3 c4 => by
      have tl2 : toldR N2 0 A := tl1.head hA (fun k a b => c4.1 k 0 (by omega) (by omega) (by omega) (by omega) (by omega) (by omega)) (fun q _ => rfl)
      unfold f_X10_first_j47
      rcases X_planned c1 hA c2 tl2 hn (d := (d : Int)) (by omega) with ⟨i, N3, b1, b2, b3, b4, b5⟩ | ⟨N3, b1, b2, b3, b4, b5⟩
      · rw [b2]
        simp only [zbs]
        rw [zw_nat (by omega), if_neg (by omega)]
        exact zT_some (Or.inr ⟨_, rfl, Or.inl ⟨i, N3, rfl, by omega, Or.inr ⟨d, i, hdD, b1, rfl, b3, b4, fun e he j hj => g5 e he j hj⟩, c4.trans b5⟩⟩)
      · rw [b1]
        simp only [zbs]
        rw [if_pos zw01.2.2]
        refine zT_some (Or.inl ⟨_, rfl, b3, b4, ?_, c4.trans b5, fun e he j hj => ?_⟩)
        · rw [su1, sPl_38 hA n (by omega), c3]
          omega
        · by_cases hed : e = d
          · subst hed; exact b2 j hj
          · exact g5 e (by omega) j hj
    unfold f_X10_first_L30
    rw [zw_nat (n := D) (by omega), zw_nat (n := d) (by omega), if_neg (by omega)]
    by_cases hd0 : d = 0
    · subst hd0
      rw [if_pos (by omega)]
      exact go N g1 g2 (by rw [show sDayW T A w n 0 38 = sU T A w n 0 38 from rfl, g3]) g4
    · obtain ⟨e, rfl⟩ : ∃ e, d = e + 1 := ⟨d - 1, by omega⟩
      have hlt : sU T A w n (e + 1) 38 < 9999 := by rw [g3]; omega
      obtain ⟨N2, r1, r2, r3⟩ := X_passOne (T := T) g1 hA g2 (g4.txt hTM1) (by omega)
      have hse : sDayW T A w n (e + 1) = (sPass T A (sU T A w n (e + 1))).1 := by rw [sd1, th1 _ hlt]
      rw [if_neg (by omega), r1]
      simp only [zbs]
      refine go N2 (by rw [hse]; exact r2) (by rw [hse]; exact g2.passN hA (by omega) (by omega)) ?_ (g4.trans r3)
      rw [hse, show (sPass T A (sU T A w n (e + 1))).1 38 = _ from sPassN_38 hA g2 (by omega) (by omega), g3]
      omega
  · rintro N ⟨g1, g2, g3, g4, g5⟩
    dsimp only
    unfold f_X10_first_L30
    rw [zw_nat (n := D) (by omega), zw_nat (by omega), if_pos (by omega)]
    exact zT_some ⟨_, rfl, Or.inr ⟨N, rfl, Or.inl ⟨rfl, fun e he j hj => g5 e (by omega) j hj⟩, g4⟩⟩
