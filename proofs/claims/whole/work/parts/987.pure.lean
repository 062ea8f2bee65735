/-! fewest: a look, and the call -/
set_option maxRecDepth 8000 in
set_option maxHeartbeats 2000000 in
theorem X_lookS {T : Nat → Nat → Option zLw} {A : Nat → Int} {th n d : Nat} {ow : Int} (hA : headOK A) (hn : n ≤ 3) (ih : lookOK T A th ow n d) : lookOK T A th ow n (d + 1) := by
  intro k f w pre c s M hk hf hc hw hd hT hs hcc hpre h5 h6 h7
  have h0 := hA.thg
  obtain ⟨nT, hnT⟩ := Int.eq_ofNat_of_zero_le h0.1
  have eT : (A 1).toNat = nT := by omega
  obtain ⟨f, rfl⟩ : ∃ g, f = g + 1 := ⟨f - 1, by omega⟩
  have e4 := hs.2.1
  have hs1 := hs.1
  by_cases hlt : c < s.1
  case neg =>
    refine ⟨M, ?_, hc, ?_, frL.rfl_⟩
    · show f_X3_look (zfixS f) k c M = some M
      unfold f_X3_look
      rw [e4, zw_id (z := c) (by omega) (by omega), zw_id (z := s.1) (by omega) (by omega), if_neg hlt]
    · rw [rT_prune _ _ _ _ _ _ (by omega)]; exact hs
  obtain ⟨N0, a1, a2, a3, a4, a5⟩ := X_saved (r := k + 60) hc hA hw
  have c0 : cityR N0 2 A w := hc.frame' (fun kk i _ _ => a2 kk i (by omega))
  have T0 : textsOK N0 (A 3) T := hT.frame (fun kk i h => a2 kk i (by unfold txK at h; omega))
  have s0 : srX A n s N0 := hs.of (by rw [a2 31 0 (by omega)]) (a2 34 0 (by omega))
  have l0 : frL k M N0 := ⟨fun kk i h => a2 kk i (by unfold sc2 at h; omega), fun r hr => a2 22 _ (by omega), fun r hr => by rw [a2 33 0 (by omega)], by rw [a2 31 0 (by omega)]; exact ⟨rfl, rfl, rfl⟩, fun t _ => by rw [a2 16 _ (by omega)]⟩
  generalize hg : (fun (a : Nat) (s : zBS) => rT T A th ow d (k + 1) (sGo T A w a) (fup pre k a) (if a = 0 then c else c + 1) s) = g
  have hfN : ∀ a, fN g (a + 1) s = rT T A th ow d (k + 1) (sGo T A w a) (fup pre k a) (if a = 0 then c else c + 1) (fN g a s) := fun a => by rw [← hg]; rfl
  have hcant : ∀ a : Nat, 0 < a → (a : Int) ≤ 2 * A 1 → sAct T A w a = w → fN g (a + 1) s = fN g a s := fun a h1 h2 h3 => by
    rw [hfN a, if_neg (by omega), ← hg]
    exact rT_cant h1 (by omega) h3
  have hend : rT T A th ow (d + 1) k w pre c s = fN g (2 * nT + 1) s := by
    unfold rT
    rw [hg, eT, show 1 + 2 * nT = 2 * nT + 1 by omega]
  -- one act
  have act : ∀ (a : Nat) (N : zM), (a : Int) ≤ 2 * A 1 → cityR N 2 A (sAct T A w a) → textsOK N (A 3) T → srX A n (fN g a s) N → savedR N (k + 60) 2 A w → frL k M N → ∃ N', zfixS f 8 k (if a = 0 then c else c + 1) (cd A a) N = some N' ∧ cityR N' 2 A w ∧ textsOK N' (A 3) T ∧ srX A n (fN g (a + 1) s) N' ∧ savedR N' (k + 60) 2 A w ∧ frL k M N' := by
    intro a N ha cN tN sN vN lN
    obtain ⟨N', b1, b2, b3, b4, b5⟩ := X_goOn (pre := pre) (c := if a = 0 then c else c + 1) (f := f) hA hn ih hk (by omega) cN hw hd tN sN (by split <;> omega) (fun r hr => by rw [lN.2.2.1 r hr]; exact hpre r hr) (by rw [lN.2.2.2.1.1]; exact h5) (by rw [lN.2.2.2.1.2.1]; exact h6) (by rw [lN.2.2.2.1.2.2]; exact h7) vN ha
    exact ⟨N', b1, b2, b4.1.txt tN, by rw [hfN a]; exact b3, b5, lN.trans b4⟩
  obtain ⟨N1, g1, g2, g3, g4, g5, g6⟩ := act 0 N0 (by omega) (by rw [sAct_0]; exact c0) T0 s0 a3 l0
  rw [if_pos rfl, show cd A 0 = 0 by unfold cd; rw [if_pos (by omega)]; rfl] at g1
  -- all that can be stolen
  have k1 := zT_cnt0 (body := fun q : Int × zM => f_X3_look_L86 (zfixS f) k c q.1 q.2) (fun i N => cityR N 2 A w ∧ textsOK N (A 3) T ∧ srX A n (fN g (i + 1) s) N ∧ savedR N (k + 60) 2 A w ∧ frL k M N) nT (Q := fun N => cityR N 2 A w ∧ textsOK N (A 3) T ∧ srX A n (fN g (nT + 1) s) N ∧ savedR N (k + 60) 2 A w ∧ frL k M N) ?_ ?_ (m := zF) (by unfold zF; omega) (N0 := N1) ⟨g2, g3, g4, g5, g6⟩
  rotate_left
  · rintro i N hi ⟨q1, q2, q3, q4, q5⟩
    dsimp only
    unfold f_X3_look_L86 f_X3_look_j127
    rw [q1.thg, hnT, zw_nat (by omega), zw_nat (by omega), if_neg (by omega)]
    have hct := X_canTake q1 hA hw (t := i) (by omega)
    unfold sMay at hct
    by_cases hm : w (14 + i) ≠ -1 ∧ sKB A w + A (24 + i) ≤ A 2
    · rw [hct.1 hm]
      simp only [zbs]
      rw [if_neg (by rw [zw01.2.1]; omega)]
      obtain ⟨N2, r1, r2, r3⟩ := X_take q1 hA (t := i) (by omega)
      have e : sAct T A w (i + 1) = sSteal w i := by
        unfold sAct
        rw [if_neg (by omega), if_pos (by omega), Nat.add_sub_cancel, if_pos hm]
      obtain ⟨N3, t1, t2, t3, t4, t5, t6⟩ := act (i + 1) N2 (by omega) (by rw [e]; exact r2) (r3.txt q2) (q3.frX r3) (q4.frame h0.2 (r3.1 22 _ (by omega) (by omega) (by omega) (by omega) (by omega) (by omega)) r3.2) (q5.trans (frL.of r3))
      rw [if_neg (by omega), show cd A (i + 1) = 1 + (i : Int) by unfold cd; rw [if_pos (by omega)]; omega] at t1
      rw [r1]
      simp only [zbs]
      rw [t1]
      simp only [zbs]
      exact zT_some (Or.inl ⟨_, rfl, t2, t3, t4, t5, t6⟩)
    · rw [hct.2 hm]
      simp only [zbs]
      rw [if_pos zw_0]
      have e : sAct T A w (i + 1) = w := by
        unfold sAct
        rw [if_neg (by omega), if_pos (by omega), Nat.add_sub_cancel, if_neg hm]
      exact zT_some (Or.inl ⟨_, rfl, q1, q2, by rw [hcant (i + 1) (by omega) (by omega) e]; exact q3, q4, q5⟩)
  · rintro N q
    dsimp only
    unfold f_X3_look_L86
    rw [q.1.thg, hnT, if_pos (Int.le_refl _)]
    exact zT_some ⟨N, rfl, q⟩
  obtain ⟨N2, y1, y2⟩ := k1
  -- all that can be sent
  have k2 := zT_cnt0 (body := fun q : Int × zM => f_X3_look_L135 (zfixS f) k c q.1 q.2) (fun i N => cityR N 2 A w ∧ textsOK N (A 3) T ∧ srX A n (fN g (nT + i + 1) s) N ∧ savedR N (k + 60) 2 A w ∧ frL k M N) nT (Q := fun N => cityR N 2 A w ∧ textsOK N (A 3) T ∧ srX A n (fN g (2 * nT + 1) s) N ∧ savedR N (k + 60) 2 A w ∧ frL k M N) ?_ ?_ (m := zF) (by unfold zF; omega) (N0 := N2) y2
  rotate_left
  · rintro i N hi ⟨q1, q2, q3, q4, q5⟩
    dsimp only
    unfold f_X3_look_L135 f_X3_look_j178
    rw [q1.thg, hnT, zw_nat (by omega), zw_nat (by omega), if_neg (by omega)]
    have e0 : sAct T A w (nT + i + 1) = if w (14 + i) = -1 then sBack T A w i else w := by
      unfold sAct
      rw [if_neg (by omega), if_neg (by omega), eT, show nT + i + 1 - 1 - nT = i by omega]
    by_cases hm : w (14 + i) = -1
    · rw [X_kept q1 hA hw (by omega) hm]
      simp only [zbs]
      rw [if_neg (by rw [zw01.2.1]; omega)]
      obtain ⟨N2, r1, r2, r3⟩ := X_comeBack q1 hA hw q2 (t := i) (by omega) hm
      rw [if_pos hm] at e0
      obtain ⟨N3, t1, t2, t3, t4, t5, t6⟩ := act (nT + i + 1) N2 (by omega) (by rw [e0]; exact r2) (r3.txt q2) (q3.frX r3) (q4.frame h0.2 (r3.1 22 _ (by omega) (by omega) (by omega) (by omega) (by omega) (by omega)) r3.2) (q5.trans (frL.of r3))
      rw [if_neg (by omega), show cd A (nT + i + 1) = 10 + (i : Int) by unfold cd; rw [if_neg (by omega)]; omega] at t1
      rw [r1]
      simp only [zbs]
      rw [t1]
      simp only [zbs]
      exact zT_some (Or.inl ⟨_, rfl, t2, t3, t4, t5, t6⟩)
    · rw [X_keptno q1 hA hw (by omega) hm]
      simp only [zbs]
      rw [if_pos zw_0]
      rw [if_neg hm] at e0
      exact zT_some (Or.inl ⟨_, rfl, q1, q2, by rw [show nT + (i + 1) + 1 = nT + i + 1 + 1 by omega, hcant (nT + i + 1) (by omega) (by omega) e0]; exact q3, q4, q5⟩)
  · rintro N q
    dsimp only
    unfold f_X3_look_L135
    rw [q.1.thg, hnT, if_pos (Int.le_refl _)]
    rw [show nT + nT + 1 = 2 * nT + 1 by omega] at q
    exact zT_some ⟨N, rfl, q⟩
  obtain ⟨N3, z1, z2, z3, z4, z5, z6⟩ := k2
  refine ⟨N3, ?_, z2, by rw [hend]; exact z4, z6⟩
  show f_X3_look (zfixS f) k c M = some N3
  unfold f_X3_look
  rw [e4, h7, zw_id (z := c) (by omega) (by omega), zw_id (z := s.1) (by omega) (by omega), zw_nat (n := n) (by omega), zw_nat (n := k) (by omega), if_pos hlt, if_neg (by omega), if_pos (by omega), if_pos (by omega), zix_nat (by omega), a1]
  simp only [zbs]
  rw [g1]
  simp only [zbs]
  rw [y1]
  simp only [zbs]
  rw [z1]
  exact zbs _ _
set_option maxRecDepth 8000 in
set_option maxHeartbeats 2000000 in
theorem X_lookAll {T : Nat → Nat → Option zLw} {A : Nat → Int} {th n : Nat} {ow : Int} (hA : headOK A) (hth : (th : Int) < A 1) (how : 0 ≤ ow ∧ ow < 6) (hn : n ≤ 3) : ∀ d, lookOK T A th ow n d := by
  intro d
  induction d with
  | zero => exact X_look0 hA hth how hn
  | succ d ih => exact X_lookS hA hn ih
/-- what both answer -/
def ansF (A : Nat → Int) (n : Nat) (i : Int) (s : zBS) : Int := if (n : Int) < s.1 then -1 else if i = -1 then s.1 else cd A (s.2 i.toNat)
set_option maxRecDepth 8000 in
set_option maxHeartbeats 2000000 in
theorem call_fewest {M : zM} {v o n i : Int} (h : zI M) (hv : -2147483648 ≤ v ∧ v ≤ 2147483647) (ho : -2147483648 ≤ o ∧ o ≤ 2147483647) (hn : -2147483648 ≤ n ∧ n ≤ 2147483647) (hi : -2147483648 ≤ i ∧ i ≤ 2147483647) : zCall (f_X10_fewest v o n i M) (fun N => f_X11_fewest v o n i N) := by
  have hz := h
  obtain ⟨T, hI⟩ := h
  have w0 := hI.w0
  have hT := hI.txt
  generalize hAA : M 43 0 = A at w0 hT
  have hA := w0.head
  have h0 := hA.thg
  have h1 := hA.own
  generalize hWW : M 68 0 = W
  by_cases hr1 : 0 ≤ v ∧ v < A 1
  case neg =>
    refine zCall.same hz (v := -1) ?_ ?_
    · unfold f_X10_fewest f_X10_fewest_j35 f_X10_fewest_j36
      rw [X_hasThing w0.city hA hv, if_neg hr1]
      simp only [zbs]
      rw [if_pos zw_0, if_pos zw_0]
    · unfold f_X11_fewest
      rw [R_isThing hAA hA hv, if_neg hr1]
      simp only [zbs]
      rw [if_pos zw_0]
  by_cases hr2 : 0 ≤ o ∧ o < A 0
  case neg =>
    refine zCall.same hz (v := -1) ?_ ?_
    · unfold f_X10_fewest f_X10_fewest_j35 f_X10_fewest_j36
      rw [X_hasThing w0.city hA hv, if_pos hr1]
      simp only [zbs]
      rw [if_neg (by rw [zw01.2.1]; omega), X_hasOwner w0.city hA ho, if_neg hr2]
      simp only [zbs]
      rw [if_pos zw_0, if_pos zw_0]
    · unfold f_X11_fewest
      rw [R_isThing hAA hA hv, if_pos hr1]
      simp only [zbs]
      rw [if_neg (by rw [zw01.2.1]; omega), R_isOwner hAA hA ho, if_neg hr2]
      simp only [zbs]
      rw [if_pos zw_0]
  by_cases hr3 : 1 ≤ n ∧ n ≤ 3
  case neg =>
    refine zCall.same hz (v := -1) ?_ ?_
    · unfold f_X10_fewest f_X10_fewest_j35 f_X10_fewest_j36
      rw [X_hasThing w0.city hA hv, if_pos hr1]
      simp only [zbs]
      rw [if_neg (by rw [zw01.2.1]; omega), X_hasOwner w0.city hA ho, if_pos hr2]
      simp only [zbs]
      rw [if_neg (by rw [zw01.2.1]; omega), wth_no (by omega) hn (by omega) (by omega)]
      simp only [zbs]
      rw [if_pos zw_0, if_pos zw_0]
    · unfold f_X11_fewest
      rw [R_isThing hAA hA hv, if_pos hr1]
      simp only [zbs]
      rw [if_neg (by rw [zw01.2.1]; omega), R_isOwner hAA hA ho, if_pos hr2]
      simp only [zbs]
      rw [if_neg (by rw [zw01.2.1]; omega), in_no (by omega) hn (by omega) (by omega)]
      simp only [zbs]
      rw [if_pos zw_0]
  have preX : f_X10_fewest v o n i M = f_X10_fewest_j36 v o n i 1 M := by
    unfold f_X10_fewest
    rw [X_hasThing w0.city hA hv, if_pos hr1]
    simp only [zbs]
    rw [if_neg (by rw [zw01.2.1]; omega), X_hasOwner w0.city hA ho, if_pos hr2]
    simp only [zbs]
    rw [if_neg (by rw [zw01.2.1]; omega), wth_yes hr3.1 hr3.2 hn (by omega) (by omega)]
    simp only [zbs]
    rw [if_neg (by rw [zw01.2.1]; omega)]
  by_cases hr4 : -1 ≤ i ∧ i < n
  case neg =>
    refine zCall.same hz (v := -1) ?_ ?_
    · rw [preX]
      unfold f_X10_fewest_j36
      rw [if_neg (by rw [zw01.2.1]; omega), zw_id (z := i) (by omega) (by omega), zw_id (z := n) (by omega) (by omega)]
      by_cases hc : i < -1
      · rw [if_pos hc]
      · rw [if_neg hc, if_neg (by omega)]
    · unfold f_X11_fewest
      rw [R_isThing hAA hA hv, if_pos hr1]
      simp only [zbs]
      rw [if_neg (by rw [zw01.2.1]; omega), R_isOwner hAA hA ho, if_pos hr2]
      simp only [zbs]
      rw [if_neg (by rw [zw01.2.1]; omega), in_yes hr3.1 hr3.2 hn (by omega) (by omega)]
      simp only [zbs]
      rw [if_neg (by rw [zw01.2.1]; omega), in_no (by omega) hi (by omega) (by omega)]
      simp only [zbs]
      rw [if_neg (nn_ zw_0)]
  obtain ⟨th, rfl⟩ := Int.eq_ofNat_of_zero_le hr1.1
  obtain ⟨n, rfl⟩ := Int.eq_ofNat_of_zero_le (show 0 ≤ n by omega)
  obtain ⟨l1, l2, l3⟩ := w0.lay (W := W)
  have ho6 : 0 ≤ o ∧ o < 6 := by omega
  generalize hs : rT T A th o n 0 (sLay A W) (fun _ => 0) 0 ((n : Int) + 1, fun _ => 0) = s
  -- the class
  obtain ⟨M1, a1, a2, a3, a4⟩ := X_trial (W := W) w0
  generalize hM2 : zput (zput (zput (zput M1 31 0 5 (th : Int)) 31 0 6 o) 31 0 7 (n : Int)) 31 0 4 ((n : Int) + 1) = M2
  have f2 : ∀ k i, k ≠ 31 → M2 k i = M1 k i := fun k i hk => by rw [← hM2, zput_rowk (by omega), zput_rowk (by omega), zput_rowk (by omega), zput_rowk (by omega)]
  obtain ⟨M3, b1, b2, b3, b4⟩ := X_lookAll (T := T) (n := n) hA hr1.2 ho6 (by omega) n 0 zR (sLay A W) (fun _ => 0) 0 ((n : Int) + 1, fun _ => 0) M2 (by omega) (by unfold zR; omega) (a2.frame' (fun k i _ _ => f2 k i (by omega))) l2 l3 ((a3.txt hT).frame (fun k i h => f2 k i (by unfold txK at h; omega))) ⟨⟨by dsimp only; omega, by dsimp only; omega⟩, by rw [← hM2, zput_eq], fun h => by dsimp only at h; omega⟩ ⟨by omega, by omega⟩ (fun r hr => by omega) (by rw [← hM2, zput_j (by omega), zput_j (by omega), zput_j (by omega), zput_eq]) (by rw [← hM2, zput_j (by omega), zput_j (by omega), zput_eq]) (by rw [← hM2, zput_j (by omega), zput_eq])
  rw [hs] at b3
  have f12 : fr2 M M3 := a3.trans ((show fr2 M1 M2 from fun k i a => f2 k i (by unfold sc2 at a; omega)).trans b4.1)
  obtain ⟨t1, t2, t3⟩ := b3
  have hX : f_X10_fewest th o n i M = some (ansF A n i s, M3) := by
    rw [preX]
    unfold f_X10_fewest_j36 f_X3_start
    rw [if_neg (by rw [zw01.2.1]; omega), zw_id (z := i) (by omega) (by omega), zw_nat (n := n) (by omega), if_neg (by omega), if_pos (by omega), a1]
    simp only [zbs]
    rw [zlt_, zlt_, zlt_, zlt_, hM2]
    have b1' : zfixS zR 7 0 0 0 M2 = some M3 := b1
    rw [b1']
    simp only [zbs]
    rw [t2, zw_id (z := s.1) (by omega) (by omega)]
    unfold ansF
    by_cases hc : s.1 ≤ n
    · rw [if_pos hc, if_neg (show ¬ (n : Int) < s.1 by omega)]
      by_cases hi1 : i = -1
      · rw [if_neg (nn_ hi1), if_pos hi1]
      · obtain ⟨i, rfl⟩ := Int.eq_ofNat_of_zero_le (show 0 ≤ i by omega)
        rw [if_pos hi1, if_pos (by omega), if_neg hi1, zix_nat (by omega), t3 hc i (by omega), Int.toNat_natCast]
    · rw [if_neg hc, if_pos (by omega)]
  -- the reference
  have m43 : M3 43 0 = A := by rw [f12 43 0 (by unfold sc2; omega)]; exact hAA
  have m68 : M3 68 0 = W := by rw [f12 68 0 (by unfold sc2; omega)]; exact hWW
  have hT3 := f12.txt hT
  generalize hWy : 1 + 2 * (A 1).toNat = Wy
  have hWi : (1 + 2 * A 1 : Int) = Wy := by omega
  have hW17 : Wy ≤ 17 := by omega
  have hm2 : Wy * Wy ≤ 17 * 17 := Nat.mul_le_mul hW17 hW17
  have hm3 : Wy * (Wy * Wy) ≤ 17 * (17 * 17) := Nat.mul_le_mul hW17 hm2
  have zF4 : zF = 999996 + 1 + 1 + 1 + 1 := rfl
  have st : ∀ (x y : Int), y < n ∧ 0 ≤ y → (fun s : Int × Int => f_X11_fewest_L45 th o n i s.1 s.2 M3) (x, y) = some (.inl (x * (Wy : Int), y + 1)) := fun x y hy => by
    dsimp only
    unfold f_X11_fewest_L45
    rw [zw_nat (n := n) (by omega), zw_id (z := y) (by omega) (by omega), if_neg (by omega), m43, hWi]
  have en : ∀ (x y : Int), y = n → (fun s : Int × Int => f_X11_fewest_L45 th o n i s.1 s.2 M3) (x, y) = some (.inr x) := fun x y hy => by
    dsimp only
    unfold f_X11_fewest_L45
    rw [hy, if_pos (Int.le_refl _)]
  have hP : ∃ P : Nat, zlp (fun s : Int × Int => f_X11_fewest_L45 th o n i s.1 s.2 M3) zF (1, 0) = some (P : Int) ∧ P < 5000 ∧ ((n = 1 ∧ P = Wy) ∨ (n = 2 ∧ P = Wy * Wy) ∨ (n = 3 ∧ P = Wy * (Wy * Wy))) := by
    have hn3 : n = 1 ∨ n = 2 ∨ n = 3 := by omega
    rw [zF4]
    rcases hn3 with rfl | rfl | rfl
    · refine ⟨Wy, ?_, by omega, Or.inl ⟨rfl, rfl⟩⟩
      rw [zlq_inl (st _ _ (by omega)), zlq_inr (en _ _ (by omega)), Int.one_mul]
    · refine ⟨Wy * Wy, ?_, by omega, Or.inr (Or.inl ⟨rfl, rfl⟩)⟩
      rw [zlq_inl (st _ _ (by omega)), zlq_inl (st _ _ (by omega)), zlq_inr (en _ _ (by omega)), Int.one_mul, Int.natCast_mul]
    · refine ⟨Wy * (Wy * Wy), ?_, by omega, Or.inr (Or.inr ⟨rfl, rfl⟩)⟩
      rw [zlq_inl (st _ _ (by omega)), zlq_inl (st _ _ (by omega)), zlq_inl (st _ _ (by omega)), zlq_inr (en _ _ (by omega)), Int.one_mul, Int.natCast_mul, Int.natCast_mul, Int.mul_assoc]
  obtain ⟨P, p1, p2, p3⟩ := hP
  obtain ⟨y, M4, d1, d2, d3, d4⟩ := R_numbers (T := T) (M := M3) (n := n) (P := P) (i := i) m43 hA l2 l3 m68 hT3 (by omega) hr1.2 ho6 (by omega) p2
  rw [rT_nums hWy.symm p3, hs] at d2
  have hR : f_X11_fewest th o n i M3 = some (ansF A n i s, M4) := by
    unfold f_X11_fewest
    rw [R_isThing m43 hA hv, if_pos hr1]
    simp only [zbs]
    rw [if_neg (by rw [zw01.2.1]; omega), R_isOwner m43 hA ho, if_pos hr2]
    simp only [zbs]
    rw [if_neg (by rw [zw01.2.1]; omega), in_yes hr3.1 hr3.2 hn (by omega) (by omega)]
    simp only [zbs]
    rw [if_neg (by rw [zw01.2.1]; omega), in_yes hr4.1 (by omega) hi (by omega) (by omega)]
    simp only [zbs]
    rw [if_pos (by rw [zw01.2.1]; omega), p1]
    simp only [zbs]
    rw [d1]
    simp only [zbs]
    unfold ansF
    rcases d2 with ⟨q1, q2⟩ | ⟨q1, q2, q3⟩
    · rw [q2, if_pos zw01.2.2, if_pos (by omega)]
    · rw [q2, zw_id (z := s.1) (by omega) (by omega), if_neg (by omega), zw_id (z := i) (by omega) (by omega), if_neg (show ¬ (n : Int) < s.1 by omega)]
      by_cases hi1 : i = -1
      · rw [if_neg (nn_ hi1), if_pos hi1]
      · obtain ⟨i, rfl⟩ := Int.eq_ofNat_of_zero_le (show 0 ≤ i by omega)
        obtain ⟨q4, q5⟩ := q3 i (by omega)
        rw [if_pos hi1, if_pos (by omega), if_neg hi1, zix_nat (by omega), q4, d3, zw_id (z := A 1) (by omega) (by omega), zw_nat (by omega), Int.toNat_natCast]
        unfold cd
        by_cases hc : A 1 < (s.2 i : Int)
        · rw [if_pos hc, if_neg (by omega)]
        · rw [if_neg hc, if_pos (by omega)]
  exact zCall.mk hX hR ⟨T, hI.try_ f12 d4 (by rw [d3, hAA])⟩
